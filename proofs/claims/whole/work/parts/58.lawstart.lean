theorem inlX0 : ∀ w ∈ wsX00, w ∈ wsL_law := fun _ h => List.mem_append_left _ (List.mem_append_left _ (List.mem_append_right _ h))
theorem inlX1 : ∀ w ∈ wsX10, w ∈ wsL_law := fun _ h => List.mem_append_left _ (List.mem_append_right _ h)
theorem inlX3 : ∀ w ∈ wsX30, w ∈ wsL_law := fun _ h => List.mem_append_left _ (List.mem_append_left _ (List.mem_append_left _ (List.mem_append_left _ (List.mem_append_right _ h))))
theorem inlX4 : ∀ w ∈ wsX40, w ∈ wsL_law := fun _ h => List.mem_append_left _ (List.mem_append_left _ (List.mem_append_left _ (List.mem_append_right _ h)))
/-- what the tables say at the law's entry -/
theorem bl_K {s : State} {b : Nat} (hts : ∀ w ∈ lw_tbl, w.before #[Value.ref b] s = true) : ∃ (D : va_G) (c : bh_C), bh_K D c s := by
  have hw : ∀ w ∈ wsL_law, w.before #[Value.ref b] s = true := fun w h => hts w (wsL_law_in w h)
  obtain ⟨c0, i0, k0⟩ := u_known (C := RX0) (T := TX0) (N := 7) (n := 7) hw inlX0 (hw (.instantiable RX0 7) (by decide +kernel))
  obtain ⟨c1, i1, k1⟩ := u_known (C := RX1) (T := TX1) (N := 14) (n := 14) hw inlX1 (hw (.instantiable RX1 14) (by decide +kernel))
  obtain ⟨c2, i2, k2⟩ := u_known (C := RX3) (T := TX3) (N := 8) (n := 8) hw inlX3 (hw (.instantiable RX3 8) (by decide +kernel))
  obtain ⟨c3, i3, k3⟩ := u_known (C := RX4) (T := TX4) (N := 31) (n := 31) hw inlX4 (hw (.instantiable RX4 31) (by decide +kernel))
  obtain ⟨dC, dI, hKc⟩ : ∃ (dC : Nat → ClassId) (dI : Nat → Nat → Nat), ∀ (k : Nat) (q : vw_C), vwCl[k]? = some q → u_Kn s q.1 q.2.1 q.2.2 (dC k) (dI k) := by
    refine ⟨fun k => if k = 0 then c0 else if k = 1 then c1 else if k = 2 then c2 else c3, fun k => if k = 0 then i0 else if k = 1 then i1 else if k = 2 then i2 else i3, ?_⟩
    intro k q hq
    match k, hq with
    | 0, hq => cases hq; exact k0
    | 1, hq => cases hq; exact k1
    | 2, hq => cases hq; exact k2
    | 3, hq => cases hq; exact k3
    | k + 4, hq => simp [vwCl] at hq
  obtain ⟨ai, ki, mi, f1, f2, f3⟩ := Cond.arrayClass_spec (hw (.arrayClass .int) (by decide +kernel))
  obtain ⟨al, kl, ml, g1, g2, g3⟩ := Cond.arrayClass_spec (hw (.arrayClass .long) (by decide +kernel))
  obtain ⟨az, kz, mz, j1, j2, j3⟩ := Cond.arrayClass_spec (hw (.arrayClass .boolean) (by decide +kernel))
  have hao := hts (.arrayOver (.object "BallotHouse$Ballot")) (by decide +kernel)
  obtain ⟨mq, aq, kq, h1, h2, h3, h4, h5⟩ := Cond.arrayOver_spec hao
  refine ⟨(dC, dI), (ai, al, az, aq), ⟨hKc, fun k q hq => ?_⟩, va_Nw.of rfl (hts (.methodLinkNest RX3 38 yX0_init "BallotHouse") (by decide +kernel)), va_Nw.of rfl (hts (.methodLinkNest RX1 53 yX3_isPlace "BallotHouse") (by decide +kernel)), va_AO.of hao⟩
  match k, hq with
  | 0, hq => cases hq; exact ⟨fun n z => ⟨fun k h => (by cases h), ki, f2, mi, f3⟩, f1⟩
  | 1, hq => cases hq; exact ⟨fun n z => ⟨fun k h => (by cases h), kl, g2, ml, g3⟩, g1⟩
  | 2, hq => cases hq; exact ⟨fun n z => ⟨fun k h => (by cases h), kz, j2, mz, j3⟩, j1⟩
  | 3, hq => cases hq; exact ⟨fun n z => ⟨fun k h => (by cases h), kq, h3, mq, h4⟩, ⟨kq, mq, h3, h4, h1, h5⟩⟩
  | k + 4, hq => simp [bh_ty] at hq
set_option maxHeartbeats 4000000 in
set_option maxRecDepth 100000 in
/-- the law's loop -/
theorem lw_loop {p : Program} (l : Launch) {e : Env} {s : State} {m : MethodId} {below : List Frame} {meth : Method} {c0 : Code} {A : Nat → Prop} {D : va_G} {c : bh_C} {b L : Nat} {xs : Nat → Int32} {hC hM : Nat} {adC adM : Nat → Nat} {nv : Nat} (G : bl_G p s m c0 A b L xs D c) (hr : meth.sig.returnType = ret) (hlocks : meth.locks = false) (hAe : ∀ q, A q → s.heap.size ≤ q) : ∀ (x : Nat × (Nat → Nat → Nat) × Nat × cS × mS) (H : Heap) (locs : List Loc) (ls : Array Slot), (x.1 ≤ 512 ∧ Rl nv x.2.2.1 x.2.2.2.1 x.2.2.2.2 ∧ bh_I D (bh_cw hC adC x.2.1 c nv x.2.2.1 x.2.2.2.1 ++ bh_mw hM adM c x.2.2.2.2) A s.heap H locs ∧ lv_has ls 4 [(0, .ref b), (1, .ref hC), (2, .ref hM), (3, .int (nI (1 + 5 * x.1)))]) → W p l e room_1 s m #[Value.ref b] below meth c0 H locs (37 + 5 * x.1) (11651 + 46 * x.1) (lw_Z below #[Value.ref b] s) (F0 m 28 ls []) := by
  refine bh_loopC (σ := Nat × (Nat → Nat → Nat) × Nat × cS × mS) (fun x => 37 + 5 * x.1) (fun x => 11651 + 46 * x.1) (fun x H locs ls => x.1 ≤ 512 ∧ Rl nv x.2.2.1 x.2.2.2.1 x.2.2.2.2 ∧ bh_I D (bh_cw hC adC x.2.1 c nv x.2.2.1 x.2.2.2.1 ++ bh_mw hM adM c x.2.2.2.2) A s.heap H locs ∧ lv_has ls 4 [(0, .ref b), (1, .ref hC), (2, .ref hM), (3, .int (nI (1 + 5 * x.1)))]) (fun x => 600 - x.1) ?_
  intro x H locs ls hx_1 ih_1
  obtain ⟨k, ba, km, C, S⟩ := x
  dsimp only at hx_1 ⊢
  obtain ⟨hk5, hR, hI, hl⟩ := hx_1
  have G2 := G
  obtain ⟨hx, hb, hml, hown, hts, hX, hbl, hK, hA, hbA, hL⟩ := G2
  refine lv_iload_n hx hb dL_law_28 rfl (lv_at hl 3 rfl) ?_
  refine lv_aload_n hx hb dL_law_29 rfl (lv_at hl 0 rfl) ?_
  refine bl_slen hx hb hX hbl hbA hI.2.2 dL_law_30 ?_
  refine lv_iconst (v := nI 5) hx hb dL_law_31 (by decide) ?_
  refine lv_isub hx hb dL_law_32 ?_
  refine lv_icmp_gt (tgt := 734) hx hb dL_law_33 (by decide) (fun c_1 => ?_) (fun c_1 => ?_)
  · refine lv_iconst (v := 1) hx hb dL_law_734 (by decide) ?_
    refine va_forget (fun q hq => hAe _ (hI.2.2.2.2 q hq)) ?_
    refine W.widen (k := 600000) (n := 7302249) (by omega) (by omega) ?_
    exact lw_ret hx hb hr hlocks dL_law_735
  · have hi : (1 + 5 * k) + 5 ≤ L := by
      have q1 : ¬ (nI L - nI 5).toInt < (nI (1 + 5 * k)).toInt := fun z => c_1 (Int32.lt_iff_toInt_lt.mpr z)
      rw [pk_sub_toInt (by omega) (by omega), nI_toInt (by omega)] at q1
      omega
    have kk : ∀ (ba : Nat → Nat → Nat) (km : Nat) (C : cS) (S : mS) (H : Heap) (locs : List Loc), Rl nv km C S → bh_I D (bh_cw hC adC ba c nv km C ++ bh_mw hM adM c S) A s.heap H locs → W p l e room_1 s m #[Value.ref b] below meth c0 H locs (37 + 5 * k + 5) (11651 + 46 * k + 46) (lw_Z below #[Value.ref b] s) (F0 m 728 ls []) := by
      intro ba km C S H locs hR hI
      refine lv_iinc (v := nI (1 + 5 * (k + 1))) (lv' := [(3, .int (nI (1 + 5 * (k + 1)))), (0, .ref b), (1, .ref hC), (2, .ref hM)]) hx hb dL_law_728 hl (k := 3) rfl ((nI_add (1 + 5 * k) 5).trans (congrArg nI (by omega))) (by decide) rfl (fun ls hl => ?_)
      refine lv_goto (tgt := 28) hx hb dL_law_731 (by decide) ?_
      refine W.widen (k := 37 + 5 * (k + 1)) (n := 11651 + 46 * (k + 1)) (by omega) (by omega) ?_
      exact ih_1 (k + 1, ba, km, C, S) H locs ls ⟨by show k + 1 ≤ 512; omega, hR, hI, lv_sub hl [1, 2, 3, 0] rfl⟩ (by show 600 - (k + 1) < 600 - k; omega)
    refine lv_aload_n hx hb dL_law_36 rfl (lv_at hl 0 rfl) ?_
    refine lv_iload_n hx hb dL_law_37 rfl (lv_at hl 3 rfl) ?_
    refine bl_sld (j := 1 + 5 * k) hx hb hX hbl hbA hI.2.2 (by omega) (by omega) dL_law_38 ?_
    refine lv_bipush (v := nI 31) hx hb dL_law_39 (by decide) ?_
    refine lv_iand hx hb dL_law_41 ?_
    generalize xs (1 + 5 * k) &&& nI 31 = v
    by_cases hv : v.toInt < 0 ∨ 18 < v.toInt
    · refine lv_tableOut (tgt := 728) hx hb dL_law_42 hv (by decide) ?_
      refine W.widen (k := 37 + 5 * k + 5) (n := 11651 + 46 * k + 46) (by omega) (by omega) ?_
      exact kk ba km C S H locs hR hI
    · obtain ⟨n, hn, rfl⟩ : ∃ n, n < 19 ∧ v = nI n := ⟨v.toInt.toNat, by omega, bh_nI_of_toInt (by omega)⟩
      rcases (show n = 0 ∨ n = 1 ∨ n = 2 ∨ n = 3 ∨ n = 4 ∨ n = 5 ∨ n = 6 ∨ n = 7 ∨ n = 8 ∨ n = 9 ∨ n = 10 ∨ n = 11 ∨ n = 12 ∨ n = 13 ∨ n = 14 ∨ n = 15 ∨ n = 16 ∨ n = 17 ∨ n = 18 by omega) with rfl | rfl | rfl | rfl | rfl | rfl | rfl | rfl | rfl | rfl | rfl | rfl | rfl | rfl | rfl | rfl | rfl | rfl | rfl
      · refine lv_tableIn (tgt := 132) hx hb dL_law_42 (by decide) (by decide) rfl (by decide) ?_
        exact lc_ballot l G hi hl hR hI (by omega) (by omega) kk
      · refine lv_tableIn (tgt := 175) hx hb dL_law_42 (by decide) (by decide) rfl (by decide) ?_
        exact lc_propose l G hi hl hR hI (by omega) (by omega) kk
      · refine lv_tableIn (tgt := 248) hx hb dL_law_42 (by decide) (by decide) rfl (by decide) ?_
        exact lc_again l G hi hl hR hI (by omega) (by omega) kk
      · refine lv_tableIn (tgt := 271) hx hb dL_law_42 (by decide) (by decide) rfl (by decide) ?_
        exact lc_deliver l G hi hl hR hI (by omega) (by omega) kk
      · refine lv_tableIn (tgt := 294) hx hb dL_law_42 (by decide) (by decide) rfl (by decide) ?_
        exact lc_settle l G hi hl hR hI (by omega) (by omega) kk
      · refine lv_tableIn (tgt := 317) hx hb dL_law_42 (by decide) (by decide) rfl (by decide) ?_
        exact lc_lose l G hi hl hR hI (by omega) (by omega) kk
      · refine lv_tableIn (tgt := 340) hx hb dL_law_42 (by decide) (by decide) rfl (by decide) ?_
        exact lc_twice l G hi hl hR hI (by omega) (by omega) kk
      · refine lv_tableIn (tgt := 363) hx hb dL_law_42 (by decide) (by decide) rfl (by decide) ?_
        exact lc_silent l G hi hl hR hI (by omega) (by omega) kk
      · refine lv_tableIn (tgt := 412) hx hb dL_law_42 (by decide) (by decide) rfl (by decide) ?_
        exact lc_promise l G hi hl hR hI (by omega) (by omega) kk
      · refine lv_tableIn (tgt := 435) hx hb dL_law_42 (by decide) (by decide) rfl (by decide) ?_
        exact lc_vote l G hi hl hR hI (by omega) (by omega) kk
      · refine lv_tableIn (tgt := 468) hx hb dL_law_42 (by decide) (by decide) rfl (by decide) ?_
        exact lc_value l G hi hl hR hI (by omega) (by omega) kk
      · refine lv_tableIn (tgt := 502) hx hb dL_law_42 (by decide) (by decide) rfl (by decide) ?_
        exact lc_of l G hi hl hR hI (by omega) (by omega) kk
      · refine lv_tableIn (tgt := 535) hx hb dL_law_42 (by decide) (by decide) rfl (by decide) ?_
        exact lc_answered l G hi hl hR hI (by omega) (by omega) kk
      · refine lv_tableIn (tgt := 568) hx hb dL_law_42 (by decide) (by decide) rfl (by decide) ?_
        exact lc_said l G hi hl hR hI (by omega) (by omega) kk
      · refine lv_tableIn (tgt := 602) hx hb dL_law_42 (by decide) (by decide) rfl (by decide) ?_
        exact lc_chosen l G hi hl hR hI (by omega) (by omega) kk
      · refine lv_tableIn (tgt := 625) hx hb dL_law_42 (by decide) (by decide) rfl (by decide) ?_
        exact lc_chosenValue l G hi hl hR hI (by omega) (by omega) kk
      · refine lv_tableIn (tgt := 649) hx hb dL_law_42 (by decide) (by decide) rfl (by decide) ?_
        exact lc_isOne l G hi hl hR hI (by omega) (by omega) kk
      · refine lv_tableIn (tgt := 672) hx hb dL_law_42 (by decide) (by decide) rfl (by decide) ?_
        exact lc_air l G hi hl hR hI (by omega) (by omega) kk
      · refine lv_tableIn (tgt := 705) hx hb dL_law_42 (by decide) (by decide) rfl (by decide) ?_
        exact lc_about l G hi hl hR hI (by omega) (by omega) kk
set_option maxHeartbeats 4000000 in
set_option maxRecDepth 100000 in
/-- from the law's entry -/
theorem whole_start {p : Program} {e : Env} {s : State} {m : MethodId} {below : List Frame} {meth : Method} {c : Code} (l : Launch) {b L : Nat} {xs : Nat → Int32} (hL : L ≤ 2561) (C0 : lw_At p s m meth c b L xs) : W p l e room_1 s m #[Value.ref b] below meth c s.heap [] 0 0 (lw_Z below #[Value.ref b] s) (entryFrame m ([Value.ref b] : List Value).toArray 4) := by
  obtain ⟨hx, hb, hr, hml, hown0, hts0, hX, hbl, hlocks, hgv⟩ := id C0
  obtain ⟨D, c9, hK⟩ := bl_K hts0
  have hts : ∀ w ∈ wsL_law, w.before #[Value.ref b] s = true := fun w h => hts0 w (wsL_law_in w h)
  have hown : s.vm.findClass RL = some m.cls := hown0
  have hb : c.code = cL_law := hb
  obtain ⟨A, hAe, hA⟩ : ∃ A : Nat → Prop, (∀ q, A q → s.heap.size ≤ q) ∧ ∀ q, s.heap.size ≤ q → A q := ⟨fun q => s.heap.size ≤ q, fun _ h => h, fun _ h => h⟩
  have hbA : ¬ A b := fun q => absurd (hAe b q) (Nat.not_le.mpr hbl)
  have hI : bh_I D ([] : va_W) A s.heap s.heap [] := ⟨fun k q h => by simp at h, ⟨fun i j p q h => by simp at h, fun k q h => by simp at h⟩, va_S.rf⟩
  have hl := lv_entry ([.ref b]) (n := 4) (Nat.le_of_ble_eq_true rfl)
  rw [lg_entry_eq]
  generalize (lg_sl ([.ref b]) ++ List.replicate (4 - (lg_sl ([.ref b])).length) Slot.unset).toArray = ls at hl ⊢
  have hl : lv_has ls 4 [(0, .ref b)] := hl
  refine bm_new (ci := 2) (fs := [.int 0, .null, .null, .int 0, .null, .int 0, .int 0, .null]) (C := RX3) (T := TX3) (N := 8) hx hb hts inlX3 tyX3 tyX3_ok hown (hts (.classLink RL 7 RX3) (by decide +kernel)) (hts (.instantiable RX3 8) (by decide +kernel)) (hts (.initialized RX3) (by decide +kernel)) hK hI hA rfl (fun j hj => by rcases (show j = 0 ∨ j = 1 ∨ j = 2 ∨ j = 3 ∨ j = 4 ∨ j = 5 ∨ j = 6 ∨ j = 7 by omega) with rfl | rfl | rfl | rfl | rfl | rfl | rfl | rfl <;> rfl) (by show _ ≤ 600000; omega) (by show _ ≤ 7302249; omega) dL_law_0 (fun qx H hI => ?_)
  have hI : bh_I D (([] : va_W) ++ [(qx, .inr (2, [.int 0, .null, .null, .int 0, .null, .int 0, .int 0, .null]))]) A s.heap H [] := hI
  refine lv_dup hx hb dL_law_3 rfl ?_
  refine lv_aload_n hx hb dL_law_4 rfl (lv_at hl 0 rfl) ?_
  refine lv_iconst (v := nI 0) hx hb dL_law_5 (by decide) ?_
  refine vp_callSi (va_runS (As := [.ref b, .int (nI 0)]) (rest := [.ref qx, .ref qx]) ⟨hx, hb, hml, hown, hts⟩ (cl_cell l b L xs (by omega)) (va_cwS 2 hts gL_law_L_cell rfl rfl rfl (by decide +kernel) ⟨Nat.le_of_ble_eq_true rfl, Nat.le_of_ble_eq_true rfl⟩) (cl_pre hX hbl hbA hI.2.2) rfl rfl hl.1 rfl (lv_room (Nat.le_of_ble_eq_true rfl)) dL_law_6 ⟨by show _ ≤ 600000; omega, by show _ ≤ 7302249; omega⟩).run (fun r_1 er_1 => ?_)
  subst er_1
  refine bm_frv (mc := 9) (ms := 2045) (wa := ([] : va_W)) (wc := [(qx, .inr (2, [.int 0, .null, .null, .int 0, .null, .int 0, .int 0, .null]))]) (va_runI (mc := 9) (ms := 2045) (As := [.int (bl_c0 L xs)]) (rest := [.ref qx]) ⟨hx, hb, hml, hown, hts⟩ (ck_house l D c9 qx H.size (fun _ _ => 0) (bl_c0 L xs)) (cwI 1 hts gL_law_X3_init rfl rfl rfl (hts (.initialized RX3) (by decide +kernel)) (hts (.methodLink RL 15 yX3_init) (by decide +kernel)) (hts (.instanceMethod yX3_init) (by decide +kernel)) rfl (by decide +kernel) ⟨Nat.le_of_ble_eq_true rfl, Nat.le_of_ble_eq_true rfl⟩) (bm_prI hK (bf_right hI)) rfl rfl hl.1 rfl (lv_room (Nat.le_of_ble_eq_true rfl)) dL_law_9 ⟨by show _ ≤ 600000; omega, by show _ ≤ 7302249; omega⟩) hI hA (fun adC H locs _ hI => ?_)
  have hI : bh_I D (bh_cw qx adC (fun _ _ => 0) c9 (bh_nv (bl_c0 L xs)) 0 bh_C0) A s.heap H locs := hI
  refine lv_astore_n (lv' := [(1, .ref qx), (0, .ref b)]) hx hb dL_law_12 rfl hl (by decide) rfl (fun ls hl => ?_)
  refine bm_new (ci := 3) (fs := [.int 0, .null, .null, .null, .null, .null, .null, .null, .null, .null, .null, .null, .null, .null, .null, .null, .null, .null, .int 0, .int 0, .int 0, .null, .null, .null, .null, .null, .null, .null, .int 0, .null, .null]) (C := RX4) (T := TX4) (N := 31) hx hb hts inlX4 tyX4 tyX4_ok hown (hts (.classLink RL 18 RX4) (by decide +kernel)) (hts (.instantiable RX4 31) (by decide +kernel)) (hts (.initialized RX4) (by decide +kernel)) hK hI hA rfl (fun j hj => by rcases (show j = 0 ∨ j = 1 ∨ j = 2 ∨ j = 3 ∨ j = 4 ∨ j = 5 ∨ j = 6 ∨ j = 7 ∨ j = 8 ∨ j = 9 ∨ j = 10 ∨ j = 11 ∨ j = 12 ∨ j = 13 ∨ j = 14 ∨ j = 15 ∨ j = 16 ∨ j = 17 ∨ j = 18 ∨ j = 19 ∨ j = 20 ∨ j = 21 ∨ j = 22 ∨ j = 23 ∨ j = 24 ∨ j = 25 ∨ j = 26 ∨ j = 27 ∨ j = 28 ∨ j = 29 ∨ j = 30 by omega) with rfl | rfl | rfl | rfl | rfl | rfl | rfl | rfl | rfl | rfl | rfl | rfl | rfl | rfl | rfl | rfl | rfl | rfl | rfl | rfl | rfl | rfl | rfl | rfl | rfl | rfl | rfl | rfl | rfl | rfl | rfl <;> rfl) (by show _ ≤ 600000; omega) (by show _ ≤ 7302249; omega) dL_law_13 (fun qm H hI => ?_)
  refine lv_dup hx hb dL_law_16 rfl ?_
  refine lv_aload_n hx hb dL_law_17 rfl (lv_at hl 1 rfl) ?_
  refine lv_iconst (v := nI 0) hx hb dL_law_18 (by decide) ?_
  refine vp_callSi (va_runS (As := [.ref b, .int (nI 0)]) (rest := [.ref qm, .ref qm]) ⟨hx, hb, hml, hown, hts⟩ (cl_cell l b L xs (by omega)) (va_cwS 2 hts gL_law_L_cell rfl rfl rfl (by decide +kernel) ⟨Nat.le_of_ble_eq_true rfl, Nat.le_of_ble_eq_true rfl⟩) (cl_pre hX hbl hbA hI.2.2) rfl rfl hl.1 rfl (lv_room (Nat.le_of_ble_eq_true rfl)) dL_law_19 ⟨by show _ ≤ 600000; omega, by show _ ≤ 7302249; omega⟩).run (fun r_2 er_2 => ?_)
  subst er_2
  refine bm_frv (mc := 26) (ms := 9567) (wa := bh_cw qx adC (fun _ _ => 0) c9 (bh_nv (bl_c0 L xs)) 0 bh_C0) (wc := [(qm, .inr (3, [.int 0, .null, .null, .null, .null, .null, .null, .null, .null, .null, .null, .null, .null, .null, .null, .null, .null, .null, .int 0, .int 0, .int 0, .null, .null, .null, .null, .null, .null, .null, .int 0, .null, .null]))]) (va_runI (mc := 26) (ms := 9567) (As := [.int (bl_c0 L xs)]) (rest := [.ref qm]) ⟨hx, hb, hml, hown, hts⟩ (ck_model l D c9 qm H.size (bl_c0 L xs)) (cwI 1 hts gL_law_X4_init rfl rfl rfl (hts (.initialized RX4) (by decide +kernel)) (hts (.methodLink RL 20 yX4_init) (by decide +kernel)) (hts (.instanceMethod yX4_init) (by decide +kernel)) rfl (by decide +kernel) ⟨Nat.le_of_ble_eq_true rfl, Nat.le_of_ble_eq_true rfl⟩) (bm_prI hK (bf_right hI)) rfl rfl hl.1 rfl (lv_room (Nat.le_of_ble_eq_true rfl)) dL_law_22 ⟨by show _ ≤ 600000; omega, by show _ ≤ 7302249; omega⟩) hI hA (fun adM H locs _ hI => ?_)
  refine lv_astore_n (lv' := [(2, .ref qm), (1, .ref qx), (0, .ref b)]) hx hb dL_law_25 rfl hl (by decide) rfl (fun ls hl => ?_)
  refine lv_iconst (v := nI 1) hx hb dL_law_26 (by decide) ?_
  refine lv_istore_n (lv' := [(3, .int (nI 1)), (2, .ref qm), (1, .ref qx), (0, .ref b)]) hx hb dL_law_27 rfl hl (by decide) rfl (fun ls hl => ?_)
  refine W.widen (k := 37) (n := 11651) (by omega) (by omega) ?_
  exact lw_loop l ⟨hx, hb, hml, hown, hts, hX, hbl, hK, hA, hbA, hL⟩ hr hlocks hAe (0, fun _ _ => 0, 0, bh_C0, bh_S0 (bh_nv (bl_c0 L xs))) H locs ls ⟨Nat.zero_le 512, rl_start (bh_nv_le _), hI, lv_sub hl [3, 2, 1, 0] rfl⟩
