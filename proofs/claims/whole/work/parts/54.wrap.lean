set_option maxHeartbeats 4000000 in
set_option maxRecDepth 100000 in
theorem cw_deliver0 (l : Launch) (D : va_G) (c : bh_C) (h : Nat) (ad : Nat → Nat) (sz : Nat) (S : mS) (x : Int32) (ha : S.1 28 ≤ 400) (hx1 : bh_ix x (S.1 28) = none) : Met l yX4_deliver wsX4_deliver ({ frames := 4, cells := 0, slots := 0, locals := 96 }) (va_Pc [.ref h, .int (x)] (bh_prm D c (bh_mw h ad c (S)) sz)) (va_Qi (fun (r : Int32) (u : mS) => r = nI 0 ∧ u = S) (fun u t => bh_post D c (bh_mw h ad c u) (va_A (bh_mw h ad c (S)) sz) t) (va_A (bh_mw h ad c (S)) sz)) 0 0 (va_A (bh_mw h ad c (S)) sz) := by
  refine Met.ofW (cc := cX4_deliver) (maxL := 9) (ret := (some .boolean)) (by decide) rfl ?_
  intro p e s m args below meth c0 s₁ B hml hv
  obtain ⟨rfl, hsz, hP, hK, hD0⟩ := hv
  have hx := B.exec
  have hb := B.bytes
  have hr := B.returns
  have hts := atoms_spec (ws := wsX4_deliver) B.pre
  have hown : s.vm.findClass RX4 = some m.cls := findClass_of_methodNamed B.named
  have hlocks := B.notSynchronized
  have hinX4 : ∀ w ∈ wsX40, w ∈ wsX4_deliver := fun _ h => List.mem_cons_of_mem _ (List.mem_append_right _ h)
  have lk_97 : (Cond.fieldLink RX4 97 "BallotHouseModel" "air" "I").before _ s = true := hts _ (by decide +kernel)
  subst hsz
  have hI := bh_start hP hD0
  generalize hAe : va_A (bh_mw h ad c (S)) s.heap.size = A at hI ⊢
  have hA : ∀ q : Nat, s.heap.size ≤ q → A q := fun q h => by rw [← hAe]; exact Or.inr h
  clear hP hD0 hAe
  have hl := lv_entry ([.ref h, .int (x)]) (n := 9) (Nat.le_of_ble_eq_true rfl)
  rw [lg_entry_eq]
  generalize (lg_sl ([.ref h, .int (x)]) ++ List.replicate (9 - (lg_sl ([.ref h, .int (x)])).length) Slot.unset).toArray = ls at hl ⊢
  have hl : lv_has ls 9 [(0, .ref h), (1, .int (x))] := hl
  refine lv_iload_n hx hb dX4_deliver_0 rfl (lv_at hl 1 rfl) ?_
  refine lv_if_lt (tgt := 20) hx hb dX4_deliver_1 (by decide) (fun c_1 => ?_) (fun c_1 => ?_)
  · refine lv_iconst (v := nI 0) hx hb dX4_deliver_20 (by decide) ?_
    exact bn_retz hx hb hr hlocks hK (S) hI (⟨rfl, rfl⟩) (by decide) dX4_deliver_21
  · refine lv_iload_n hx hb dX4_deliver_4 rfl (lv_at hl 1 rfl) ?_
    refine lv_aload_n hx hb dX4_deliver_5 rfl (lv_at hl 0 rfl) ?_
    refine bn_get (ci := 3) (v := .int (nI (S.1 28))) (C := RX4) (T := TX4) (N := 31) hx hb hts hinX4 hown hK hI 0 rfl rfl 28 (by decide) lk_97 rfl (rfl) dX4_deliver_6 ?_
    refine lv_icmp_ge (tgt := 20) hx hb dX4_deliver_9 (by decide) (fun c_2 => ?_) (fun c_2 => ?_)
    · refine lv_iconst (v := nI 0) hx hb dX4_deliver_20 (by decide) ?_
      exact bn_retz hx hb hr hlocks hK (S) hI (⟨rfl, rfl⟩) (by decide) dX4_deliver_21
    · exfalso
      have q1 := bh_ix_none hx1
      have q2 := c_1
      have q3 := c_2
      simp only [bh_ltI, bh_leI, bh_t0, nI_toInt (show S.1 28 < 2 ^ 31 by omega)] at q2 q3
      omega
set_option maxHeartbeats 4000000 in
set_option maxRecDepth 100000 in
theorem cw_deliverF (l : Launch) (D : va_G) (c : bh_C) (h : Nat) (ad : Nat → Nat) (sz : Nat) (S : mS) (k : Nat) (ha : S.1 28 ≤ 400) (hk : k < S.1 28) (hL : bh_lok S k) (hcb : bh_cb S k = false) : Met l yX4_deliver wsX4_deliver ({ frames := 4, cells := 0, slots := 0, locals := 96 }) (va_Pc [.ref h, .int (nI k)] (bh_prm D c (bh_mw h ad c (S)) sz)) (va_Qi (fun (r : Int32) (u : mS) => r = nI 0 ∧ u = S) (fun u t => bh_post D c (bh_mw h ad c u) (va_A (bh_mw h ad c (S)) sz) t) (va_A (bh_mw h ad c (S)) sz)) 0 0 (va_A (bh_mw h ad c (S)) sz) := by
  refine Met.ofW (cc := cX4_deliver) (maxL := 9) (ret := (some .boolean)) (by decide) rfl ?_
  intro p e s m args below meth c0 s₁ B hml hv
  obtain ⟨rfl, hsz, hP, hK, hD0⟩ := hv
  have hx := B.exec
  have hb := B.bytes
  have hr := B.returns
  have hts := atoms_spec (ws := wsX4_deliver) B.pre
  have hown : s.vm.findClass RX4 = some m.cls := findClass_of_methodNamed B.named
  have hlocks := B.notSynchronized
  have hinX4 : ∀ w ∈ wsX40, w ∈ wsX4_deliver := fun _ h => List.mem_cons_of_mem _ (List.mem_append_right _ h)
  have lk_97 : (Cond.fieldLink RX4 97 "BallotHouseModel" "air" "I").before _ s = true := hts _ (by decide +kernel)
  subst hsz
  have hI := bh_start hP hD0
  generalize hAe : va_A (bh_mw h ad c (S)) s.heap.size = A at hI ⊢
  have hA : ∀ q : Nat, s.heap.size ≤ q → A q := fun q h => by rw [← hAe]; exact Or.inr h
  clear hP hD0 hAe
  have hl := lv_entry ([.ref h, .int (nI k)]) (n := 9) (Nat.le_of_ble_eq_true rfl)
  rw [lg_entry_eq]
  generalize (lg_sl ([.ref h, .int (nI k)]) ++ List.replicate (9 - (lg_sl ([.ref h, .int (nI k)])).length) Slot.unset).toArray = ls at hl ⊢
  have hl : lv_has ls 9 [(0, .ref h), (1, .int (nI k))] := hl
  refine lv_iload_n hx hb dX4_deliver_0 rfl (lv_at hl 1 rfl) ?_
  refine lv_if_lt (tgt := 20) hx hb dX4_deliver_1 (by decide) (fun c_1 => ?_) (fun c_1 => ?_)
  · exact absurd c_1 (nI_pos (by omega))
  · refine lv_iload_n hx hb dX4_deliver_4 rfl (lv_at hl 1 rfl) ?_
    refine lv_aload_n hx hb dX4_deliver_5 rfl (lv_at hl 0 rfl) ?_
    refine bn_get (ci := 3) (v := .int (nI (S.1 28))) (C := RX4) (T := TX4) (N := 31) hx hb hts hinX4 hown hK hI 0 rfl rfl 28 (by decide) lk_97 rfl (rfl) dX4_deliver_6 ?_
    refine bn_cmp_ge (tgt := 20) hx hb (by omega) (by omega) dX4_deliver_9 (by decide) (fun c_2 => ?_) (fun c_2 => ?_)
    · exact absurd c_2 (by omega)
    · refine lv_aload_n hx hb dX4_deliver_12 rfl (lv_at hl 0 rfl) ?_
      refine lv_iload_n hx hb dX4_deliver_13 rfl (lv_at hl 1 rfl) ?_
      refine vp_callSi (bn_roV (As := [.int (nI k)]) (rest := []) ⟨hx, hb, hml, hown, hts⟩ (cm_canBe l D c h ad S k (by omega) (bh_lok_cv hL)) (cwV 1 hts gX4_deliver_X4_canBe rfl rfl rfl (by decide +kernel) ⟨Nat.le_of_ble_eq_true rfl, Nat.le_of_ble_eq_true rfl⟩) hK hI 0 3 rfl rfl rfl rfl hl.1 (Nat.le_of_ble_eq_true rfl) dX4_deliver_14 ⟨Nat.le_of_ble_eq_true rfl, Nat.le_of_ble_eq_true rfl⟩) (fun r_3 er_3 => ?_)
      rw [hcb] at er_3
      subst er_3
      refine lv_if_ne (tgt := 22) hx hb dX4_deliver_17 (by decide) (fun c_4 => ?_) (fun c_4 => ?_)
      · first | exact absurd c_4 (by decide) | exact absurd (by decide) c_4
      · refine lv_iconst (v := nI 0) hx hb dX4_deliver_20 (by decide) ?_
        exact bn_retz hx hb hr hlocks hK (S) hI (⟨rfl, rfl⟩) (by decide) dX4_deliver_21
set_option maxHeartbeats 4000000 in
set_option maxRecDepth 100000 in
theorem cw_settleN (l : Launch) (D : va_G) (c : bh_C) (h : Nat) (ad : Nat → Nat) (sz : Nat) (S : mS) (x : Int32) (hx0 : x < 0) : Met l yX4_settle wsX4_settle ({ frames := 5, cells := 0, slots := 0, locals := 124 }) (va_Pc [.ref h, .int (x)] (bh_prm D c (bh_mw h ad c (S)) sz)) (va_Qi (fun (r : Int32) (u : mS) => r = -1 ∧ u = S) (fun u t => bh_post D c (bh_mw h ad c u) (va_A (bh_mw h ad c (S)) sz) t) (va_A (bh_mw h ad c (S)) sz)) 0 0 (va_A (bh_mw h ad c (S)) sz) := by
  refine Met.ofW (cc := cX4_settle) (maxL := 5) (ret := (some .int)) (by decide) rfl ?_
  intro p e s m args below meth c0 s₁ B hml hv
  obtain ⟨rfl, hsz, hP, hK, hD0⟩ := hv
  have hx := B.exec
  have hb := B.bytes
  have hr := B.returns
  have hts := atoms_spec (ws := wsX4_settle) B.pre
  have hown : s.vm.findClass RX4 = some m.cls := findClass_of_methodNamed B.named
  have hlocks := B.notSynchronized
  have hinX4 : ∀ w ∈ wsX40, w ∈ wsX4_settle := fun _ h => List.mem_cons_of_mem _ (List.mem_append_right _ h)
  subst hsz
  have hI := bh_start hP hD0
  generalize hAe : va_A (bh_mw h ad c (S)) s.heap.size = A at hI ⊢
  have hA : ∀ q : Nat, s.heap.size ≤ q → A q := fun q h => by rw [← hAe]; exact Or.inr h
  clear hP hD0 hAe
  have hl := lv_entry ([.ref h, .int (x)]) (n := 5) (Nat.le_of_ble_eq_true rfl)
  rw [lg_entry_eq]
  generalize (lg_sl ([.ref h, .int (x)]) ++ List.replicate (5 - (lg_sl ([.ref h, .int (x)])).length) Slot.unset).toArray = ls at hl ⊢
  have hl : lv_has ls 5 [(0, .ref h), (1, .int (x))] := hl
  refine lv_iload_n hx hb dX4_settle_0 rfl (lv_at hl 1 rfl) ?_
  refine lv_if_ge (tgt := 6) hx hb dX4_settle_1 (by decide) (fun c_1 => ?_) (fun c_1 => ?_)
  · exact absurd hx0 (Int32.not_lt.mpr c_1)
  · refine lv_iconst (v := -1) hx hb dX4_settle_4 (by decide) ?_
    exact bn_reti hx hb hr hlocks hK (S) hI (⟨rfl, rfl⟩) dX4_settle_5
theorem rl_m28 {nv km : Nat} {C : cS} {S : mS} (h : Rl nv km C S) : S.1 28 ≤ 400 := by rw [h.1.1.2.2]; exact h.1.2.1.2.2.2
theorem rl_m0 {nv km : Nat} {C : cS} {S : mS} (h : Rl nv km C S) : S.1 0 ≤ 7 := by rw [h.1.1.1]; exact h.1.2.1.2.1
theorem rl_m18 {nv km : Nat} {C : cS} {S : mS} (h : Rl nv km C S) : S.1 18 ≤ 24 := by rw [h.1.1.2.1]; exact h.1.2.1.2.2.1
theorem rl_mgb {nv km : Nat} {C : cS} {S : mS} (h : Rl nv km C S) : ∀ b, 1 ≤ b → b ≤ S.1 18 → ∃ g, g ≤ 24 ∧ S.2.2.1 9 b = nI g := by
  intro b h1 h2
  rw [h.1.1.2.1] at h2
  have xb := rl_mf_self h h1 h2
  obtain ⟨g, g1, g2, g3⟩ := xb.2.2.2.2.2.2.2
  have hkm := h.1.2.1.2.2.1
  exact ⟨g, by omega, by rw [xb.1.2.2.2.2.1, g2]⟩
theorem cw_deliver (l : Launch) (D : va_G) (c : bh_C) (h : Nat) (ad : Nat → Nat) (sz : Nat) (S : mS) (x : Int32) {nv km : Nat} {C : cS} (hR : Rl nv km C S) : Met l yX4_deliver wsX4_deliver ({ frames := 4, cells := 0, slots := 0, locals := 96 }) (va_Pc [.ref h, .int (x)] (bh_prm D c (bh_mw h ad c (S)) sz)) (va_Qi (fun (r : Int32) (u : mS) => r = (bh_mdel S x).1 ∧ u = (bh_mdel S x).2) (fun u t => bh_post D c (bh_mw h ad c u) (va_A (bh_mw h ad c (S)) sz) t) (va_A (bh_mw h ad c (S)) sz)) 0 0 (va_A (bh_mw h ad c (S)) sz) := by
  rcases hx1 : bh_ix x (S.1 28) with _ | k
  · have e9 : bh_mdel S x = (nI 0, S) := by unfold bh_mdel; rw [hx1]; try rfl
    rw [e9]
    exact cw_deliver0 l D c h ad sz S x (rl_m28 hR) hx1
  · obtain ⟨hk, rfl⟩ := bh_ix_some hx1
    have hL := rl_lokM hR (k := k) (by rw [← hR.1.1.2.2]; exact hk)
    cases hcb : bh_cb S k
    · have e9 : bh_mdel S (nI k) = (nI 0, S) := by unfold bh_mdel; rw [hx1]; exact if_neg (by rw [hcb]; decide)
      rw [e9]
      exact cw_deliverF l D c h ad sz S k (rl_m28 hR) hk hL hcb
    · have e9 : bh_mdel S (nI k) = (nI 1, bh_dlv S k) := by unfold bh_mdel; rw [hx1]; exact if_pos hcb
      rw [e9]
      exact cm_deliver l D c h ad sz S k _ _ _ _ _ (rl_m28 hR) (rl_m0 hR) hk hL hcb
theorem bl_nn {x : Int32} (h : ¬ x < 0) : ∃ n, n < 2 ^ 31 ∧ x = nI n := by
  have h1 := Int32.le_iff_toInt_le.mp (Int32.not_lt.mp h)
  have h2 : (0 : Int32).toInt = 0 := by decide
  have h3 := Int32.toInt_lt x
  exact ⟨x.toInt.toNat, by omega, bh_nI_of_toInt (by omega)⟩
theorem cw_settle (l : Launch) (D : va_G) (c : bh_C) (h : Nat) (ad : Nat → Nat) (sz : Nat) (S : mS) (x : Int32) {nv km : Nat} {C : cS} (hR : Rl nv km C S) : Met l yX4_settle wsX4_settle ({ frames := 5, cells := 0, slots := 0, locals := 124 }) (va_Pc [.ref h, .int (x)] (bh_prm D c (bh_mw h ad c (S)) sz)) (va_Qi (fun (r : Int32) (u : mS) => r = (bh_mstl S x).1 ∧ u = (bh_mstl S x).2) (fun u t => bh_post D c (bh_mw h ad c u) (va_A (bh_mw h ad c (S)) sz) t) (va_A (bh_mw h ad c (S)) sz)) 0 0 (va_A (bh_mw h ad c (S)) sz) := by
  by_cases hx0 : x < 0
  · have e9 : bh_mstl S x = (-1, S) := if_pos hx0
    rw [e9]
    exact cw_settleN l D c h ad sz S x hx0
  · obtain ⟨n, hn31, rfl⟩ := bl_nn hx0
    have e9 : bh_mstl S (nI n) = (nI (bh_stl S n).1, (bh_stl S n).2) := by unfold bh_mstl; rw [if_neg hx0, nI_clamp hn31]
    rw [e9]
    exact cm_settle l D c h ad sz S n hn31 (fun T => ∃ C, Rl nv km C T) ⟨C, hR⟩ (fun T q => by obtain ⟨C, hR⟩ := q; exact ⟨rl_m28 hR, rl_m0 hR, fun k hk => rl_lokM hR (by rw [← hR.1.1.2.2]; exact hk)⟩) (fun T k q hk _ => by obtain ⟨C, hR⟩ := q; exact ⟨_, rl_dlv hR (by rw [← hR.1.1.2.2]; exact hk)⟩)
theorem cx_settle (l : Launch) (D : va_G) (c : bh_C) (h : Nat) (ad : Nat → Nat) (ba : Nat → Nat → Nat) (nv km : Nat) (sz : Nat) (C : cS) (x : Int32) {S : mS} (hR : Rl nv km C S) : Met l yX3_settle wsX3_settle ({ frames := 6, cells := 0, slots := 0, locals := 147 }) (va_Pc [.ref h, .int (x)] (bh_prm D c (bh_cw h ad ba c nv km (C)) sz)) (va_Qi (fun (r : Int32) (u : cS) => r = (bc_mstl C nv km x).1 ∧ u = (bc_mstl C nv km x).2) (fun u t => bh_post D c (bh_cw h ad ba c nv km u) (va_A (bh_cw h ad ba c nv km (C)) sz) t) (va_A (bh_cw h ad ba c nv km (C)) sz)) 0 0 (va_A (bh_cw h ad ba c nv km (C)) sz) := by
  by_cases hx0 : x < 0
  · have e9 : bc_mstl C nv km x = (-1, C) := if_pos hx0
    rw [e9]
    exact cc_settleN l D c h ad ba nv km sz C x hx0
  · obtain ⟨n, hn31, rfl⟩ := bl_nn hx0
    have e9 : bc_mstl C nv km (nI n) = (nI (bc_stl nv km C n).1, (bc_stl nv km C n).2) := by unfold bc_mstl; rw [if_neg hx0, nI_clamp hn31]
    rw [e9]
    exact cc_settle l D c h ad ba nv km sz C n hn31 hR.1.2.1.2.1 hR.1.2.1.2.2.1 (fun T => ∃ S, Rl nv km T S) ⟨S, hR⟩ (fun T q => by obtain ⟨S, hR⟩ := q; exact ⟨hR.1.2.1.2.2.2, fun k hk => rl_lokC hR hk⟩) (fun T k q hk _ => by obtain ⟨S, hR⟩ := q; exact ⟨_, rl_dlv hR hk⟩)
theorem rl_mbal2 {nv km : Nat} {C : cS} {S : mS} (h : Rl nv km C S) (x y z : Int32) {g : Nat} (hg : C.1.2.1 6 = nI g) (hg2 : g ≤ km) : bc_bR nv km x y z = (bh_mbal S x y z).1 ∧ Rl nv (bc_bU C nv km x y z g).1 (bc_bU C nv km x y z g).2 (bh_mbal S x y z).2 := by
  have e0 : bc_bC nv km x y z = true ↔ bh_blC S x y z := by
    unfold bc_bC
    rw [Bool.and_eq_true, decide_eq_true_iff, decide_eq_true_iff]
    exact rn_can h x y z
  by_cases hc : bc_bC nv km x y z = true
  · have hm := e0.mp hc
    have h9 := (rn_can h x y z).mpr hm
    unfold bc_bR bc_bU bh_mbal
    rw [if_pos hc, if_pos hc, if_pos hm]
    exact ⟨by rw [h.1.1.2.1], rl_mbal h h9.1 h9.2 hg hg2⟩
  · have hm : ¬ bh_blC S x y z := fun q => hc (e0.mpr q)
    unfold bc_bR bc_bU bh_mbal
    rw [if_neg hc, if_neg hc, if_neg hm]
    exact ⟨rfl, h⟩
/-! reading the script -/
section BHX
variable {p : Program} {l : Launch} {e : Env} {R : Room} {s : State} {m : MethodId} {args : Array Value} {below : List Frame} {meth : Method} {c : Code} {H : Heap} {locs : List Loc} {cells slots : Nat} {Q : State → Prop}
variable {cc : ByteArray} {pc : Nat} {ls : Array Slot} {rest : List Value} {A : Nat → Prop} {H0 : Heap}
theorem bl_sld (hx : p.tables.exec = Jvm.exec) (hb : c.code = cc) {b L : Nat} {xs : Nat → Int32} (hX : va_X b L xs s H0) (hbl : b < H0.size) (hbA : ¬ A b) (hS : va_S A H0 H locs) {j : Nat} (hj : j < L) (hL : L < 2 ^ 31) (hdg : decode cc pc = .ok (.iaload, 1))
    (kk : W p l e R s m args below meth c H locs cells slots Q (F0 m (pc + 1) ls (.int (xs j) :: rest))) : W p l e R s m args below meth c H locs cells slots Q (F0 m pc ls (.int (nI j) :: .ref b :: rest)) :=
  va_sld hx hb hX hbl hbA hS (vp_in_nI hj hL) hdg (by rw [nI_clamp (by omega)]; exact kk)
theorem bl_slen (hx : p.tables.exec = Jvm.exec) (hb : c.code = cc) {b L : Nat} {xs : Nat → Int32} (hX : va_X b L xs s H0) (hbl : b < H0.size) (hbA : ¬ A b) (hS : va_S A H0 H locs) (hdg : decode cc pc = .ok (.arraylength, 1))
    (kk : W p l e R s m args below meth c H locs cells slots Q (F0 m (pc + 1) ls (.int (nI L) :: rest))) : W p l e R s m args below meth c H locs cells slots Q (F0 m pc ls (.ref b :: rest)) :=
  va_slen hx hb hX hbl hbA hS hdg kk
theorem bh_loopC {σ : Type} (cl sl : σ → Nat) (I : σ → Heap → List Loc → Array Slot → Prop) (μ : σ → Nat) (hs : ∀ (x : σ) (H : Heap) (locs : List Loc) (ls : Array Slot), I x H locs ls → (∀ (y : σ) (H' : Heap) (locs' : List Loc) (ls' : Array Slot), I y H' locs' ls' → μ y < μ x → W p l e R s m args below meth c H' locs' (cl y) (sl y) Q (F0 m pc ls' [])) → W p l e R s m args below meth c H locs (cl x) (sl x) Q (F0 m pc ls [])) : ∀ (x : σ) (H : Heap) (locs : List Loc) (ls : Array Slot), I x H locs ls → W p l e R s m args below meth c H locs (cl x) (sl x) Q (F0 m pc ls []) := by
  have key : ∀ (k : Nat) (x : σ) (H : Heap) (locs : List Loc) (ls : Array Slot), μ x < k → I x H locs ls → W p l e R s m args below meth c H locs (cl x) (sl x) Q (F0 m pc ls []) := by
    intro k
    induction k with
    | zero => intro x H locs ls h; exact absurd h (Nat.not_lt_zero _)
    | succ k ih =>
      intro x H locs ls h hI
      exact hs x H locs ls hI (fun y H' locs' ls' hI' hy => ih y H' locs' ls' (by omega) hI')
  intro x H locs ls hI
  exact key (μ x + 1) x H locs ls (by omega) hI
end BHX
def bl_c0 (L : Nat) (xs : Nat → Int32) : Int32 := if L ≤ 0 then nI 0 else xs 0
set_option maxHeartbeats 4000000 in
theorem cl_cell (l : Launch) (b L : Nat) (xs : Nat → Int32) (hL : L < 2 ^ 31) : Met l yL_cell wsL_cell ({ frames := 0, cells := 0, slots := 0, locals := 0 }) (va_Pc [.ref b, .int (nI 0)] (fun U => va_X b L xs U U.heap)) (vp_Si (fun r => r = bl_c0 L xs)) 0 0 (fun _ => False) := by
  refine Met.ofW (cc := cL_cell) (maxL := 2) (ret := (some .int)) (by decide) rfl ?_
  intro p e s m args below meth c0 s₁ B hml hv
  obtain ⟨rfl, hX⟩ := hv
  have hx := B.exec
  have hb := B.bytes
  have hr := B.returns
  have hlocks := B.notSynchronized
  have hbl : b < s.heap.size := by
    obtain ⟨scr, h1, -⟩ := hX
    exact (Array.getElem?_eq_some_iff.mp h1).1
  have hbA : ¬ (fun _ : Nat => False) b := fun q => q
  have hS : va_S (fun _ : Nat => False) s.heap s.heap [] := va_S.rf
  have hl := lv_entry ([.ref b, .int (nI 0)]) (n := 2) (Nat.le_of_ble_eq_true rfl)
  rw [lg_entry_eq]
  generalize (lg_sl ([.ref b, .int (nI 0)]) ++ List.replicate (2 - (lg_sl ([.ref b, .int (nI 0)])).length) Slot.unset).toArray = ls at hl ⊢
  have hl : lv_has ls 2 [(0, .ref b), (1, .int (nI 0))] := hl
  refine lv_iload_n hx hb dL_cell_0 rfl (lv_at hl 1 rfl) ?_
  refine lv_aload_n hx hb dL_cell_1 rfl (lv_at hl 0 rfl) ?_
  refine bl_slen hx hb hX hbl hbA hS dL_cell_2 ?_
  refine bn_cmp_ge (tgt := 12) hx hb (by omega) hL dL_cell_3 (by decide) (fun c_1 => ?_) (fun c_1 => ?_)
  · refine lv_iconst (v := nI 0) hx hb dL_cell_12 (by decide) ?_
    exact bn_roti hx hb hr hlocks (by unfold bl_c0; rw [if_pos c_1]) dL_cell_13
  · refine lv_aload_n hx hb dL_cell_6 rfl (lv_at hl 0 rfl) ?_
    refine lv_iload_n hx hb dL_cell_7 rfl (lv_at hl 1 rfl) ?_
    refine bl_sld hx hb hX hbl hbA hS (by omega) hL dL_cell_8 ?_
    refine lv_goto (tgt := 13) hx hb dL_cell_9 (by decide) ?_
    exact bn_roti hx hb hr hlocks (by unfold bl_c0; rw [if_neg c_1]) dL_cell_13
theorem cl_pre {s : State} {H : Heap} {locs : List Loc} {A : Nat → Prop} {b L : Nat} {xs : Nat → Int32} (hX : va_X b L xs s s.heap) (hbl : b < s.heap.size) (hbA : ¬ A b) (hS : va_S A s.heap H locs) : PreS s H (va_Pc [.ref b, .int (nI 0)] (fun U => va_X b L xs U U.heap)) [.ref b, .int (nI 0)] := ⟨fun a U g mk q => ⟨q.1, va_X.moved (u := U) (U := U.calling g mk a) (Vm.Alike.refl U.vm) q.2⟩, fun U hU hW => ⟨rfl, by show va_X b L xs U U.heap; rw [hU]; exact va_X.moved hW.alike (hX.kept (hS.2.1 b hbl hbA))⟩⟩
