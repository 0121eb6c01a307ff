theorem wsL_c26 : (Cond.constantLong RL 26 4294967295) ∈ wsL_law := by decide +kernel
theorem bl_lc0 (x : Int64) : lg_cmp x x = 0 := by simp [lg_cmp]
/-- what holds at the law's loop beside the world -/
def bl_G (p : Program) (s : State) (m : MethodId) (c0 : Code) (A : Nat → Prop) (b L : Nat) (xs : Nat → Int32) (D : va_G) (c : bh_C) : Prop := p.tables.exec = Jvm.exec ∧ c0.code = cL_law ∧ c0.maxLocals = 4 ∧ s.vm.findClass RL = some m.cls ∧ (∀ w ∈ wsL_law, w.before #[Value.ref b] s = true) ∧ va_X b L xs s s.heap ∧ b < s.heap.size ∧ bh_K D c s ∧ (∀ q, s.heap.size ≤ q → A q) ∧ (¬ A b) ∧ L ≤ 2561
set_option maxHeartbeats 4000000 in
set_option maxRecDepth 100000 in
theorem lc_ballot {p : Program} (l : Launch) {e : Env} {s : State} {m : MethodId} {below : List Frame} {meth : Method} {c0 : Code} {H : Heap} {locs : List Loc} {cells slots : Nat} {Q : State → Prop} {A : Nat → Prop} {D : va_G} {c : bh_C} {b L : Nat} {xs : Nat → Int32} {hC hM : Nat} {adC adM : Nat → Nat} {ba : Nat → Nat → Nat} {nv km i : Nat} {C : cS} {S : mS} {ls : Array Slot} (G : bl_G p s m c0 A b L xs D c) (hi : i + 5 ≤ L) (hl : lv_has ls 4 [(0, .ref b), (1, .ref hC), (2, .ref hM), (3, .int (nI i))]) (hR : Rl nv km C S) (hI : bh_I D (bh_cw hC adC ba c nv km C ++ bh_mw hM adM c S) A s.heap H locs) (hcl : cells + 5 ≤ 600000) (hsl : slots + 46 ≤ 7302249) (kk : ∀ (ba : Nat → Nat → Nat) (km : Nat) (C : cS) (S : mS) (H : Heap) (locs : List Loc), Rl nv km C S → bh_I D (bh_cw hC adC ba c nv km C ++ bh_mw hM adM c S) A s.heap H locs → W p l e room_1 s m #[Value.ref b] below meth c0 H locs (cells + 5) (slots + 46) Q (F0 m 728 ls [])) : W p l e room_1 s m #[Value.ref b] below meth c0 H locs cells slots Q (F0 m 132 ls []) := by
  obtain ⟨hx, hb, hml, hown, hts, hX, hbl, hK, hA, hbA, hL⟩ := G
  have hn := hR.1.2.1.2.1
  have hk := hR.1.2.1.2.2.1
  have ha := hR.1.2.1.2.2.2
  have mn := rl_m0 hR
  have mk := rl_m18 hR
  have ma := rl_m28 hR
  refine lv_aload_n hx hb dL_law_132 rfl (lv_at hl 1 rfl) ?_
  refine lv_aload_n hx hb dL_law_133 rfl (lv_at hl 0 rfl) ?_
  refine lv_iload_n hx hb dL_law_134 rfl (lv_at hl 3 rfl) ?_
  refine lv_iconst (v := nI 1) hx hb dL_law_135 (by decide) ?_
  refine bn_iadd hx hb dL_law_136 ?_
  refine bl_sld (j := (i + 1)) hx hb hX hbl hbA hI.2.2 (by omega) (by omega) dL_law_137 ?_
  refine lv_aload_n hx hb dL_law_138 rfl (lv_at hl 0 rfl) ?_
  refine lv_iload_n hx hb dL_law_139 rfl (lv_at hl 3 rfl) ?_
  refine lv_iconst (v := nI 2) hx hb dL_law_140 (by decide) ?_
  refine bn_iadd hx hb dL_law_141 ?_
  refine bl_sld (j := (i + 2)) hx hb hX hbl hbA hI.2.2 (by omega) (by omega) dL_law_142 ?_
  refine lv_aload_n hx hb dL_law_143 rfl (lv_at hl 0 rfl) ?_
  refine lv_iload_n hx hb dL_law_144 rfl (lv_at hl 3 rfl) ?_
  refine lv_iconst (v := nI 3) hx hb dL_law_145 (by decide) ?_
  refine bn_iadd hx hb dL_law_146 ?_
  refine bl_sld (j := (i + 3)) hx hb hX hbl hbA hI.2.2 (by omega) (by omega) dL_law_147 ?_
  obtain ⟨g, hg2, hg⟩ := hR.1.2.2.2
  have hI2 := bf_swap hI
  refine bm_fri (mc := 5) (ms := 46) (wa := bh_mw hM adM c S) (wc := bh_cw hC adC ba c nv km C) (bm_muV (mc := 5) (ms := 46) (As := [.int (xs (i + 1)), .int (xs (i + 2)), .int (xs (i + 3))]) (rest := []) ⟨hx, hb, hml, hown, hts⟩ (cc_ballot l D c hC adC ba nv km H.size C (xs (i + 1)) (xs (i + 2)) (xs (i + 3)) g ha hk hg hg2) (cwV 3 hts gL_law_X3_ballot rfl rfl rfl (by decide +kernel) ⟨Nat.le_of_ble_eq_true rfl, Nat.le_of_ble_eq_true rfl⟩) hK (bf_right hI2) 0 2 rfl rfl rfl rfl hl.1 (Nat.le_of_ble_eq_true rfl) dL_law_148 ⟨by show _ ≤ 600000; omega, by show _ ≤ 7302249; omega⟩) hI2 hA (fun r_1 u_1 H locs eu_1 hI => ?_)
  obtain ⟨ba2, km2, C2⟩ := u_1
  obtain ⟨er_1, eu_1⟩ := eu_1
  subst er_1
  have e1 : km2 = (bc_bU C nv km (xs (i + 1)) (xs (i + 2)) (xs (i + 3)) g).1 := congrArg Prod.fst eu_1
  have e2 : C2 = (bc_bU C nv km (xs (i + 1)) (xs (i + 2)) (xs (i + 3)) g).2 := congrArg Prod.snd eu_1
  subst e1
  subst e2
  have hI : bh_I D (bh_cw hC adC ba2 c nv (bc_bU C nv km (xs (i + 1)) (xs (i + 2)) (xs (i + 3)) g).1 (bc_bU C nv km (xs (i + 1)) (xs (i + 2)) (xs (i + 3)) g).2 ++ bh_mw hM adM c S) A s.heap H locs := bf_swap hI
  refine lv_aload_n hx hb dL_law_151 rfl (lv_at hl 2 rfl) ?_
  refine lv_aload_n hx hb dL_law_152 rfl (lv_at hl 0 rfl) ?_
  refine lv_iload_n hx hb dL_law_153 rfl (lv_at hl 3 rfl) ?_
  refine lv_iconst (v := nI 1) hx hb dL_law_154 (by decide) ?_
  refine bn_iadd hx hb dL_law_155 ?_
  refine bl_sld (j := (i + 1)) hx hb hX hbl hbA hI.2.2 (by omega) (by omega) dL_law_156 ?_
  refine lv_aload_n hx hb dL_law_157 rfl (lv_at hl 0 rfl) ?_
  refine lv_iload_n hx hb dL_law_158 rfl (lv_at hl 3 rfl) ?_
  refine lv_iconst (v := nI 2) hx hb dL_law_159 (by decide) ?_
  refine bn_iadd hx hb dL_law_160 ?_
  refine bl_sld (j := (i + 2)) hx hb hX hbl hbA hI.2.2 (by omega) (by omega) dL_law_161 ?_
  refine lv_aload_n hx hb dL_law_162 rfl (lv_at hl 0 rfl) ?_
  refine lv_iload_n hx hb dL_law_163 rfl (lv_at hl 3 rfl) ?_
  refine lv_iconst (v := nI 3) hx hb dL_law_164 (by decide) ?_
  refine bn_iadd hx hb dL_law_165 ?_
  refine bl_sld (j := (i + 3)) hx hb hX hbl hbA hI.2.2 (by omega) (by omega) dL_law_166 ?_
  refine bm_fri (mc := 0) (ms := 0) (wa := bh_cw hC adC ba2 c nv (bc_bU C nv km (xs (i + 1)) (xs (i + 2)) (xs (i + 3)) g).1 (bc_bU C nv km (xs (i + 1)) (xs (i + 2)) (xs (i + 3)) g).2) (wc := bh_mw hM adM c S) (bm_muV (mc := 0) (ms := 0) (As := [.int (xs (i + 1)), .int (xs (i + 2)), .int (xs (i + 3))]) (rest := [.int (bc_bR nv km (xs (i + 1)) (xs (i + 2)) (xs (i + 3)))]) ⟨hx, hb, hml, hown, hts⟩ (cm_ballot l D c hM adM H.size S (xs (i + 1)) (xs (i + 2)) (xs (i + 3)) ma mn mk) (cwV 3 hts gL_law_X4_ballot rfl rfl rfl (by decide +kernel) ⟨Nat.le_of_ble_eq_true rfl, Nat.le_of_ble_eq_true rfl⟩) hK (bf_right hI) 0 3 rfl rfl rfl rfl hl.1 (Nat.le_of_ble_eq_true rfl) dL_law_167 ⟨by show _ ≤ 600000; omega, by show _ ≤ 7302249; omega⟩) hI hA (fun r_2 u_2 H locs eu_2 hI => ?_)
  obtain ⟨er_2, eu_2⟩ := eu_2
  subst er_2
  subst eu_2
  refine lv_icmp_eq (tgt := 728) hx hb dL_law_170 (by decide) (fun _ => ?_) (fun q_9 => absurd ((rl_mbal2 hR (xs (i + 1)) (xs (i + 2)) (xs (i + 3)) hg hg2).1) q_9)
  refine W.widen (k := cells + 5) (n := slots + 46) (by omega) (by omega) ?_
  exact kk ba2 _ _ _ H locs (rl_mbal2 hR (xs (i + 1)) (xs (i + 2)) (xs (i + 3)) hg hg2).2 hI
set_option maxHeartbeats 4000000 in
set_option maxRecDepth 100000 in
theorem lc_propose {p : Program} (l : Launch) {e : Env} {s : State} {m : MethodId} {below : List Frame} {meth : Method} {c0 : Code} {H : Heap} {locs : List Loc} {cells slots : Nat} {Q : State → Prop} {A : Nat → Prop} {D : va_G} {c : bh_C} {b L : Nat} {xs : Nat → Int32} {hC hM : Nat} {adC adM : Nat → Nat} {ba : Nat → Nat → Nat} {nv km i : Nat} {C : cS} {S : mS} {ls : Array Slot} (G : bl_G p s m c0 A b L xs D c) (hi : i + 5 ≤ L) (hl : lv_has ls 4 [(0, .ref b), (1, .ref hC), (2, .ref hM), (3, .int (nI i))]) (hR : Rl nv km C S) (hI : bh_I D (bh_cw hC adC ba c nv km C ++ bh_mw hM adM c S) A s.heap H locs) (hcl : cells + 5 ≤ 600000) (hsl : slots + 46 ≤ 7302249) (kk : ∀ (ba : Nat → Nat → Nat) (km : Nat) (C : cS) (S : mS) (H : Heap) (locs : List Loc), Rl nv km C S → bh_I D (bh_cw hC adC ba c nv km C ++ bh_mw hM adM c S) A s.heap H locs → W p l e room_1 s m #[Value.ref b] below meth c0 H locs (cells + 5) (slots + 46) Q (F0 m 728 ls [])) : W p l e room_1 s m #[Value.ref b] below meth c0 H locs cells slots Q (F0 m 175 ls []) := by
  obtain ⟨hx, hb, hml, hown, hts, hX, hbl, hK, hA, hbA, hL⟩ := G
  have hn := hR.1.2.1.2.1
  have hk := hR.1.2.1.2.2.1
  have ha := hR.1.2.1.2.2.2
  have mn := rl_m0 hR
  have mk := rl_m18 hR
  have ma := rl_m28 hR
  refine lv_aload_n hx hb dL_law_175 rfl (lv_at hl 1 rfl) ?_
  refine lv_aload_n hx hb dL_law_176 rfl (lv_at hl 0 rfl) ?_
  refine lv_iload_n hx hb dL_law_177 rfl (lv_at hl 3 rfl) ?_
  refine lv_iconst (v := nI 1) hx hb dL_law_178 (by decide) ?_
  refine bn_iadd hx hb dL_law_179 ?_
  refine bl_sld (j := (i + 1)) hx hb hX hbl hbA hI.2.2 (by omega) (by omega) dL_law_180 ?_
  refine lv_aload_n hx hb dL_law_181 rfl (lv_at hl 0 rfl) ?_
  refine lv_iload_n hx hb dL_law_182 rfl (lv_at hl 3 rfl) ?_
  refine lv_iconst (v := nI 2) hx hb dL_law_183 (by decide) ?_
  refine bn_iadd hx hb dL_law_184 ?_
  refine bl_sld (j := (i + 2)) hx hb hX hbl hbA hI.2.2 (by omega) (by omega) dL_law_185 ?_
  refine lv_aload_n hx hb dL_law_186 rfl (lv_at hl 0 rfl) ?_
  refine lv_iload_n hx hb dL_law_187 rfl (lv_at hl 3 rfl) ?_
  refine lv_iconst (v := nI 3) hx hb dL_law_188 (by decide) ?_
  refine bn_iadd hx hb dL_law_189 ?_
  refine bl_sld (j := (i + 3)) hx hb hX hbl hbA hI.2.2 (by omega) (by omega) dL_law_190 ?_
  refine lv_i2l (v := (xs (i + 3)).toInt64) hx hb dL_law_191 rfl ?_
  refine lv_bipush (v := nI 32) hx hb dL_law_192 (by decide) ?_
  refine lv_lshl (v := ((xs (i + 3)).toInt64) <<< ((nI 32).toInt64 &&& 63)) hx hb dL_law_194 rfl ?_
  refine lv_aload_n hx hb dL_law_195 rfl (lv_at hl 0 rfl) ?_
  refine lv_iload_n hx hb dL_law_196 rfl (lv_at hl 3 rfl) ?_
  refine lv_iconst (v := nI 4) hx hb dL_law_197 (by decide) ?_
  refine bn_iadd hx hb dL_law_198 ?_
  refine bl_sld (j := (i + 4)) hx hb hX hbl hbA hI.2.2 (by omega) (by omega) dL_law_199 ?_
  refine lv_i2l (v := (xs (i + 4)).toInt64) hx hb dL_law_200 rfl ?_
  refine lv_ldc2 (v := 4294967295) hx hb hown (hts (.constantLong RL 26 4294967295) wsL_c26) dL_law_201 ?_
  refine lv_land hx hb dL_law_204 ?_
  refine lv_lor hx hb dL_law_205 ?_
  have hI2 := bf_swap hI
  refine bm_fri (mc := 0) (ms := 0) (wa := bh_mw hM adM c S) (wc := bh_cw hC adC ba c nv km C) (bm_muV (mc := 0) (ms := 0) (As := [.int (xs (i + 1)), .int (xs (i + 2)), .long ((((xs (i + 3)).toInt64) <<< ((nI 32).toInt64 &&& 63)) ||| (((xs (i + 4)).toInt64) &&& 4294967295))]) (rest := []) ⟨hx, hb, hml, hown, hts⟩ (cc_propose l D c hC adC ba nv km H.size C (xs (i + 1)) (xs (i + 2)) ((((xs (i + 3)).toInt64) <<< ((nI 32).toInt64 &&& 63)) ||| (((xs (i + 4)).toInt64) &&& 4294967295)) ha hn hk) (cwV 3 hts gL_law_X3_propose rfl rfl rfl (by decide +kernel) ⟨Nat.le_of_ble_eq_true rfl, Nat.le_of_ble_eq_true rfl⟩) hK (bf_right hI2) 0 2 rfl rfl rfl rfl hl.1 (Nat.le_of_ble_eq_true rfl) dL_law_206 ⟨by show _ ≤ 600000; omega, by show _ ≤ 7302249; omega⟩) hI2 hA (fun r_1 u_1 H locs eu_1 hI => ?_)
  obtain ⟨er_1, eu_1⟩ := eu_1
  subst er_1
  subst eu_1
  have hI : bh_I D (bh_cw hC adC ba c nv km (bc_mpro C nv km (xs (i + 1)) (xs (i + 2)) ((((xs (i + 3)).toInt64) <<< ((nI 32).toInt64 &&& 63)) ||| (((xs (i + 4)).toInt64) &&& 4294967295))).2 ++ bh_mw hM adM c S) A s.heap H locs := bf_swap hI
  refine lv_aload_n hx hb dL_law_209 rfl (lv_at hl 2 rfl) ?_
  refine lv_aload_n hx hb dL_law_210 rfl (lv_at hl 0 rfl) ?_
  refine lv_iload_n hx hb dL_law_211 rfl (lv_at hl 3 rfl) ?_
  refine lv_iconst (v := nI 1) hx hb dL_law_212 (by decide) ?_
  refine bn_iadd hx hb dL_law_213 ?_
  refine bl_sld (j := (i + 1)) hx hb hX hbl hbA hI.2.2 (by omega) (by omega) dL_law_214 ?_
  refine lv_aload_n hx hb dL_law_215 rfl (lv_at hl 0 rfl) ?_
  refine lv_iload_n hx hb dL_law_216 rfl (lv_at hl 3 rfl) ?_
  refine lv_iconst (v := nI 2) hx hb dL_law_217 (by decide) ?_
  refine bn_iadd hx hb dL_law_218 ?_
  refine bl_sld (j := (i + 2)) hx hb hX hbl hbA hI.2.2 (by omega) (by omega) dL_law_219 ?_
  refine lv_aload_n hx hb dL_law_220 rfl (lv_at hl 0 rfl) ?_
  refine lv_iload_n hx hb dL_law_221 rfl (lv_at hl 3 rfl) ?_
  refine lv_iconst (v := nI 3) hx hb dL_law_222 (by decide) ?_
  refine bn_iadd hx hb dL_law_223 ?_
  refine bl_sld (j := (i + 3)) hx hb hX hbl hbA hI.2.2 (by omega) (by omega) dL_law_224 ?_
  refine lv_i2l (v := (xs (i + 3)).toInt64) hx hb dL_law_225 rfl ?_
  refine lv_bipush (v := nI 32) hx hb dL_law_226 (by decide) ?_
  refine lv_lshl (v := ((xs (i + 3)).toInt64) <<< ((nI 32).toInt64 &&& 63)) hx hb dL_law_228 rfl ?_
  refine lv_aload_n hx hb dL_law_229 rfl (lv_at hl 0 rfl) ?_
  refine lv_iload_n hx hb dL_law_230 rfl (lv_at hl 3 rfl) ?_
  refine lv_iconst (v := nI 4) hx hb dL_law_231 (by decide) ?_
  refine bn_iadd hx hb dL_law_232 ?_
  refine bl_sld (j := (i + 4)) hx hb hX hbl hbA hI.2.2 (by omega) (by omega) dL_law_233 ?_
  refine lv_i2l (v := (xs (i + 4)).toInt64) hx hb dL_law_234 rfl ?_
  refine lv_ldc2 (v := 4294967295) hx hb hown (hts (.constantLong RL 26 4294967295) wsL_c26) dL_law_235 ?_
  refine lv_land hx hb dL_law_238 ?_
  refine lv_lor hx hb dL_law_239 ?_
  refine bm_fri (mc := 0) (ms := 0) (wa := bh_cw hC adC ba c nv km (bc_mpro C nv km (xs (i + 1)) (xs (i + 2)) ((((xs (i + 3)).toInt64) <<< ((nI 32).toInt64 &&& 63)) ||| (((xs (i + 4)).toInt64) &&& 4294967295))).2) (wc := bh_mw hM adM c S) (bm_muV (mc := 0) (ms := 0) (As := [.int (xs (i + 1)), .int (xs (i + 2)), .long ((((xs (i + 3)).toInt64) <<< ((nI 32).toInt64 &&& 63)) ||| (((xs (i + 4)).toInt64) &&& 4294967295))]) (rest := [.int ((bc_mpro C nv km (xs (i + 1)) (xs (i + 2)) ((((xs (i + 3)).toInt64) <<< ((nI 32).toInt64 &&& 63)) ||| (((xs (i + 4)).toInt64) &&& 4294967295))).1)]) ⟨hx, hb, hml, hown, hts⟩ (cm_propose l D c hM adM H.size S (xs (i + 1)) (xs (i + 2)) ((((xs (i + 3)).toInt64) <<< ((nI 32).toInt64 &&& 63)) ||| (((xs (i + 4)).toInt64) &&& 4294967295)) ma mn mk) (cwV 3 hts gL_law_X4_propose rfl rfl rfl (by decide +kernel) ⟨Nat.le_of_ble_eq_true rfl, Nat.le_of_ble_eq_true rfl⟩) hK (bf_right hI) 0 3 rfl rfl rfl rfl hl.1 (Nat.le_of_ble_eq_true rfl) dL_law_240 ⟨by show _ ≤ 600000; omega, by show _ ≤ 7302249; omega⟩) hI hA (fun r_2 u_2 H locs eu_2 hI => ?_)
  obtain ⟨er_2, eu_2⟩ := eu_2
  subst er_2
  subst eu_2
  refine lv_icmp_eq (tgt := 728) hx hb dL_law_243 (by decide) (fun _ => ?_) (fun q_9 => absurd ((rl_mpro hR (xs (i + 1)) (xs (i + 2)) ((((xs (i + 3)).toInt64) <<< ((nI 32).toInt64 &&& 63)) ||| (((xs (i + 4)).toInt64) &&& 4294967295))).1) q_9)
  refine W.widen (k := cells + 5) (n := slots + 46) (by omega) (by omega) ?_
  exact kk ba km _ _ H locs (rl_mpro hR (xs (i + 1)) (xs (i + 2)) ((((xs (i + 3)).toInt64) <<< ((nI 32).toInt64 &&& 63)) ||| (((xs (i + 4)).toInt64) &&& 4294967295))).2 hI
set_option maxHeartbeats 4000000 in
set_option maxRecDepth 100000 in
theorem lc_again {p : Program} (l : Launch) {e : Env} {s : State} {m : MethodId} {below : List Frame} {meth : Method} {c0 : Code} {H : Heap} {locs : List Loc} {cells slots : Nat} {Q : State → Prop} {A : Nat → Prop} {D : va_G} {c : bh_C} {b L : Nat} {xs : Nat → Int32} {hC hM : Nat} {adC adM : Nat → Nat} {ba : Nat → Nat → Nat} {nv km i : Nat} {C : cS} {S : mS} {ls : Array Slot} (G : bl_G p s m c0 A b L xs D c) (hi : i + 5 ≤ L) (hl : lv_has ls 4 [(0, .ref b), (1, .ref hC), (2, .ref hM), (3, .int (nI i))]) (hR : Rl nv km C S) (hI : bh_I D (bh_cw hC adC ba c nv km C ++ bh_mw hM adM c S) A s.heap H locs) (hcl : cells + 5 ≤ 600000) (hsl : slots + 46 ≤ 7302249) (kk : ∀ (ba : Nat → Nat → Nat) (km : Nat) (C : cS) (S : mS) (H : Heap) (locs : List Loc), Rl nv km C S → bh_I D (bh_cw hC adC ba c nv km C ++ bh_mw hM adM c S) A s.heap H locs → W p l e room_1 s m #[Value.ref b] below meth c0 H locs (cells + 5) (slots + 46) Q (F0 m 728 ls [])) : W p l e room_1 s m #[Value.ref b] below meth c0 H locs cells slots Q (F0 m 248 ls []) := by
  obtain ⟨hx, hb, hml, hown, hts, hX, hbl, hK, hA, hbA, hL⟩ := G
  have hn := hR.1.2.1.2.1
  have hk := hR.1.2.1.2.2.1
  have ha := hR.1.2.1.2.2.2
  have mn := rl_m0 hR
  have mk := rl_m18 hR
  have ma := rl_m28 hR
  refine lv_aload_n hx hb dL_law_248 rfl (lv_at hl 1 rfl) ?_
  refine lv_aload_n hx hb dL_law_249 rfl (lv_at hl 0 rfl) ?_
  refine lv_iload_n hx hb dL_law_250 rfl (lv_at hl 3 rfl) ?_
  refine lv_iconst (v := nI 1) hx hb dL_law_251 (by decide) ?_
  refine bn_iadd hx hb dL_law_252 ?_
  refine bl_sld (j := (i + 1)) hx hb hX hbl hbA hI.2.2 (by omega) (by omega) dL_law_253 ?_
  have hI2 := bf_swap hI
  refine bm_fri (mc := 0) (ms := 0) (wa := bh_mw hM adM c S) (wc := bh_cw hC adC ba c nv km C) (bm_muV (mc := 0) (ms := 0) (As := [.int (xs (i + 1))]) (rest := []) ⟨hx, hb, hml, hown, hts⟩ (cc_again l D c hC adC ba nv km H.size C (xs (i + 1)) ha hn hk) (cwV 1 hts gL_law_X3_again rfl rfl rfl (by decide +kernel) ⟨Nat.le_of_ble_eq_true rfl, Nat.le_of_ble_eq_true rfl⟩) hK (bf_right hI2) 0 2 rfl rfl rfl rfl hl.1 (Nat.le_of_ble_eq_true rfl) dL_law_254 ⟨by show _ ≤ 600000; omega, by show _ ≤ 7302249; omega⟩) hI2 hA (fun r_1 u_1 H locs eu_1 hI => ?_)
  obtain ⟨er_1, eu_1⟩ := eu_1
  subst er_1
  subst eu_1
  have hI : bh_I D (bh_cw hC adC ba c nv km (bc_magn C nv km (xs (i + 1))).2 ++ bh_mw hM adM c S) A s.heap H locs := bf_swap hI
  refine lv_aload_n hx hb dL_law_257 rfl (lv_at hl 2 rfl) ?_
  refine lv_aload_n hx hb dL_law_258 rfl (lv_at hl 0 rfl) ?_
  refine lv_iload_n hx hb dL_law_259 rfl (lv_at hl 3 rfl) ?_
  refine lv_iconst (v := nI 1) hx hb dL_law_260 (by decide) ?_
  refine bn_iadd hx hb dL_law_261 ?_
  refine bl_sld (j := (i + 1)) hx hb hX hbl hbA hI.2.2 (by omega) (by omega) dL_law_262 ?_
  refine bm_fri (mc := 0) (ms := 0) (wa := bh_cw hC adC ba c nv km (bc_magn C nv km (xs (i + 1))).2) (wc := bh_mw hM adM c S) (bm_muV (mc := 0) (ms := 0) (As := [.int (xs (i + 1))]) (rest := [.int ((bc_magn C nv km (xs (i + 1))).1)]) ⟨hx, hb, hml, hown, hts⟩ (cm_again l D c hM adM H.size S (xs (i + 1)) ma mn mk (rl_mgb hR)) (cwV 1 hts gL_law_X4_again rfl rfl rfl (by decide +kernel) ⟨Nat.le_of_ble_eq_true rfl, Nat.le_of_ble_eq_true rfl⟩) hK (bf_right hI) 0 3 rfl rfl rfl rfl hl.1 (Nat.le_of_ble_eq_true rfl) dL_law_263 ⟨by show _ ≤ 600000; omega, by show _ ≤ 7302249; omega⟩) hI hA (fun r_2 u_2 H locs eu_2 hI => ?_)
  obtain ⟨er_2, eu_2⟩ := eu_2
  subst er_2
  subst eu_2
  refine lv_icmp_eq (tgt := 728) hx hb dL_law_266 (by decide) (fun _ => ?_) (fun q_9 => absurd ((rl_magn hR (xs (i + 1))).1) q_9)
  refine W.widen (k := cells + 5) (n := slots + 46) (by omega) (by omega) ?_
  exact kk ba km _ _ H locs (rl_magn hR (xs (i + 1))).2 hI
set_option maxHeartbeats 4000000 in
set_option maxRecDepth 100000 in
theorem lc_deliver {p : Program} (l : Launch) {e : Env} {s : State} {m : MethodId} {below : List Frame} {meth : Method} {c0 : Code} {H : Heap} {locs : List Loc} {cells slots : Nat} {Q : State → Prop} {A : Nat → Prop} {D : va_G} {c : bh_C} {b L : Nat} {xs : Nat → Int32} {hC hM : Nat} {adC adM : Nat → Nat} {ba : Nat → Nat → Nat} {nv km i : Nat} {C : cS} {S : mS} {ls : Array Slot} (G : bl_G p s m c0 A b L xs D c) (hi : i + 5 ≤ L) (hl : lv_has ls 4 [(0, .ref b), (1, .ref hC), (2, .ref hM), (3, .int (nI i))]) (hR : Rl nv km C S) (hI : bh_I D (bh_cw hC adC ba c nv km C ++ bh_mw hM adM c S) A s.heap H locs) (hcl : cells + 5 ≤ 600000) (hsl : slots + 46 ≤ 7302249) (kk : ∀ (ba : Nat → Nat → Nat) (km : Nat) (C : cS) (S : mS) (H : Heap) (locs : List Loc), Rl nv km C S → bh_I D (bh_cw hC adC ba c nv km C ++ bh_mw hM adM c S) A s.heap H locs → W p l e room_1 s m #[Value.ref b] below meth c0 H locs (cells + 5) (slots + 46) Q (F0 m 728 ls [])) : W p l e room_1 s m #[Value.ref b] below meth c0 H locs cells slots Q (F0 m 271 ls []) := by
  obtain ⟨hx, hb, hml, hown, hts, hX, hbl, hK, hA, hbA, hL⟩ := G
  have hn := hR.1.2.1.2.1
  have hk := hR.1.2.1.2.2.1
  have ha := hR.1.2.1.2.2.2
  have mn := rl_m0 hR
  have mk := rl_m18 hR
  have ma := rl_m28 hR
  refine lv_aload_n hx hb dL_law_271 rfl (lv_at hl 1 rfl) ?_
  refine lv_aload_n hx hb dL_law_272 rfl (lv_at hl 0 rfl) ?_
  refine lv_iload_n hx hb dL_law_273 rfl (lv_at hl 3 rfl) ?_
  refine lv_iconst (v := nI 1) hx hb dL_law_274 (by decide) ?_
  refine bn_iadd hx hb dL_law_275 ?_
  refine bl_sld (j := (i + 1)) hx hb hX hbl hbA hI.2.2 (by omega) (by omega) dL_law_276 ?_
  have hI2 := bf_swap hI
  refine bm_fri (mc := 0) (ms := 0) (wa := bh_mw hM adM c S) (wc := bh_cw hC adC ba c nv km C) (bm_muV (mc := 0) (ms := 0) (As := [.int (xs (i + 1))]) (rest := []) ⟨hx, hb, hml, hown, hts⟩ (cc_deliver l D c hC adC ba nv km H.size C (xs (i + 1)) ha hn hk (fun k hk => rl_lokC hR hk)) (cwV 1 hts gL_law_X3_deliver rfl rfl rfl (by decide +kernel) ⟨Nat.le_of_ble_eq_true rfl, Nat.le_of_ble_eq_true rfl⟩) hK (bf_right hI2) 0 2 rfl rfl rfl rfl hl.1 (Nat.le_of_ble_eq_true rfl) dL_law_277 ⟨by show _ ≤ 600000; omega, by show _ ≤ 7302249; omega⟩) hI2 hA (fun r_1 u_1 H locs eu_1 hI => ?_)
  obtain ⟨er_1, eu_1⟩ := eu_1
  subst er_1
  subst eu_1
  have hI : bh_I D (bh_cw hC adC ba c nv km (bc_mdel C nv km (xs (i + 1))).2 ++ bh_mw hM adM c S) A s.heap H locs := bf_swap hI
  refine lv_aload_n hx hb dL_law_280 rfl (lv_at hl 2 rfl) ?_
  refine lv_aload_n hx hb dL_law_281 rfl (lv_at hl 0 rfl) ?_
  refine lv_iload_n hx hb dL_law_282 rfl (lv_at hl 3 rfl) ?_
  refine lv_iconst (v := nI 1) hx hb dL_law_283 (by decide) ?_
  refine bn_iadd hx hb dL_law_284 ?_
  refine bl_sld (j := (i + 1)) hx hb hX hbl hbA hI.2.2 (by omega) (by omega) dL_law_285 ?_
  refine bm_fri (mc := 0) (ms := 0) (wa := bh_cw hC adC ba c nv km (bc_mdel C nv km (xs (i + 1))).2) (wc := bh_mw hM adM c S) (bm_muV (mc := 0) (ms := 0) (As := [.int (xs (i + 1))]) (rest := [.int ((bc_mdel C nv km (xs (i + 1))).1)]) ⟨hx, hb, hml, hown, hts⟩ (cw_deliver l D c hM adM H.size S (xs (i + 1)) hR) (cwV 1 hts gL_law_X4_deliver rfl rfl rfl (by decide +kernel) ⟨Nat.le_of_ble_eq_true rfl, Nat.le_of_ble_eq_true rfl⟩) hK (bf_right hI) 0 3 rfl rfl rfl rfl hl.1 (Nat.le_of_ble_eq_true rfl) dL_law_286 ⟨by show _ ≤ 600000; omega, by show _ ≤ 7302249; omega⟩) hI hA (fun r_2 u_2 H locs eu_2 hI => ?_)
  obtain ⟨er_2, eu_2⟩ := eu_2
  subst er_2
  subst eu_2
  refine lv_icmp_eq (tgt := 728) hx hb dL_law_289 (by decide) (fun _ => ?_) (fun q_9 => absurd ((rl_mdel hR (xs (i + 1))).1) q_9)
  refine W.widen (k := cells + 5) (n := slots + 46) (by omega) (by omega) ?_
  exact kk ba km _ _ H locs (rl_mdel hR (xs (i + 1))).2 hI
set_option maxHeartbeats 4000000 in
set_option maxRecDepth 100000 in
theorem lc_settle {p : Program} (l : Launch) {e : Env} {s : State} {m : MethodId} {below : List Frame} {meth : Method} {c0 : Code} {H : Heap} {locs : List Loc} {cells slots : Nat} {Q : State → Prop} {A : Nat → Prop} {D : va_G} {c : bh_C} {b L : Nat} {xs : Nat → Int32} {hC hM : Nat} {adC adM : Nat → Nat} {ba : Nat → Nat → Nat} {nv km i : Nat} {C : cS} {S : mS} {ls : Array Slot} (G : bl_G p s m c0 A b L xs D c) (hi : i + 5 ≤ L) (hl : lv_has ls 4 [(0, .ref b), (1, .ref hC), (2, .ref hM), (3, .int (nI i))]) (hR : Rl nv km C S) (hI : bh_I D (bh_cw hC adC ba c nv km C ++ bh_mw hM adM c S) A s.heap H locs) (hcl : cells + 5 ≤ 600000) (hsl : slots + 46 ≤ 7302249) (kk : ∀ (ba : Nat → Nat → Nat) (km : Nat) (C : cS) (S : mS) (H : Heap) (locs : List Loc), Rl nv km C S → bh_I D (bh_cw hC adC ba c nv km C ++ bh_mw hM adM c S) A s.heap H locs → W p l e room_1 s m #[Value.ref b] below meth c0 H locs (cells + 5) (slots + 46) Q (F0 m 728 ls [])) : W p l e room_1 s m #[Value.ref b] below meth c0 H locs cells slots Q (F0 m 294 ls []) := by
  obtain ⟨hx, hb, hml, hown, hts, hX, hbl, hK, hA, hbA, hL⟩ := G
  have hn := hR.1.2.1.2.1
  have hk := hR.1.2.1.2.2.1
  have ha := hR.1.2.1.2.2.2
  have mn := rl_m0 hR
  have mk := rl_m18 hR
  have ma := rl_m28 hR
  refine lv_aload_n hx hb dL_law_294 rfl (lv_at hl 1 rfl) ?_
  refine lv_aload_n hx hb dL_law_295 rfl (lv_at hl 0 rfl) ?_
  refine lv_iload_n hx hb dL_law_296 rfl (lv_at hl 3 rfl) ?_
  refine lv_iconst (v := nI 1) hx hb dL_law_297 (by decide) ?_
  refine bn_iadd hx hb dL_law_298 ?_
  refine bl_sld (j := (i + 1)) hx hb hX hbl hbA hI.2.2 (by omega) (by omega) dL_law_299 ?_
  have hI2 := bf_swap hI
  refine bm_fri (mc := 0) (ms := 0) (wa := bh_mw hM adM c S) (wc := bh_cw hC adC ba c nv km C) (bm_muV (mc := 0) (ms := 0) (As := [.int (xs (i + 1))]) (rest := []) ⟨hx, hb, hml, hown, hts⟩ (cx_settle l D c hC adC ba nv km H.size C (xs (i + 1)) hR) (cwV 1 hts gL_law_X3_settle rfl rfl rfl (by decide +kernel) ⟨Nat.le_of_ble_eq_true rfl, Nat.le_of_ble_eq_true rfl⟩) hK (bf_right hI2) 0 2 rfl rfl rfl rfl hl.1 (Nat.le_of_ble_eq_true rfl) dL_law_300 ⟨by show _ ≤ 600000; omega, by show _ ≤ 7302249; omega⟩) hI2 hA (fun r_1 u_1 H locs eu_1 hI => ?_)
  obtain ⟨er_1, eu_1⟩ := eu_1
  subst er_1
  subst eu_1
  have hI : bh_I D (bh_cw hC adC ba c nv km (bc_mstl C nv km (xs (i + 1))).2 ++ bh_mw hM adM c S) A s.heap H locs := bf_swap hI
  refine lv_aload_n hx hb dL_law_303 rfl (lv_at hl 2 rfl) ?_
  refine lv_aload_n hx hb dL_law_304 rfl (lv_at hl 0 rfl) ?_
  refine lv_iload_n hx hb dL_law_305 rfl (lv_at hl 3 rfl) ?_
  refine lv_iconst (v := nI 1) hx hb dL_law_306 (by decide) ?_
  refine bn_iadd hx hb dL_law_307 ?_
  refine bl_sld (j := (i + 1)) hx hb hX hbl hbA hI.2.2 (by omega) (by omega) dL_law_308 ?_
  refine bm_fri (mc := 0) (ms := 0) (wa := bh_cw hC adC ba c nv km (bc_mstl C nv km (xs (i + 1))).2) (wc := bh_mw hM adM c S) (bm_muV (mc := 0) (ms := 0) (As := [.int (xs (i + 1))]) (rest := [.int ((bc_mstl C nv km (xs (i + 1))).1)]) ⟨hx, hb, hml, hown, hts⟩ (cw_settle l D c hM adM H.size S (xs (i + 1)) hR) (cwV 1 hts gL_law_X4_settle rfl rfl rfl (by decide +kernel) ⟨Nat.le_of_ble_eq_true rfl, Nat.le_of_ble_eq_true rfl⟩) hK (bf_right hI) 0 3 rfl rfl rfl rfl hl.1 (Nat.le_of_ble_eq_true rfl) dL_law_309 ⟨by show _ ≤ 600000; omega, by show _ ≤ 7302249; omega⟩) hI hA (fun r_2 u_2 H locs eu_2 hI => ?_)
  obtain ⟨er_2, eu_2⟩ := eu_2
  subst er_2
  subst eu_2
  refine lv_icmp_eq (tgt := 728) hx hb dL_law_312 (by decide) (fun _ => ?_) (fun q_9 => absurd ((rl_mstl hR (xs (i + 1))).1) q_9)
  refine W.widen (k := cells + 5) (n := slots + 46) (by omega) (by omega) ?_
  exact kk ba km _ _ H locs (rl_mstl hR (xs (i + 1))).2 hI
set_option maxHeartbeats 4000000 in
set_option maxRecDepth 100000 in
theorem lc_lose {p : Program} (l : Launch) {e : Env} {s : State} {m : MethodId} {below : List Frame} {meth : Method} {c0 : Code} {H : Heap} {locs : List Loc} {cells slots : Nat} {Q : State → Prop} {A : Nat → Prop} {D : va_G} {c : bh_C} {b L : Nat} {xs : Nat → Int32} {hC hM : Nat} {adC adM : Nat → Nat} {ba : Nat → Nat → Nat} {nv km i : Nat} {C : cS} {S : mS} {ls : Array Slot} (G : bl_G p s m c0 A b L xs D c) (hi : i + 5 ≤ L) (hl : lv_has ls 4 [(0, .ref b), (1, .ref hC), (2, .ref hM), (3, .int (nI i))]) (hR : Rl nv km C S) (hI : bh_I D (bh_cw hC adC ba c nv km C ++ bh_mw hM adM c S) A s.heap H locs) (hcl : cells + 5 ≤ 600000) (hsl : slots + 46 ≤ 7302249) (kk : ∀ (ba : Nat → Nat → Nat) (km : Nat) (C : cS) (S : mS) (H : Heap) (locs : List Loc), Rl nv km C S → bh_I D (bh_cw hC adC ba c nv km C ++ bh_mw hM adM c S) A s.heap H locs → W p l e room_1 s m #[Value.ref b] below meth c0 H locs (cells + 5) (slots + 46) Q (F0 m 728 ls [])) : W p l e room_1 s m #[Value.ref b] below meth c0 H locs cells slots Q (F0 m 317 ls []) := by
  obtain ⟨hx, hb, hml, hown, hts, hX, hbl, hK, hA, hbA, hL⟩ := G
  have hn := hR.1.2.1.2.1
  have hk := hR.1.2.1.2.2.1
  have ha := hR.1.2.1.2.2.2
  have mn := rl_m0 hR
  have mk := rl_m18 hR
  have ma := rl_m28 hR
  refine lv_aload_n hx hb dL_law_317 rfl (lv_at hl 1 rfl) ?_
  refine lv_aload_n hx hb dL_law_318 rfl (lv_at hl 0 rfl) ?_
  refine lv_iload_n hx hb dL_law_319 rfl (lv_at hl 3 rfl) ?_
  refine lv_iconst (v := nI 1) hx hb dL_law_320 (by decide) ?_
  refine bn_iadd hx hb dL_law_321 ?_
  refine bl_sld (j := (i + 1)) hx hb hX hbl hbA hI.2.2 (by omega) (by omega) dL_law_322 ?_
  have hI2 := bf_swap hI
  refine bm_fri (mc := 0) (ms := 0) (wa := bh_mw hM adM c S) (wc := bh_cw hC adC ba c nv km C) (bm_muV (mc := 0) (ms := 0) (As := [.int (xs (i + 1))]) (rest := []) ⟨hx, hb, hml, hown, hts⟩ (cc_lose l D c hC adC ba nv km H.size C (xs (i + 1)) ha) (cwV 1 hts gL_law_X3_lose rfl rfl rfl (by decide +kernel) ⟨Nat.le_of_ble_eq_true rfl, Nat.le_of_ble_eq_true rfl⟩) hK (bf_right hI2) 0 2 rfl rfl rfl rfl hl.1 (Nat.le_of_ble_eq_true rfl) dL_law_323 ⟨by show _ ≤ 600000; omega, by show _ ≤ 7302249; omega⟩) hI2 hA (fun r_1 u_1 H locs eu_1 hI => ?_)
  obtain ⟨er_1, eu_1⟩ := eu_1
  subst er_1
  subst eu_1
  have hI : bh_I D (bh_cw hC adC ba c nv km (bc_mlose C (xs (i + 1))).2 ++ bh_mw hM adM c S) A s.heap H locs := bf_swap hI
  refine lv_aload_n hx hb dL_law_326 rfl (lv_at hl 2 rfl) ?_
  refine lv_aload_n hx hb dL_law_327 rfl (lv_at hl 0 rfl) ?_
  refine lv_iload_n hx hb dL_law_328 rfl (lv_at hl 3 rfl) ?_
  refine lv_iconst (v := nI 1) hx hb dL_law_329 (by decide) ?_
  refine bn_iadd hx hb dL_law_330 ?_
  refine bl_sld (j := (i + 1)) hx hb hX hbl hbA hI.2.2 (by omega) (by omega) dL_law_331 ?_
  refine bm_fri (mc := 0) (ms := 0) (wa := bh_cw hC adC ba c nv km (bc_mlose C (xs (i + 1))).2) (wc := bh_mw hM adM c S) (bm_muV (mc := 0) (ms := 0) (As := [.int (xs (i + 1))]) (rest := [.int ((bc_mlose C (xs (i + 1))).1)]) ⟨hx, hb, hml, hown, hts⟩ (cm_lose l D c hM adM H.size S (xs (i + 1)) ma) (cwV 1 hts gL_law_X4_lose rfl rfl rfl (by decide +kernel) ⟨Nat.le_of_ble_eq_true rfl, Nat.le_of_ble_eq_true rfl⟩) hK (bf_right hI) 0 3 rfl rfl rfl rfl hl.1 (Nat.le_of_ble_eq_true rfl) dL_law_332 ⟨by show _ ≤ 600000; omega, by show _ ≤ 7302249; omega⟩) hI hA (fun r_2 u_2 H locs eu_2 hI => ?_)
  obtain ⟨er_2, eu_2⟩ := eu_2
  subst er_2
  subst eu_2
  refine lv_icmp_eq (tgt := 728) hx hb dL_law_335 (by decide) (fun _ => ?_) (fun q_9 => absurd ((rl_mlose hR (xs (i + 1))).1) q_9)
  refine W.widen (k := cells + 5) (n := slots + 46) (by omega) (by omega) ?_
  exact kk ba km _ _ H locs (rl_mlose hR (xs (i + 1))).2 hI
set_option maxHeartbeats 4000000 in
set_option maxRecDepth 100000 in
theorem lc_twice {p : Program} (l : Launch) {e : Env} {s : State} {m : MethodId} {below : List Frame} {meth : Method} {c0 : Code} {H : Heap} {locs : List Loc} {cells slots : Nat} {Q : State → Prop} {A : Nat → Prop} {D : va_G} {c : bh_C} {b L : Nat} {xs : Nat → Int32} {hC hM : Nat} {adC adM : Nat → Nat} {ba : Nat → Nat → Nat} {nv km i : Nat} {C : cS} {S : mS} {ls : Array Slot} (G : bl_G p s m c0 A b L xs D c) (hi : i + 5 ≤ L) (hl : lv_has ls 4 [(0, .ref b), (1, .ref hC), (2, .ref hM), (3, .int (nI i))]) (hR : Rl nv km C S) (hI : bh_I D (bh_cw hC adC ba c nv km C ++ bh_mw hM adM c S) A s.heap H locs) (hcl : cells + 5 ≤ 600000) (hsl : slots + 46 ≤ 7302249) (kk : ∀ (ba : Nat → Nat → Nat) (km : Nat) (C : cS) (S : mS) (H : Heap) (locs : List Loc), Rl nv km C S → bh_I D (bh_cw hC adC ba c nv km C ++ bh_mw hM adM c S) A s.heap H locs → W p l e room_1 s m #[Value.ref b] below meth c0 H locs (cells + 5) (slots + 46) Q (F0 m 728 ls [])) : W p l e room_1 s m #[Value.ref b] below meth c0 H locs cells slots Q (F0 m 340 ls []) := by
  obtain ⟨hx, hb, hml, hown, hts, hX, hbl, hK, hA, hbA, hL⟩ := G
  have hn := hR.1.2.1.2.1
  have hk := hR.1.2.1.2.2.1
  have ha := hR.1.2.1.2.2.2
  have mn := rl_m0 hR
  have mk := rl_m18 hR
  have ma := rl_m28 hR
  refine lv_aload_n hx hb dL_law_340 rfl (lv_at hl 1 rfl) ?_
  refine lv_aload_n hx hb dL_law_341 rfl (lv_at hl 0 rfl) ?_
  refine lv_iload_n hx hb dL_law_342 rfl (lv_at hl 3 rfl) ?_
  refine lv_iconst (v := nI 1) hx hb dL_law_343 (by decide) ?_
  refine bn_iadd hx hb dL_law_344 ?_
  refine bl_sld (j := (i + 1)) hx hb hX hbl hbA hI.2.2 (by omega) (by omega) dL_law_345 ?_
  have hI2 := bf_swap hI
  refine bm_fri (mc := 0) (ms := 0) (wa := bh_mw hM adM c S) (wc := bh_cw hC adC ba c nv km C) (bm_muV (mc := 0) (ms := 0) (As := [.int (xs (i + 1))]) (rest := []) ⟨hx, hb, hml, hown, hts⟩ (cc_twice l D c hC adC ba nv km H.size C (xs (i + 1)) ha) (cwV 1 hts gL_law_X3_twice rfl rfl rfl (by decide +kernel) ⟨Nat.le_of_ble_eq_true rfl, Nat.le_of_ble_eq_true rfl⟩) hK (bf_right hI2) 0 2 rfl rfl rfl rfl hl.1 (Nat.le_of_ble_eq_true rfl) dL_law_346 ⟨by show _ ≤ 600000; omega, by show _ ≤ 7302249; omega⟩) hI2 hA (fun r_1 u_1 H locs eu_1 hI => ?_)
  obtain ⟨er_1, eu_1⟩ := eu_1
  subst er_1
  subst eu_1
  have hI : bh_I D (bh_cw hC adC ba c nv km (bc_mtw C (xs (i + 1))).2 ++ bh_mw hM adM c S) A s.heap H locs := bf_swap hI
  refine lv_aload_n hx hb dL_law_349 rfl (lv_at hl 2 rfl) ?_
  refine lv_aload_n hx hb dL_law_350 rfl (lv_at hl 0 rfl) ?_
  refine lv_iload_n hx hb dL_law_351 rfl (lv_at hl 3 rfl) ?_
  refine lv_iconst (v := nI 1) hx hb dL_law_352 (by decide) ?_
  refine bn_iadd hx hb dL_law_353 ?_
  refine bl_sld (j := (i + 1)) hx hb hX hbl hbA hI.2.2 (by omega) (by omega) dL_law_354 ?_
  refine bm_fri (mc := 0) (ms := 0) (wa := bh_cw hC adC ba c nv km (bc_mtw C (xs (i + 1))).2) (wc := bh_mw hM adM c S) (bm_muV (mc := 0) (ms := 0) (As := [.int (xs (i + 1))]) (rest := [.int ((bc_mtw C (xs (i + 1))).1)]) ⟨hx, hb, hml, hown, hts⟩ (cm_twice l D c hM adM H.size S (xs (i + 1)) ma) (cwV 1 hts gL_law_X4_twice rfl rfl rfl (by decide +kernel) ⟨Nat.le_of_ble_eq_true rfl, Nat.le_of_ble_eq_true rfl⟩) hK (bf_right hI) 0 3 rfl rfl rfl rfl hl.1 (Nat.le_of_ble_eq_true rfl) dL_law_355 ⟨by show _ ≤ 600000; omega, by show _ ≤ 7302249; omega⟩) hI hA (fun r_2 u_2 H locs eu_2 hI => ?_)
  obtain ⟨er_2, eu_2⟩ := eu_2
  subst er_2
  subst eu_2
  refine lv_icmp_eq (tgt := 728) hx hb dL_law_358 (by decide) (fun _ => ?_) (fun q_9 => absurd ((rl_mtw hR (xs (i + 1))).1) q_9)
  refine W.widen (k := cells + 5) (n := slots + 46) (by omega) (by omega) ?_
  exact kk ba km _ _ H locs (rl_mtw hR (xs (i + 1))).2 hI
set_option maxHeartbeats 4000000 in
set_option maxRecDepth 100000 in
theorem lc_silent {p : Program} (l : Launch) {e : Env} {s : State} {m : MethodId} {below : List Frame} {meth : Method} {c0 : Code} {H : Heap} {locs : List Loc} {cells slots : Nat} {Q : State → Prop} {A : Nat → Prop} {D : va_G} {c : bh_C} {b L : Nat} {xs : Nat → Int32} {hC hM : Nat} {adC adM : Nat → Nat} {ba : Nat → Nat → Nat} {nv km i : Nat} {C : cS} {S : mS} {ls : Array Slot} (G : bl_G p s m c0 A b L xs D c) (hi : i + 5 ≤ L) (hl : lv_has ls 4 [(0, .ref b), (1, .ref hC), (2, .ref hM), (3, .int (nI i))]) (hR : Rl nv km C S) (hI : bh_I D (bh_cw hC adC ba c nv km C ++ bh_mw hM adM c S) A s.heap H locs) (hcl : cells + 5 ≤ 600000) (hsl : slots + 46 ≤ 7302249) (kk : ∀ (ba : Nat → Nat → Nat) (km : Nat) (C : cS) (S : mS) (H : Heap) (locs : List Loc), Rl nv km C S → bh_I D (bh_cw hC adC ba c nv km C ++ bh_mw hM adM c S) A s.heap H locs → W p l e room_1 s m #[Value.ref b] below meth c0 H locs (cells + 5) (slots + 46) Q (F0 m 728 ls [])) : W p l e room_1 s m #[Value.ref b] below meth c0 H locs cells slots Q (F0 m 363 ls []) := by
  obtain ⟨hx, hb, hml, hown, hts, hX, hbl, hK, hA, hbA, hL⟩ := G
  have hn := hR.1.2.1.2.1
  have hk := hR.1.2.1.2.2.1
  have ha := hR.1.2.1.2.2.2
  have mn := rl_m0 hR
  have mk := rl_m18 hR
  have ma := rl_m28 hR
  refine lv_aload_n hx hb dL_law_363 rfl (lv_at hl 1 rfl) ?_
  refine lv_aload_n hx hb dL_law_364 rfl (lv_at hl 0 rfl) ?_
  refine lv_iload_n hx hb dL_law_365 rfl (lv_at hl 3 rfl) ?_
  refine lv_iconst (v := nI 1) hx hb dL_law_366 (by decide) ?_
  refine bn_iadd hx hb dL_law_367 ?_
  refine bl_sld (j := (i + 1)) hx hb hX hbl hbA hI.2.2 (by omega) (by omega) dL_law_368 ?_
  refine lv_aload_n hx hb dL_law_369 rfl (lv_at hl 0 rfl) ?_
  refine lv_iload_n hx hb dL_law_370 rfl (lv_at hl 3 rfl) ?_
  refine lv_iconst (v := nI 2) hx hb dL_law_371 (by decide) ?_
  refine bn_iadd hx hb dL_law_372 ?_
  refine bl_sld (j := (i + 2)) hx hb hX hbl hbA hI.2.2 (by omega) (by omega) dL_law_373 ?_
  refine lv_if_eq (tgt := 381) hx hb dL_law_374 (by decide) (fun c_1 => ?_) (fun c_1 => ?_)
  · have q_7 := c_1
    refine lv_iconst (v := nI 0) hx hb dL_law_381 (by decide) ?_
    have hI2 := bf_swap hI
    refine bm_fri (mc := 0) (ms := 0) (wa := bh_mw hM adM c S) (wc := bh_cw hC adC ba c nv km C) (bm_muV (mc := 0) (ms := 0) (As := [.int (xs (i + 1)), .int (nI 0)]) (rest := []) ⟨hx, hb, hml, hown, hts⟩ (cc_silent l D c hC adC ba nv km H.size C (xs (i + 1)) (nI 0) hn) (cwV 2 hts gL_law_X3_silent rfl rfl rfl (by decide +kernel) ⟨Nat.le_of_ble_eq_true rfl, Nat.le_of_ble_eq_true rfl⟩) hK (bf_right hI2) 0 2 rfl rfl rfl rfl hl.1 (Nat.le_of_ble_eq_true rfl) dL_law_382 ⟨by show _ ≤ 600000; omega, by show _ ≤ 7302249; omega⟩) hI2 hA (fun r_1 u_1 H locs eu_1 hI => ?_)
    obtain ⟨er_1, eu_1⟩ := eu_1
    subst er_1
    subst eu_1
    have hI : bh_I D (bh_cw hC adC ba c nv km (bc_msil C nv (xs (i + 1)) (nI 0)).2 ++ bh_mw hM adM c S) A s.heap H locs := bf_swap hI
    refine lv_aload_n hx hb dL_law_385 rfl (lv_at hl 2 rfl) ?_
    refine lv_aload_n hx hb dL_law_386 rfl (lv_at hl 0 rfl) ?_
    refine lv_iload_n hx hb dL_law_387 rfl (lv_at hl 3 rfl) ?_
    refine lv_iconst (v := nI 1) hx hb dL_law_388 (by decide) ?_
    refine bn_iadd hx hb dL_law_389 ?_
    refine bl_sld (j := (i + 1)) hx hb hX hbl hbA hI.2.2 (by omega) (by omega) dL_law_390 ?_
    refine lv_aload_n hx hb dL_law_391 rfl (lv_at hl 0 rfl) ?_
    refine lv_iload_n hx hb dL_law_392 rfl (lv_at hl 3 rfl) ?_
    refine lv_iconst (v := nI 2) hx hb dL_law_393 (by decide) ?_
    refine bn_iadd hx hb dL_law_394 ?_
    refine bl_sld (j := (i + 2)) hx hb hX hbl hbA hI.2.2 (by omega) (by omega) dL_law_395 ?_
    refine lv_if_eq (tgt := 403) hx hb dL_law_396 (by decide) (fun c_2 => ?_) (fun c_2 => ?_)
    · refine lv_iconst (v := nI 0) hx hb dL_law_403 (by decide) ?_
      refine bm_fri (mc := 0) (ms := 0) (wa := bh_cw hC adC ba c nv km (bc_msil C nv (xs (i + 1)) (nI 0)).2) (wc := bh_mw hM adM c S) (bm_muV (mc := 0) (ms := 0) (As := [.int (xs (i + 1)), .int (nI 0)]) (rest := [.int ((bc_msil C nv (xs (i + 1)) (nI 0)).1)]) ⟨hx, hb, hml, hown, hts⟩ (cm_silent l D c hM adM H.size S (xs (i + 1)) (nI 0) mn (by decide)) (cwV 2 hts gL_law_X4_silent rfl rfl rfl (by decide +kernel) ⟨Nat.le_of_ble_eq_true rfl, Nat.le_of_ble_eq_true rfl⟩) hK (bf_right hI) 0 3 rfl rfl rfl rfl hl.1 (Nat.le_of_ble_eq_true rfl) dL_law_404 ⟨by show _ ≤ 600000; omega, by show _ ≤ 7302249; omega⟩) hI hA (fun r_2 u_2 H locs eu_2 hI => ?_)
      obtain ⟨er_2, eu_2⟩ := eu_2
      subst er_2
      subst eu_2
      refine lv_icmp_eq (tgt := 728) hx hb dL_law_407 (by decide) (fun _ => ?_) (fun q_9 => absurd ((rl_msil hR (xs (i + 1)) (nI 0)).1) q_9)
      refine W.widen (k := cells + 5) (n := slots + 46) (by omega) (by omega) ?_
      exact kk ba km _ _ H locs (rl_msil hR (xs (i + 1)) (nI 0)).2 hI
    · exact absurd q_7 c_2
  · have q_7 := c_1
    refine lv_iconst (v := nI 1) hx hb dL_law_377 (by decide) ?_
    refine lv_goto (tgt := 382) hx hb dL_law_378 (by decide) ?_
    have hI2 := bf_swap hI
    refine bm_fri (mc := 0) (ms := 0) (wa := bh_mw hM adM c S) (wc := bh_cw hC adC ba c nv km C) (bm_muV (mc := 0) (ms := 0) (As := [.int (xs (i + 1)), .int (nI 1)]) (rest := []) ⟨hx, hb, hml, hown, hts⟩ (cc_silent l D c hC adC ba nv km H.size C (xs (i + 1)) (nI 1) hn) (cwV 2 hts gL_law_X3_silent rfl rfl rfl (by decide +kernel) ⟨Nat.le_of_ble_eq_true rfl, Nat.le_of_ble_eq_true rfl⟩) hK (bf_right hI2) 0 2 rfl rfl rfl rfl hl.1 (Nat.le_of_ble_eq_true rfl) dL_law_382 ⟨by show _ ≤ 600000; omega, by show _ ≤ 7302249; omega⟩) hI2 hA (fun r_1 u_1 H locs eu_1 hI => ?_)
    obtain ⟨er_1, eu_1⟩ := eu_1
    subst er_1
    subst eu_1
    have hI : bh_I D (bh_cw hC adC ba c nv km (bc_msil C nv (xs (i + 1)) (nI 1)).2 ++ bh_mw hM adM c S) A s.heap H locs := bf_swap hI
    refine lv_aload_n hx hb dL_law_385 rfl (lv_at hl 2 rfl) ?_
    refine lv_aload_n hx hb dL_law_386 rfl (lv_at hl 0 rfl) ?_
    refine lv_iload_n hx hb dL_law_387 rfl (lv_at hl 3 rfl) ?_
    refine lv_iconst (v := nI 1) hx hb dL_law_388 (by decide) ?_
    refine bn_iadd hx hb dL_law_389 ?_
    refine bl_sld (j := (i + 1)) hx hb hX hbl hbA hI.2.2 (by omega) (by omega) dL_law_390 ?_
    refine lv_aload_n hx hb dL_law_391 rfl (lv_at hl 0 rfl) ?_
    refine lv_iload_n hx hb dL_law_392 rfl (lv_at hl 3 rfl) ?_
    refine lv_iconst (v := nI 2) hx hb dL_law_393 (by decide) ?_
    refine bn_iadd hx hb dL_law_394 ?_
    refine bl_sld (j := (i + 2)) hx hb hX hbl hbA hI.2.2 (by omega) (by omega) dL_law_395 ?_
    refine lv_if_eq (tgt := 403) hx hb dL_law_396 (by decide) (fun c_3 => ?_) (fun c_3 => ?_)
    · exact absurd c_3 q_7
    · refine lv_iconst (v := nI 1) hx hb dL_law_399 (by decide) ?_
      refine lv_goto (tgt := 404) hx hb dL_law_400 (by decide) ?_
      refine bm_fri (mc := 0) (ms := 0) (wa := bh_cw hC adC ba c nv km (bc_msil C nv (xs (i + 1)) (nI 1)).2) (wc := bh_mw hM adM c S) (bm_muV (mc := 0) (ms := 0) (As := [.int (xs (i + 1)), .int (nI 1)]) (rest := [.int ((bc_msil C nv (xs (i + 1)) (nI 1)).1)]) ⟨hx, hb, hml, hown, hts⟩ (cm_silent l D c hM adM H.size S (xs (i + 1)) (nI 1) mn (by decide)) (cwV 2 hts gL_law_X4_silent rfl rfl rfl (by decide +kernel) ⟨Nat.le_of_ble_eq_true rfl, Nat.le_of_ble_eq_true rfl⟩) hK (bf_right hI) 0 3 rfl rfl rfl rfl hl.1 (Nat.le_of_ble_eq_true rfl) dL_law_404 ⟨by show _ ≤ 600000; omega, by show _ ≤ 7302249; omega⟩) hI hA (fun r_2 u_2 H locs eu_2 hI => ?_)
      obtain ⟨er_2, eu_2⟩ := eu_2
      subst er_2
      subst eu_2
      refine lv_icmp_eq (tgt := 728) hx hb dL_law_407 (by decide) (fun _ => ?_) (fun q_9 => absurd ((rl_msil hR (xs (i + 1)) (nI 1)).1) q_9)
      refine W.widen (k := cells + 5) (n := slots + 46) (by omega) (by omega) ?_
      exact kk ba km _ _ H locs (rl_msil hR (xs (i + 1)) (nI 1)).2 hI
set_option maxHeartbeats 4000000 in
set_option maxRecDepth 100000 in
theorem lc_promise {p : Program} (l : Launch) {e : Env} {s : State} {m : MethodId} {below : List Frame} {meth : Method} {c0 : Code} {H : Heap} {locs : List Loc} {cells slots : Nat} {Q : State → Prop} {A : Nat → Prop} {D : va_G} {c : bh_C} {b L : Nat} {xs : Nat → Int32} {hC hM : Nat} {adC adM : Nat → Nat} {ba : Nat → Nat → Nat} {nv km i : Nat} {C : cS} {S : mS} {ls : Array Slot} (G : bl_G p s m c0 A b L xs D c) (hi : i + 5 ≤ L) (hl : lv_has ls 4 [(0, .ref b), (1, .ref hC), (2, .ref hM), (3, .int (nI i))]) (hR : Rl nv km C S) (hI : bh_I D (bh_cw hC adC ba c nv km C ++ bh_mw hM adM c S) A s.heap H locs) (hcl : cells + 5 ≤ 600000) (hsl : slots + 46 ≤ 7302249) (kk : ∀ (ba : Nat → Nat → Nat) (km : Nat) (C : cS) (S : mS) (H : Heap) (locs : List Loc), Rl nv km C S → bh_I D (bh_cw hC adC ba c nv km C ++ bh_mw hM adM c S) A s.heap H locs → W p l e room_1 s m #[Value.ref b] below meth c0 H locs (cells + 5) (slots + 46) Q (F0 m 728 ls [])) : W p l e room_1 s m #[Value.ref b] below meth c0 H locs cells slots Q (F0 m 412 ls []) := by
  obtain ⟨hx, hb, hml, hown, hts, hX, hbl, hK, hA, hbA, hL⟩ := G
  have hn := hR.1.2.1.2.1
  have hk := hR.1.2.1.2.2.1
  have ha := hR.1.2.1.2.2.2
  have mn := rl_m0 hR
  have mk := rl_m18 hR
  have ma := rl_m28 hR
  refine lv_aload_n hx hb dL_law_412 rfl (lv_at hl 1 rfl) ?_
  refine lv_aload_n hx hb dL_law_413 rfl (lv_at hl 0 rfl) ?_
  refine lv_iload_n hx hb dL_law_414 rfl (lv_at hl 3 rfl) ?_
  refine lv_iconst (v := nI 1) hx hb dL_law_415 (by decide) ?_
  refine bn_iadd hx hb dL_law_416 ?_
  refine bl_sld (j := (i + 1)) hx hb hX hbl hbA hI.2.2 (by omega) (by omega) dL_law_417 ?_
  refine vp_callSi (bn_roV (As := [.int (xs (i + 1))]) (rest := []) ⟨hx, hb, hml, hown, hts⟩ (cc_promise l D c hC adC ba nv km C (xs (i + 1)) hn) (cwV 1 hts gL_law_X3_promise rfl rfl rfl (by decide +kernel) ⟨Nat.le_of_ble_eq_true rfl, Nat.le_of_ble_eq_true rfl⟩) hK (bf_right (bf_swap hI)) 0 2 rfl rfl rfl rfl hl.1 (Nat.le_of_ble_eq_true rfl) dL_law_418 ⟨by show _ ≤ 600000; omega, by show _ ≤ 7302249; omega⟩) (fun r_1 er_1 => ?_)
  subst er_1
  refine lv_aload_n hx hb dL_law_421 rfl (lv_at hl 2 rfl) ?_
  refine lv_aload_n hx hb dL_law_422 rfl (lv_at hl 0 rfl) ?_
  refine lv_iload_n hx hb dL_law_423 rfl (lv_at hl 3 rfl) ?_
  refine lv_iconst (v := nI 1) hx hb dL_law_424 (by decide) ?_
  refine bn_iadd hx hb dL_law_425 ?_
  refine bl_sld (j := (i + 1)) hx hb hX hbl hbA hI.2.2 (by omega) (by omega) dL_law_426 ?_
  refine vp_callSi (bn_roV (As := [.int (xs (i + 1))]) (rest := [.int (bc_mprom C nv (xs (i + 1)))]) ⟨hx, hb, hml, hown, hts⟩ (cm_promise l D c hM adM S (xs (i + 1)) mn) (cwV 1 hts gL_law_X4_promise rfl rfl rfl (by decide +kernel) ⟨Nat.le_of_ble_eq_true rfl, Nat.le_of_ble_eq_true rfl⟩) hK (bf_right hI) 0 3 rfl rfl rfl rfl hl.1 (Nat.le_of_ble_eq_true rfl) dL_law_427 ⟨by show _ ≤ 600000; omega, by show _ ≤ 7302249; omega⟩) (fun r_2 er_2 => ?_)
  subst er_2
  refine lv_icmp_eq (tgt := 728) hx hb dL_law_430 (by decide) (fun _ => ?_) (fun q_9 => absurd (rl_qprom hR (xs (i + 1))) q_9)
  refine W.widen (k := cells + 5) (n := slots + 46) (by omega) (by omega) ?_
  exact kk ba km C S H locs hR hI
set_option maxHeartbeats 4000000 in
set_option maxRecDepth 100000 in
theorem lc_vote {p : Program} (l : Launch) {e : Env} {s : State} {m : MethodId} {below : List Frame} {meth : Method} {c0 : Code} {H : Heap} {locs : List Loc} {cells slots : Nat} {Q : State → Prop} {A : Nat → Prop} {D : va_G} {c : bh_C} {b L : Nat} {xs : Nat → Int32} {hC hM : Nat} {adC adM : Nat → Nat} {ba : Nat → Nat → Nat} {nv km i : Nat} {C : cS} {S : mS} {ls : Array Slot} (G : bl_G p s m c0 A b L xs D c) (hi : i + 5 ≤ L) (hl : lv_has ls 4 [(0, .ref b), (1, .ref hC), (2, .ref hM), (3, .int (nI i))]) (hR : Rl nv km C S) (hI : bh_I D (bh_cw hC adC ba c nv km C ++ bh_mw hM adM c S) A s.heap H locs) (hcl : cells + 5 ≤ 600000) (hsl : slots + 46 ≤ 7302249) (kk : ∀ (ba : Nat → Nat → Nat) (km : Nat) (C : cS) (S : mS) (H : Heap) (locs : List Loc), Rl nv km C S → bh_I D (bh_cw hC adC ba c nv km C ++ bh_mw hM adM c S) A s.heap H locs → W p l e room_1 s m #[Value.ref b] below meth c0 H locs (cells + 5) (slots + 46) Q (F0 m 728 ls [])) : W p l e room_1 s m #[Value.ref b] below meth c0 H locs cells slots Q (F0 m 435 ls []) := by
  obtain ⟨hx, hb, hml, hown, hts, hX, hbl, hK, hA, hbA, hL⟩ := G
  have hn := hR.1.2.1.2.1
  have hk := hR.1.2.1.2.2.1
  have ha := hR.1.2.1.2.2.2
  have mn := rl_m0 hR
  have mk := rl_m18 hR
  have ma := rl_m28 hR
  refine lv_aload_n hx hb dL_law_435 rfl (lv_at hl 1 rfl) ?_
  refine lv_aload_n hx hb dL_law_436 rfl (lv_at hl 0 rfl) ?_
  refine lv_iload_n hx hb dL_law_437 rfl (lv_at hl 3 rfl) ?_
  refine lv_iconst (v := nI 1) hx hb dL_law_438 (by decide) ?_
  refine bn_iadd hx hb dL_law_439 ?_
  refine bl_sld (j := (i + 1)) hx hb hX hbl hbA hI.2.2 (by omega) (by omega) dL_law_440 ?_
  refine lv_aload_n hx hb dL_law_441 rfl (lv_at hl 0 rfl) ?_
  refine lv_iload_n hx hb dL_law_442 rfl (lv_at hl 3 rfl) ?_
  refine lv_iconst (v := nI 2) hx hb dL_law_443 (by decide) ?_
  refine bn_iadd hx hb dL_law_444 ?_
  refine bl_sld (j := (i + 2)) hx hb hX hbl hbA hI.2.2 (by omega) (by omega) dL_law_445 ?_
  refine vp_callSi (bn_roV (As := [.int (xs (i + 1)), .int (xs (i + 2))]) (rest := []) ⟨hx, hb, hml, hown, hts⟩ (cc_vote l D c hC adC ba nv km C (xs (i + 1)) (xs (i + 2)) hn) (cwV 2 hts gL_law_X3_vote rfl rfl rfl (by decide +kernel) ⟨Nat.le_of_ble_eq_true rfl, Nat.le_of_ble_eq_true rfl⟩) hK (bf_right (bf_swap hI)) 0 2 rfl rfl rfl rfl hl.1 (Nat.le_of_ble_eq_true rfl) dL_law_446 ⟨by show _ ≤ 600000; omega, by show _ ≤ 7302249; omega⟩) (fun r_1 er_1 => ?_)
  subst er_1
  refine lv_aload_n hx hb dL_law_449 rfl (lv_at hl 2 rfl) ?_
  refine lv_aload_n hx hb dL_law_450 rfl (lv_at hl 0 rfl) ?_
  refine lv_iload_n hx hb dL_law_451 rfl (lv_at hl 3 rfl) ?_
  refine lv_iconst (v := nI 1) hx hb dL_law_452 (by decide) ?_
  refine bn_iadd hx hb dL_law_453 ?_
  refine bl_sld (j := (i + 1)) hx hb hX hbl hbA hI.2.2 (by omega) (by omega) dL_law_454 ?_
  refine lv_aload_n hx hb dL_law_455 rfl (lv_at hl 0 rfl) ?_
  refine lv_iload_n hx hb dL_law_456 rfl (lv_at hl 3 rfl) ?_
  refine lv_iconst (v := nI 2) hx hb dL_law_457 (by decide) ?_
  refine bn_iadd hx hb dL_law_458 ?_
  refine bl_sld (j := (i + 2)) hx hb hX hbl hbA hI.2.2 (by omega) (by omega) dL_law_459 ?_
  refine vp_callSi (bn_roV (As := [.int (xs (i + 1)), .int (xs (i + 2))]) (rest := [.int (bc_mvote C nv (xs (i + 1)) (xs (i + 2)))]) ⟨hx, hb, hml, hown, hts⟩ (cm_vote l D c hM adM S (xs (i + 1)) (xs (i + 2)) mn) (cwV 2 hts gL_law_X4_vote rfl rfl rfl (by decide +kernel) ⟨Nat.le_of_ble_eq_true rfl, Nat.le_of_ble_eq_true rfl⟩) hK (bf_right hI) 0 3 rfl rfl rfl rfl hl.1 (Nat.le_of_ble_eq_true rfl) dL_law_460 ⟨by show _ ≤ 600000; omega, by show _ ≤ 7302249; omega⟩) (fun r_2 er_2 => ?_)
  subst er_2
  refine lv_icmp_eq (tgt := 728) hx hb dL_law_463 (by decide) (fun _ => ?_) (fun q_9 => absurd (rl_qvote hR (xs (i + 1)) (xs (i + 2))) q_9)
  refine W.widen (k := cells + 5) (n := slots + 46) (by omega) (by omega) ?_
  exact kk ba km C S H locs hR hI
set_option maxHeartbeats 4000000 in
set_option maxRecDepth 100000 in
theorem lc_value {p : Program} (l : Launch) {e : Env} {s : State} {m : MethodId} {below : List Frame} {meth : Method} {c0 : Code} {H : Heap} {locs : List Loc} {cells slots : Nat} {Q : State → Prop} {A : Nat → Prop} {D : va_G} {c : bh_C} {b L : Nat} {xs : Nat → Int32} {hC hM : Nat} {adC adM : Nat → Nat} {ba : Nat → Nat → Nat} {nv km i : Nat} {C : cS} {S : mS} {ls : Array Slot} (G : bl_G p s m c0 A b L xs D c) (hi : i + 5 ≤ L) (hl : lv_has ls 4 [(0, .ref b), (1, .ref hC), (2, .ref hM), (3, .int (nI i))]) (hR : Rl nv km C S) (hI : bh_I D (bh_cw hC adC ba c nv km C ++ bh_mw hM adM c S) A s.heap H locs) (hcl : cells + 5 ≤ 600000) (hsl : slots + 46 ≤ 7302249) (kk : ∀ (ba : Nat → Nat → Nat) (km : Nat) (C : cS) (S : mS) (H : Heap) (locs : List Loc), Rl nv km C S → bh_I D (bh_cw hC adC ba c nv km C ++ bh_mw hM adM c S) A s.heap H locs → W p l e room_1 s m #[Value.ref b] below meth c0 H locs (cells + 5) (slots + 46) Q (F0 m 728 ls [])) : W p l e room_1 s m #[Value.ref b] below meth c0 H locs cells slots Q (F0 m 468 ls []) := by
  obtain ⟨hx, hb, hml, hown, hts, hX, hbl, hK, hA, hbA, hL⟩ := G
  have hn := hR.1.2.1.2.1
  have hk := hR.1.2.1.2.2.1
  have ha := hR.1.2.1.2.2.2
  have mn := rl_m0 hR
  have mk := rl_m18 hR
  have ma := rl_m28 hR
  refine lv_aload_n hx hb dL_law_468 rfl (lv_at hl 1 rfl) ?_
  refine lv_aload_n hx hb dL_law_469 rfl (lv_at hl 0 rfl) ?_
  refine lv_iload_n hx hb dL_law_470 rfl (lv_at hl 3 rfl) ?_
  refine lv_iconst (v := nI 1) hx hb dL_law_471 (by decide) ?_
  refine bn_iadd hx hb dL_law_472 ?_
  refine bl_sld (j := (i + 1)) hx hb hX hbl hbA hI.2.2 (by omega) (by omega) dL_law_473 ?_
  refine lv_aload_n hx hb dL_law_474 rfl (lv_at hl 0 rfl) ?_
  refine lv_iload_n hx hb dL_law_475 rfl (lv_at hl 3 rfl) ?_
  refine lv_iconst (v := nI 2) hx hb dL_law_476 (by decide) ?_
  refine bn_iadd hx hb dL_law_477 ?_
  refine bl_sld (j := (i + 2)) hx hb hX hbl hbA hI.2.2 (by omega) (by omega) dL_law_478 ?_
  refine vp_callSl (bn_roV (As := [.int (xs (i + 1)), .int (xs (i + 2))]) (rest := []) ⟨hx, hb, hml, hown, hts⟩ (cc_value l D c hC adC ba nv km C (xs (i + 1)) (xs (i + 2)) hn hk) (cwV 2 hts gL_law_X3_value rfl rfl rfl (by decide +kernel) ⟨Nat.le_of_ble_eq_true rfl, Nat.le_of_ble_eq_true rfl⟩) hK (bf_right (bf_swap hI)) 0 2 rfl rfl rfl rfl hl.1 (Nat.le_of_ble_eq_true rfl) dL_law_479 ⟨by show _ ≤ 600000; omega, by show _ ≤ 7302249; omega⟩) (fun r_1 er_1 => ?_)
  subst er_1
  refine lv_aload_n hx hb dL_law_482 rfl (lv_at hl 2 rfl) ?_
  refine lv_aload_n hx hb dL_law_483 rfl (lv_at hl 0 rfl) ?_
  refine lv_iload_n hx hb dL_law_484 rfl (lv_at hl 3 rfl) ?_
  refine lv_iconst (v := nI 1) hx hb dL_law_485 (by decide) ?_
  refine bn_iadd hx hb dL_law_486 ?_
  refine bl_sld (j := (i + 1)) hx hb hX hbl hbA hI.2.2 (by omega) (by omega) dL_law_487 ?_
  refine lv_aload_n hx hb dL_law_488 rfl (lv_at hl 0 rfl) ?_
  refine lv_iload_n hx hb dL_law_489 rfl (lv_at hl 3 rfl) ?_
  refine lv_iconst (v := nI 2) hx hb dL_law_490 (by decide) ?_
  refine bn_iadd hx hb dL_law_491 ?_
  refine bl_sld (j := (i + 2)) hx hb hX hbl hbA hI.2.2 (by omega) (by omega) dL_law_492 ?_
  refine vp_callSl (bn_roV (As := [.int (xs (i + 1)), .int (xs (i + 2))]) (rest := [.long (bc_mvalue C nv km (xs (i + 1)) (xs (i + 2)))]) ⟨hx, hb, hml, hown, hts⟩ (cm_value l D c hM adM S (xs (i + 1)) (xs (i + 2)) mn) (cwV 2 hts gL_law_X4_value rfl rfl rfl (by decide +kernel) ⟨Nat.le_of_ble_eq_true rfl, Nat.le_of_ble_eq_true rfl⟩) hK (bf_right hI) 0 3 rfl rfl rfl rfl hl.1 (Nat.le_of_ble_eq_true rfl) dL_law_493 ⟨by show _ ≤ 600000; omega, by show _ ≤ 7302249; omega⟩) (fun r_2 er_2 => ?_)
  subst er_2
  refine W.lcmp hx hb dL_law_496 ?_
  refine lv_if_eq (tgt := 728) hx hb dL_law_497 (by decide) (fun _ => ?_) (fun q_9 => absurd ((by rw [rl_qvalue hR (xs (i + 1)) (xs (i + 2))]; exact bl_lc0 _)) q_9)
  refine W.widen (k := cells + 5) (n := slots + 46) (by omega) (by omega) ?_
  exact kk ba km C S H locs hR hI
set_option maxHeartbeats 4000000 in
set_option maxRecDepth 100000 in
theorem lc_of {p : Program} (l : Launch) {e : Env} {s : State} {m : MethodId} {below : List Frame} {meth : Method} {c0 : Code} {H : Heap} {locs : List Loc} {cells slots : Nat} {Q : State → Prop} {A : Nat → Prop} {D : va_G} {c : bh_C} {b L : Nat} {xs : Nat → Int32} {hC hM : Nat} {adC adM : Nat → Nat} {ba : Nat → Nat → Nat} {nv km i : Nat} {C : cS} {S : mS} {ls : Array Slot} (G : bl_G p s m c0 A b L xs D c) (hi : i + 5 ≤ L) (hl : lv_has ls 4 [(0, .ref b), (1, .ref hC), (2, .ref hM), (3, .int (nI i))]) (hR : Rl nv km C S) (hI : bh_I D (bh_cw hC adC ba c nv km C ++ bh_mw hM adM c S) A s.heap H locs) (hcl : cells + 5 ≤ 600000) (hsl : slots + 46 ≤ 7302249) (kk : ∀ (ba : Nat → Nat → Nat) (km : Nat) (C : cS) (S : mS) (H : Heap) (locs : List Loc), Rl nv km C S → bh_I D (bh_cw hC adC ba c nv km C ++ bh_mw hM adM c S) A s.heap H locs → W p l e room_1 s m #[Value.ref b] below meth c0 H locs (cells + 5) (slots + 46) Q (F0 m 728 ls [])) : W p l e room_1 s m #[Value.ref b] below meth c0 H locs cells slots Q (F0 m 502 ls []) := by
  obtain ⟨hx, hb, hml, hown, hts, hX, hbl, hK, hA, hbA, hL⟩ := G
  have hn := hR.1.2.1.2.1
  have hk := hR.1.2.1.2.2.1
  have ha := hR.1.2.1.2.2.2
  have mn := rl_m0 hR
  have mk := rl_m18 hR
  have ma := rl_m28 hR
  refine lv_aload_n hx hb dL_law_502 rfl (lv_at hl 1 rfl) ?_
  refine lv_aload_n hx hb dL_law_503 rfl (lv_at hl 0 rfl) ?_
  refine lv_iload_n hx hb dL_law_504 rfl (lv_at hl 3 rfl) ?_
  refine lv_iconst (v := nI 1) hx hb dL_law_505 (by decide) ?_
  refine bn_iadd hx hb dL_law_506 ?_
  refine bl_sld (j := (i + 1)) hx hb hX hbl hbA hI.2.2 (by omega) (by omega) dL_law_507 ?_
  refine lv_aload_n hx hb dL_law_508 rfl (lv_at hl 0 rfl) ?_
  refine lv_iload_n hx hb dL_law_509 rfl (lv_at hl 3 rfl) ?_
  refine lv_iconst (v := nI 2) hx hb dL_law_510 (by decide) ?_
  refine bn_iadd hx hb dL_law_511 ?_
  refine bl_sld (j := (i + 2)) hx hb hX hbl hbA hI.2.2 (by omega) (by omega) dL_law_512 ?_
  refine vp_callSi (bn_roV (As := [.int (xs (i + 1)), .int (xs (i + 2))]) (rest := []) ⟨hx, hb, hml, hown, hts⟩ (cc_of l D c hC adC ba nv km C (xs (i + 1)) (xs (i + 2)) hk) (cwV 2 hts gL_law_X3_of rfl rfl rfl (by decide +kernel) ⟨Nat.le_of_ble_eq_true rfl, Nat.le_of_ble_eq_true rfl⟩) hK (bf_right (bf_swap hI)) 0 2 rfl rfl rfl rfl hl.1 (Nat.le_of_ble_eq_true rfl) dL_law_513 ⟨by show _ ≤ 600000; omega, by show _ ≤ 7302249; omega⟩) (fun r_1 er_1 => ?_)
  subst er_1
  refine lv_aload_n hx hb dL_law_516 rfl (lv_at hl 2 rfl) ?_
  refine lv_aload_n hx hb dL_law_517 rfl (lv_at hl 0 rfl) ?_
  refine lv_iload_n hx hb dL_law_518 rfl (lv_at hl 3 rfl) ?_
  refine lv_iconst (v := nI 1) hx hb dL_law_519 (by decide) ?_
  refine bn_iadd hx hb dL_law_520 ?_
  refine bl_sld (j := (i + 1)) hx hb hX hbl hbA hI.2.2 (by omega) (by omega) dL_law_521 ?_
  refine lv_aload_n hx hb dL_law_522 rfl (lv_at hl 0 rfl) ?_
  refine lv_iload_n hx hb dL_law_523 rfl (lv_at hl 3 rfl) ?_
  refine lv_iconst (v := nI 2) hx hb dL_law_524 (by decide) ?_
  refine bn_iadd hx hb dL_law_525 ?_
  refine bl_sld (j := (i + 2)) hx hb hX hbl hbA hI.2.2 (by omega) (by omega) dL_law_526 ?_
  refine vp_callSi (bn_roV (As := [.int (xs (i + 1)), .int (xs (i + 2))]) (rest := [.int (bc_mof C km (xs (i + 1)) (xs (i + 2)))]) ⟨hx, hb, hml, hown, hts⟩ (cm_of l D c hM adM S (xs (i + 1)) (xs (i + 2)) mk) (cwV 2 hts gL_law_X4_of rfl rfl rfl (by decide +kernel) ⟨Nat.le_of_ble_eq_true rfl, Nat.le_of_ble_eq_true rfl⟩) hK (bf_right hI) 0 3 rfl rfl rfl rfl hl.1 (Nat.le_of_ble_eq_true rfl) dL_law_527 ⟨by show _ ≤ 600000; omega, by show _ ≤ 7302249; omega⟩) (fun r_2 er_2 => ?_)
  subst er_2
  refine lv_icmp_eq (tgt := 728) hx hb dL_law_530 (by decide) (fun _ => ?_) (fun q_9 => absurd (rl_qof hR (xs (i + 1)) (xs (i + 2))) q_9)
  refine W.widen (k := cells + 5) (n := slots + 46) (by omega) (by omega) ?_
  exact kk ba km C S H locs hR hI
set_option maxHeartbeats 4000000 in
set_option maxRecDepth 100000 in
theorem lc_answered {p : Program} (l : Launch) {e : Env} {s : State} {m : MethodId} {below : List Frame} {meth : Method} {c0 : Code} {H : Heap} {locs : List Loc} {cells slots : Nat} {Q : State → Prop} {A : Nat → Prop} {D : va_G} {c : bh_C} {b L : Nat} {xs : Nat → Int32} {hC hM : Nat} {adC adM : Nat → Nat} {ba : Nat → Nat → Nat} {nv km i : Nat} {C : cS} {S : mS} {ls : Array Slot} (G : bl_G p s m c0 A b L xs D c) (hi : i + 5 ≤ L) (hl : lv_has ls 4 [(0, .ref b), (1, .ref hC), (2, .ref hM), (3, .int (nI i))]) (hR : Rl nv km C S) (hI : bh_I D (bh_cw hC adC ba c nv km C ++ bh_mw hM adM c S) A s.heap H locs) (hcl : cells + 5 ≤ 600000) (hsl : slots + 46 ≤ 7302249) (kk : ∀ (ba : Nat → Nat → Nat) (km : Nat) (C : cS) (S : mS) (H : Heap) (locs : List Loc), Rl nv km C S → bh_I D (bh_cw hC adC ba c nv km C ++ bh_mw hM adM c S) A s.heap H locs → W p l e room_1 s m #[Value.ref b] below meth c0 H locs (cells + 5) (slots + 46) Q (F0 m 728 ls [])) : W p l e room_1 s m #[Value.ref b] below meth c0 H locs cells slots Q (F0 m 535 ls []) := by
  obtain ⟨hx, hb, hml, hown, hts, hX, hbl, hK, hA, hbA, hL⟩ := G
  have hn := hR.1.2.1.2.1
  have hk := hR.1.2.1.2.2.1
  have ha := hR.1.2.1.2.2.2
  have mn := rl_m0 hR
  have mk := rl_m18 hR
  have ma := rl_m28 hR
  refine lv_aload_n hx hb dL_law_535 rfl (lv_at hl 1 rfl) ?_
  refine lv_aload_n hx hb dL_law_536 rfl (lv_at hl 0 rfl) ?_
  refine lv_iload_n hx hb dL_law_537 rfl (lv_at hl 3 rfl) ?_
  refine lv_iconst (v := nI 1) hx hb dL_law_538 (by decide) ?_
  refine bn_iadd hx hb dL_law_539 ?_
  refine bl_sld (j := (i + 1)) hx hb hX hbl hbA hI.2.2 (by omega) (by omega) dL_law_540 ?_
  refine lv_aload_n hx hb dL_law_541 rfl (lv_at hl 0 rfl) ?_
  refine lv_iload_n hx hb dL_law_542 rfl (lv_at hl 3 rfl) ?_
  refine lv_iconst (v := nI 2) hx hb dL_law_543 (by decide) ?_
  refine bn_iadd hx hb dL_law_544 ?_
  refine bl_sld (j := (i + 2)) hx hb hX hbl hbA hI.2.2 (by omega) (by omega) dL_law_545 ?_
  refine vp_callSi (bn_roV (As := [.int (xs (i + 1)), .int (xs (i + 2))]) (rest := []) ⟨hx, hb, hml, hown, hts⟩ (cc_answered l D c hC adC ba nv km C (xs (i + 1)) (xs (i + 2)) hk) (cwV 2 hts gL_law_X3_answered rfl rfl rfl (by decide +kernel) ⟨Nat.le_of_ble_eq_true rfl, Nat.le_of_ble_eq_true rfl⟩) hK (bf_right (bf_swap hI)) 0 2 rfl rfl rfl rfl hl.1 (Nat.le_of_ble_eq_true rfl) dL_law_546 ⟨by show _ ≤ 600000; omega, by show _ ≤ 7302249; omega⟩) (fun r_1 er_1 => ?_)
  subst er_1
  refine lv_aload_n hx hb dL_law_549 rfl (lv_at hl 2 rfl) ?_
  refine lv_aload_n hx hb dL_law_550 rfl (lv_at hl 0 rfl) ?_
  refine lv_iload_n hx hb dL_law_551 rfl (lv_at hl 3 rfl) ?_
  refine lv_iconst (v := nI 1) hx hb dL_law_552 (by decide) ?_
  refine bn_iadd hx hb dL_law_553 ?_
  refine bl_sld (j := (i + 1)) hx hb hX hbl hbA hI.2.2 (by omega) (by omega) dL_law_554 ?_
  refine lv_aload_n hx hb dL_law_555 rfl (lv_at hl 0 rfl) ?_
  refine lv_iload_n hx hb dL_law_556 rfl (lv_at hl 3 rfl) ?_
  refine lv_iconst (v := nI 2) hx hb dL_law_557 (by decide) ?_
  refine bn_iadd hx hb dL_law_558 ?_
  refine bl_sld (j := (i + 2)) hx hb hX hbl hbA hI.2.2 (by omega) (by omega) dL_law_559 ?_
  refine vp_callSi (bn_roV (As := [.int (xs (i + 1)), .int (xs (i + 2))]) (rest := [.int (bc_mansw C km (xs (i + 1)) (xs (i + 2)))]) ⟨hx, hb, hml, hown, hts⟩ (cm_answered l D c hM adM S (xs (i + 1)) (xs (i + 2)) mk) (cwV 2 hts gL_law_X4_answered rfl rfl rfl (by decide +kernel) ⟨Nat.le_of_ble_eq_true rfl, Nat.le_of_ble_eq_true rfl⟩) hK (bf_right hI) 0 3 rfl rfl rfl rfl hl.1 (Nat.le_of_ble_eq_true rfl) dL_law_560 ⟨by show _ ≤ 600000; omega, by show _ ≤ 7302249; omega⟩) (fun r_2 er_2 => ?_)
  subst er_2
  refine lv_icmp_eq (tgt := 728) hx hb dL_law_563 (by decide) (fun _ => ?_) (fun q_9 => absurd (rl_qansw hR (xs (i + 1)) (xs (i + 2))) q_9)
  refine W.widen (k := cells + 5) (n := slots + 46) (by omega) (by omega) ?_
  exact kk ba km C S H locs hR hI
set_option maxHeartbeats 4000000 in
set_option maxRecDepth 100000 in
theorem lc_said {p : Program} (l : Launch) {e : Env} {s : State} {m : MethodId} {below : List Frame} {meth : Method} {c0 : Code} {H : Heap} {locs : List Loc} {cells slots : Nat} {Q : State → Prop} {A : Nat → Prop} {D : va_G} {c : bh_C} {b L : Nat} {xs : Nat → Int32} {hC hM : Nat} {adC adM : Nat → Nat} {ba : Nat → Nat → Nat} {nv km i : Nat} {C : cS} {S : mS} {ls : Array Slot} (G : bl_G p s m c0 A b L xs D c) (hi : i + 5 ≤ L) (hl : lv_has ls 4 [(0, .ref b), (1, .ref hC), (2, .ref hM), (3, .int (nI i))]) (hR : Rl nv km C S) (hI : bh_I D (bh_cw hC adC ba c nv km C ++ bh_mw hM adM c S) A s.heap H locs) (hcl : cells + 5 ≤ 600000) (hsl : slots + 46 ≤ 7302249) (kk : ∀ (ba : Nat → Nat → Nat) (km : Nat) (C : cS) (S : mS) (H : Heap) (locs : List Loc), Rl nv km C S → bh_I D (bh_cw hC adC ba c nv km C ++ bh_mw hM adM c S) A s.heap H locs → W p l e room_1 s m #[Value.ref b] below meth c0 H locs (cells + 5) (slots + 46) Q (F0 m 728 ls [])) : W p l e room_1 s m #[Value.ref b] below meth c0 H locs cells slots Q (F0 m 568 ls []) := by
  obtain ⟨hx, hb, hml, hown, hts, hX, hbl, hK, hA, hbA, hL⟩ := G
  have hn := hR.1.2.1.2.1
  have hk := hR.1.2.1.2.2.1
  have ha := hR.1.2.1.2.2.2
  have mn := rl_m0 hR
  have mk := rl_m18 hR
  have ma := rl_m28 hR
  refine lv_aload_n hx hb dL_law_568 rfl (lv_at hl 1 rfl) ?_
  refine lv_aload_n hx hb dL_law_569 rfl (lv_at hl 0 rfl) ?_
  refine lv_iload_n hx hb dL_law_570 rfl (lv_at hl 3 rfl) ?_
  refine lv_iconst (v := nI 1) hx hb dL_law_571 (by decide) ?_
  refine bn_iadd hx hb dL_law_572 ?_
  refine bl_sld (j := (i + 1)) hx hb hX hbl hbA hI.2.2 (by omega) (by omega) dL_law_573 ?_
  refine lv_aload_n hx hb dL_law_574 rfl (lv_at hl 0 rfl) ?_
  refine lv_iload_n hx hb dL_law_575 rfl (lv_at hl 3 rfl) ?_
  refine lv_iconst (v := nI 2) hx hb dL_law_576 (by decide) ?_
  refine bn_iadd hx hb dL_law_577 ?_
  refine bl_sld (j := (i + 2)) hx hb hX hbl hbA hI.2.2 (by omega) (by omega) dL_law_578 ?_
  refine vp_callSl (bn_roV (As := [.int (xs (i + 1)), .int (xs (i + 2))]) (rest := []) ⟨hx, hb, hml, hown, hts⟩ (cc_said l D c hC adC ba nv km C (xs (i + 1)) (xs (i + 2)) hk) (cwV 2 hts gL_law_X3_said rfl rfl rfl (by decide +kernel) ⟨Nat.le_of_ble_eq_true rfl, Nat.le_of_ble_eq_true rfl⟩) hK (bf_right (bf_swap hI)) 0 2 rfl rfl rfl rfl hl.1 (Nat.le_of_ble_eq_true rfl) dL_law_579 ⟨by show _ ≤ 600000; omega, by show _ ≤ 7302249; omega⟩) (fun r_1 er_1 => ?_)
  subst er_1
  refine lv_aload_n hx hb dL_law_582 rfl (lv_at hl 2 rfl) ?_
  refine lv_aload_n hx hb dL_law_583 rfl (lv_at hl 0 rfl) ?_
  refine lv_iload_n hx hb dL_law_584 rfl (lv_at hl 3 rfl) ?_
  refine lv_iconst (v := nI 1) hx hb dL_law_585 (by decide) ?_
  refine bn_iadd hx hb dL_law_586 ?_
  refine bl_sld (j := (i + 1)) hx hb hX hbl hbA hI.2.2 (by omega) (by omega) dL_law_587 ?_
  refine lv_aload_n hx hb dL_law_588 rfl (lv_at hl 0 rfl) ?_
  refine lv_iload_n hx hb dL_law_589 rfl (lv_at hl 3 rfl) ?_
  refine lv_iconst (v := nI 2) hx hb dL_law_590 (by decide) ?_
  refine bn_iadd hx hb dL_law_591 ?_
  refine bl_sld (j := (i + 2)) hx hb hX hbl hbA hI.2.2 (by omega) (by omega) dL_law_592 ?_
  refine vp_callSl (bn_roV (As := [.int (xs (i + 1)), .int (xs (i + 2))]) (rest := [.long (bc_msaid C km (xs (i + 1)) (xs (i + 2)))]) ⟨hx, hb, hml, hown, hts⟩ (cm_said l D c hM adM S (xs (i + 1)) (xs (i + 2)) mk) (cwV 2 hts gL_law_X4_said rfl rfl rfl (by decide +kernel) ⟨Nat.le_of_ble_eq_true rfl, Nat.le_of_ble_eq_true rfl⟩) hK (bf_right hI) 0 3 rfl rfl rfl rfl hl.1 (Nat.le_of_ble_eq_true rfl) dL_law_593 ⟨by show _ ≤ 600000; omega, by show _ ≤ 7302249; omega⟩) (fun r_2 er_2 => ?_)
  subst er_2
  refine W.lcmp hx hb dL_law_596 ?_
  refine lv_if_eq (tgt := 728) hx hb dL_law_597 (by decide) (fun _ => ?_) (fun q_9 => absurd ((by rw [rl_qsaid hR (xs (i + 1)) (xs (i + 2))]; exact bl_lc0 _)) q_9)
  refine W.widen (k := cells + 5) (n := slots + 46) (by omega) (by omega) ?_
  exact kk ba km C S H locs hR hI
set_option maxHeartbeats 4000000 in
set_option maxRecDepth 100000 in
theorem lc_chosen {p : Program} (l : Launch) {e : Env} {s : State} {m : MethodId} {below : List Frame} {meth : Method} {c0 : Code} {H : Heap} {locs : List Loc} {cells slots : Nat} {Q : State → Prop} {A : Nat → Prop} {D : va_G} {c : bh_C} {b L : Nat} {xs : Nat → Int32} {hC hM : Nat} {adC adM : Nat → Nat} {ba : Nat → Nat → Nat} {nv km i : Nat} {C : cS} {S : mS} {ls : Array Slot} (G : bl_G p s m c0 A b L xs D c) (hi : i + 5 ≤ L) (hl : lv_has ls 4 [(0, .ref b), (1, .ref hC), (2, .ref hM), (3, .int (nI i))]) (hR : Rl nv km C S) (hI : bh_I D (bh_cw hC adC ba c nv km C ++ bh_mw hM adM c S) A s.heap H locs) (hcl : cells + 5 ≤ 600000) (hsl : slots + 46 ≤ 7302249) (kk : ∀ (ba : Nat → Nat → Nat) (km : Nat) (C : cS) (S : mS) (H : Heap) (locs : List Loc), Rl nv km C S → bh_I D (bh_cw hC adC ba c nv km C ++ bh_mw hM adM c S) A s.heap H locs → W p l e room_1 s m #[Value.ref b] below meth c0 H locs (cells + 5) (slots + 46) Q (F0 m 728 ls [])) : W p l e room_1 s m #[Value.ref b] below meth c0 H locs cells slots Q (F0 m 602 ls []) := by
  obtain ⟨hx, hb, hml, hown, hts, hX, hbl, hK, hA, hbA, hL⟩ := G
  have hn := hR.1.2.1.2.1
  have hk := hR.1.2.1.2.2.1
  have ha := hR.1.2.1.2.2.2
  have mn := rl_m0 hR
  have mk := rl_m18 hR
  have ma := rl_m28 hR
  refine lv_aload_n hx hb dL_law_602 rfl (lv_at hl 1 rfl) ?_
  refine lv_aload_n hx hb dL_law_603 rfl (lv_at hl 0 rfl) ?_
  refine lv_iload_n hx hb dL_law_604 rfl (lv_at hl 3 rfl) ?_
  refine lv_iconst (v := nI 1) hx hb dL_law_605 (by decide) ?_
  refine bn_iadd hx hb dL_law_606 ?_
  refine bl_sld (j := (i + 1)) hx hb hX hbl hbA hI.2.2 (by omega) (by omega) dL_law_607 ?_
  refine vp_callSi (bn_roV (As := [.int (xs (i + 1))]) (rest := []) ⟨hx, hb, hml, hown, hts⟩ (cc_chosen l D c hC adC ba nv km C (xs (i + 1)) hk) (cwV 1 hts gL_law_X3_chosen rfl rfl rfl (by decide +kernel) ⟨Nat.le_of_ble_eq_true rfl, Nat.le_of_ble_eq_true rfl⟩) hK (bf_right (bf_swap hI)) 0 2 rfl rfl rfl rfl hl.1 (Nat.le_of_ble_eq_true rfl) dL_law_608 ⟨by show _ ≤ 600000; omega, by show _ ≤ 7302249; omega⟩) (fun r_1 er_1 => ?_)
  subst er_1
  refine lv_aload_n hx hb dL_law_611 rfl (lv_at hl 2 rfl) ?_
  refine lv_aload_n hx hb dL_law_612 rfl (lv_at hl 0 rfl) ?_
  refine lv_iload_n hx hb dL_law_613 rfl (lv_at hl 3 rfl) ?_
  refine lv_iconst (v := nI 1) hx hb dL_law_614 (by decide) ?_
  refine bn_iadd hx hb dL_law_615 ?_
  refine bl_sld (j := (i + 1)) hx hb hX hbl hbA hI.2.2 (by omega) (by omega) dL_law_616 ?_
  refine vp_callSi (bn_roV (As := [.int (xs (i + 1))]) (rest := [.int (bc_mcho C km (xs (i + 1)))]) ⟨hx, hb, hml, hown, hts⟩ (cm_chosen l D c hM adM S (xs (i + 1)) mk) (cwV 1 hts gL_law_X4_chosen rfl rfl rfl (by decide +kernel) ⟨Nat.le_of_ble_eq_true rfl, Nat.le_of_ble_eq_true rfl⟩) hK (bf_right hI) 0 3 rfl rfl rfl rfl hl.1 (Nat.le_of_ble_eq_true rfl) dL_law_617 ⟨by show _ ≤ 600000; omega, by show _ ≤ 7302249; omega⟩) (fun r_2 er_2 => ?_)
  subst er_2
  refine lv_icmp_eq (tgt := 728) hx hb dL_law_620 (by decide) (fun _ => ?_) (fun q_9 => absurd (rl_qcho hR (xs (i + 1))) q_9)
  refine W.widen (k := cells + 5) (n := slots + 46) (by omega) (by omega) ?_
  exact kk ba km C S H locs hR hI
set_option maxHeartbeats 4000000 in
set_option maxRecDepth 100000 in
theorem lc_chosenValue {p : Program} (l : Launch) {e : Env} {s : State} {m : MethodId} {below : List Frame} {meth : Method} {c0 : Code} {H : Heap} {locs : List Loc} {cells slots : Nat} {Q : State → Prop} {A : Nat → Prop} {D : va_G} {c : bh_C} {b L : Nat} {xs : Nat → Int32} {hC hM : Nat} {adC adM : Nat → Nat} {ba : Nat → Nat → Nat} {nv km i : Nat} {C : cS} {S : mS} {ls : Array Slot} (G : bl_G p s m c0 A b L xs D c) (hi : i + 5 ≤ L) (hl : lv_has ls 4 [(0, .ref b), (1, .ref hC), (2, .ref hM), (3, .int (nI i))]) (hR : Rl nv km C S) (hI : bh_I D (bh_cw hC adC ba c nv km C ++ bh_mw hM adM c S) A s.heap H locs) (hcl : cells + 5 ≤ 600000) (hsl : slots + 46 ≤ 7302249) (kk : ∀ (ba : Nat → Nat → Nat) (km : Nat) (C : cS) (S : mS) (H : Heap) (locs : List Loc), Rl nv km C S → bh_I D (bh_cw hC adC ba c nv km C ++ bh_mw hM adM c S) A s.heap H locs → W p l e room_1 s m #[Value.ref b] below meth c0 H locs (cells + 5) (slots + 46) Q (F0 m 728 ls [])) : W p l e room_1 s m #[Value.ref b] below meth c0 H locs cells slots Q (F0 m 625 ls []) := by
  obtain ⟨hx, hb, hml, hown, hts, hX, hbl, hK, hA, hbA, hL⟩ := G
  have hn := hR.1.2.1.2.1
  have hk := hR.1.2.1.2.2.1
  have ha := hR.1.2.1.2.2.2
  have mn := rl_m0 hR
  have mk := rl_m18 hR
  have ma := rl_m28 hR
  refine lv_aload_n hx hb dL_law_625 rfl (lv_at hl 1 rfl) ?_
  refine lv_aload_n hx hb dL_law_626 rfl (lv_at hl 0 rfl) ?_
  refine lv_iload_n hx hb dL_law_627 rfl (lv_at hl 3 rfl) ?_
  refine lv_iconst (v := nI 1) hx hb dL_law_628 (by decide) ?_
  refine bn_iadd hx hb dL_law_629 ?_
  refine bl_sld (j := (i + 1)) hx hb hX hbl hbA hI.2.2 (by omega) (by omega) dL_law_630 ?_
  refine vp_callSl (bn_roV (As := [.int (xs (i + 1))]) (rest := []) ⟨hx, hb, hml, hown, hts⟩ (cc_chosenValue l D c hC adC ba nv km C (xs (i + 1)) hk) (cwV 1 hts gL_law_X3_chosenValue rfl rfl rfl (by decide +kernel) ⟨Nat.le_of_ble_eq_true rfl, Nat.le_of_ble_eq_true rfl⟩) hK (bf_right (bf_swap hI)) 0 2 rfl rfl rfl rfl hl.1 (Nat.le_of_ble_eq_true rfl) dL_law_631 ⟨by show _ ≤ 600000; omega, by show _ ≤ 7302249; omega⟩) (fun r_1 er_1 => ?_)
  subst er_1
  refine lv_aload_n hx hb dL_law_634 rfl (lv_at hl 2 rfl) ?_
  refine lv_aload_n hx hb dL_law_635 rfl (lv_at hl 0 rfl) ?_
  refine lv_iload_n hx hb dL_law_636 rfl (lv_at hl 3 rfl) ?_
  refine lv_iconst (v := nI 1) hx hb dL_law_637 (by decide) ?_
  refine bn_iadd hx hb dL_law_638 ?_
  refine bl_sld (j := (i + 1)) hx hb hX hbl hbA hI.2.2 (by omega) (by omega) dL_law_639 ?_
  refine vp_callSl (bn_roV (As := [.int (xs (i + 1))]) (rest := [.long (bc_mchv C km (xs (i + 1)))]) ⟨hx, hb, hml, hown, hts⟩ (cm_chosenValue l D c hM adM S (xs (i + 1)) mk) (cwV 1 hts gL_law_X4_chosenValue rfl rfl rfl (by decide +kernel) ⟨Nat.le_of_ble_eq_true rfl, Nat.le_of_ble_eq_true rfl⟩) hK (bf_right hI) 0 3 rfl rfl rfl rfl hl.1 (Nat.le_of_ble_eq_true rfl) dL_law_640 ⟨by show _ ≤ 600000; omega, by show _ ≤ 7302249; omega⟩) (fun r_2 er_2 => ?_)
  subst er_2
  refine W.lcmp hx hb dL_law_643 ?_
  refine lv_if_eq (tgt := 728) hx hb dL_law_644 (by decide) (fun _ => ?_) (fun q_9 => absurd ((by rw [rl_qchv hR (xs (i + 1))]; exact bl_lc0 _)) q_9)
  refine W.widen (k := cells + 5) (n := slots + 46) (by omega) (by omega) ?_
  exact kk ba km C S H locs hR hI
set_option maxHeartbeats 4000000 in
set_option maxRecDepth 100000 in
theorem lc_isOne {p : Program} (l : Launch) {e : Env} {s : State} {m : MethodId} {below : List Frame} {meth : Method} {c0 : Code} {H : Heap} {locs : List Loc} {cells slots : Nat} {Q : State → Prop} {A : Nat → Prop} {D : va_G} {c : bh_C} {b L : Nat} {xs : Nat → Int32} {hC hM : Nat} {adC adM : Nat → Nat} {ba : Nat → Nat → Nat} {nv km i : Nat} {C : cS} {S : mS} {ls : Array Slot} (G : bl_G p s m c0 A b L xs D c) (hi : i + 5 ≤ L) (hl : lv_has ls 4 [(0, .ref b), (1, .ref hC), (2, .ref hM), (3, .int (nI i))]) (hR : Rl nv km C S) (hI : bh_I D (bh_cw hC adC ba c nv km C ++ bh_mw hM adM c S) A s.heap H locs) (hcl : cells + 5 ≤ 600000) (hsl : slots + 46 ≤ 7302249) (kk : ∀ (ba : Nat → Nat → Nat) (km : Nat) (C : cS) (S : mS) (H : Heap) (locs : List Loc), Rl nv km C S → bh_I D (bh_cw hC adC ba c nv km C ++ bh_mw hM adM c S) A s.heap H locs → W p l e room_1 s m #[Value.ref b] below meth c0 H locs (cells + 5) (slots + 46) Q (F0 m 728 ls [])) : W p l e room_1 s m #[Value.ref b] below meth c0 H locs cells slots Q (F0 m 649 ls []) := by
  obtain ⟨hx, hb, hml, hown, hts, hX, hbl, hK, hA, hbA, hL⟩ := G
  have hn := hR.1.2.1.2.1
  have hk := hR.1.2.1.2.2.1
  have ha := hR.1.2.1.2.2.2
  have mn := rl_m0 hR
  have mk := rl_m18 hR
  have ma := rl_m28 hR
  refine lv_aload_n hx hb dL_law_649 rfl (lv_at hl 1 rfl) ?_
  refine lv_aload_n hx hb dL_law_650 rfl (lv_at hl 0 rfl) ?_
  refine lv_iload_n hx hb dL_law_651 rfl (lv_at hl 3 rfl) ?_
  refine lv_iconst (v := nI 1) hx hb dL_law_652 (by decide) ?_
  refine bn_iadd hx hb dL_law_653 ?_
  refine bl_sld (j := (i + 1)) hx hb hX hbl hbA hI.2.2 (by omega) (by omega) dL_law_654 ?_
  refine vp_callSi (bn_roV (As := [.int (xs (i + 1))]) (rest := []) ⟨hx, hb, hml, hown, hts⟩ (cc_isOne l D c hC adC ba nv km C (xs (i + 1)) hk) (cwV 1 hts gL_law_X3_isOne rfl rfl rfl (by decide +kernel) ⟨Nat.le_of_ble_eq_true rfl, Nat.le_of_ble_eq_true rfl⟩) hK (bf_right (bf_swap hI)) 0 2 rfl rfl rfl rfl hl.1 (Nat.le_of_ble_eq_true rfl) dL_law_655 ⟨by show _ ≤ 600000; omega, by show _ ≤ 7302249; omega⟩) (fun r_1 er_1 => ?_)
  subst er_1
  refine lv_aload_n hx hb dL_law_658 rfl (lv_at hl 2 rfl) ?_
  refine lv_aload_n hx hb dL_law_659 rfl (lv_at hl 0 rfl) ?_
  refine lv_iload_n hx hb dL_law_660 rfl (lv_at hl 3 rfl) ?_
  refine lv_iconst (v := nI 1) hx hb dL_law_661 (by decide) ?_
  refine bn_iadd hx hb dL_law_662 ?_
  refine bl_sld (j := (i + 1)) hx hb hX hbl hbA hI.2.2 (by omega) (by omega) dL_law_663 ?_
  refine vp_callSi (bn_roV (As := [.int (xs (i + 1))]) (rest := [.int (bc_mone C km (xs (i + 1)))]) ⟨hx, hb, hml, hown, hts⟩ (cm_isOne l D c hM adM S (xs (i + 1)) mk) (cwV 1 hts gL_law_X4_isOne rfl rfl rfl (by decide +kernel) ⟨Nat.le_of_ble_eq_true rfl, Nat.le_of_ble_eq_true rfl⟩) hK (bf_right hI) 0 3 rfl rfl rfl rfl hl.1 (Nat.le_of_ble_eq_true rfl) dL_law_664 ⟨by show _ ≤ 600000; omega, by show _ ≤ 7302249; omega⟩) (fun r_2 er_2 => ?_)
  subst er_2
  refine lv_icmp_eq (tgt := 728) hx hb dL_law_667 (by decide) (fun _ => ?_) (fun q_9 => absurd (rl_qone hR (xs (i + 1))) q_9)
  refine W.widen (k := cells + 5) (n := slots + 46) (by omega) (by omega) ?_
  exact kk ba km C S H locs hR hI
set_option maxHeartbeats 4000000 in
set_option maxRecDepth 100000 in
theorem lc_air {p : Program} (l : Launch) {e : Env} {s : State} {m : MethodId} {below : List Frame} {meth : Method} {c0 : Code} {H : Heap} {locs : List Loc} {cells slots : Nat} {Q : State → Prop} {A : Nat → Prop} {D : va_G} {c : bh_C} {b L : Nat} {xs : Nat → Int32} {hC hM : Nat} {adC adM : Nat → Nat} {ba : Nat → Nat → Nat} {nv km i : Nat} {C : cS} {S : mS} {ls : Array Slot} (G : bl_G p s m c0 A b L xs D c) (hi : i + 5 ≤ L) (hl : lv_has ls 4 [(0, .ref b), (1, .ref hC), (2, .ref hM), (3, .int (nI i))]) (hR : Rl nv km C S) (hI : bh_I D (bh_cw hC adC ba c nv km C ++ bh_mw hM adM c S) A s.heap H locs) (hcl : cells + 5 ≤ 600000) (hsl : slots + 46 ≤ 7302249) (kk : ∀ (ba : Nat → Nat → Nat) (km : Nat) (C : cS) (S : mS) (H : Heap) (locs : List Loc), Rl nv km C S → bh_I D (bh_cw hC adC ba c nv km C ++ bh_mw hM adM c S) A s.heap H locs → W p l e room_1 s m #[Value.ref b] below meth c0 H locs (cells + 5) (slots + 46) Q (F0 m 728 ls [])) : W p l e room_1 s m #[Value.ref b] below meth c0 H locs cells slots Q (F0 m 672 ls []) := by
  obtain ⟨hx, hb, hml, hown, hts, hX, hbl, hK, hA, hbA, hL⟩ := G
  have hn := hR.1.2.1.2.1
  have hk := hR.1.2.1.2.2.1
  have ha := hR.1.2.1.2.2.2
  have mn := rl_m0 hR
  have mk := rl_m18 hR
  have ma := rl_m28 hR
  refine lv_aload_n hx hb dL_law_672 rfl (lv_at hl 1 rfl) ?_
  refine lv_aload_n hx hb dL_law_673 rfl (lv_at hl 0 rfl) ?_
  refine lv_iload_n hx hb dL_law_674 rfl (lv_at hl 3 rfl) ?_
  refine lv_iconst (v := nI 1) hx hb dL_law_675 (by decide) ?_
  refine bn_iadd hx hb dL_law_676 ?_
  refine bl_sld (j := (i + 1)) hx hb hX hbl hbA hI.2.2 (by omega) (by omega) dL_law_677 ?_
  refine lv_aload_n hx hb dL_law_678 rfl (lv_at hl 0 rfl) ?_
  refine lv_iload_n hx hb dL_law_679 rfl (lv_at hl 3 rfl) ?_
  refine lv_iconst (v := nI 2) hx hb dL_law_680 (by decide) ?_
  refine bn_iadd hx hb dL_law_681 ?_
  refine bl_sld (j := (i + 2)) hx hb hX hbl hbA hI.2.2 (by omega) (by omega) dL_law_682 ?_
  refine vp_callSi (bn_roV (As := [.int (xs (i + 1)), .int (xs (i + 2))]) (rest := []) ⟨hx, hb, hml, hown, hts⟩ (cc_air l D c hC adC ba nv km C (xs (i + 1)) (xs (i + 2)) ha) (cwV 2 hts gL_law_X3_air rfl rfl rfl (by decide +kernel) ⟨Nat.le_of_ble_eq_true rfl, Nat.le_of_ble_eq_true rfl⟩) hK (bf_right (bf_swap hI)) 0 2 rfl rfl rfl rfl hl.1 (Nat.le_of_ble_eq_true rfl) dL_law_683 ⟨by show _ ≤ 600000; omega, by show _ ≤ 7302249; omega⟩) (fun r_1 er_1 => ?_)
  subst er_1
  refine lv_aload_n hx hb dL_law_686 rfl (lv_at hl 2 rfl) ?_
  refine lv_aload_n hx hb dL_law_687 rfl (lv_at hl 0 rfl) ?_
  refine lv_iload_n hx hb dL_law_688 rfl (lv_at hl 3 rfl) ?_
  refine lv_iconst (v := nI 1) hx hb dL_law_689 (by decide) ?_
  refine bn_iadd hx hb dL_law_690 ?_
  refine bl_sld (j := (i + 1)) hx hb hX hbl hbA hI.2.2 (by omega) (by omega) dL_law_691 ?_
  refine lv_aload_n hx hb dL_law_692 rfl (lv_at hl 0 rfl) ?_
  refine lv_iload_n hx hb dL_law_693 rfl (lv_at hl 3 rfl) ?_
  refine lv_iconst (v := nI 2) hx hb dL_law_694 (by decide) ?_
  refine bn_iadd hx hb dL_law_695 ?_
  refine bl_sld (j := (i + 2)) hx hb hX hbl hbA hI.2.2 (by omega) (by omega) dL_law_696 ?_
  refine vp_callSi (bn_roV (As := [.int (xs (i + 1)), .int (xs (i + 2))]) (rest := [.int (bc_mair C (xs (i + 1)) (xs (i + 2)))]) ⟨hx, hb, hml, hown, hts⟩ (cm_air l D c hM adM S (xs (i + 1)) (xs (i + 2)) ma) (cwV 2 hts gL_law_X4_air rfl rfl rfl (by decide +kernel) ⟨Nat.le_of_ble_eq_true rfl, Nat.le_of_ble_eq_true rfl⟩) hK (bf_right hI) 0 3 rfl rfl rfl rfl hl.1 (Nat.le_of_ble_eq_true rfl) dL_law_697 ⟨by show _ ≤ 600000; omega, by show _ ≤ 7302249; omega⟩) (fun r_2 er_2 => ?_)
  subst er_2
  refine lv_icmp_eq (tgt := 728) hx hb dL_law_700 (by decide) (fun _ => ?_) (fun q_9 => absurd (rl_qair hR (xs (i + 1)) (xs (i + 2))) q_9)
  refine W.widen (k := cells + 5) (n := slots + 46) (by omega) (by omega) ?_
  exact kk ba km C S H locs hR hI
set_option maxHeartbeats 4000000 in
set_option maxRecDepth 100000 in
theorem lc_about {p : Program} (l : Launch) {e : Env} {s : State} {m : MethodId} {below : List Frame} {meth : Method} {c0 : Code} {H : Heap} {locs : List Loc} {cells slots : Nat} {Q : State → Prop} {A : Nat → Prop} {D : va_G} {c : bh_C} {b L : Nat} {xs : Nat → Int32} {hC hM : Nat} {adC adM : Nat → Nat} {ba : Nat → Nat → Nat} {nv km i : Nat} {C : cS} {S : mS} {ls : Array Slot} (G : bl_G p s m c0 A b L xs D c) (hi : i + 5 ≤ L) (hl : lv_has ls 4 [(0, .ref b), (1, .ref hC), (2, .ref hM), (3, .int (nI i))]) (hR : Rl nv km C S) (hI : bh_I D (bh_cw hC adC ba c nv km C ++ bh_mw hM adM c S) A s.heap H locs) (hcl : cells + 5 ≤ 600000) (hsl : slots + 46 ≤ 7302249) (kk : ∀ (ba : Nat → Nat → Nat) (km : Nat) (C : cS) (S : mS) (H : Heap) (locs : List Loc), Rl nv km C S → bh_I D (bh_cw hC adC ba c nv km C ++ bh_mw hM adM c S) A s.heap H locs → W p l e room_1 s m #[Value.ref b] below meth c0 H locs (cells + 5) (slots + 46) Q (F0 m 728 ls [])) : W p l e room_1 s m #[Value.ref b] below meth c0 H locs cells slots Q (F0 m 705 ls []) := by
  obtain ⟨hx, hb, hml, hown, hts, hX, hbl, hK, hA, hbA, hL⟩ := G
  have hn := hR.1.2.1.2.1
  have hk := hR.1.2.1.2.2.1
  have ha := hR.1.2.1.2.2.2
  have mn := rl_m0 hR
  have mk := rl_m18 hR
  have ma := rl_m28 hR
  refine lv_aload_n hx hb dL_law_705 rfl (lv_at hl 1 rfl) ?_
  refine lv_aload_n hx hb dL_law_706 rfl (lv_at hl 0 rfl) ?_
  refine lv_iload_n hx hb dL_law_707 rfl (lv_at hl 3 rfl) ?_
  refine lv_iconst (v := nI 1) hx hb dL_law_708 (by decide) ?_
  refine bn_iadd hx hb dL_law_709 ?_
  refine bl_sld (j := (i + 1)) hx hb hX hbl hbA hI.2.2 (by omega) (by omega) dL_law_710 ?_
  refine vp_callSi (bn_roV (As := [.int (xs (i + 1))]) (rest := []) ⟨hx, hb, hml, hown, hts⟩ (cc_about l D c hC adC ba nv km C (xs (i + 1))) (cwV 1 hts gL_law_X3_about rfl rfl rfl (by decide +kernel) ⟨Nat.le_of_ble_eq_true rfl, Nat.le_of_ble_eq_true rfl⟩) hK (bf_right (bf_swap hI)) 0 2 rfl rfl rfl rfl hl.1 (Nat.le_of_ble_eq_true rfl) dL_law_711 ⟨by show _ ≤ 600000; omega, by show _ ≤ 7302249; omega⟩) (fun r_1 er_1 => ?_)
  subst er_1
  refine lv_aload_n hx hb dL_law_714 rfl (lv_at hl 2 rfl) ?_
  refine lv_aload_n hx hb dL_law_715 rfl (lv_at hl 0 rfl) ?_
  refine lv_iload_n hx hb dL_law_716 rfl (lv_at hl 3 rfl) ?_
  refine lv_iconst (v := nI 1) hx hb dL_law_717 (by decide) ?_
  refine bn_iadd hx hb dL_law_718 ?_
  refine bl_sld (j := (i + 1)) hx hb hX hbl hbA hI.2.2 (by omega) (by omega) dL_law_719 ?_
  refine vp_callSi (bn_roV (As := [.int (xs (i + 1))]) (rest := [.int (bc_mabo C nv km (xs (i + 1)))]) ⟨hx, hb, hml, hown, hts⟩ (cm_about l D c hM adM S (xs (i + 1))) (cwV 1 hts gL_law_X4_about rfl rfl rfl (by decide +kernel) ⟨Nat.le_of_ble_eq_true rfl, Nat.le_of_ble_eq_true rfl⟩) hK (bf_right hI) 0 3 rfl rfl rfl rfl hl.1 (Nat.le_of_ble_eq_true rfl) dL_law_720 ⟨by show _ ≤ 600000; omega, by show _ ≤ 7302249; omega⟩) (fun r_2 er_2 => ?_)
  subst er_2
  refine lv_icmp_eq (tgt := 728) hx hb dL_law_723 (by decide) (fun _ => ?_) (fun q_9 => absurd (rl_qabo hR (xs (i + 1))) q_9)
  refine W.widen (k := cells + 5) (n := slots + 46) (by omega) (by omega) ?_
  exact kk ba km C S H locs hR hI
