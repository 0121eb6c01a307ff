/-! making, and calls beside other cells -/
theorem bf_right {D : va_G} {wa wc : va_W} {A : Nat → Prop} {H0 H : Heap} {locs : List Loc} (hI : bh_I D (wa ++ wc) A H0 H locs) : bh_I D wc A H0 H locs := by
  have e : ∀ (k : Nat) (q : Nat × va_E), wc[k]? = some q → (wa ++ wc)[wa.length + k]? = some q := fun k q h => by rw [List.getElem?_append_right (by omega), Nat.add_sub_cancel_left]; exact h
  exact ⟨fun k q h => hI.1 _ q (e k q h), ⟨fun i j p q hi hj hpq => by have := hI.2.1.1 _ _ p q (e i p hi) (e j q hj) hpq; omega, fun k q h => hI.2.1.2 _ q (e k q h)⟩, hI.2.2⟩
theorem bf_swap {D : va_G} {wa wc : va_W} {A : Nat → Prop} {H0 H : Heap} {locs : List Loc} (hI : bh_I D (wa ++ wc) A H0 H locs) : bh_I D (wc ++ wa) A H0 H locs := by
  have e : ∀ (k : Nat) (q : Nat × va_E), (wc ++ wa)[k]? = some q → (wa ++ wc)[if k < wc.length then wa.length + k else k - wc.length]? = some q := by
    intro k q h
    by_cases hk : k < wc.length
    · rw [List.getElem?_append_left hk] at h
      rw [if_pos hk, List.getElem?_append_right (by omega), Nat.add_sub_cancel_left]
      exact h
    · rw [List.getElem?_append_right (by omega)] at h
      have hl := (List.getElem?_eq_some_iff.mp h).1
      rw [if_neg hk, List.getElem?_append_left hl]
      exact h
  refine ⟨fun k q h => hI.1 _ q (e k q h), ⟨fun i j p q hi hj hpq => ?_, fun k q h => hI.2.1.2 _ q (e k q h)⟩, hI.2.2⟩
  have h1 := hI.2.1.1 _ _ p q (e i p hi) (e j q hj) hpq
  have li := (List.getElem?_eq_some_iff.mp hi).1
  have lj := (List.getElem?_eq_some_iff.mp hj).1
  rw [List.length_append] at li lj
  split at h1 <;> split at h1 <;> omega
theorem bf_join {D : va_G} {wa wc w1 : va_W} {A : Nat → Prop} {H0 H H1 : Heap} {locs locs1 : List Loc} (hI : bh_I D (wa ++ wc) A H0 H locs) (hF : ∀ q, va_A wc H.size q → A q) (hk : ∀ q : Nat, q < H.size → ¬ va_A wc H.size q → H1[q]? = H[q]?) (hP1 : va_P D vwCl w1 H1) (hD1 : va_D (va_A wc H.size) w1) (hS : va_S A H0 H1 locs1) : bh_I D (wa ++ w1) A H0 H1 locs1 := by
  have hl : ∀ (k : Nat) (q : Nat × va_E), wa[k]? = some q → (wa ++ wc)[k]? = some q := fun k q h => by rw [List.getElem?_append_left (List.getElem?_eq_some_iff.mp h).1]; exact h
  have apart : ∀ (k : Nat) (q : Nat × va_E), wa[k]? = some q → q.1 < H.size ∧ ¬ va_A wc H.size q.1 := by
    intro k q hq
    have h2 := hl k q hq
    have hlt := (hI.1 k q h2).lt
    refine ⟨hlt, fun h => ?_⟩
    rcases h with ⟨k2, e, h⟩ | h
    · have h4 : (wa ++ wc)[wa.length + k2]? = some (q.1, e) := by rw [List.getElem?_append_right (by omega), Nat.add_sub_cancel_left]; exact h
      have := hI.2.1.1 k _ q (q.1, e) h2 h4 rfl
      have := (List.getElem?_eq_some_iff.mp hq).1
      omega
    · omega
  refine ⟨va_P.app (fun k q hq => (hI.1 k q (hl k q hq)).kept (hk q.1 (apart k q hq).1 (apart k q hq).2)) hP1, va_D.app ⟨fun i j p q hi hj hpq => hI.2.1.1 i j p q (hl i p hi) (hl j q hj) hpq, fun k q hq => hI.2.1.2 k q (hl k q hq)⟩ (hD1.weaken (fun k q _ h => hF q.1 h)) (fun i j x y hx hy hxy => (apart i x hx).2 (by rw [hxy]; exact hD1.2 j y hy)), hS⟩
section BHM
variable {p : Program} {l : Launch} {e : Env} {R : Room} {s : State} {m : MethodId} {args : Array Value} {below : List Frame} {meth : Method} {c : Code} {H : Heap} {locs : List Loc} {cells slots : Nat} {Q : State → Prop}
variable {cc bytes : ByteArray} {pc : Nat} {ls : Array Slot} {rest : List Value} {D : va_G} {A : Nat → Prop} {a : Nat} {cy : bh_C} {ws : va_W} {H0 : Heap}
variable {y : MethodName} {maxL nL n index : Nat} {ret : Option FieldType} {wsy Ts : List Cond} {rm : Room} {own C : String} {b : Addr} {As : List Value}
theorem bm_newa (hx : p.tables.exec = Jvm.exec) (hb : c.code = cc) {atype : ArrayType} (harr : (Cond.arrayClass (newarray.typeOf atype)).before args s = true) {ty : FieldType} (hty : newarray.typeOf atype = ty) (hK : bh_K D cy s) (hI : bh_I D ws A H0 H locs) (hA : ∀ q, H0.size ≤ q → A q) {N : Nat} {a0 : vp_A} {c0 : ClassId} (t0 : Nat) (htys : (bh_ty cy)[t0]? = some (c0, ty)) (hra : ∀ cA, va_RA s cA ty → s.vm.findClass ("[" ++ ty.toString) = some cA) (ha : ∀ cA : ClassId, vp_cell cA a0 = arrV cA N (fun _ => defaultValue ty)) (hn : N < 2 ^ 31) (hbytes : N * componentBytes ty ≤ 536870912) (hcells : cells + 1 ≤ R.cells) (hslots : slots + N ≤ R.slots) (hdg : decode cc pc = .ok (.newarray atype, 2))
    (kk : ∀ (q : Nat) (H1 : Heap), bh_I D (ws ++ [(q, .inl (c0, a0))]) A H0 H1 locs → W p l e R s m args below meth c H1 locs (cells + 1) (slots + N) Q (F0 m (pc + 2) ls (.ref q :: rest))) : W p l e R s m args below meth c H locs cells slots Q (F0 m pc ls (.int (nI N) :: rest)) :=
  va_newa hx hb harr hty hK.1 hI.1 hI.2.1 hI.2.2 hA ha (nI_pos hn) (nI_clamp hn) hbytes hcells hslots hdg (fun q cA H1 hK' h1 h2 h3 => by
    have e1 := hra _ (hK'.2 (bh_ty cy).length (cA, ty) (by rw [List.getElem?_append_right (Nat.le_refl _), Nat.sub_self]; rfl)).2
    have e2 := hra _ (hK.1.2 t0 _ htys).2
    have e3 : cA = c0 := Option.some.inj (e1.symm.trans e2)
    subst e3
    exact kk q H1 ⟨h1, h2, h3⟩)
theorem bm_newq (hx : p.tables.exec = Jvm.exec) (hb : c.code = cc) {own : String} {index : Nat} (hown : s.vm.findClass own = some m.cls) (hclink : (Cond.classLink own index "BallotHouse$Ballot").before args s = true) (hK : bh_K D cy s) (hI : bh_I D ws A H0 H locs) (hA : ∀ q, H0.size ≤ q → A q) {N : Nat} (hn : N < 2 ^ 31) (hbytes : N * 4 ≤ 536870912) (hcells : cells + 1 ≤ R.cells) (hslots : slots + N ≤ R.slots) (hdg : decode cc pc = .ok (.anewarray index, 3))
    (kk : ∀ (q : Nat) (H1 : Heap), bh_I D (ws ++ [(q, .inl (cy.2.2.2, N, .inr (.inr (.inr (.inr (fun _ => none))))))]) A H0 H1 locs → W p l e R s m args below meth c H1 locs (cells + 1) (slots + N) Q (F0 m (pc + 3) ls (.ref q :: rest))) : W p l e R s m args below meth c H locs cells slots Q (F0 m pc ls (.int (nI N) :: rest)) :=
  va_newq hx hb hown hclink hK.2.2.2 hK.1 hI.1 hI.2.1 hI.2.2 hA (nI_pos hn) (nI_clamp hn) hbytes hcells hslots hdg (fun q cA H1 hK' h1 h2 h3 => by
    obtain ⟨-, -, -, -, -, e1⟩ := (hK'.2 (bh_ty cy).length (cA, .object "BallotHouse$Ballot") (by rw [List.getElem?_append_right (Nat.le_refl _), Nat.sub_self]; rfl)).2
    obtain ⟨-, -, -, -, -, e2⟩ := (hK.1.2 3 (cy.2.2.2, .object "BallotHouse$Ballot") rfl).2
    have e3 : cA = cy.2.2.2 := Option.some.inj (e1.symm.trans e2)
    subst e3
    exact kk q H1 ⟨h1, h2, h3⟩)
theorem bm_new (hx : p.tables.exec = Jvm.exec) (hb : c.code = cc) {own C : String} {T : u_T} {N ci index : Nat} {Ts : List Cond} (hts : ∀ w ∈ Ts, w.before args s = true) (hin : ∀ w ∈ u_ws C T N, w ∈ Ts) (ty : Nat → FieldType) (hty : ∀ k, k < N → parseFieldDescriptor (T k).2.2.1 = some (ty k)) (hown : s.vm.findClass own = some m.cls) (hcl : (Cond.classLink own index C).before args s = true) (hinst : (Cond.instantiable C N).before args s = true) (hini : (Cond.initialized C).before args s = true) (hK : bh_K D cy s) (hI : bh_I D ws A H0 H locs) (hA : ∀ q, H0.size ≤ q → A q) (hc : vwCl[ci]? = some (C, T, N)) {fs : List Value} (hfs : ∀ j, j < N → defaultValue (ty j) = vp_V fs j) (hcells : cells + 1 ≤ R.cells) (hslots : slots + N ≤ R.slots) (hdg : decode cc pc = .ok (.new index, 3))
    (kk : ∀ (q : Nat) (H1 : Heap), bh_I D (ws ++ [(q, .inr (ci, fs))]) A H0 H1 locs → W p l e R s m args below meth c H1 locs (cells + 1) (slots + N) Q (F0 m (pc + 3) ls (.ref q :: rest))) : W p l e R s m args below meth c H locs cells slots Q (F0 m pc ls rest) :=
  va_new hx hb hts hin ty hty hown hcl hinst hini hK.1 hI.1 hI.2.1 hI.2.2 hA hc hfs hcells hslots hdg (fun q H1 h1 h2 h3 => kk q H1 ⟨h1, h2, h3⟩)
theorem bm_putF (hx : p.tables.exec = Jvm.exec) (hb : c.code = cc) {own C : String} {T : u_T} {N ci index : Nat} {Ts : List Cond} (hts : ∀ w ∈ Ts, w.before args s = true) (hin : ∀ w ∈ u_ws C T N, w ∈ Ts) (ty0 : Nat → FieldType) (hty : ∀ k, k < N → parseFieldDescriptor (T k).2.2.1 = some (ty0 k)) (hnm : ∀ a, a < N → ∀ b, b < N → a ≠ b → (T a).2.1 ≠ (T b).2.1) (hown : s.vm.findClass own = some m.cls) (hK : bh_K D cy s) (hI : bh_I D ws A H0 H locs) (q0 : Nat) {fs : List Value} (he : ws[q0]? = some (a, .inr (ci, fs))) (hc : vwCl[ci]? = some (C, T, N)) (k : Nat) (hk : k < N) (hlink : (Cond.fieldLink own index own (T k).2.1 (T k).2.2.1).before args s = true) (href : (T k).1 = own) (hfin : (T k).2.2.2 = true) (hin2 : meth.name = "<init>") {ty : FieldType} {v : Value} (hd : ty0 k = ty) (hn : narrow ty v = v) (hfit : fits ty v = true) (hl : k < fs.length) (hdg : decode cc pc = .ok (.putfield index, 3)) {ws' : va_W} (hws : ws.set q0 (a, .inr (ci, fs.set k v)) = ws')
    (kk : ∀ (H1 : Heap) (locs1 : List Loc), bh_I D ws' A H0 H1 locs1 → W p l e R s m args below meth c H1 locs1 cells slots Q (F0 m (pc + 3) ls rest)) : W p l e R s m args below meth c H locs cells slots Q (F0 m pc ls (v :: .ref a :: rest)) :=
  va_putF hx hb hts hin ty0 hty hnm hown hK.1 hI.1 hI.2.1 hI.2.2 q0 he hc k hk hlink (fun _ h9 => by rw [← href]; exact h9) hfin hin2 href (by rw [hty k hk, hd]) hn hfit hl hdg (fun H1 locs1 h1 h2 h3 => kk H1 locs1 ⟨hws ▸ h1, hws ▸ h2, h3⟩)
-- calls beside other cells
theorem bm_prI {wc : va_W} (hK : bh_K D cy s) (hI : bh_I D wc A H0 H locs) : PreS s H (va_Pc As (bh_prm D cy wc H.size)) As := ⟨bh_blindm, fun U hU hW => ⟨rfl, by rw [hU], by rw [hU]; exact hI.1, bh_K.moved hW hK, hI.2.1.weaken (fun _ _ _ _ => trivial)⟩⟩
theorem bm_muV {wc : va_W} {mc ms : Nat} {Qc : Array Value → State → Outcome → State → Prop} (S : CallFix p m c cc nL s args Ts own) (hM : Met l y wsy rm (va_Pc (.ref b :: As) (bh_prm D cy wc H.size)) Qc mc ms (va_A wc H.size)) (cw : CallW R s args own C index y bytes maxL ret wsy rm mc ms n) (hK : bh_K D cy s) (hI : bh_I D wc A H0 H locs) (q0 ci : Nat) {q : vw_C} {fs : List Value} (hc : vwCl[ci]? = some q) (hq : q.1 = C) (he : wc[q0]? = some (b, .inr (ci, fs))) (hn : As.length = n) (hsize : ls.size = nL) (hrm : (rest.map fun v => v.category).sum ≤ 8) (hdg : decode cc pc = .ok (.invokevirtual index, 3)) (hf : cells + mc ≤ R.cells ∧ slots + ms ≤ R.slots) :
    va_Run p l e R s m args below meth c H locs cells slots mc ms (F0 m pc ls (As.reverse ++ .ref b :: rest)) rest (Qc (Value.ref b :: As).toArray) (va_A wc H.size) := by
  subst hq
  exact va_runV S hM cw ⟨bh_blindm, va_recv hK.1 hI.1 hc he, fun U hU hW => ⟨rfl, by rw [hU], by rw [hU]; exact hI.1, bh_K.moved hW hK, hI.2.1.weaken (fun _ _ _ _ => trivial)⟩⟩ rfl hn hsize rfl (lv_room hrm) hdg hf
theorem bm_frv {wa wc : va_W} {mc ms : Nat} {U : Type} {wf : U → va_W} {post : U → Prop} {st0 : List Value} {ar : Array Value} (hr : va_Run p l e R s m args below meth c H locs cells slots mc ms (F0 m pc ls st0) rest (va_Qv post (fun u t => bh_post D cy (wf u) (va_A wc H.size) t) (va_A wc H.size) ar) (va_A wc H.size)) (hI : bh_I D (wa ++ wc) A H0 H locs) (hA : ∀ q, H0.size ≤ q → A q)
    (kk : ∀ (u : U) (H1 : Heap) (locs1 : List Loc), post u → bh_I D (wa ++ wf u) A H0 H1 locs1 → W p l e R s m args below meth c H1 locs1 (cells + mc) (slots + ms) Q (F0 m (pc + 3) ls rest)) : W p l e R s m args below meth c H locs cells slots Q (F0 m pc ls st0) :=
  va_callv hr hI.2.2 (fun q _ h => bh_free (bf_right hI) hA q h) (bh_free (bf_right hI) hA) (fun u t H1 locs1 ht _ hw hB _ hk hS => kk u H1 locs1 hw (bf_join hI (bh_free (bf_right hI) hA) hk (by rw [← ht]; exact hB.1) hB.2.2 hS))
theorem bm_fri {wa wc : va_W} {mc ms : Nat} {U : Type} {wf : U → va_W} {post : Int32 → U → Prop} {st0 : List Value} {ar : Array Value} (hr : va_Run p l e R s m args below meth c H locs cells slots mc ms (F0 m pc ls st0) rest (va_Qi post (fun u t => bh_post D cy (wf u) (va_A wc H.size) t) (va_A wc H.size) ar) (va_A wc H.size)) (hI : bh_I D (wa ++ wc) A H0 H locs) (hA : ∀ q, H0.size ≤ q → A q)
    (kk : ∀ (r : Int32) (u : U) (H1 : Heap) (locs1 : List Loc), post r u → bh_I D (wa ++ wf u) A H0 H1 locs1 → W p l e R s m args below meth c H1 locs1 (cells + mc) (slots + ms) Q (F0 m (pc + 3) ls (.int r :: rest))) : W p l e R s m args below meth c H locs cells slots Q (F0 m pc ls st0) :=
  va_calli hr hI.2.2 (fun q _ h => bh_free (bf_right hI) hA q h) (bh_free (bf_right hI) hA) (fun r u t H1 locs1 ht _ hw hB _ hk hS => kk r u H1 locs1 hw (bf_join hI (bh_free (bf_right hI) hA) hk (by rw [← ht]; exact hB.1) hB.2.2 hS))
end BHM
theorem bm_ci (N : Nat) (cA : ClassId) : vp_cell cA (N, .inl (fun _ => 0)) = arrV cA N (fun _ => defaultValue .int) := rfl
theorem bm_cz (N : Nat) (cA : ClassId) : vp_cell cA (N, .inl (fun _ => 0)) = arrV cA N (fun _ => defaultValue .boolean) := rfl
theorem bm_cl (N : Nat) (cA : ClassId) : vp_cell cA (N, .inr (.inl (fun _ => 0))) = arrV cA N (fun _ => defaultValue .long) := rfl
