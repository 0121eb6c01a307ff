/-! the class's world grows by a ballot -/
def bh_ba (ba : Nat → Nat → Nat) (km q : Nat) (u : Nat → Nat) : Nat → Nat → Nat := fun b j => if b = km + 1 then (if j = 0 then q else u j) else ba b j
theorem bh_ba_old (ba : Nat → Nat → Nat) (km q : Nat) (u : Nat → Nat) {b : Nat} (h : b ≤ km) (j : Nat) : bh_ba ba km q u b j = ba b j := if_neg (by omega)
theorem bh_cbs_grow (ba : Nat → Nat → Nat) (c : bh_C) (C : cS) (km q : Nat) (u : Nat → Nat) (x y z rd : Int32) (k : Nat) (hk : k ≤ km) : bh_cbs (bh_ba ba km q u) c (bc_nbB C km x y z rd) k = bh_cbs ba c C.2 k := by
  induction k with
  | zero => rfl
  | succ k ih =>
    show bh_cbs (bh_ba ba km q u) c (bc_nbB C km x y z rd) k ++ bh_cb5 (bh_ba ba km q u) c (bc_nbB C km x y z rd) (k + 1) = bh_cbs ba c C.2 k ++ bh_cb5 ba c C.2 (k + 1)
    rw [ih (by omega)]
    congr 1
    simp only [bh_cb5, bh_bfl, bh_ba_old ba km q u hk, rn_f C km x y z rd hk, rn_q C km x y z rd hk, rn_w C km x y z rd hk]
theorem bh_bref_grow (ba : Nat → Nat → Nat) (km q : Nat) (u : Nat → Nat) : va_up (bh_bref ba km) km (some q) = bh_bref (bh_ba ba km q u) (km + 1) := by
  funext j
  unfold va_up bh_bref
  by_cases h : j = km
  · subst h
    rw [if_pos rfl, if_pos (by omega)]
    unfold bh_ba
    rw [if_pos rfl, if_pos rfl]
  · rw [if_neg h]
    by_cases h2 : j < km
    · rw [if_pos h2, if_pos (by omega), bh_ba_old ba km q u (by omega)]
    · rw [if_neg h2, if_neg (by omega)]
def bh_w5 (c : bh_C) (q : Nat) (u : Nat → Nat) (n x y z o t : Int32) : va_W := [(q, .inr (1, [.int n, .int x, .int y, .int z, .int o, .int t, .int (nI 0), .int 0, .int 0, .int 0, .ref (u 1), .ref (u 2), .ref (u 3), .ref (u 4)])), (u 1, .inl (c.1, 8, .inl (fun _ => 0))), (u 2, .inl (c.2.1, 8, .inr (.inl (fun _ => 0)))), (u 3, .inl (c.1, 8, .inl (fun _ => 0))), (u 4, .inl (c.1, 8, .inl (fun _ => 0)))]
theorem bh_cw_grow (h : Nat) (ad : Nat → Nat) (ba : Nat → Nat → Nat) (c : bh_C) (nv km : Nat) (C : cS) (q : Nat) (u : Nat → Nat) (x y z : Int32) (g : Nat) : ((bh_cw h ad ba c nv km C ++ bh_w5 c q u (nI (km + 1)) x y z (C.1.2.1 6) (bc_mfL C (bh_fr g) (km + 1 - bh_fr g))).set 3 (ad 4, .inl (c.2.2.2, 24, .inr (.inr (.inr (.inr (va_up (bh_bref ba km) km (some q)))))))).set 0 (h, .inr (2, (bh_hf ad nv km C).set 5 (.int (nI (km + 1))))) = bh_cw h ad (bh_ba ba km q u) c nv (km + 1) (bc_nb C km x y z g) := by
  rw [bh_bref_grow ba km q u]
  have e5 : bh_cb5 (bh_ba ba km q u) c (bc_nbB C km x y z (bc_mfL C (bh_fr g) (km + 1 - bh_fr g))) (km + 1) = bh_w5 c q u (nI (km + 1)) x y z (C.1.2.1 6) (bc_mfL C (bh_fr g) (km + 1 - bh_fr g)) := by
    have b0 : bh_ba ba km q u (km + 1) 0 = q := by unfold bh_ba; rw [if_pos rfl, if_pos rfl]
    have bj : ∀ j, j ≠ 0 → bh_ba ba km q u (km + 1) j = u j := fun j hj => by unfold bh_ba; rw [if_pos rfl, if_neg hj]
    simp only [bh_cb5, bh_bfl, bh_w5, b0, bj 1 (by omega), bj 2 (by omega), bj 3 (by omega), bj 4 (by omega), rn_fn, rn_qn, rn_wn]
    rfl
  have e6 : bh_cbs (bh_ba ba km q u) c (bc_nb C km x y z g).2 (km + 1) = bh_cbs ba c C.2 km ++ bh_w5 c q u (nI (km + 1)) x y z (C.1.2.1 6) (bc_mfL C (bh_fr g) (km + 1 - bh_fr g)) := by
    show bh_cbs (bh_ba ba km q u) c (bc_nbB C km x y z _) km ++ bh_cb5 (bh_ba ba km q u) c (bc_nbB C km x y z _) (km + 1) = _
    rw [bh_cbs_grow ba c C km q u x y z _ km (Nat.le_refl _), e5]
  unfold bh_cw
  rw [e6, List.append_assoc]
  rfl
def bc_bC (nv km : Nat) (x y z : Int32) : Bool := decide (km < 24) && decide (bc_cbC nv x y z)
def bc_bR (nv km : Nat) (x y z : Int32) : Int32 := if bc_bC nv km x y z = true then nI (km + 1) else -1
def bc_bU (C : cS) (nv km : Nat) (x y z : Int32) (g : Nat) : Nat × cS := if bc_bC nv km x y z = true then (km + 1, bc_bal C km x y z g) else (km, C)
