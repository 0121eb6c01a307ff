/-! the class's state and world -/
abbrev cB : Type := (Nat → Nat → Int32) × (Nat → Nat → Nat → Int32) × (Nat → Nat → Int64)
abbrev cS : Type := mS × cB
def bc_n (C : cS) (k v : Nat) : cS := (bh_n C.1 k v, C.2)
def bc_i (C : cS) (k : Nat) (v : Int32) : cS := (bh_i C.1 k v, C.2)
def bc_R (C : cS) (k : Nat) (f : Nat → Int32) : cS := (bh_R C.1 k f, C.2)
def bc_L (C : cS) (k : Nat) (f : Nat → Int64) : cS := (bh_L C.1 k f, C.2)
def bc_r (C : cS) (k i : Nat) (v : Int32) : cS := (bh_r C.1 k i v, C.2)
def bc_l (C : cS) (k i : Nat) (v : Int64) : cS := (bh_l C.1 k i v, C.2)
def bc_f (C : cS) (f b : Nat) (v : Int32) : cS := (C.1, va_up C.2.1 f (upd (C.2.1 f) b v), C.2.2)
def bc_q (C : cS) (f b p : Nat) (v : Int32) : cS := (C.1, C.2.1, va_up C.2.2.1 f (va_up (C.2.2.1 f) b (upd (C.2.2.1 f b) p v)), C.2.2.2)
def bc_w (C : cS) (b p : Nat) (v : Int64) : cS := (C.1, C.2.1, C.2.2.1, va_up C.2.2.2 b (vp_updL (C.2.2.2 b) p v))
def bh_bfl (ba : Nat → Nat → Nat) (B : cB) (b : Nat) : List Value := [.int (nI b), .int (B.1 1 b), .int (B.1 2 b), .int (B.1 3 b), .int (B.1 4 b), .int (B.1 5 b), .int (B.1 6 b), .int (B.1 7 b), .int (B.1 8 b), .int (B.1 9 b), .ref (ba b 1), .ref (ba b 2), .ref (ba b 3), .ref (ba b 4)]
def bh_cb5 (ba : Nat → Nat → Nat) (c : bh_C) (B : cB) (b : Nat) : va_W := [(ba b 0, .inr (1, bh_bfl ba B b)), (ba b 1, .inl (c.1, 8, .inl (B.2.1 10 b))), (ba b 2, .inl (c.2.1, 8, .inr (.inl (B.2.2 b)))), (ba b 3, .inl (c.1, 8, .inl (B.2.1 12 b))), (ba b 4, .inl (c.1, 8, .inl (B.2.1 13 b)))]
def bh_cbs (ba : Nat → Nat → Nat) (c : bh_C) (B : cB) : Nat → va_W
  | 0 => []
  | b + 1 => bh_cbs ba c B b ++ bh_cb5 ba c B (b + 1)
def bh_bref (ba : Nat → Nat → Nat) (km : Nat) : Nat → Option Nat := fun j => if j < km then some (ba (j + 1) 0) else none
def bh_hf (ad : Nat → Nat) (nv km : Nat) (C : cS) : List Value := [.int (nI nv), .ref (ad 1), .ref (ad 2), .int (C.1.2.1 3), .ref (ad 4), .int (nI km), .int (C.1.2.1 6), .ref (ad 7)]
def bh_af (ad : Nat → Nat) (C : cS) : List Value := [.ref (ad 10), .ref (ad 11), .ref (ad 12), .ref (ad 13), .ref (ad 14), .int (nI (C.1.1 15)), .int (C.1.2.1 16)]
def bh_c10 (h : Nat) (ad : Nat → Nat) (ba : Nat → Nat → Nat) (c : bh_C) (nv km : Nat) (C : cS) : va_W := [(h, .inr (2, bh_hf ad nv km C)), (ad 1, .inl (c.1, nv, .inl (C.1.2.2.1 1))), (ad 2, .inl (c.2.1, nv, .inr (.inl (C.1.2.2.2 2)))), (ad 4, .inl (c.2.2.2, 24, .inr (.inr (.inr (.inr (bh_bref ba km)))))), (ad 7, .inr (0, bh_af ad C)), (ad 10, .inl (c.1, 400, .inl (C.1.2.2.1 10))), (ad 11, .inl (c.1, 400, .inl (C.1.2.2.1 11))), (ad 12, .inl (c.1, 400, .inl (C.1.2.2.1 12))), (ad 13, .inl (c.1, 400, .inl (C.1.2.2.1 13))), (ad 14, .inl (c.2.1, 400, .inr (.inl (C.1.2.2.2 14))))]
def bh_cw (h : Nat) (ad : Nat → Nat) (ba : Nat → Nat → Nat) (c : bh_C) (nv km : Nat) (C : cS) : va_W := bh_c10 h ad ba c nv km C ++ bh_cbs ba c C.2 km
theorem bh_cbs_len (ba : Nat → Nat → Nat) (c : bh_C) (B : cB) (k : Nat) : (bh_cbs ba c B k).length = 5 * k := by
  induction k with
  | zero => rfl
  | succ k ih =>
    show (bh_cbs ba c B k ++ bh_cb5 ba c B (k + 1)).length = _
    rw [List.length_append, ih]
    show 5 * k + 5 = 5 * (k + 1)
    omega
theorem bh_cbs_get (ba : Nat → Nat → Nat) (c : bh_C) (B : cB) {b j : Nat} (hb : 1 ≤ b) (hj : j < 5) (k : Nat) (hk : b ≤ k) : (bh_cbs ba c B k)[5 * (b - 1) + j]? = (bh_cb5 ba c B b)[j]? := by
  induction k with
  | zero => omega
  | succ k ih =>
    show (bh_cbs ba c B k ++ bh_cb5 ba c B (k + 1))[5 * (b - 1) + j]? = _
    have hl := bh_cbs_len ba c B k
    by_cases h : b ≤ k
    · rw [List.getElem?_append_left (by omega)]
      exact ih h
    · obtain rfl : b = k + 1 := by omega
      rw [List.getElem?_append_right (by omega), hl]
      congr 1
      omega
theorem bh_cbs_out (ba : Nat → Nat → Nat) (c : bh_C) (B B' : cB) {b : Nat} (ho : ∀ x, x ≠ b → bh_cb5 ba c B' x = bh_cb5 ba c B x) (k : Nat) (hk : k < b) : bh_cbs ba c B k = bh_cbs ba c B' k := by
  induction k with
  | zero => rfl
  | succ k ih =>
    show bh_cbs ba c B k ++ bh_cb5 ba c B (k + 1) = bh_cbs ba c B' k ++ bh_cb5 ba c B' (k + 1)
    rw [ih (by omega), ho (k + 1) (by omega)]
theorem bh_cbs_set (ba : Nat → Nat → Nat) (c : bh_C) (B B' : cB) {b j : Nat} {e : Nat × va_E} (hb : 1 ≤ b) (hj : j < 5) (ho : ∀ x, x ≠ b → bh_cb5 ba c B' x = bh_cb5 ba c B x) (hs : bh_cb5 ba c B' b = (bh_cb5 ba c B b).set j e) (k : Nat) (hk : b ≤ k) : (bh_cbs ba c B k).set (5 * (b - 1) + j) e = bh_cbs ba c B' k := by
  induction k with
  | zero => omega
  | succ k ih =>
    show (bh_cbs ba c B k ++ bh_cb5 ba c B (k + 1)).set (5 * (b - 1) + j) e = bh_cbs ba c B' k ++ bh_cb5 ba c B' (k + 1)
    have hl := bh_cbs_len ba c B k
    by_cases h : b ≤ k
    · rw [List.set_append_left _ _ (by omega), ih h, ho (k + 1) (by omega)]
    · obtain rfl : b = k + 1 := by omega
      rw [List.set_append_right _ _ (by omega), hl, hs, bh_cbs_out ba c B B' ho k (by omega)]
      congr 2
      omega
theorem bh_cw_b {h : Nat} {ad : Nat → Nat} {ba : Nat → Nat → Nat} {c : bh_C} {nv km : Nat} {C : cS} {b : Nat} (hb : 1 ≤ b) (hk : b ≤ km) (j : Nat) (hj : j < 5) : (bh_cw h ad ba c nv km C)[10 + (5 * (b - 1) + j)]? = (bh_cb5 ba c C.2 b)[j]? := by
  unfold bh_cw
  rw [List.getElem?_append_right (by show 10 ≤ _; omega)]
  show (bh_cbs ba c C.2 km)[10 + (5 * (b - 1) + j) - 10]? = _
  rw [Nat.add_sub_cancel_left]
  exact bh_cbs_get ba c C.2 hb hj km hk
theorem bh_cw_bs {h : Nat} {ad : Nat → Nat} {ba : Nat → Nat → Nat} {c : bh_C} {nv km : Nat} {C : cS} {B' : cB} {b j : Nat} {e : Nat × va_E} (hb : 1 ≤ b) (hk : b ≤ km) (hj : j < 5) (ho : ∀ x, x ≠ b → bh_cb5 ba c B' x = bh_cb5 ba c C.2 x) (hs : bh_cb5 ba c B' b = (bh_cb5 ba c C.2 b).set j e) : (bh_cw h ad ba c nv km C).set (10 + (5 * (b - 1) + j)) e = bh_cw h ad ba c nv km (C.1, B') := by
  unfold bh_cw
  rw [List.set_append_right _ _ (by show 10 ≤ _; omega)]
  show bh_c10 h ad ba c nv km C ++ (bh_cbs ba c C.2 km).set (10 + (5 * (b - 1) + j) - 10) e = _
  rw [Nat.add_sub_cancel_left, bh_cbs_set ba c C.2 B' hb hj ho hs km hk]
  rfl
theorem bh_up_same {α : Type} (f : Nat → α) (k : Nat) (v : α) : va_up f k v k = v := if_pos rfl
theorem bh_upd_same (f : Nat → Int32) (k : Nat) (v : Int32) : upd f k v k = v := if_pos rfl
theorem bh_upd_ne (f : Nat → Int32) {k j : Nat} (v : Int32) (h : j ≠ k) : upd f k v j = f j := if_neg h
theorem bh_cw_f {h : Nat} {ad : Nat → Nat} {ba : Nat → Nat → Nat} {c : bh_C} {nv km : Nat} {C : cS} {b : Nat} (f : Nat) (v : Int32) (hf : 1 ≤ f ∧ f ≤ 9) (hb : 1 ≤ b) (hk : b ≤ km) : (bh_cw h ad ba c nv km C).set (10 + (5 * (b - 1) + 0)) (ba b 0, .inr (1, (bh_bfl ba C.2 b).set f (.int v))) = bh_cw h ad ba c nv km (bc_f C f b v) := by
  refine bh_cw_bs hb hk (by omega) (fun x hx => ?_) ?_
  · have e : ∀ g, va_up C.2.1 f (upd (C.2.1 f) b v) g x = C.2.1 g x := by
      intro g
      unfold va_up
      split
      · next hg => rw [bh_upd_ne _ _ hx, hg]
      · rfl
    simp only [bh_cb5, bh_bfl, e]
  · have e : ∀ g, va_up C.2.1 f (upd (C.2.1 f) b v) g b = if g = f then v else C.2.1 g b := by
      intro g
      unfold va_up
      split
      · rw [bh_upd_same]
      · rfl
    simp only [bh_cb5, bh_bfl, e]
    rcases (show f = 1 ∨ f = 2 ∨ f = 3 ∨ f = 4 ∨ f = 5 ∨ f = 6 ∨ f = 7 ∨ f = 8 ∨ f = 9 by omega) with rfl | rfl | rfl | rfl | rfl | rfl | rfl | rfl | rfl <;> rfl
theorem bh_cw_q1 {h : Nat} {ad : Nat → Nat} {ba : Nat → Nat → Nat} {c : bh_C} {nv km : Nat} {C : cS} {b : Nat} (p : Nat) (v : Int32) (hb : 1 ≤ b) (hk : b ≤ km) : (bh_cw h ad ba c nv km C).set (10 + (5 * (b - 1) + 1)) (ba b 1, .inl (c.1, 8, .inl (upd (C.2.2.1 10 b) p v))) = bh_cw h ad ba c nv km (bc_q C 10 b p v) := by
  refine bh_cw_bs hb hk (by omega) (fun x hx => ?_) ?_
  · simp [bh_cb5, bh_bfl, va_up, hx]
  · simp [bh_cb5, bh_bfl, va_up]
theorem bh_cw_q3 {h : Nat} {ad : Nat → Nat} {ba : Nat → Nat → Nat} {c : bh_C} {nv km : Nat} {C : cS} {b : Nat} (p : Nat) (v : Int32) (hb : 1 ≤ b) (hk : b ≤ km) : (bh_cw h ad ba c nv km C).set (10 + (5 * (b - 1) + 3)) (ba b 3, .inl (c.1, 8, .inl (upd (C.2.2.1 12 b) p v))) = bh_cw h ad ba c nv km (bc_q C 12 b p v) := by
  refine bh_cw_bs hb hk (by omega) (fun x hx => ?_) ?_
  · simp [bh_cb5, bh_bfl, va_up, hx]
  · simp [bh_cb5, bh_bfl, va_up]
theorem bh_cw_q4 {h : Nat} {ad : Nat → Nat} {ba : Nat → Nat → Nat} {c : bh_C} {nv km : Nat} {C : cS} {b : Nat} (p : Nat) (v : Int32) (hb : 1 ≤ b) (hk : b ≤ km) : (bh_cw h ad ba c nv km C).set (10 + (5 * (b - 1) + 4)) (ba b 4, .inl (c.1, 8, .inl (upd (C.2.2.1 13 b) p v))) = bh_cw h ad ba c nv km (bc_q C 13 b p v) := by
  refine bh_cw_bs hb hk (by omega) (fun x hx => ?_) ?_
  · simp [bh_cb5, bh_bfl, va_up, hx]
  · simp [bh_cb5, bh_bfl, va_up]
theorem bh_cw_w {h : Nat} {ad : Nat → Nat} {ba : Nat → Nat → Nat} {c : bh_C} {nv km : Nat} {C : cS} {b : Nat} (p : Nat) (v : Int64) (hb : 1 ≤ b) (hk : b ≤ km) : (bh_cw h ad ba c nv km C).set (10 + (5 * (b - 1) + 2)) (ba b 2, .inl (c.2.1, 8, .inr (.inl (vp_updL (C.2.2.2 b) p v)))) = bh_cw h ad ba c nv km (bc_w C b p v) := by
  refine bh_cw_bs hb hk (by omega) (fun x hx => ?_) ?_
  · simp [bh_cb5, bh_bfl, va_up, hx]
  · simp [bh_cb5, bh_bfl, va_up]
-- the class's methods as functions
def bh_bc (i : Int32) : Int32 :=
  let a := i - ((i.toUInt32 >>> ((nI 1).toUInt32 &&& Int32.toUInt32 31)).toInt32 &&& 1431655765)
  let b := (a &&& 858993459) + ((a.toUInt32 >>> ((nI 2).toUInt32 &&& Int32.toUInt32 31)).toInt32 &&& 858993459)
  let d := (b + (b.toUInt32 >>> ((nI 4).toUInt32 &&& Int32.toUInt32 31)).toInt32) &&& 252645135
  let e := d + (d.toUInt32 >>> ((nI 8).toUInt32 &&& Int32.toUInt32 31)).toInt32
  let f := e + (e.toUInt32 >>> ((nI 16).toUInt32 &&& Int32.toUInt32 31)).toInt32
  f &&& nI 63
def bh_at (x : Int64) (q : Nat) : Int32 := ((x.toUInt64 >>> ((nI (q * 8)).toInt64.toUInt64 &&& Int64.toUInt64 63)).toInt64 &&& 255).toInt32
def bh_wi (x : Int64) (q : Nat) (v : Int32) : Int64 := (x &&& ((255 <<< ((nI (q * 8)).toInt64 &&& 63)) ^^^ -1)) ||| (v.toInt64 <<< ((nI (q * 8)).toInt64 &&& 63))
def bh_plL (x : Int64) : Nat → Int32
  | 0 => nI 0
  | q + 1 => if bh_at x q = 0 then bh_plL x q else bh_plL x q ||| bh_bit q
def bc_sdA (C : cS) (kd bb vv pp : Int32) (x : Int64) : cS := bc_l (bc_r (bc_r (bc_r (bc_r C 10 (C.1.1 15) kd) 11 (C.1.1 15) bb) 12 (C.1.1 15) vv) 13 (C.1.1 15) pp) 14 (C.1.1 15) x
def bc_sd (C : cS) (kd bb vv pp : Int32) (x : Int64) : cS := if C.1.1 15 < 400 then bc_n (bc_sdA C kd bb vv pp x) 15 (C.1.1 15 + 1) else bc_i C 16 (C.1.2.1 16 + nI 1)
def bc_dp (C : cS) (k : Nat) : cS := bc_n (bc_L (bc_R (bc_R (bc_R (bc_R C 10 (va_cpy (C.1.2.2.1 10) (C.1.2.2.1 10) (k + 1) k (C.1.1 15 - k - 1))) 11 (va_cpy (C.1.2.2.1 11) (C.1.2.2.1 11) (k + 1) k (C.1.1 15 - k - 1))) 12 (va_cpy (C.1.2.2.1 12) (C.1.2.2.1 12) (k + 1) k (C.1.1 15 - k - 1))) 13 (va_cpy (C.1.2.2.1 13) (C.1.2.2.1 13) (k + 1) k (C.1.1 15 - k - 1))) 14 (va_cpy (C.1.2.2.2 14) (C.1.2.2.2 14) (k + 1) k (C.1.1 15 - k - 1))) 15 (C.1.1 15 - 1)
def bc_rp (C : cS) (k : Nat) : cS := bc_sd C (C.1.2.2.1 10 k) (C.1.2.2.1 11 k) (C.1.2.2.1 12 k) (C.1.2.2.1 13 k) (C.1.2.2.2 14 k)
def bc_hw (C : cS) (b q : Nat) : Bool := !decide ((C.2.1 8 b ||| C.2.1 9 b) &&& bh_bit q = 0)
def bc_kn (C : cS) (b q : Nat) : Bool := decide (C.2.1 3 b ≤ bh_bc (C.2.2.1 12 b q))
def bc_hc (C : cS) (b q : Nat) : Bool := decide (C.2.1 3 b ≤ bh_bc (C.2.2.1 13 b q))
def bc_kpL (C : cS) (b : Nat) : Nat → Int32
  | 0 => nI 0
  | q + 1 => if bc_kn C b q = true then bc_kpL C b q ||| bh_bit q else bc_kpL C b q
def bc_kp (C : cS) (b : Nat) : Int32 := bc_kpL C b 8
abbrev bc_cbC (nv : Nat) (x y z : Int32) : Prop := ¬ x < nI 1 ∧ x < nI 1 <<< (nI nv &&& 31) ∧ ¬ y < nI 1 ∧ ¬ bh_bc x < y ∧ ¬ z < nI 1 ∧ ¬ bh_bc x < z ∧ ¬ y + z ≤ bh_bc x
def bc_mfL (C : cS) (f : Nat) : Nat → Int32
  | 0 => nI 0
  | d + 1 => bc_mfL C f d ||| C.2.1 1 (f + d)
def bc_chL (C : cS) (q : Nat) : Nat → Nat → Option Nat
  | 0, _ => none
  | f + 1, b => if bc_hc C b q = true then some b else bc_chL C q f (b + 1)
def bc_ch (C : cS) (km q : Nat) : Option Nat := bc_chL C q km 1
theorem bc_chL_in (C : cS) (q f b : Nat) {j : Nat} (h : bc_chL C q f b = some j) : b ≤ j ∧ j < b + f := by
  induction f generalizing b with
  | zero => cases h
  | succ f ih =>
    unfold bc_chL at h
    split at h
    · cases h
      omega
    · have := ih (b + 1) h
      omega
def bc_seL (C : cS) (rc kd : Int32) (b : Nat) (pl : Int32) : Nat → cS
  | 0 => C
  | v + 1 => if rc &&& bh_bit v = 0 then bc_seL C rc kd b pl v else bc_sd (bc_seL C rc kd b pl v) kd (nI b) (nI v) pl 0
theorem bc_sd_le {C : cS} (kd bb vv pp : Int32) (x : Int64) (h : C.1.1 15 ≤ 400) : (bc_sd C kd bb vv pp x).1.1 15 ≤ 400 := by
  unfold bc_sd
  split
  · show C.1.1 15 + 1 ≤ 400
    omega
  · exact h
theorem bc_sd_2 (C : cS) (kd bb vv pp : Int32) (x : Int64) : (bc_sd C kd bb vv pp x).2 = C.2 := by
  unfold bc_sd
  split <;> rfl
theorem bc_seL_le {C : cS} (h : C.1.1 15 ≤ 400) (rc kd : Int32) (b : Nat) (pl : Int32) (v : Nat) : (bc_seL C rc kd b pl v).1.1 15 ≤ 400 := by
  induction v with
  | zero => exact h
  | succ v ih =>
    unfold bc_seL
    split
    · exact ih
    · exact bc_sd_le _ _ _ _ _ ih
theorem bc_seL_2 (C : cS) (rc kd : Int32) (b : Nat) (pl : Int32) (v : Nat) : (bc_seL C rc kd b pl v).2 = C.2 := by
  induction v with
  | zero => rfl
  | succ v ih =>
    unfold bc_seL
    split
    · exact ih
    · rw [bc_sd_2]; exact ih
def bc_smL (C : cS) (nv b : Nat) : Nat → Int32 × cS
  | 0 => (nI 0, C)
  | q + 1 => if bc_hw C b q = true ∧ bc_kn C b q = false then ((bc_smL C nv b q).1 + bh_bc (C.2.1 1 b &&& (C.2.2.1 12 b q ^^^ -1)), bc_seL (bc_smL C nv b q).2 (C.2.1 1 b &&& (C.2.2.1 12 b q ^^^ -1)) (nI 4) b (nI q) nv) else bc_smL C nv b q
theorem bc_smL_le {C : cS} (h : C.1.1 15 ≤ 400) (nv b q : Nat) : (bc_smL C nv b q).2.1.1 15 ≤ 400 := by
  induction q with
  | zero => exact h
  | succ q ih =>
    unfold bc_smL
    split
    · exact bc_seL_le ih _ _ _ _ _
    · exact ih
theorem bc_smL_2 (C : cS) (nv b q : Nat) : (bc_smL C nv b q).2.2 = C.2 := by
  induction q with
  | zero => rfl
  | succ q ih =>
    unfold bc_smL
    split
    · rw [bc_seL_2]; exact ih
    · exact ih
theorem bc_hw_2 {C T : cS} (h : T.2 = C.2) (b q : Nat) : bc_hw T b q = bc_hw C b q := by unfold bc_hw; rw [h]
theorem bc_kn_2 {C T : cS} (h : T.2 = C.2) (b q : Nat) : bc_kn T b q = bc_kn C b q := by unfold bc_kn; rw [h]
def bc_fs (C : cS) (k : Nat) : Bool := decide (C.1.2.2.1 10 k = nI 2 ∨ C.1.2.2.1 10 k = nI 4) && !decide (C.1.2.1 3 &&& (nI 1 <<< (C.1.2.2.1 12 k &&& 31)) = 0)
def bc_ff (C : cS) : Nat → Nat → Option Nat
  | 0, _ => none
  | f + 1, j => if bc_fs C j = true then bc_ff C f (j + 1) else some j
def bc_fd (C : cS) : Option Nat := bc_ff C (C.1.1 15) 0
theorem bc_ff_in (C : cS) (f j : Nat) {i : Nat} (h : bc_ff C f j = some i) : j ≤ i ∧ i < j + f ∧ bc_fs C i = false := by
  induction f generalizing j with
  | zero => cases h
  | succ f ih =>
    unfold bc_ff at h
    split at h
    · have := ih (j + 1) h
      exact ⟨by omega, by omega, this.2.2⟩
    · next hc =>
      cases h
      exact ⟨by omega, by omega, by simpa using hc⟩
def bc_irL (C : cS) (b f : Nat) : Nat → Bool
  | 0 => true
  | d + 1 => bc_irL C b f d && decide (C.2.1 2 (f + d) ≤ bh_bc (C.2.1 1 (f + d) &&& C.2.1 7 b))
def bc_ir (C : cS) (b g : Nat) : Bool := bc_irL C b (bh_fr g) (b - bh_fr g)
theorem bc_irL_f {C : cS} {b f d d' : Nat} (h : bc_irL C b f d = false) (hd : d ≤ d') : bc_irL C b f d' = false := by
  induction hd with
  | refl => exact h
  | step _ ih => unfold bc_irL; rw [ih]; rfl
/-- reading is over: the votes go out -/
def bc_g1 (C : cS) (nv b g : Nat) : cS := if C.2.1 6 b = nI 1 ∧ bc_ir C b g = true then (bc_smL (bc_f C 6 b (nI 2)) nv b 8).2 else C
def bc_go (C : cS) (nv b g : Nat) : cS := if (bc_g1 C nv b g).2.1 6 b = nI 2 ∧ (bc_g1 C nv b g).2.1 8 b &&& (bc_kp (bc_g1 C nv b g) b ^^^ -1) = 0 then bc_sd (bc_f (bc_g1 C nv b g) 6 b (nI 3)) (nI 6) (nI b) (-1) (-1) 0 else bc_g1 C nv b g
theorem bc_g1_le {C : cS} (h : C.1.1 15 ≤ 400) (nv b g : Nat) : (bc_g1 C nv b g).1.1 15 ≤ 400 := by
  unfold bc_g1
  split
  · exact bc_smL_le (C := bc_f C 6 b (nI 2)) h _ _ _
  · exact h
def bc_ne (C : cS) (nv b g : Nat) : cS := if C.2.1 6 b = 0 then bc_go (bc_seL (bc_f C 6 b (nI 1)) (C.2.1 5 b) (nI 2) b (-1) nv) nv b g else C
def bc_re (C : cS) (b v : Nat) : cS := if C.1.2.2.1 1 v ≤ nI b then bc_sd (bc_r C 1 v (nI b)) (nI 3) (nI b) (nI v) (-1) (C.1.2.2.2 2 v) else C
def bc_tfL (C : cS) (km b : Nat) (x : Int64) : Nat → cS
  | 0 => C
  | q + 1 => match bh_ixb (bh_at x q) km with
    | none => bc_tfL C km b x q
    | some j => if nI j ≤ (bc_tfL C km b x q).2.2.1 10 b q then bc_tfL C km b x q else bc_w (bc_q (bc_f (bc_tfL C km b x q) 8 b ((bc_tfL C km b x q).2.1 8 b ||| bh_bit q)) 10 b q (nI j)) b q ((bc_tfL C km b x q).2.2.2 j q)
theorem bc_tfL_1 (C : cS) (km b : Nat) (x : Int64) (q : Nat) : (bc_tfL C km b x q).1 = C.1 := by
  induction q with
  | zero => rfl
  | succ q ih =>
    unfold bc_tfL
    split
    · exact ih
    · split
      · exact ih
      · exact ih
def bc_ra1 (C : cS) (km b v : Nat) (x : Int64) : cS := bc_tfL (bc_f C 7 b (C.2.1 7 b ||| bh_bit v)) km b x 8
def bc_ra (C : cS) (nv km b v g : Nat) (x : Int64) : cS := if C.2.1 6 b = nI 1 ∧ C.2.1 7 b &&& bh_bit v = 0 then bc_go (bc_ra1 C km b v x) nv b g else C
def bc_vo (C : cS) (b v p : Nat) : cS := if C.1.2.2.1 1 v ≤ nI b then bc_sd (bc_q (bc_l (bc_r C 1 v (nI b)) 2 v (bh_wi (C.1.2.2.2 2 v) p (nI b))) 13 b p (C.2.2.1 13 b p ||| bh_bit v)) (nI 5) (nI b) (nI v) (nI p) 0 else C
def bc_va (C : cS) (nv b v p g : Nat) : cS := if nI 2 ≤ C.2.1 6 b then bc_go (bc_q C 12 b p (C.2.2.1 12 b p ||| bh_bit v)) nv b g else C
def bc_co (C : cS) (b : Nat) : cS := if C.1.2.1 6 = C.2.1 4 b ∨ C.1.2.1 6 = nI b then bc_sd (bc_i C 6 (nI b)) (nI 7) (nI b) (-1) (-1) 0 else C
def bc_ac (C : cS) (b : Nat) : cS := if C.2.1 6 b = nI 3 then bc_f C 6 b (nI 4) else C
def bc_do (C : cS) (nv km w b v p g : Nat) (x : Int64) : cS :=
  if w = 1 then bc_ne C nv b g
  else if w = 2 then bc_re C b v
  else if w = 3 then bc_ra C nv km b v g x
  else if w = 4 then bc_vo C b v p
  else if w = 5 then bc_va C nv b v p g
  else if w = 6 then bc_co C b
  else bc_ac C b
/-- a letter k as it lies -/
def bc_let (C : cS) (nv km k w b v p g : Nat) : Prop := C.1.2.2.1 10 k = nI w ∧ C.1.2.2.1 11 k = nI b ∧ C.2.1 4 b = nI g ∧ (1 ≤ w ∧ w ≤ 7) ∧ (1 ≤ b ∧ b ≤ km) ∧ g ≤ 24 ∧ (2 ≤ w ∧ w ≤ 5 → C.1.2.2.1 12 k = nI v ∧ v < nv) ∧ (4 ≤ w ∧ w ≤ 5 → C.1.2.2.1 13 k = nI p ∧ p < 8)
theorem bn_roSN {p : Program} {l : Launch} {e : Env} {R : Room} {s : State} {m : MethodId} {args : Array Value} {below : List Frame} {meth : Method} {c : Code} {H : Heap} {locs : List Loc} {cells slots : Nat} {cc bytes : ByteArray} {pc : Nat} {ls : Array Slot} {rest : List Value} {y : MethodName} {maxL nL n index : Nat} {ret : Option FieldType} {wsy Ts : List Cond} {rm : Room} {own host : String} {As : List Value} {Qc : Array Value → State → Outcome → State → Prop} (S : CallFix p m c cc nL s args Ts own) (hM : Met l y wsy rm (va_Pc As (fun _ => True)) Qc 0 0 (fun _ => False)) (cw : va_CN R s args own index y host bytes maxL ret wsy rm 0 0 n ∧ (Cond.static y).before args s = true ∧ True) (hn : As.length = n) (hsize : ls.size = nL) (hrm : (rest.map fun v => v.category).sum ≤ 8) (hdg : decode cc pc = .ok (.invokestatic index, 3)) (hf : cells + 0 ≤ R.cells ∧ slots + 0 ≤ R.slots) :
    CallRun p l e R s m args below meth c H locs cells slots 0 0 (F0 m pc ls (As.reverse ++ rest)) rest (Qc As.toArray) (fun _ => False) :=
  (va_runSN S hM cw ⟨bh_blind0, fun U hU hW => ⟨rfl, trivial⟩⟩ rfl hn hsize rfl (lv_room hrm) hdg hf).run
theorem bc_fr_max (g : Nat) (h : g ≤ 24) : (if nI 1 < nI g then nI g else nI 1) = nI (bh_fr g) := by
  unfold bh_fr
  by_cases h0 : g = 0
  · subst h0; decide
  · rw [if_neg h0]
    by_cases h1 : g = 1
    · subst h1; decide
    · rw [if_pos ((nI_ltI (by omega) (by omega)).mpr (by omega))]
theorem bc_fr_pos (g : Nat) : 1 ≤ bh_fr g := by
  unfold bh_fr
  split <;> omega
theorem bc_g1_kp (C : cS) (nv b g : Nat) {f : Nat} (hf : f ≠ 6) : (bc_g1 C nv b g).2.1 f = C.2.1 f := by
  unfold bc_g1
  split
  · rw [bc_smL_2]; exact bh_va_ne _ _ hf
  · rfl
theorem bc_tfL_4 (C : cS) (km b : Nat) (x : Int64) (q : Nat) {f : Nat} (hf : f ≠ 8) : (bc_tfL C km b x q).2.1 f = C.2.1 f := by
  induction q with
  | zero => rfl
  | succ q ih =>
    unfold bc_tfL
    split
    · exact ih
    · split
      · exact ih
      · exact (bh_va_ne _ _ hf).trans ih
theorem bc_ra1_4 (C : cS) (km b v : Nat) (x : Int64) : (bc_ra1 C km b v x).2.1 4 = C.2.1 4 := by
  unfold bc_ra1
  rw [bc_tfL_4 _ _ _ _ _ (by omega)]
  rfl
theorem bc_ra1_1 (C : cS) (km b v : Nat) (x : Int64) : (bc_ra1 C km b v x).1 = C.1 := by
  unfold bc_ra1
  rw [bc_tfL_1]
  rfl
def bc_ftc (C : cS) (km : Nat) (ba : Nat → Nat → Nat) (x : Int32) : Option Nat := match bh_ix x 8 with
  | none => none
  | some q => (bc_ch C km q).map (fun b => ba b 0)
def bc_mprom (C : cS) (nv : Nat) (x : Int32) : Int32 := match bh_ix x nv with
  | none => -1
  | some v => C.1.2.2.1 1 v
def bc_mvote (C : cS) (nv : Nat) (x y : Int32) : Int32 := match bh_ix x nv with
  | none => -1
  | some v => match bh_ix y 8 with
    | none => -1
    | some q => bh_at (C.1.2.2.2 2 v) q
def bc_vaw (C : cS) (km : Nat) (x : Int64) (q : Nat) : Int64 := match bh_ixb (bh_at x q) km with
  | none => 0
  | some j => C.2.2.2 j q
def bc_mvalue (C : cS) (nv km : Nat) (x y : Int32) : Int64 := match bh_ix x nv with
  | none => 0
  | some v => match bh_ix y 8 with
    | none => 0
    | some q => bc_vaw C km (C.1.2.2.2 2 v) q
def bc_ofk (j : Nat) : Nat := if j = 0 then 6 else if j ≤ 4 then j else j + 2
def bc_mof (C : cS) (km : Nat) (x y : Int32) : Int32 := match bh_ixb x km with
  | none => -1
  | some b => match bh_ix y 9 with
    | none => -1
    | some j => if j = 8 then bc_kp C b else C.2.1 (bc_ofk j) b
def bc_mansw (C : cS) (km : Nat) (x y : Int32) : Int32 := match bh_ixb x km with
  | none => -1
  | some b => match bh_ix y 8 with
    | none => -1
    | some q => C.2.2.1 12 b q
def bc_msaid (C : cS) (km : Nat) (x y : Int32) : Int64 := match bh_ixb x km with
  | none => 0
  | some b => match bh_ix y 8 with
    | none => 0
    | some q => C.2.2.2 b q
def bc_mcho (C : cS) (km : Nat) (x : Int32) : Int32 := match bh_ix x 8 with
  | none => -1
  | some q => bh_oi (bc_ch C km q)
def bc_chv (C : cS) (km q : Nat) : Int64 := match bc_ch C km q with
  | none => 0
  | some b => C.2.2.2 b q
def bc_mchv (C : cS) (km : Nat) (x : Int32) : Int64 := match bh_ix x 8 with
  | none => 0
  | some q => bc_chv C km q
def bc_oneL (C : cS) (q b : Nat) : Nat → Bool
  | 0 => true
  | d + 1 => bc_oneL C q b d && (!bc_hc C (b + 1 + d) q || decide (C.2.2.2 (b + 1 + d) q = C.2.2.2 b q))
theorem bc_oneL_f {C : cS} {q b d d' : Nat} (h : bc_oneL C q b d = false) (hd : d ≤ d') : bc_oneL C q b d' = false := by
  induction hd with
  | refl => exact h
  | step _ ih => unfold bc_oneL; rw [ih]; rfl
def bc_one (C : cS) (km q : Nat) : Bool := match bc_ch C km q with
  | none => true
  | some b => bc_oneL C q b (km - b)
def bc_mone (C : cS) (km : Nat) (x : Int32) : Int32 := match bh_ix x 8 with
  | none => nI 1
  | some q => bh_tf (bc_one C km q)
def bc_mair (C : cS) (x y : Int32) : Int32 := match bh_ix x (C.1.1 15) with
  | none => -1
  | some k => match bh_ix y 5 with
    | none => -1
    | some j => if j = 4 then bh_plL (C.1.2.2.2 14 k) 8 else C.1.2.2.1 (10 + j) k
def bc_mabo (C : cS) (nv km : Nat) (x : Int32) : Int32 := match bh_ix x 5 with
  | none => -1
  | some j => if j = 0 then nI nv else if j = 1 then nI km else if j = 2 then C.1.2.1 6 else if j = 3 then nI (C.1.1 15) else C.1.2.1 16
def bc_mlose (C : cS) (x : Int32) : Int32 × cS := match bh_ix x (C.1.1 15) with
  | none => (nI 0, C)
  | some k => (nI 1, bc_dp C k)
def bc_mtw (C : cS) (x : Int32) : Int32 × cS := match bh_ix x (C.1.1 15) with
  | none => (nI 0, C)
  | some k => if C.1.1 15 < 400 then (nI 1, bc_rp C k) else (nI 0, C)
def bc_msil (C : cS) (nv : Nat) (x z : Int32) : Int32 × cS := match bh_ix x nv with
  | none => (nI 0, C)
  | some v => (nI 1, if z = 0 then bc_i C 3 (C.1.2.1 3 &&& (bh_bit v ^^^ -1)) else bc_i C 3 (C.1.2.1 3 ||| bh_bit v))
def bc_pro (C : cS) (nv b q : Nat) (z : Int64) : cS := bc_seL (bc_w (bc_f C 9 b (C.2.1 9 b ||| bh_bit q)) b q z) (C.2.1 1 b) (nI 4) b (nI q) nv
def bc_mpro (C : cS) (nv km : Nat) (x y : Int32) (z : Int64) : Int32 × cS := match bh_ixb x km with
  | none => (nI 0, C)
  | some b => match bh_ix y 8 with
    | none => (nI 0, C)
    | some q => if C.2.1 6 b = nI 4 ∧ bc_hw C b q = false then (nI 1, bc_pro C nv b q z) else (nI 0, C)
def bc_ag (C : cS) (nv b : Nat) : Int32 × cS :=
  if C.2.1 6 b = nI 0 then (nI 1, bc_sd C (nI 1) (nI b) (-1) (-1) 0)
  else if C.2.1 6 b = nI 1 then (bh_bc (C.2.1 5 b &&& (C.2.1 7 b ^^^ -1)), bc_seL C (C.2.1 5 b &&& (C.2.1 7 b ^^^ -1)) (nI 2) b (-1) nv)
  else if C.2.1 6 b = nI 3 then (nI 1, bc_sd C (nI 6) (nI b) (-1) (-1) 0)
  else bc_smL C nv b 8
def bc_magn (C : cS) (nv km : Nat) (x : Int32) : Int32 × cS := match bh_ixb x km with
  | none => (-1, C)
  | some b => bc_ag C nv b
def bc_dlv (C : cS) (nv km k : Nat) : cS := bc_do (bc_dp C k) nv km (C.1.2.2.1 10 k).toNatClampNeg (C.1.2.2.1 11 k).toNatClampNeg (C.1.2.2.1 12 k).toNatClampNeg (C.1.2.2.1 13 k).toNatClampNeg (C.2.1 4 (C.1.2.2.1 11 k).toNatClampNeg).toNatClampNeg (C.1.2.2.2 14 k)
def bc_lok (C : cS) (nv km k : Nat) : Prop := bc_let C nv km k (C.1.2.2.1 10 k).toNatClampNeg (C.1.2.2.1 11 k).toNatClampNeg (C.1.2.2.1 12 k).toNatClampNeg (C.1.2.2.1 13 k).toNatClampNeg (C.2.1 4 (C.1.2.2.1 11 k).toNatClampNeg).toNatClampNeg
def bc_mdel (C : cS) (nv km : Nat) (x : Int32) : Int32 × cS := match bh_ix x (C.1.1 15) with
  | none => (nI 0, C)
  | some k => if bc_fs C k = true then (nI 0, C) else (nI 1, bc_dlv C nv km k)
def bc_stl (nv km : Nat) : cS → Nat → Nat × cS
  | C, 0 => (0, C)
  | C, n + 1 => match bc_fd C with
    | none => (0, C)
    | some k => ((bc_stl nv km (bc_dlv C nv km k) n).1 + 1, (bc_stl nv km (bc_dlv C nv km k) n).2)
theorem bc_stl_s (nv km : Nat) (C : cS) (n : Nat) {k : Nat} (h : bc_fd C = some k) : bc_stl nv km C (n + 1) = ((bc_stl nv km (bc_dlv C nv km k) n).1 + 1, (bc_stl nv km (bc_dlv C nv km k) n).2) := by
  rw [bc_stl, h]
theorem bc_stl_e (nv km : Nat) (C : cS) (n : Nat) (h : bc_fd C = none) : bc_stl nv km C n = (0, C) := by
  cases n with
  | zero => rw [bc_stl]
  | succ n => rw [bc_stl, h]
theorem bc_stl_n {nv km : Nat} {C T : cS} {n t m k : Nat} (h : bc_stl nv km C n = (t + (bc_stl nv km T m).1, (bc_stl nv km T m).2)) (hm : 0 < m) (hf : bc_fd T = some k) : bc_stl nv km C n = (t + 1 + (bc_stl nv km (bc_dlv T nv km k) (m - 1)).1, (bc_stl nv km (bc_dlv T nv km k) (m - 1)).2) := by
  obtain ⟨j, rfl⟩ : ∃ j, m = j + 1 := ⟨m - 1, by omega⟩
  rw [h, bc_stl_s nv km T j hf, Nat.add_sub_cancel]
  simp only [Prod.mk.injEq, and_true]
  omega
def bc_mstl (C : cS) (nv km : Nat) (x : Int32) : Int32 × cS := if x < 0 then (-1, C) else (nI (bc_stl nv km C x.toNatClampNeg).1, (bc_stl nv km C x.toNatClampNeg).2)
theorem bh_nI_m1 {n : Nat} (h : n < 2 ^ 31) : ¬ nI n = -1 := by
  intro e
  have := congrArg Int32.toInt e
  rw [nI_toInt h] at this
  have h1 : Int32.toInt (-1) = -1 := by decide
  omega
