/-! the reference's state and world -/
abbrev mS : Type := (Nat → Nat) × (Nat → Int32) × (Nat → Nat → Int32) × (Nat → Nat → Int64)
def bh_n (S : mS) (k v : Nat) : mS := (va_up S.1 k v, S.2)
def bh_i (S : mS) (k : Nat) (v : Int32) : mS := (S.1, va_up S.2.1 k v, S.2.2)
def bh_R (S : mS) (k : Nat) (f : Nat → Int32) : mS := (S.1, S.2.1, va_up S.2.2.1 k f, S.2.2.2)
def bh_L (S : mS) (k : Nat) (f : Nat → Int64) : mS := (S.1, S.2.1, S.2.2.1, va_up S.2.2.2 k f)
def bh_r (S : mS) (k i : Nat) (v : Int32) : mS := bh_R S k (upd (S.2.2.1 k) i v)
def bh_l (S : mS) (k i : Nat) (v : Int64) : mS := bh_L S k (vp_updL (S.2.2.2 k) i v)
def bh_mf (ad : Nat → Nat) (S : mS) : List Value := [.int (nI (S.1 0)), .ref (ad 1), .ref (ad 2), .ref (ad 3), .ref (ad 4), .ref (ad 5), .ref (ad 6), .ref (ad 7), .ref (ad 8), .ref (ad 9), .ref (ad 10), .ref (ad 11), .ref (ad 12), .ref (ad 13), .ref (ad 14), .ref (ad 15), .ref (ad 16), .ref (ad 17), .int (nI (S.1 18)), .int (S.2.1 19), .int (S.2.1 20), .ref (ad 21), .ref (ad 22), .ref (ad 23), .ref (ad 24), .ref (ad 25), .ref (ad 26), .ref (ad 27), .int (nI (S.1 28)), .ref (ad 29), .ref (ad 30)]
def bh_mw (h : Nat) (ad : Nat → Nat) (c : bh_C) (S : mS) : va_W := [(h, .inr (3, bh_mf ad S)), (ad 1, .inl (c.1, 7, .inl (S.2.2.1 1))), (ad 2, .inl (c.1, 56, .inl (S.2.2.1 2))), (ad 3, .inl (c.2.1, 56, .inr (.inl (S.2.2.2 3)))), (ad 4, .inl (c.2.2.1, 7, .inl (S.2.2.1 4))), (ad 5, .inl (c.1, 25, .inl (S.2.2.1 5))), (ad 6, .inl (c.1, 25, .inl (S.2.2.1 6))), (ad 7, .inl (c.1, 25, .inl (S.2.2.1 7))), (ad 8, .inl (c.1, 25, .inl (S.2.2.1 8))), (ad 9, .inl (c.1, 25, .inl (S.2.2.1 9))), (ad 10, .inl (c.1, 25, .inl (S.2.2.1 10))), (ad 11, .inl (c.1, 25, .inl (S.2.2.1 11))), (ad 12, .inl (c.1, 25, .inl (S.2.2.1 12))), (ad 13, .inl (c.1, 25, .inl (S.2.2.1 13))), (ad 14, .inl (c.1, 200, .inl (S.2.2.1 14))), (ad 15, .inl (c.1, 200, .inl (S.2.2.1 15))), (ad 16, .inl (c.1, 200, .inl (S.2.2.1 16))), (ad 17, .inl (c.2.1, 200, .inr (.inl (S.2.2.2 17)))), (ad 21, .inl (c.1, 400, .inl (S.2.2.1 21))), (ad 22, .inl (c.1, 400, .inl (S.2.2.1 22))), (ad 23, .inl (c.1, 400, .inl (S.2.2.1 23))), (ad 24, .inl (c.1, 400, .inl (S.2.2.1 24))), (ad 25, .inl (c.1, 3200, .inl (S.2.2.1 25))), (ad 26, .inl (c.2.1, 400, .inr (.inl (S.2.2.2 26)))), (ad 27, .inl (c.2.1, 3200, .inr (.inl (S.2.2.2 27)))), (ad 29, .inl (c.1, 8, .inl (S.2.2.1 29))), (ad 30, .inl (c.2.1, 8, .inr (.inl (S.2.2.2 30))))]
theorem bh_RR (S : mS) (k : Nat) (f g : Nat → Int32) : bh_R (bh_R S k f) k g = bh_R S k g := by simp only [bh_R, bx_uu]
theorem bh_LL (S : mS) (k : Nat) (f g : Nat → Int64) : bh_L (bh_L S k f) k g = bh_L S k g := by simp only [bh_L, bx_uu]
theorem bh_RL (S : mS) (k j : Nat) (f : Nat → Int32) (g : Nat → Int64) : bh_R (bh_L S j g) k f = bh_L (bh_R S k f) j g := rfl
theorem bh_Rid (S : mS) (k : Nat) : bh_R S k (S.2.2.1 k) = S := by
  obtain ⟨a, b, r, l⟩ := S
  show (a, b, va_up r k (r k), l) = (a, b, r, l)
  congr 3
  funext j
  unfold va_up
  split
  · next h => rw [h]
  · rfl
theorem bh_Lid (S : mS) (k : Nat) : bh_L S k (S.2.2.2 k) = S := by
  obtain ⟨a, b, r, l⟩ := S
  show (a, b, r, va_up l k (l k)) = (a, b, r, l)
  congr 3
  funext j
  unfold va_up
  split
  · next h => rw [h]
  · rfl
-- places by numbers
def bh_ix (x : Int32) (n : Nat) : Option Nat := if 0 ≤ x.toInt ∧ x.toInt < (n : Int) then some x.toInt.toNat else none
def bh_ixb (x : Int32) (k : Nat) : Option Nat := if 1 ≤ x.toInt ∧ x.toInt ≤ (k : Int) then some x.toInt.toNat else none
def bh_s (o : Option Nat) : Int32 := match o with
  | none => nI 0
  | some _ => nI 1
theorem bh_nI_of_toInt {x : Int32} (h : 0 ≤ x.toInt) : x = nI x.toInt.toNat := by
  have hlt : x.toInt < 2 ^ 31 := by have := x.toInt_lt; simpa using this
  apply Int32.toInt_inj.mp
  rw [nI_toInt (by omega)]
  omega
theorem bh_ix_some {x : Int32} {n j : Nat} (h : bh_ix x n = some j) : j < n ∧ x = nI j := by
  unfold bh_ix at h
  split at h
  · next hc =>
    have e := Option.some.inj h
    refine ⟨by omega, ?_⟩
    rw [← e]
    exact bh_nI_of_toInt hc.1
  · cases h
theorem bh_ix_nI {n j : Nat} (h : j < n) (hn : n < 2 ^ 31) : bh_ix (nI j) n = some j := by
  unfold bh_ix
  rw [nI_toInt (by omega), if_pos (by omega)]
  simp
theorem bh_ixb_some {x : Int32} {n j : Nat} (h : bh_ixb x n = some j) : 1 ≤ j ∧ j ≤ n ∧ x = nI j := by
  unfold bh_ixb at h
  split at h
  · next hc =>
    have e := Option.some.inj h
    refine ⟨by omega, by omega, ?_⟩
    rw [← e]
    exact bh_nI_of_toInt (by omega)
  · cases h
theorem bh_ixb_nI {n j : Nat} (h0 : 1 ≤ j) (h : j ≤ n) (hn : n < 2 ^ 31) : bh_ixb (nI j) n = some j := by
  unfold bh_ixb
  rw [nI_toInt (by omega), if_pos (by omega)]
  simp
theorem bh_t0 : Int32.toInt 0 = 0 := rfl
theorem bh_lt0 {x : Int32} : x < 0 ↔ x.toInt < 0 := by
  rw [Int32.lt_iff_toInt_lt]
  rfl
theorem bh_ltI {x y : Int32} : x < y ↔ x.toInt < y.toInt := Int32.lt_iff_toInt_lt
theorem bh_leI {x y : Int32} : x ≤ y ↔ x.toInt ≤ y.toInt := Int32.le_iff_toInt_le
-- counting
def bh_manyL (x : Int32) : Nat → Int32
  | 0 => nI 0
  | k + 1 => bh_manyL x k + ((x >>> (nI k &&& 31)) &&& nI 1)
def bh_many (x : Int32) : Int32 := bh_manyL x 7
-- blocks
def bh_fill {α : Type} (g : Nat → α) (o k : Nat) (f : Nat → α) : Nat → α := fun j => if o ≤ j ∧ j < o + k then f (j - o) else g j
theorem bh_fill_0 {α : Type} (g : Nat → α) (o : Nat) (f : Nat → α) : bh_fill g o 0 f = g := by
  funext j
  unfold bh_fill
  rw [if_neg (by omega)]
theorem bh_fill_s (g : Nat → Int32) (o k : Nat) (f : Nat → Int32) : upd (bh_fill g o k f) (o + k) (f k) = bh_fill g o (k + 1) f := by
  funext j
  unfold upd bh_fill
  by_cases h : j = o + k
  · subst h
    rw [if_pos rfl, if_pos (by omega)]
    congr 1
    omega
  · rw [if_neg h]
    by_cases h2 : o ≤ j ∧ j < o + k
    · rw [if_pos h2, if_pos (by omega)]
    · rw [if_neg h2, if_neg (by omega)]
theorem bh_fill_sl (g : Nat → Int64) (o k : Nat) (f : Nat → Int64) : vp_updL (bh_fill g o k f) (o + k) (f k) = bh_fill g o (k + 1) f := by
  funext j
  unfold vp_updL bh_fill
  by_cases h : j = o + k
  · subst h
    rw [if_pos rfl, if_pos (by omega)]
    congr 1
    omega
  · rw [if_neg h]
    by_cases h2 : o ≤ j ∧ j < o + k
    · rw [if_pos h2, if_pos (by omega)]
    · rw [if_neg h2, if_neg (by omega)]
def bh_bl (S : mS) (o k : Nat) (f : Nat → Int32) (g : Nat → Int64) : mS := bh_L (bh_R S 25 (bh_fill (S.2.2.1 25) o k f)) 27 (bh_fill (S.2.2.2 27) o k g)
theorem bh_bl_0 (S : mS) (o : Nat) (f : Nat → Int32) (g : Nat → Int64) : bh_bl S o 0 f g = S := by
  unfold bh_bl
  rw [bh_fill_0, bh_fill_0, bh_Rid, bh_Lid]
theorem bh_bl_s (S : mS) (o k : Nat) (f : Nat → Int32) (g : Nat → Int64) : bh_l (bh_r (bh_bl S o k f g) 25 (o + k) (f k)) 27 (o + k) (g k) = bh_bl S o (k + 1) f g := by
  show bh_L (bh_R (bh_L (bh_R S 25 (bh_fill (S.2.2.1 25) o k f)) 27 (bh_fill (S.2.2.2 27) o k g)) 25 (upd (bh_fill (S.2.2.1 25) o k f) (o + k) (f k))) 27 (vp_updL (bh_fill (S.2.2.2 27) o k g) (o + k) (g k)) = _
  rw [bh_fill_s, bh_fill_sl, bh_RL, bh_RR, bh_LL]
  rfl
-- the reference, method by method
def bh_putA (S : mS) (wt bb vv pp : Int32) (x : Int64) : mS := bh_l (bh_r (bh_r (bh_r (bh_r S 21 (S.1 28) wt) 22 (S.1 28) bb) 23 (S.1 28) vv) 24 (S.1 28) pp) 26 (S.1 28) x
def bh_put (S : mS) (wt bb vv pp : Int32) (x : Int64) (f : Nat → Int32) (g : Nat → Int64) : mS :=
  if S.1 28 = 400 then bh_i S 20 (S.2.1 20 + nI 1) else bh_n (bh_bl (bh_putA S wt bb vv pp x) (8 * S.1 28) 8 f g) 28 (S.1 28 + 1)

def bh_cpA (S : mS) (i j : Nat) : mS := bh_l (bh_r (bh_r (bh_r (bh_r S 21 j (S.2.2.1 21 i)) 22 j (S.2.2.1 22 i)) 23 j (S.2.2.1 23 i)) 24 j (S.2.2.1 24 i)) 26 j (S.2.2.2 26 i)
def bh_cp (S : mS) (i j : Nat) : mS := bh_bl (bh_cpA S i j) (8 * j) 8 (fun k => S.2.2.1 25 (8 * i + k)) (fun k => S.2.2.2 27 (8 * i + k))
def bh_tkL (S : mS) (k : Nat) : Nat → mS
  | 0 => bh_n S 28 (S.1 28 - 1)
  | d + 1 => bh_cp (bh_tkL S k d) (k + d + 1) (k + d)
theorem bh_tkL_28 (S : mS) (k d : Nat) : (bh_tkL S k d).1 28 = S.1 28 - 1 := by
  induction d with
  | zero => rfl
  | succ d ih => exact ih
def bh_take (S : mS) (k : Nat) : mS := bh_tkL S k (S.1 28 - 1 - k)
