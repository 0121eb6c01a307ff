/-! bits: masks as whole numbers -/
theorem rb_and {a b : Nat} (ha : a < 2 ^ 31) (hb : b < 2 ^ 31) : nI a &&& nI b = nI (a &&& b) := by
  apply Int32.toBitVec_inj.mp
  apply BitVec.eq_of_toNat_eq
  rw [Int32.toBitVec_and, BitVec.toNat_and, pk_tn (by omega), pk_tn (by omega), pk_tn (by have := Nat.and_le_left (n := a) (m := b); omega)]
theorem rb_or {a b : Nat} (ha : a < 2 ^ 31) (hb : b < 2 ^ 31) : nI a ||| nI b = nI (a ||| b) := by
  apply Int32.toBitVec_inj.mp
  apply BitVec.eq_of_toNat_eq
  have h : a ||| b < 2 ^ 31 := Nat.or_lt_two_pow ha hb
  rw [Int32.toBitVec_or, BitVec.toNat_or, pk_tn (by omega), pk_tn (by omega), pk_tn (by omega)]
theorem rb_bit : ∀ v, v < 8 → bh_bit v = nI (2 ^ v) := by decide +kernel
theorem rb_tst : ∀ m, m < 256 → ∀ q, q < 8 → decide (nI m &&& bh_bit q = 0) = !m.testBit q := by decide +kernel
theorem rb_shr : ∀ m, m < 256 → ∀ q, q < 8 → decide ((nI m >>> (nI q &&& 31)) &&& nI 1 = nI 1) = m.testBit q := by decide +kernel
theorem rb_cnt : ∀ m, m < 128 → bh_many (nI m) = bh_bc (nI m) := by decide +kernel
theorem rb_mono : ∀ m, m < 128 → ∀ v, v < 7 → decide (bh_bc (nI m) ≤ bh_bc (nI (m ||| 2 ^ v))) = true := by decide +kernel
theorem rb_bc0 : bh_bc (nI 0) = nI 0 := by decide +kernel
theorem rb_or128 : ∀ m, m < 128 → ∀ v, v < 7 → m ||| 2 ^ v < 128 := by decide +kernel
theorem rb_or256 : ∀ m, m < 256 → ∀ v, v < 8 → m ||| 2 ^ v < 256 := by decide +kernel
theorem rb_not {a b : Nat} (ha : a < 256) (hb : b < 256) : nI a &&& (nI b ^^^ -1) = nI (a &&& (255 ^^^ b)) := by
  apply Int32.toBitVec_inj.mp
  apply BitVec.eq_of_toNat_eq
  have h : a &&& (255 ^^^ b) ≤ a := Nat.and_le_left
  rw [Int32.toBitVec_and, Int32.toBitVec_xor, BitVec.toNat_and, BitVec.toNat_xor, pk_tn (by omega), pk_tn (by omega), pk_tn (by omega)]
  apply Nat.eq_of_testBit_eq
  intro i
  rw [Nat.testBit_and, Nat.testBit_and, Nat.testBit_xor, Nat.testBit_xor]
  by_cases hi : i < 8
  · rcases (show i = 0 ∨ i = 1 ∨ i = 2 ∨ i = 3 ∨ i = 4 ∨ i = 5 ∨ i = 6 ∨ i = 7 by omega) with rfl | rfl | rfl | rfl | rfl | rfl | rfl | rfl <;> simp [show (-1 : Int32).toBitVec.toNat = 4294967295 from rfl, show Nat.testBit 4294967295 0 = true from rfl, show Nat.testBit 4294967295 1 = true from rfl, show Nat.testBit 4294967295 2 = true from rfl, show Nat.testBit 4294967295 3 = true from rfl, show Nat.testBit 4294967295 4 = true from rfl, show Nat.testBit 4294967295 5 = true from rfl, show Nat.testBit 4294967295 6 = true from rfl, show Nat.testBit 4294967295 7 = true from rfl, show Nat.testBit 255 0 = true from rfl, show Nat.testBit 255 1 = true from rfl, show Nat.testBit 255 2 = true from rfl, show Nat.testBit 255 3 = true from rfl, show Nat.testBit 255 4 = true from rfl, show Nat.testBit 255 5 = true from rfl, show Nat.testBit 255 6 = true from rfl, show Nat.testBit 255 7 = true from rfl]
  · have h2 : a.testBit i = false := Nat.testBit_lt_two_pow (Nat.lt_of_lt_of_le ha (show 2 ^ 8 ≤ 2 ^ i from Nat.pow_le_pow_right (by omega) (by omega)))
    rw [h2]
    rfl
theorem rb_notb {a b q : Nat} (hq : q < 8) : (a &&& (255 ^^^ b)).testBit q = (a.testBit q && !b.testBit q) := by
  rw [Nat.testBit_and, Nat.testBit_xor]
  rcases (show q = 0 ∨ q = 1 ∨ q = 2 ∨ q = 3 ∨ q = 4 ∨ q = 5 ∨ q = 6 ∨ q = 7 by omega) with rfl | rfl | rfl | rfl | rfl | rfl | rfl | rfl <;> simp [show Nat.testBit 255 0 = true from rfl, show Nat.testBit 255 1 = true from rfl, show Nat.testBit 255 2 = true from rfl, show Nat.testBit 255 3 = true from rfl, show Nat.testBit 255 4 = true from rfl, show Nat.testBit 255 5 = true from rfl, show Nat.testBit 255 6 = true from rfl, show Nat.testBit 255 7 = true from rfl]
theorem rb_not_lt {a b : Nat} {n : Nat} (ha : a < n) : a &&& (255 ^^^ b) < n := Nat.lt_of_le_of_lt Nat.and_le_left ha
/-- a mask of voters, a mask of places -/
def rb_v (x : Int32) : Prop := ∃ m, m < 128 ∧ x = nI m
def rb_p (x : Int32) : Prop := ∃ m, m < 256 ∧ x = nI m
theorem rb_vp {x : Int32} (h : rb_v x) : rb_p x := by
  obtain ⟨m, h1, h2⟩ := h
  exact ⟨m, by omega, h2⟩
theorem rb_v0 : rb_v (nI 0) := ⟨0, by omega, rfl⟩
theorem rb_p0 : rb_p (nI 0) := ⟨0, by omega, rfl⟩
theorem rb_vbit {x : Int32} (h : rb_v x) {v : Nat} (hv : v < 7) : rb_v (x ||| bh_bit v) := by
  obtain ⟨m, h1, rfl⟩ := h
  refine ⟨m ||| 2 ^ v, rb_or128 m h1 v hv, ?_⟩
  rw [rb_bit v (by omega), rb_or (by omega) (by have : 2 ^ v ≤ 2 ^ 7 := Nat.pow_le_pow_right (by omega) (by omega); omega)]
theorem rb_pbit {x : Int32} (h : rb_p x) {v : Nat} (hv : v < 8) : rb_p (x ||| bh_bit v) := by
  obtain ⟨m, h1, rfl⟩ := h
  refine ⟨m ||| 2 ^ v, rb_or256 m h1 v hv, ?_⟩
  rw [rb_bit v (by omega), rb_or (by omega) (by have : 2 ^ v ≤ 2 ^ 8 := Nat.pow_le_pow_right (by omega) (by omega); omega)]
theorem rb_por {x y : Int32} (h : rb_p x) (g : rb_p y) : rb_p (x ||| y) := by
  obtain ⟨m, h1, rfl⟩ := h
  obtain ⟨k, h2, rfl⟩ := g
  exact ⟨m ||| k, Nat.or_lt_two_pow (n := 8) h1 h2, rb_or (by omega) (by omega)⟩
theorem rb_vor {x y : Int32} (h : rb_v x) (g : rb_v y) : rb_v (x ||| y) := by
  obtain ⟨m, h1, rfl⟩ := h
  obtain ⟨k, h2, rfl⟩ := g
  exact ⟨m ||| k, Nat.or_lt_two_pow (n := 7) h1 h2, rb_or (by omega) (by omega)⟩
theorem rb_vand {x y : Int32} (h : rb_v x) (g : rb_v y) : rb_v (x &&& y) := by
  obtain ⟨m, h1, rfl⟩ := h
  obtain ⟨k, h2, rfl⟩ := g
  exact ⟨m &&& k, Nat.lt_of_le_of_lt Nat.and_le_left h1, rb_and (by omega) (by omega)⟩
theorem rb_vnot {x y : Int32} (h : rb_v x) (g : rb_v y) : rb_v (x &&& (y ^^^ -1)) := by
  obtain ⟨m, h1, rfl⟩ := h
  obtain ⟨k, h2, rfl⟩ := g
  exact ⟨m &&& (255 ^^^ k), rb_not_lt h1, rb_not (by omega) (by omega)⟩
theorem rb_many {x : Int32} (h : rb_v x) : bh_many x = bh_bc x := by
  obtain ⟨m, h1, rfl⟩ := h
  exact rb_cnt m h1
theorem rb_bcm {x : Int32} (h : rb_v x) {v : Nat} (hv : v < 7) : bh_bc x ≤ bh_bc (x ||| bh_bit v) := by
  obtain ⟨m, h1, rfl⟩ := h
  have := of_decide_eq_true (rb_mono m h1 v hv)
  rw [rb_bit v (by omega), rb_or (by omega) (by have : 2 ^ v ≤ 2 ^ 7 := Nat.pow_le_pow_right (by omega) (by omega); omega)]
  exact this
/-- has the mask this bit -/
def rb_h (x : Int32) (q : Nat) : Bool := !decide (x &&& bh_bit q = 0)
theorem rb_h_nI {m q : Nat} (hm : m < 256) (hq : q < 8) : rb_h (nI m) q = m.testBit q := by
  unfold rb_h
  rw [rb_tst m hm q hq, Bool.not_not]
theorem rb_h_or {x : Int32} (h : rb_p x) {v q : Nat} (hv : v < 8) (hq : q < 8) : rb_h (x ||| bh_bit v) q = (rb_h x q || decide (v = q)) := by
  obtain ⟨m, h1, rfl⟩ := h
  rw [rb_bit v hv, rb_or (by omega) (by have : 2 ^ v ≤ 2 ^ 8 := Nat.pow_le_pow_right (by omega) (by omega); omega), rb_h_nI (rb_or256 m h1 v hv) hq, rb_h_nI h1 hq, Nat.testBit_or, Nat.testBit_two_pow]
theorem rb_h_orr {x y : Int32} (h : rb_p x) (g : rb_p y) {q : Nat} (hq : q < 8) : rb_h (x ||| y) q = (rb_h x q || rb_h y q) := by
  obtain ⟨m, h1, rfl⟩ := h
  obtain ⟨k, h2, rfl⟩ := g
  rw [rb_or (by omega) (by omega), rb_h_nI (Nat.or_lt_two_pow (n := 8) h1 h2) hq, rb_h_nI h1 hq, rb_h_nI h2 hq, Nat.testBit_or]
theorem rb_h_not {x y : Int32} (h : rb_p x) (g : rb_p y) {q : Nat} (hq : q < 8) : rb_h (x &&& (y ^^^ -1)) q = (rb_h x q && !rb_h y q) := by
  obtain ⟨m, h1, rfl⟩ := h
  obtain ⟨k, h2, rfl⟩ := g
  rw [rb_not h1 h2, rb_h_nI (rb_not_lt h1) hq, rb_h_nI h1 hq, rb_h_nI h2 hq, rb_notb hq]
theorem rb_h_shr {x : Int32} (h : rb_p x) {q : Nat} (hq : q < 8) : decide ((x >>> (nI q &&& 31)) &&& nI 1 = nI 1) = rb_h x q := by
  obtain ⟨m, h1, rfl⟩ := h
  rw [rb_shr m h1 q hq, rb_h_nI h1 hq]
theorem rb_h_zero {q : Nat} : rb_h (nI 0) q = false := by
  unfold rb_h
  rw [show nI 0 &&& bh_bit q = 0 from Int32.zero_and]
  rfl
theorem rb_ext {x y : Int32} (h : rb_p x) (g : rb_p y) (e : ∀ q, q < 8 → rb_h x q = rb_h y q) : x = y := by
  obtain ⟨m, h1, rfl⟩ := h
  obtain ⟨k, h2, rfl⟩ := g
  congr 1
  apply Nat.eq_of_testBit_eq
  intro i
  by_cases hi : i < 8
  · have := e i hi
    rw [rb_h_nI h1 hi, rb_h_nI h2 hi] at this
    exact this
  · rw [Nat.testBit_lt_two_pow (Nat.lt_of_lt_of_le h1 (show 2 ^ 8 ≤ 2 ^ i from Nat.pow_le_pow_right (by omega) (by omega))), Nat.testBit_lt_two_pow (Nat.lt_of_lt_of_le h2 (show 2 ^ 8 ≤ 2 ^ i from Nat.pow_le_pow_right (by omega) (by omega)))]
/-- how many of the first n voters the mask has -/
def rb_n (x : Int32) : Nat → Nat
  | 0 => 0
  | v + 1 => if x &&& bh_bit v = 0 then rb_n x v else rb_n x v + 1
theorem rb_n_bc0 : ∀ n, n < 8 → ∀ m, m < 2 ^ n → nI (rb_n (nI m) n) = bh_bc (nI m) := by decide +kernel
-- packed votes
theorem rb_at0 : ∀ q, q < 8 → bh_at 0 q = nI 0 := by decide +kernel
theorem rb_sh : ∀ q, q < 8 → (((nI (q * 8)).toInt64.toUInt64 &&& Int64.toUInt64 63).toBitVec % 64).toNat = 8 * q ∧ (((nI (q * 8)).toInt64 &&& 63).toBitVec.smod 64).toNat = 8 * q := by decide +kernel
theorem rb_255 : ∀ j, j < 64 → (255 : BitVec 64).getLsbD j = decide (j < 8) := by decide +kernel
theorem rb_at_bit (x : Int64) {q j : Nat} (hq : q < 8) (hj : j < 32) : (bh_at x q).toBitVec.getLsbD j = (decide (j < 8) && x.toBitVec.getLsbD (8 * q + j)) := by
  unfold bh_at
  rw [Int64.toBitVec_toInt32, BitVec.getLsbD_signExtend, Int64.toBitVec_and, UInt64.toBitVec_toInt64, UInt64.toBitVec_shiftRight, Int64.toBitVec_toUInt64]
  rw [if_pos (by omega), BitVec.getLsbD_and, BitVec.ushiftRight_eq', BitVec.getLsbD_ushiftRight, (rb_sh q hq).1, show (255 : Int64).toBitVec = (255 : BitVec 64) from rfl, rb_255 j (by omega), decide_eq_true hj, Bool.true_and, Bool.and_comm]
theorem rb_wi_bit (x : Int64) {q b i : Nat} (hq : q < 8) (hb : b < 256) (hi : i < 64) : (bh_wi x q (nI b)).toBitVec.getLsbD i = if 8 * q ≤ i ∧ i < 8 * q + 8 then (BitVec.ofNat 64 b).getLsbD (i - 8 * q) else x.toBitVec.getLsbD i := by
  unfold bh_wi
  have e1 : (nI b).toInt64.toBitVec = BitVec.ofNat 64 b := by
    rw [nI_l (by omega)]
    rfl
  rw [Int64.toBitVec_or, Int64.toBitVec_and, Int64.toBitVec_xor, Int64.toBitVec_shiftLeft, Int64.toBitVec_shiftLeft, e1, BitVec.shiftLeft_eq', BitVec.shiftLeft_eq', (rb_sh q hq).2]
  rw [BitVec.getLsbD_or, BitVec.getLsbD_and, BitVec.getLsbD_xor, BitVec.getLsbD_shiftLeft, BitVec.getLsbD_shiftLeft, show (255 : Int64).toBitVec = (255 : BitVec 64) from rfl, show (-1 : Int64).toBitVec = BitVec.allOnes 64 from rfl, BitVec.getLsbD_allOnes, decide_eq_true hi]
  by_cases h : 8 * q ≤ i ∧ i < 8 * q + 8
  · rw [if_pos h, rb_255 _ (by omega), decide_eq_false (by omega), decide_eq_true (show i - 8 * q < 8 by omega)]
    simp
  · rw [if_neg h]
    by_cases h2 : i < 8 * q
    · rw [decide_eq_true h2]
      simp
    · rw [decide_eq_false h2, rb_255 _ (by omega), decide_eq_false (show ¬ i - 8 * q < 8 by omega)]
      have h3 : (BitVec.ofNat 64 b).getLsbD (i - 8 * q) = false := by
        rw [BitVec.getLsbD_ofNat]
        rw [Nat.testBit_lt_two_pow (Nat.lt_of_lt_of_le hb (show 2 ^ 8 ≤ 2 ^ (i - 8 * q) from Nat.pow_le_pow_right (by omega) (by omega))), Bool.and_false]
      rw [h3]
      simp
theorem rb_at_wi (x : Int64) {q q' b : Nat} (hq : q < 8) (hq' : q' < 8) (hb : b < 256) : bh_at (bh_wi x q (nI b)) q' = if q' = q then nI b else bh_at x q' := by
  apply Int32.toBitVec_inj.mp
  apply BitVec.eq_of_getLsbD_eq
  intro j hj
  rw [rb_at_bit _ hq' hj]
  by_cases h8 : j < 8
  · rw [decide_eq_true h8, Bool.true_and, rb_wi_bit x hq hb (by omega)]
    by_cases h : q' = q
    · subst h
      rw [if_pos (by omega), if_pos rfl, show 8 * q' + j - 8 * q' = j by omega]
      show _ = (BitVec.ofNat 32 b).getLsbD j
      rw [BitVec.getLsbD_ofNat, BitVec.getLsbD_ofNat, decide_eq_true hj, decide_eq_true (show j < 64 by omega)]
    · rw [if_neg (by omega), if_neg h, rb_at_bit x hq' hj, decide_eq_true h8, Bool.true_and]
  · rw [decide_eq_false h8, Bool.false_and]
    by_cases h : q' = q
    · rw [if_pos h]
      show false = (BitVec.ofNat 32 b).getLsbD j
      rw [BitVec.getLsbD_ofNat, Nat.testBit_lt_two_pow (Nat.lt_of_lt_of_le hb (show 2 ^ 8 ≤ 2 ^ j from Nat.pow_le_pow_right (by omega) (by omega))), Bool.and_false]
    · rw [if_neg h, rb_at_bit x hq' hj, decide_eq_false h8, Bool.false_and]
