/-! the start -/
def bh_nv (x : Int32) : Nat := if x < nI 1 then 1 else if nI 7 < x then 7 else x.toNatClampNeg
theorem bh_nv_lo {x : Int32} (h : x < nI 1) : nI (bh_nv x) = nI 1 := by unfold bh_nv; rw [if_pos h]
theorem bh_nv_hi {x : Int32} (h : nI 7 < x) : nI (bh_nv x) = nI 7 := by
  unfold bh_nv
  rw [if_neg (fun e => absurd (Int32.lt_trans h e) (by decide)), if_pos h]
theorem bh_nv_in {x : Int32} (h : nI 1 ≤ x) (h2 : x ≤ nI 7) : nI (bh_nv x) = x := by
  unfold bh_nv
  rw [if_neg (Int32.not_lt.mpr h), if_neg (Int32.not_lt.mpr h2)]
  have h0 : 0 ≤ x.toInt := by
    have := Int32.le_iff_toInt_le.mp h
    rw [nI_toInt (by omega)] at this
    omega
  exact (bh_nI_of_toInt h0).symm
theorem bh_nv_le (x : Int32) : 1 ≤ bh_nv x ∧ bh_nv x ≤ 7 := by
  unfold bh_nv
  by_cases h : x < nI 1
  · rw [if_pos h]; omega
  · rw [if_neg h]
    by_cases h2 : nI 7 < x
    · rw [if_pos h2]; omega
    · rw [if_neg h2]
      have a1 := Int32.le_iff_toInt_le.mp (Int32.not_lt.mp h)
      have a2 := Int32.le_iff_toInt_le.mp (Int32.not_lt.mp h2)
      rw [nI_toInt (by omega)] at a1 a2
      show 1 ≤ x.toInt.toNat ∧ x.toInt.toNat ≤ 7
      omega
theorem bh_nv_mm (x : Int32) : (if nI 1 < (if x < nI 7 then x else nI 7) then (if x < nI 7 then x else nI 7) else nI 1) = nI (bh_nv x) := by
  by_cases h7 : x < nI 7
  · rw [if_pos h7]
    by_cases h1 : nI 1 < x
    · rw [if_pos h1]
      exact (bh_nv_in (Int32.le_of_lt h1) (Int32.le_of_lt h7)).symm
    · rw [if_neg h1]
      have h1 := Int32.not_lt.mp h1
      by_cases e : x < nI 1
      · exact (bh_nv_lo e).symm
      · have : x = nI 1 := Int32.le_antisymm h1 (Int32.not_lt.mp e)
        subst this
        decide
  · rw [if_neg h7, if_pos (by decide)]
    by_cases e : nI 7 < x
    · exact (bh_nv_hi e).symm
    · have : x = nI 7 := Int32.le_antisymm (Int32.not_lt.mp e) (Int32.not_lt.mp h7)
      subst this
      decide
def bh_S0 (n : Nat) : mS := (fun k => if k = 0 then n else 0, fun _ => 0, fun _ _ => 0, fun _ _ => 0)
def bh_C0 : cS := ((fun _ => 0, fun _ => 0, fun _ _ => 0, fun _ _ => 0), fun _ _ => 0, fun _ _ _ => 0, fun _ _ => 0)
theorem rl_start {n : Nat} (h : 1 ≤ n ∧ n ≤ 7) : Rl n 0 bh_C0 (bh_S0 n) := by
  refine ⟨⟨⟨rfl, rfl, rfl⟩, ⟨h.1, h.2, by omega, by show 0 ≤ 400; omega⟩, ⟨rfl, rfl⟩, 0, by omega, rfl⟩, fun v _ => rfl, fun v _ q hq => ⟨(rb_at0 q hq).symm, Or.inl ⟨rb_at0 q hq, rfl⟩⟩, ⟨rb_v0, fun v _ => ⟨fun _ => rb_h_zero, fun _ => rfl⟩⟩, fun b h1 h2 => absurd h2 (by omega), fun b h1 h2 => ⟨⟨rfl, rfl, rfl, rfl, rfl⟩, fun q _ => ⟨rfl, rfl, rfl, rfl⟩⟩, fun i hi => absurd hi (Nat.not_lt_zero i)⟩
