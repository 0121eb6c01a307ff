/-! the reference's outer methods as functions -/
def bh_dlv (S : mS) (k : Nat) : mS := bh_do (bh_off S k) (S.2.2.1 21 k).toNatClampNeg (S.2.2.1 22 k).toNatClampNeg (S.2.2.1 23 k).toNatClampNeg (S.2.2.1 24 k).toNatClampNeg (S.2.2.1 9 (S.2.2.1 22 k).toNatClampNeg).toNatClampNeg (S.2.2.2 26 k)
def bh_lok (S : mS) (k : Nat) : Prop := bh_let S k (S.2.2.1 21 k).toNatClampNeg (S.2.2.1 22 k).toNatClampNeg (S.2.2.1 23 k).toNatClampNeg (S.2.2.1 24 k).toNatClampNeg (S.2.2.1 9 (S.2.2.1 22 k).toNatClampNeg).toNatClampNeg
theorem bh_lok_cv {S : mS} {k : Nat} (h : bh_lok S k) : S.2.2.1 21 k = nI 2 ∨ S.2.2.1 21 k = nI 4 → ∃ v, v < 7 ∧ S.2.2.1 23 k = nI v := by
  intro z
  obtain ⟨h1, -, -, hw, -, -, h2, -⟩ := h
  generalize (S.2.2.1 21 k).toNatClampNeg = w at h1 hw h2
  have hw2 : 2 ≤ w ∧ w ≤ 5 := by
    rcases z with z | z
    · have := (nI_eq (by omega) (by omega)).mp (h1.symm.trans z)
      omega
    · have := (nI_eq (by omega) (by omega)).mp (h1.symm.trans z)
      omega
  exact ⟨_, (h2 hw2).2, (h2 hw2).1⟩
def bh_ff (S : mS) : Nat → Nat → Nat
  | 0, j => j
  | f + 1, j => if bh_cb S j = true then j else bh_ff S f (j + 1)
def bh_fst (S : mS) : Nat := bh_ff S (S.1 28) 0
theorem bh_ff_le (S : mS) (f j : Nat) : bh_ff S f j ≤ j + f := by
  induction f generalizing j with
  | zero => exact Nat.le_refl _
  | succ f ih =>
    unfold bh_ff
    split
    · omega
    · have := ih (j + 1)
      omega
theorem bh_ff_cb (S : mS) (f j : Nat) (h : bh_ff S f j < j + f) : bh_cb S (bh_ff S f j) = true := by
  induction f generalizing j with
  | zero => exact absurd h (Nat.lt_irrefl _)
  | succ f ih =>
    unfold bh_ff at h ⊢
    split
    · next hc => exact hc
    · next hc =>
      rw [if_neg hc] at h
      exact ih (j + 1) (by omega)
theorem bh_fst_le (S : mS) : bh_fst S ≤ S.1 28 := by
  have := bh_ff_le S (S.1 28) 0
  unfold bh_fst
  omega
theorem bh_fst_cb {S : mS} (h : bh_fst S < S.1 28) : bh_cb S (bh_fst S) = true := bh_ff_cb S _ 0 (by unfold bh_fst at h; omega)
def bh_stl : mS → Nat → Nat × mS
  | S, 0 => (0, S)
  | S, n + 1 => if bh_fst S < S.1 28 then ((bh_stl (bh_dlv S (bh_fst S)) n).1 + 1, (bh_stl (bh_dlv S (bh_fst S)) n).2) else (0, S)
theorem bh_stl_s (S : mS) (n : Nat) (h : bh_fst S < S.1 28) : bh_stl S (n + 1) = ((bh_stl (bh_dlv S (bh_fst S)) n).1 + 1, (bh_stl (bh_dlv S (bh_fst S)) n).2) := by
  rw [bh_stl]
  exact if_pos h
theorem bh_stl_e (S : mS) (n : Nat) (h : ¬ bh_fst S < S.1 28) : bh_stl S n = (0, S) := by
  cases n with
  | zero => rw [bh_stl]
  | succ n => rw [bh_stl]; exact if_neg h
def bh_pro (S : mS) (b p : Nat) (x : Int64) : mS := (bh_sv (bh_l (bh_r S 12 b (S.2.2.1 12 b ||| bh_bit p)) 17 (8 * b + p) x) b p).2
def bh_agC (S : mS) (b p : Nat) : Int32 := (((S.2.2.1 11 b ||| S.2.2.1 12 b) &&& (S.2.2.1 13 b ^^^ -1)) >>> (nI p &&& 31)) &&& nI 1
def bh_agL (S : mS) (b : Nat) : Nat → Nat × mS
  | 0 => (0, S)
  | p + 1 => if bh_agC S b p = nI 1 then ((bh_agL S b p).1 + (bh_sv (bh_agL S b p).2 b p).1, (bh_sv (bh_agL S b p).2 b p).2) else bh_agL S b p
theorem bh_agL_kp (S : mS) (b p : Nat) : bh_kp S (bh_agL S b p).2 := by
  induction p with
  | zero => exact bh_kp.rf S
  | succ p ih =>
    unfold bh_agL
    split
    · exact ih.tr (bh_svL_kp _ _ _ _)
    · exact ih
theorem bh_agL_le {S : mS} (h : S.1 28 ≤ 400) (b p : Nat) : (bh_agL S b p).2.1 28 ≤ 400 := by
  induction p with
  | zero => exact h
  | succ p ih =>
    unfold bh_agL
    split
    · exact bh_svL_le ih _ _ _
    · exact ih
def bh_ag (S : mS) (b g : Nat) : Nat × mS :=
  if S.2.2.1 5 b = nI 0 then (1, bh_put S (nI 1) (nI b) (-1) (-1) 0 bh_z0 bh_z1)
  else if S.2.2.1 5 b = nI 1 then bh_sr S b g
  else if S.2.2.1 5 b = nI 3 then (1, bh_put S (nI 6) (nI b) (-1) (-1) 0 bh_z0 bh_z1)
  else bh_agL S b 8
abbrev bh_blC (S : mS) (x y z : Int32) : Prop := ¬ x < 0 ∧ x < nI 1 <<< (nI (S.1 0) &&& 31) ∧ ¬ bh_many x = 0 ∧ ¬ y < nI 1 ∧ ¬ bh_many x < y ∧ ¬ z < nI 1 ∧ ¬ bh_many x < z ∧ ¬ y + z ≤ bh_many x ∧ ¬ S.1 18 = 24
def bh_blA (S : mS) (x y z : Int32) : mS := bh_r (bh_r (bh_r (bh_r (bh_n S 18 (S.1 18 + 1)) 6 (S.1 18 + 1) x) 7 (S.1 18 + 1) y) 8 (S.1 18 + 1) z) 9 (S.1 18 + 1) (S.2.1 19)
def bh_bal (S : mS) (x y z : Int32) : mS := bh_put (bh_blA S x y z) (nI 1) (nI (S.1 18 + 1)) (-1) (-1) 0 bh_z0 bh_z1
def bh_cho (S : mS) (b p : Nat) : Bool := decide (S.2.2.1 8 b ≤ bh_many (S.2.2.1 16 (8 * b + p) &&& S.2.2.1 6 b))
/-- the first ballot from b on that chose, of f ballots; 0 if none -/
def bh_chL (S : mS) (p : Nat) : Nat → Nat → Option Nat
  | 0, _ => none
  | f + 1, b => if bh_cho S b p = true then some b else bh_chL S p f (b + 1)
def bh_ch (S : mS) (p : Nat) : Option Nat := bh_chL S p (S.1 18) 1
def bh_oi (o : Option Nat) : Int32 := match o with
  | none => -1
  | some b => nI b
theorem bh_chL_in (S : mS) (p f b : Nat) {j : Nat} (h : bh_chL S p f b = some j) : b ≤ j ∧ j < b + f := by
  induction f generalizing b with
  | zero => cases h
  | succ f ih =>
    unfold bh_chL at h
    split at h
    · cases h
      omega
    · have := ih (b + 1) h
      omega
def bh_chv (S : mS) (p : Nat) : Int64 := match bh_ch S p with
  | none => 0
  | some b => S.2.2.2 17 (8 * b + p)
/-- after f ballots: is all that was chosen one value -/
def bh_one (S : mS) (p : Nat) : Nat → Bool
  | 0 => true
  | f + 1 => if bh_cho S (f + 1) p = true then bh_one S p f && decide (S.2.2.2 17 (8 * (f + 1) + p) = bh_chv S p) else bh_one S p f
def bh_abL (S : mS) (k : Nat) : Nat → Int32
  | 0 => nI 0
  | p + 1 => bh_abL S k p ||| (if 0 < S.2.2.1 25 (8 * k + p) then bh_bit p else nI 0)
def bh_sil (S : mS) (v : Nat) (x : Int32) : mS := bh_r S 4 v x
def bh_tw (S : mS) (k : Nat) : mS := bh_n (bh_cp S k (S.1 28)) 28 (S.1 28 + 1)

theorem bh_ix_none {x : Int32} {n : Nat} (h : bh_ix x n = none) : x.toInt < 0 ∨ (n : Int) ≤ x.toInt := by
  unfold bh_ix at h
  split at h
  · cases h
  · omega
theorem bh_ixb_none {x : Int32} {n : Nat} (h : bh_ixb x n = none) : x.toInt < 1 ∨ (n : Int) < x.toInt := by
  unfold bh_ixb at h
  split at h
  · cases h
  · omega
def bh_mprom (S : mS) (x : Int32) : Int32 := match bh_ix x (S.1 0) with
  | none => -1
  | some v => S.2.2.1 1 v
def bh_mvote (S : mS) (x y : Int32) : Int32 := match bh_ix x (S.1 0) with
  | none => -1
  | some v => match bh_ix y 8 with
    | none => -1
    | some q => S.2.2.1 2 (8 * v + q)
def bh_mvalue (S : mS) (x y : Int32) : Int64 := match bh_ix x (S.1 0) with
  | none => 0
  | some v => match bh_ix y 8 with
    | none => 0
    | some q => S.2.2.2 3 (8 * v + q)
def bh_mof (S : mS) (x y : Int32) : Int32 := match bh_ixb x (S.1 18) with
  | none => -1
  | some b => match bh_ix y 9 with
    | none => -1
    | some j => S.2.2.1 (5 + j) b
def bh_mansw (S : mS) (x y : Int32) : Int32 := match bh_ixb x (S.1 18) with
  | none => -1
  | some b => match bh_ix y 8 with
    | none => -1
    | some q => S.2.2.1 15 (8 * b + q)
def bh_msaid (S : mS) (x y : Int32) : Int64 := match bh_ixb x (S.1 18) with
  | none => 0
  | some b => match bh_ix y 8 with
    | none => 0
    | some q => S.2.2.2 17 (8 * b + q)
def bh_mcho (S : mS) (x : Int32) : Int32 := match bh_ix x 8 with
  | none => -1
  | some q => bh_oi (bh_ch S q)
def bh_mchv (S : mS) (x : Int32) : Int64 := match bh_ix x 8 with
  | none => 0
  | some q => bh_chv S q
def bh_mone (S : mS) (x : Int32) : Int32 := match bh_ix x 8 with
  | none => nI 1
  | some q => bh_tf (bh_one S q (S.1 18))
def bh_mair (S : mS) (x y : Int32) : Int32 := match bh_ix x (S.1 28) with
  | none => -1
  | some k => match bh_ix y 5 with
    | none => -1
    | some j => if j = 4 then bh_abL S k 8 else S.2.2.1 (21 + j) k
def bh_mabo (S : mS) (x : Int32) : Int32 := match bh_ix x 5 with
  | none => -1
  | some j => if j = 0 then nI (S.1 0) else if j = 1 then nI (S.1 18) else if j = 2 then S.2.1 19 else if j = 3 then nI (S.1 28) else S.2.1 20
def bh_mlose (S : mS) (x : Int32) : Int32 × mS := match bh_ix x (S.1 28) with
  | none => (nI 0, S)
  | some k => (nI 1, bh_take S k)
def bh_mtw (S : mS) (x : Int32) : Int32 × mS := match bh_ix x (S.1 28) with
  | none => (nI 0, S)
  | some k => if S.1 28 = 400 then (nI 0, S) else (nI 1, bh_tw S k)
def bh_msil (S : mS) (x z : Int32) : Int32 × mS := match bh_ix x (S.1 0) with
  | none => (nI 0, S)
  | some v => (nI 1, bh_sil S v z)
def bh_mdel (S : mS) (x : Int32) : Int32 × mS := match bh_ix x (S.1 28) with
  | none => (nI 0, S)
  | some k => if bh_cb S k = true then (nI 1, bh_dlv S k) else (nI 0, S)
def bh_mpro (S : mS) (x y : Int32) (z : Int64) : Int32 × mS := match bh_ixb x (S.1 18) with
  | none => (nI 0, S)
  | some b => match bh_ix y 8 with
    | none => (nI 0, S)
    | some q => if S.2.2.1 5 b = nI 4 ∧ ¬ ((S.2.2.1 11 b ||| S.2.2.1 12 b) >>> (nI q &&& 31)) &&& nI 1 = nI 1 then (nI 1, bh_pro S b q z) else (nI 0, S)
def bh_magn (S : mS) (x : Int32) : Int32 × mS := match bh_ixb x (S.1 18) with
  | none => (-1, S)
  | some b => (nI (bh_ag S b (S.2.2.1 9 b).toNatClampNeg).1, (bh_ag S b (S.2.2.1 9 b).toNatClampNeg).2)
def bh_mbal (S : mS) (x y z : Int32) : Int32 × mS := if bh_blC S x y z then (nI (S.1 18 + 1), bh_bal S x y z) else (-1, S)
def bh_mstl (S : mS) (x : Int32) : Int32 × mS := if x < 0 then (-1, S) else (nI (bh_stl S x.toNatClampNeg).1, (bh_stl S x.toNatClampNeg).2)
theorem bh_lcmp_eq {x y : Int64} (h : lg_cmp x y = 0) : x = y := by
  unfold lg_cmp at h
  split at h
  · exact absurd h (by decide)
  · split at h
    · assumption
    · exact absurd h (by decide)
theorem bh_lcmp_ne {x y : Int64} (h : ¬ lg_cmp x y = 0) : ¬ x = y := by
  intro e
  apply h
  subst e
  simp [lg_cmp]
theorem bh_st4 (x : Int32) : x = nI 0 ∨ x = nI 1 ∨ x = nI 2 ∨ x = nI 3 ∨ bh_ix x 4 = none := by
  rcases h : bh_ix x 4 with _ | j
  · exact Or.inr (Or.inr (Or.inr (Or.inr rfl)))
  · obtain ⟨hj, rfl⟩ := bh_ix_some h
    rcases (show j = 0 ∨ j = 1 ∨ j = 2 ∨ j = 3 by omega) with rfl | rfl | rfl | rfl <;> simp
theorem bh_stl_n {S T : mS} {n t m : Nat} (h : bh_stl S n = (t + (bh_stl T m).1, (bh_stl T m).2)) (hm : 0 < m) (hf : bh_fst T < T.1 28) : bh_stl S n = (t + 1 + (bh_stl (bh_dlv T (bh_fst T)) (m - 1)).1, (bh_stl (bh_dlv T (bh_fst T)) (m - 1)).2) := by
  obtain ⟨k, rfl⟩ : ∃ k, m = k + 1 := ⟨m - 1, by omega⟩
  rw [h, bh_stl_s T k hf, Nat.add_sub_cancel]
  simp only [Prod.mk.injEq, and_true]
  omega
