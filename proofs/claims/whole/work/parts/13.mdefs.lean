/-! the reference's methods as functions of its state -/
def bh_tf (b : Bool) : Int32 := match b with
  | true => nI 1
  | false => nI 0
theorem bh_tf_nar (b : Bool) : narrow .boolean (.int (bh_tf b)) = .int (bh_tf b) := by cases b <;> decide
theorem bh_tf_ne {b : Bool} (h : ¬ bh_tf b = 0) : b = true := by
  cases b
  · exact absurd (by decide) h
  · rfl
theorem bh_tf_eq {b : Bool} (h : bh_tf b = 0) : b = false := by
  cases b
  · rfl
  · exact absurd h (by decide)
abbrev bh_z0 : Nat → Int32 := fun _ => nI 0
abbrev bh_z1 : Nat → Int64 := fun _ => 0
def bh_kp (S T : mS) : Prop := (T.1 0 = S.1 0 ∧ T.1 18 = S.1 18 ∧ T.2.1 19 = S.2.1 19) ∧ ∀ k, (k < 21 ∨ 28 < k) → T.2.2.1 k = S.2.2.1 k ∧ T.2.2.2 k = S.2.2.2 k
theorem bh_kp.rf (S : mS) : bh_kp S S := ⟨⟨rfl, rfl, rfl⟩, fun _ _ => ⟨rfl, rfl⟩⟩
theorem bh_kp.tr {S T U : mS} (h : bh_kp S T) (g : bh_kp T U) : bh_kp S U := ⟨⟨g.1.1.trans h.1.1, g.1.2.1.trans h.1.2.1, g.1.2.2.trans h.1.2.2⟩, fun k hk => ⟨(g.2 k hk).1.trans (h.2 k hk).1, (g.2 k hk).2.trans (h.2 k hk).2⟩⟩
theorem bh_va_ne {α : Type} (f : Nat → α) {k j : Nat} (v : α) (h : j ≠ k) : va_up f k v j = f j := if_neg h
theorem bh_kp_R (S : mS) {k : Nat} (f : Nat → Int32) (hk : 21 ≤ k ∧ k ≤ 28) : bh_kp S (bh_R S k f) := ⟨⟨rfl, rfl, rfl⟩, fun j hj => ⟨bh_va_ne _ _ (by omega), rfl⟩⟩
theorem bh_kp_L (S : mS) {k : Nat} (f : Nat → Int64) (hk : 21 ≤ k ∧ k ≤ 28) : bh_kp S (bh_L S k f) := ⟨⟨rfl, rfl, rfl⟩, fun j hj => ⟨rfl, bh_va_ne _ _ (by omega)⟩⟩
theorem bh_kp_n (S : mS) (v : Nat) : bh_kp S (bh_n S 28 v) := ⟨⟨rfl, rfl, rfl⟩, fun j hj => ⟨rfl, rfl⟩⟩
theorem bh_kp_i (S : mS) (v : Int32) : bh_kp S (bh_i S 20 v) := ⟨⟨rfl, rfl, rfl⟩, fun j hj => ⟨rfl, rfl⟩⟩
theorem bh_kp_bl (S : mS) (o k : Nat) (f : Nat → Int32) (g : Nat → Int64) : bh_kp S (bh_bl S o k f g) := (bh_kp_R S _ (by omega)).tr (bh_kp_L _ _ (by omega))
theorem bh_kp_putA (S : mS) (wt bb vv pp : Int32) (x : Int64) : bh_kp S (bh_putA S wt bb vv pp x) := ((((bh_kp_R S _ (by omega)).tr (bh_kp_R _ _ (by omega))).tr (bh_kp_R _ _ (by omega))).tr (bh_kp_R _ _ (by omega))).tr (bh_kp_L _ _ (by omega))
theorem bh_kp_put (S : mS) (wt bb vv pp : Int32) (x : Int64) (f : Nat → Int32) (g : Nat → Int64) : bh_kp S (bh_put S wt bb vv pp x f g) := by
  unfold bh_put
  split
  · exact bh_kp_i S _
  · exact ((bh_kp_putA S wt bb vv pp x).tr (bh_kp_bl _ _ _ _ _)).tr (bh_kp_n _ _)
theorem bh_put_le {S : mS} (wt bb vv pp : Int32) (x : Int64) (f : Nat → Int32) (g : Nat → Int64) (h : S.1 28 ≤ 400) : (bh_put S wt bb vv pp x f g).1 28 ≤ 400 := by
  unfold bh_put
  split
  · exact h
  · show S.1 28 + 1 ≤ 400
    omega
theorem bh_kp_cp (S : mS) (i j : Nat) : bh_kp S (bh_cp S i j) := (((((bh_kp_R S _ (by omega)).tr (bh_kp_R _ _ (by omega))).tr (bh_kp_R _ _ (by omega))).tr (bh_kp_R _ _ (by omega))).tr (bh_kp_L _ _ (by omega))).tr (bh_kp_bl _ _ _ _ _)
theorem bh_kp_tkL (S : mS) (k d : Nat) : bh_kp S (bh_tkL S k d) := by
  induction d with
  | zero => exact bh_kp_n S _
  | succ d ih => exact ih.tr (bh_kp_cp _ _ _)
theorem bh_kp_take (S : mS) (k : Nat) : bh_kp S (bh_take S k) := bh_kp_tkL S k _
def bh_fr (g : Nat) : Nat := if g = 0 then 1 else g
theorem bh_fr_le {g : Nat} (h : g ≤ 24) : bh_fr g ≤ 24 := by
  unfold bh_fr
  split <;> omega
def bh_bit (v : Nat) : Int32 := nI 1 <<< (nI v &&& 31)
def bh_askL (S : mS) (f : Nat) : Nat → Int32
  | 0 => nI 0
  | d + 1 => bh_askL S f d ||| S.2.2.1 6 (f + d)
def bh_ask (S : mS) (b g : Nat) : Int32 := bh_askL S (bh_fr g) (b - bh_fr g)
theorem bh_askL_kp {S T : mS} (h : bh_kp S T) (f d : Nat) : bh_askL T f d = bh_askL S f d := by
  induction d with
  | zero => rfl
  | succ d ih => show bh_askL T f d ||| T.2.2.1 6 (f + d) = _; rw [ih, (h.2 6 (by omega)).1]; rfl
theorem bh_ask_kp {S T : mS} (h : bh_kp S T) (b g : Nat) : bh_ask T b g = bh_ask S b g := bh_askL_kp h _ _
def bh_srC (S : mS) (b g v : Nat) : Int32 := (bh_ask S b g &&& (S.2.2.1 10 b ^^^ -1)) &&& bh_bit v
def bh_srL (S : mS) (b g : Nat) : Nat → Nat × mS
  | 0 => (0, S)
  | v + 1 => if bh_srC S b g v = 0 then bh_srL S b g v else ((bh_srL S b g v).1 + 1, bh_put (bh_srL S b g v).2 (nI 2) (nI b) (nI v) (-1) 0 bh_z0 bh_z1)
theorem bh_srL_kp (S : mS) (b g v : Nat) : bh_kp S (bh_srL S b g v).2 := by
  induction v with
  | zero => exact bh_kp.rf S
  | succ v ih =>
    unfold bh_srL
    split
    · exact ih
    · exact ih.tr (bh_kp_put _ _ _ _ _ _ _ _)
theorem bh_srL_le {S : mS} (h : S.1 28 ≤ 400) (b g v : Nat) : (bh_srL S b g v).2.1 28 ≤ 400 := by
  induction v with
  | zero => exact h
  | succ v ih =>
    unfold bh_srL
    split
    · exact ih
    · exact bh_put_le _ _ _ _ _ _ _ ih
def bh_sr (S : mS) (b g : Nat) : Nat × mS := bh_srL S b g (S.1 0)
def bh_svC (S : mS) (b p v : Nat) : Int32 := (S.2.2.1 6 b &&& (S.2.2.1 15 (8 * b + p) ^^^ -1)) &&& bh_bit v
def bh_svL (S : mS) (b p : Nat) : Nat → Nat × mS
  | 0 => (0, S)
  | v + 1 => if bh_svC S b p v = 0 then bh_svL S b p v else ((bh_svL S b p v).1 + 1, bh_put (bh_svL S b p v).2 (nI 4) (nI b) (nI v) (nI p) (S.2.2.2 17 (8 * b + p)) bh_z0 bh_z1)
theorem bh_svL_kp (S : mS) (b p v : Nat) : bh_kp S (bh_svL S b p v).2 := by
  induction v with
  | zero => exact bh_kp.rf S
  | succ v ih =>
    unfold bh_svL
    split
    · exact ih
    · exact ih.tr (bh_kp_put _ _ _ _ _ _ _ _)
theorem bh_svL_le {S : mS} (h : S.1 28 ≤ 400) (b p v : Nat) : (bh_svL S b p v).2.1 28 ≤ 400 := by
  induction v with
  | zero => exact h
  | succ v ih =>
    unfold bh_svL
    split
    · exact ih
    · exact bh_put_le _ _ _ _ _ _ _ ih
def bh_sv (S : mS) (b p : Nat) : Nat × mS := bh_svL S b p (S.1 0)
def bh_isrL (S : mS) (b f : Nat) : Nat → Bool
  | 0 => true
  | d + 1 => bh_isrL S b f d && decide (S.2.2.1 7 (f + d) ≤ bh_many (S.2.2.1 10 b &&& S.2.2.1 6 (f + d)))
def bh_isr (S : mS) (b g : Nat) : Bool := bh_isrL S b (bh_fr g) (b - bh_fr g)
theorem bh_isrL_f {S : mS} {b f d d' : Nat} (h : bh_isrL S b f d = false) (hd : d ≤ d') : bh_isrL S b f d' = false := by
  induction hd with
  | refl => exact h
  | step _ ih => unfold bh_isrL; rw [ih]; rfl
theorem bh_isr_t {S : mS} {b f d : Nat} (h : ¬ bh_tf (bh_isrL S b f d) = 0) (g : ¬ bh_many (S.2.2.1 10 b &&& S.2.2.1 6 (f + d)) < S.2.2.1 7 (f + d)) : nI 1 = bh_tf (bh_isrL S b f (d + 1)) := by
  unfold bh_isrL
  rw [bh_tf_ne h, decide_eq_true (Int32.not_lt.mp g)]
  rfl
theorem bh_isr_n {S : mS} {b f d : Nat} (g : bh_many (S.2.2.1 10 b &&& S.2.2.1 6 (f + d)) < S.2.2.1 7 (f + d)) : nI 0 = bh_tf (bh_isrL S b f (d + 1)) := by
  unfold bh_isrL
  rw [decide_eq_false (fun h => absurd g (Int32.not_lt.mpr h)), Bool.and_false]
  rfl
def bh_mvd (S : mS) (b : Nat) : Bool := decide (S.2.2.1 11 b &&& (S.2.2.1 13 b ^^^ -1) = 0)
def bh_bask (S : mS) (b : Nat) : mS := bh_put (bh_r S 5 b (nI 3)) (nI 6) (nI b) (-1) (-1) 0 bh_z0 bh_z1
def bh_bmL (S : mS) (b : Nat) : Nat → mS
  | 0 => S
  | p + 1 => if (S.2.2.1 11 b >>> (nI p &&& 31)) &&& nI 1 = nI 1 then (bh_sv (bh_bmL S b p) b p).2 else bh_bmL S b p
theorem bh_bmL_kp (S : mS) (b p : Nat) : bh_kp S (bh_bmL S b p) := by
  induction p with
  | zero => exact bh_kp.rf S
  | succ p ih =>
    unfold bh_bmL
    split
    · exact ih.tr (bh_svL_kp _ _ _ _)
    · exact ih
theorem bh_bmL_le {S : mS} (h : S.1 28 ≤ 400) (b p : Nat) : (bh_bmL S b p).1 28 ≤ 400 := by
  induction p with
  | zero => exact h
  | succ p ih =>
    unfold bh_bmL
    split
    · exact bh_svL_le ih _ _ _
    · exact ih
def bh_bmo (S : mS) (b : Nat) : mS := if bh_mvd (bh_bmL (bh_r S 5 b (nI 2)) b 8) b = true then bh_bask (bh_bmL (bh_r S 5 b (nI 2)) b 8) b else bh_bmL (bh_r S 5 b (nI 2)) b 8
def bh_bre (S : mS) (b g : Nat) : mS := if bh_isr (bh_sr (bh_r S 5 b (nI 1)) b g).2 b g = true then bh_bmo (bh_sr (bh_r S 5 b (nI 1)) b g).2 b else (bh_sr (bh_r S 5 b (nI 1)) b g).2
def bh_cre (S : mS) (b v : Nat) : mS := if S.2.2.1 1 v ≤ nI b then bh_put (bh_r S 1 v (nI b)) (nI 3) (nI b) (nI v) (-1) 0 (fun k => S.2.2.1 2 (8 * v + k)) (fun k => S.2.2.2 3 (8 * v + k)) else S
def bh_cvo (S : mS) (b v p : Nat) (x : Int64) : mS := if S.2.2.1 1 v ≤ nI b then bh_put (bh_r (bh_l (bh_r (bh_r S 1 v (nI b)) 2 (8 * v + p) (nI b)) 3 (8 * v + p) x) 16 (8 * b + p) (S.2.2.1 16 (8 * b + p) ||| bh_bit v)) (nI 5) (nI b) (nI v) (nI p) 0 bh_z0 bh_z1 else S
def bh_raL (S : mS) (b : Nat) : Nat → mS
  | 0 => S
  | p + 1 => if (bh_raL S b p).2.2.1 14 (8 * b + p) < (bh_raL S b p).2.2.1 29 p then bh_r (bh_l (bh_r (bh_raL S b p) 14 (8 * b + p) ((bh_raL S b p).2.2.1 29 p)) 17 (8 * b + p) ((bh_raL S b p).2.2.2 30 p)) 11 b ((bh_raL S b p).2.2.1 11 b ||| bh_bit p) else bh_raL S b p
def bh_ra (S : mS) (b v : Nat) : mS := bh_raL (bh_r S 10 b (S.2.2.1 10 b ||| bh_bit v)) b 8
theorem bh_raL_n (S : mS) (b p : Nat) : (bh_raL S b p).1 = S.1 := by
  induction p with
  | zero => rfl
  | succ p ih =>
    unfold bh_raL
    split
    · exact ih
    · exact ih
theorem bh_raL_9 (S : mS) (b p : Nat) : (bh_raL S b p).2.2.1 9 = S.2.2.1 9 := by
  induction p with
  | zero => rfl
  | succ p ih =>
    unfold bh_raL
    split
    · exact ih
    · exact ih
def bh_cra (S : mS) (b v g : Nat) : mS := if S.2.2.1 5 b = nI 1 ∧ ¬ (S.2.2.1 10 b >>> (nI v &&& 31)) &&& nI 1 = nI 1 then (if bh_isr (bh_ra S b v) b g = true then bh_bmo (bh_ra S b v) b else bh_ra S b v) else S
def bh_va1 (S : mS) (b v p : Nat) : mS := bh_r S 15 (8 * b + p) (S.2.2.1 15 (8 * b + p) ||| bh_bit v)
def bh_va2 (S : mS) (b v p : Nat) : mS := if bh_many (S.2.2.1 15 (8 * b + p) ||| bh_bit v) < S.2.2.1 8 b then bh_va1 S b v p else bh_r (bh_va1 S b v p) 13 b (S.2.2.1 13 b ||| bh_bit p)
def bh_cva (S : mS) (b v p : Nat) : mS := if nI 2 ≤ S.2.2.1 5 b then (if S.2.2.1 5 b = nI 2 ∧ bh_mvd (bh_va2 S b v p) b = true then bh_bask (bh_va2 S b v p) b else bh_va2 S b v p) else S
def bh_cb (S : mS) (k : Nat) : Bool := !(decide (S.2.2.1 21 k = nI 2 ∨ S.2.2.1 21 k = nI 4) && !decide (S.2.2.1 4 (S.2.2.1 23 k).toNatClampNeg = 0))
def bh_got (S : mS) (k : Nat) : Nat → mS
  | 0 => S
  | j + 1 => bh_l (bh_r (bh_got S k j) 29 j (S.2.2.1 25 (8 * k + j))) 30 j (S.2.2.2 27 (8 * k + j))
theorem bh_got_n (S : mS) (k j : Nat) : (bh_got S k j).1 = S.1 := by
  induction j with
  | zero => rfl
  | succ j ih => exact ih
theorem bh_got_r (S : mS) (k j : Nat) {i : Nat} (hi : i ≠ 29) : (bh_got S k j).2.2.1 i = S.2.2.1 i := by
  induction j with
  | zero => rfl
  | succ j ih => exact (bh_va_ne _ _ hi).trans ih
theorem bh_got_l (S : mS) (k j : Nat) {i : Nat} (hi : i ≠ 30) : (bh_got S k j).2.2.2 i = S.2.2.2 i := by
  induction j with
  | zero => rfl
  | succ j ih => exact (bh_va_ne _ _ hi).trans ih
/-- a letter has gone from the air, and what it told lies ready -/
def bh_off (S : mS) (k : Nat) : mS := bh_take (bh_got S k 8) k
theorem bh_off_r (S : mS) (k : Nat) {i : Nat} (hi : i < 21) : (bh_off S k).2.2.1 i = S.2.2.1 i := ((bh_kp_take _ k).2 i (by omega)).1.trans (bh_got_r S k 8 (by omega))
theorem bh_off_0 (S : mS) (k : Nat) : (bh_off S k).1 0 = S.1 0 := (bh_kp_take _ k).1.1.trans (congrFun (bh_got_n S k 8) 0)
theorem bh_off_28 (S : mS) (k : Nat) : (bh_off S k).1 28 = S.1 28 - 1 := (bh_tkL_28 _ k _).trans (congrArg (fun f : Nat → Nat => f 28 - 1) (bh_got_n S k 8))
/-- what the letter of kind w does -/
def bh_do (S : mS) (w b v p g : Nat) (x : Int64) : mS :=
  if w = 1 then (if S.2.2.1 5 b = 0 then bh_bre S b g else S)
  else if w = 2 then bh_cre S b v
  else if w = 3 then bh_cra S b v g
  else if w = 4 then bh_cvo S b v p x
  else if w = 5 then bh_cva S b v p
  else if w = 6 then (if S.2.1 19 = S.2.2.1 9 b ∨ S.2.1 19 = nI b then bh_put (bh_i S 19 (nI b)) (nI 7) (nI b) (-1) (-1) 0 bh_z0 bh_z1 else S)
  else (if S.2.2.1 5 b = nI 3 then bh_r S 5 b (nI 4) else S)
/-- a letter k as it lies: its parts as whole numbers -/
def bh_let (S : mS) (k w b v p g : Nat) : Prop := S.2.2.1 21 k = nI w ∧ S.2.2.1 22 k = nI b ∧ S.2.2.1 9 b = nI g ∧ (1 ≤ w ∧ w ≤ 7) ∧ b ≤ 24 ∧ g ≤ 24 ∧ (2 ≤ w ∧ w ≤ 5 → S.2.2.1 23 k = nI v ∧ v < 7) ∧ (4 ≤ w ∧ w ≤ 5 → S.2.2.1 24 k = nI p ∧ p < 8)
theorem bh_ra_def (S : mS) (b v : Nat) : bh_raL (bh_r S 10 b (S.2.2.1 10 b ||| bh_bit v)) b 8 = bh_ra S b v := rfl
theorem bh_ra_9 (S : mS) (b v : Nat) : (bh_ra S b v).2.2.1 9 = S.2.2.1 9 := by
  rw [← bh_ra_def, bh_raL_9]
  rfl
theorem bh_ra_n (S : mS) (b v : Nat) : (bh_ra S b v).1 = S.1 := by
  rw [← bh_ra_def, bh_raL_n]
  rfl
