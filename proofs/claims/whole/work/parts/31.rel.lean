/-! what the class and the reference have in common -/
def rl_fix (B : cB) (b q : Nat) : Prop := nI 2 ≤ B.1 6 b ∧ rb_h (B.1 8 b ||| B.1 9 b) q = true
def rl_v (km : Nat) (B : cB) (q : Nat) (a m : Int32) (x : Int64) : Prop := m = a ∧ ((a = nI 0 ∧ x = 0) ∨ ∃ j, 1 ≤ j ∧ j ≤ km ∧ a = nI j ∧ x = B.2.2 j q ∧ rl_fix B j q)
def rl_lc (nv km : Nat) (B : cB) (kd bb vv pp : Int32) (t x : Int64) (f : Nat → Int32) (g : Nat → Int64) : Prop := ∃ w b, kd = nI w ∧ bb = nI b ∧ (1 ≤ w ∧ w ≤ 7) ∧ (1 ≤ b ∧ b ≤ km) ∧ (2 ≤ w ∧ w ≤ 5 → ∃ v, v < nv ∧ vv = nI v ∧ (4 ≤ w → rb_h (B.1 1 b) v = true)) ∧ (4 ≤ w ∧ w ≤ 5 → ∃ q, q < 8 ∧ pp = nI q ∧ rl_fix B b q ∧ (w = 4 → x = B.2.2 b q)) ∧ (w = 3 → ∀ q, q < 8 → rl_v km B q (bh_at t q) (f q) (g q)) ∧ (w ≠ 3 → t = 0 ∧ ∀ q, q < 8 → f q = nI 0)
def rl_l (nv km : Nat) (C : cS) (S : mS) (i : Nat) : Prop := (S.2.2.1 21 i = C.1.2.2.1 10 i ∧ S.2.2.1 22 i = C.1.2.2.1 11 i ∧ S.2.2.1 23 i = C.1.2.2.1 12 i ∧ S.2.2.1 24 i = C.1.2.2.1 13 i) ∧ rl_lc nv km C.2 (C.1.2.2.1 10 i) (C.1.2.2.1 11 i) (C.1.2.2.1 12 i) (C.1.2.2.1 13 i) (C.1.2.2.2 14 i) (S.2.2.2 26 i) (fun q => S.2.2.1 25 (8 * i + q)) (fun q => S.2.2.2 27 (8 * i + q))
def rl_mf (B : cB) (f : Nat) : Nat → Int32
  | 0 => nI 0
  | d + 1 => rl_mf B f d ||| B.1 1 (f + d)
theorem rl_mf_eq (C : cS) (f d : Nat) : bc_mfL C f d = rl_mf C.2 f d := by
  induction d with
  | zero => rfl
  | succ d ih => show bc_mfL C f d ||| _ = rl_mf C.2 f d ||| _; rw [ih]
/-- what holds of a ballot of the class -/
def rl_bi (nv : Nat) (C : cS) (b : Nat) : Prop := ((∃ m, m < 2 ^ nv ∧ C.2.1 1 b = nI m) ∧ (∃ m, m < 2 ^ nv ∧ C.2.1 5 b = nI m) ∧ rb_v (C.2.1 7 b) ∧ rb_p (C.2.1 8 b) ∧ rb_p (C.2.1 9 b)) ∧ (∀ q, q < 8 → rb_v (C.2.2.1 12 b q) ∧ rb_v (C.2.2.1 13 b q) ∧ C.2.2.1 13 b q &&& C.2.1 1 b = C.2.2.1 13 b q ∧ (rb_h (C.2.1 8 b ||| C.2.1 9 b) q = false → C.2.2.1 12 b q = nI 0) ∧ nI 0 ≤ C.2.2.1 10 b q) ∧ (nI 1 ≤ C.2.1 3 b) ∧ ((∃ j, j ≤ 4 ∧ C.2.1 6 b = nI j) ∧ (C.2.1 6 b = nI 0 → C.2.1 7 b = nI 0) ∧ (¬ nI 2 ≤ C.2.1 6 b → C.2.1 9 b = nI 0 ∧ ∀ q, q < 8 → C.2.2.1 12 b q = nI 0)) ∧ ∃ g, g < b ∧ C.2.1 4 b = nI g ∧ C.2.1 5 b = rl_mf C.2 (bh_fr g) (b - bh_fr g)
def rl_b (nv : Nat) (C : cS) (S : mS) (b : Nat) : Prop := (S.2.2.1 5 b = C.2.1 6 b ∧ S.2.2.1 6 b = C.2.1 1 b ∧ S.2.2.1 7 b = C.2.1 2 b ∧ S.2.2.1 8 b = C.2.1 3 b ∧ S.2.2.1 9 b = C.2.1 4 b ∧ S.2.2.1 10 b = C.2.1 7 b ∧ S.2.2.1 11 b = C.2.1 8 b ∧ S.2.2.1 12 b = C.2.1 9 b) ∧ (∀ q, q < 8 → S.2.2.1 14 (8 * b + q) = C.2.2.1 10 b q ∧ S.2.2.1 15 (8 * b + q) = C.2.2.1 12 b q ∧ S.2.2.1 16 (8 * b + q) = C.2.2.1 13 b q ∧ S.2.2.2 17 (8 * b + q) = C.2.2.2 b q) ∧ S.2.2.1 13 b = bc_kp C b ∧ rl_bi nv C b
def rl_a (nv km : Nat) (C : cS) (S : mS) : Prop := (S.1 0 = nv ∧ S.1 18 = km ∧ S.1 28 = C.1.1 15) ∧ (1 ≤ nv ∧ nv ≤ 7 ∧ km ≤ 24 ∧ C.1.1 15 ≤ 400) ∧ (S.2.1 19 = C.1.2.1 6 ∧ S.2.1 20 = C.1.2.1 16) ∧ ∃ j, j ≤ km ∧ C.1.2.1 6 = nI j
def rl_p (nv : Nat) (C : cS) (S : mS) : Prop := ∀ v, v < nv → S.2.2.1 1 v = C.1.2.2.1 1 v
def rl_w (nv km : Nat) (C : cS) (S : mS) : Prop := ∀ v, v < nv → ∀ q, q < 8 → rl_v km C.2 q (bh_at (C.1.2.2.2 2 v) q) (S.2.2.1 2 (8 * v + q)) (S.2.2.2 3 (8 * v + q))
def rl_z (nv : Nat) (C : cS) (S : mS) : Prop := rb_v (C.1.2.1 3) ∧ ∀ v, v < nv → (S.2.2.1 4 v = 0 ↔ rb_h (C.1.2.1 3) v = false)
def rl_bs (nv km : Nat) (C : cS) (S : mS) : Prop := ∀ b, 1 ≤ b → b ≤ km → rl_b nv C S b
def rl_u (km : Nat) (S : mS) : Prop := ∀ b, km < b → b ≤ 24 → (S.2.2.1 5 b = nI 0 ∧ S.2.2.1 10 b = nI 0 ∧ S.2.2.1 11 b = nI 0 ∧ S.2.2.1 12 b = nI 0 ∧ S.2.2.1 13 b = nI 0) ∧ ∀ q, q < 8 → S.2.2.1 14 (8 * b + q) = nI 0 ∧ S.2.2.1 15 (8 * b + q) = nI 0 ∧ S.2.2.1 16 (8 * b + q) = nI 0 ∧ S.2.2.2 17 (8 * b + q) = 0
def rl_ls (nv km : Nat) (C : cS) (S : mS) : Prop := ∀ i, i < C.1.1 15 → rl_l nv km C S i
def Rl (nv km : Nat) (C : cS) (S : mS) : Prop := rl_a nv km C S ∧ rl_p nv C S ∧ rl_w nv km C S ∧ rl_z nv C S ∧ rl_bs nv km C S ∧ rl_u km S ∧ rl_ls nv km C S
-- what was fixed stays fixed
def rl_le (km : Nat) (B B' : cB) : Prop := (∀ j q, 1 ≤ j → j ≤ km → q < 8 → rl_fix B j q → rl_fix B' j q ∧ B'.2.2 j q = B.2.2 j q) ∧ ∀ j, 1 ≤ j → j ≤ km → B'.1 1 j = B.1 1 j
theorem rl_v_mono {km : Nat} {B B' : cB} {q : Nat} {a m : Int32} {x : Int64} (hq : q < 8) (h : rl_le km B B') (v : rl_v km B q a m x) : rl_v km B' q a m x := by
  obtain ⟨h1, h2⟩ := v
  refine ⟨h1, ?_⟩
  rcases h2 with h2 | ⟨j, j1, j2, j3, j4, j5⟩
  · exact Or.inl h2
  · obtain ⟨k1, k2⟩ := h.1 j q j1 j2 hq j5
    exact Or.inr ⟨j, j1, j2, j3, by rw [k2]; exact j4, k1⟩
theorem rl_lc_mono {nv km : Nat} {B B' : cB} {kd bb vv pp : Int32} {t x : Int64} {f : Nat → Int32} {g : Nat → Int64} (h : rl_le km B B') (v : rl_lc nv km B kd bb vv pp t x f g) : rl_lc nv km B' kd bb vv pp t x f g := by
  obtain ⟨w, b, h1, h2, h3, h4, h5, h6, h7, h8⟩ := v
  refine ⟨w, b, h1, h2, h3, h4, fun hw => ?_, fun hw => ?_, fun hw q hq => rl_v_mono hq h (h7 hw q hq), h8⟩
  · obtain ⟨v, v1, v2, v3⟩ := h5 hw
    exact ⟨v, v1, v2, fun z => by rw [h.2 b h4.1 h4.2]; exact v3 z⟩
  · obtain ⟨q, q1, q2, q3, q4⟩ := h6 hw
    obtain ⟨k1, k2⟩ := h.1 b q h4.1 h4.2 q1 q3
    exact ⟨q, q1, q2, k1, fun z => by rw [k2]; exact q4 z⟩
theorem rl_le_rf (km : Nat) (B : cB) : rl_le km B B := ⟨fun _ _ _ _ _ h => ⟨h, rfl⟩, fun _ _ _ => rfl⟩
-- a letter more
theorem rl_lc_cg {nv km : Nat} {B : cB} {kd bb vv pp kd' bb' vv' pp' : Int32} {t x t' x' : Int64} {f f' : Nat → Int32} {g g' : Nat → Int64} (h : rl_lc nv km B kd bb vv pp t x f g) (e1 : kd' = kd) (e2 : bb' = bb) (e3 : vv' = vv) (e4 : pp' = pp) (e5 : t' = t) (e6 : x' = x) (e7 : ∀ q, q < 8 → f' q = f q) (e8 : ∀ q, q < 8 → g' q = g q) : rl_lc nv km B kd' bb' vv' pp' t' x' f' g' := by
  subst e1; subst e2; subst e3; subst e4; subst e5; subst e6
  obtain ⟨w, b, h1, h2, h3, h4, h5, h6, h7, h8⟩ := h
  exact ⟨w, b, h1, h2, h3, h4, h5, h6, fun hw q hq => by rw [e7 q hq, e8 q hq]; exact h7 hw q hq, fun hw => ⟨(h8 hw).1, fun q hq => by rw [e7 q hq]; exact (h8 hw).2 q hq⟩⟩
theorem rl_send {nv km : Nat} {C : cS} {S : mS} {kd bb vv pp : Int32} {t x : Int64} {f : Nat → Int32} {g : Nat → Int64} (h : Rl nv km C S) (hl : rl_lc nv km C.2 kd bb vv pp t x f g) : Rl nv km (bc_sd C kd bb vv pp t) (bh_put S kd bb vv pp x f g) := by
  obtain ⟨⟨⟨a1, a2, a3⟩, ⟨a4, a5, a6, a7⟩, ⟨a8, a9⟩, a10⟩, hp, hw, hz, hb, hu, hs⟩ := h
  unfold bc_sd bh_put
  rw [a3]
  by_cases hc : C.1.1 15 < 400
  · rw [if_pos hc, if_neg (by omega)]
    refine ⟨⟨⟨a1, a2, rfl⟩, ⟨a4, a5, a6, ?_⟩, ⟨a8, a9⟩, a10⟩, hp, hw, hz, hb, hu, ?_⟩
    · show C.1.1 15 + 1 ≤ 400
      omega
    · intro i hi
      have hi : i < C.1.1 15 + 1 := hi
      have e21 : (bh_n (bh_bl (bh_putA S kd bb vv pp x) (8 * C.1.1 15) 8 f g) 28 (C.1.1 15 + 1)).2.2.1 21 = upd (S.2.2.1 21) (S.1 28) kd := rfl
      have e22 : (bh_n (bh_bl (bh_putA S kd bb vv pp x) (8 * C.1.1 15) 8 f g) 28 (C.1.1 15 + 1)).2.2.1 22 = upd (S.2.2.1 22) (S.1 28) bb := rfl
      have e23 : (bh_n (bh_bl (bh_putA S kd bb vv pp x) (8 * C.1.1 15) 8 f g) 28 (C.1.1 15 + 1)).2.2.1 23 = upd (S.2.2.1 23) (S.1 28) vv := rfl
      have e24 : (bh_n (bh_bl (bh_putA S kd bb vv pp x) (8 * C.1.1 15) 8 f g) 28 (C.1.1 15 + 1)).2.2.1 24 = upd (S.2.2.1 24) (S.1 28) pp := rfl
      have e26 : (bh_n (bh_bl (bh_putA S kd bb vv pp x) (8 * C.1.1 15) 8 f g) 28 (C.1.1 15 + 1)).2.2.2 26 = vp_updL (S.2.2.2 26) (S.1 28) x := rfl
      have e25 : (bh_n (bh_bl (bh_putA S kd bb vv pp x) (8 * C.1.1 15) 8 f g) 28 (C.1.1 15 + 1)).2.2.1 25 = bh_fill (S.2.2.1 25) (8 * C.1.1 15) 8 f := rfl
      have e27 : (bh_n (bh_bl (bh_putA S kd bb vv pp x) (8 * C.1.1 15) 8 f g) 28 (C.1.1 15 + 1)).2.2.2 27 = bh_fill (S.2.2.2 27) (8 * C.1.1 15) 8 g := rfl
      have d10 : (bc_n (bc_sdA C kd bb vv pp t) 15 (C.1.1 15 + 1)).1.2.2.1 10 = upd (C.1.2.2.1 10) (C.1.1 15) kd := rfl
      have d11 : (bc_n (bc_sdA C kd bb vv pp t) 15 (C.1.1 15 + 1)).1.2.2.1 11 = upd (C.1.2.2.1 11) (C.1.1 15) bb := rfl
      have d12 : (bc_n (bc_sdA C kd bb vv pp t) 15 (C.1.1 15 + 1)).1.2.2.1 12 = upd (C.1.2.2.1 12) (C.1.1 15) vv := rfl
      have d13 : (bc_n (bc_sdA C kd bb vv pp t) 15 (C.1.1 15 + 1)).1.2.2.1 13 = upd (C.1.2.2.1 13) (C.1.1 15) pp := rfl
      have d14 : (bc_n (bc_sdA C kd bb vv pp t) 15 (C.1.1 15 + 1)).1.2.2.2 14 = vp_updL (C.1.2.2.2 14) (C.1.1 15) t := rfl
      have d2 : (bc_n (bc_sdA C kd bb vv pp t) 15 (C.1.1 15 + 1)).2 = C.2 := rfl
      unfold rl_l
      rw [e21, e22, e23, e24, e26, e25, e27, d10, d11, d12, d13, d14, d2, a3]
      by_cases hia : i = C.1.1 15
      · subst hia
        simp only [bh_upd_same, pk_uLs]
        refine ⟨⟨trivial, trivial, trivial, trivial⟩, rl_lc_cg hl rfl rfl rfl rfl rfl rfl (fun q hq => ?_) (fun q hq => ?_)⟩
        · unfold bh_fill
          rw [if_pos (by omega)]
          congr 1
          omega
        · unfold bh_fill
          rw [if_pos (by omega)]
          congr 1
          omega
      · rw [bh_upd_ne _ _ hia, bh_upd_ne _ _ hia, bh_upd_ne _ _ hia, bh_upd_ne _ _ hia, bh_upd_ne _ _ hia, bh_upd_ne _ _ hia, bh_upd_ne _ _ hia, bh_upd_ne _ _ hia, pk_uLn hia, pk_uLn hia]
        obtain ⟨k1, k2⟩ := hs i (by omega)
        refine ⟨k1, rl_lc_cg k2 rfl rfl rfl rfl rfl rfl (fun q hq => ?_) (fun q hq => ?_)⟩
        · unfold bh_fill
          rw [if_neg (by omega)]
        · unfold bh_fill
          rw [if_neg (by omega)]
  · rw [if_neg hc, if_pos (by omega)]
    exact ⟨⟨⟨a1, a2, a3⟩, ⟨a4, a5, a6, a7⟩, ⟨a8, by show S.2.1 20 + nI 1 = C.1.2.1 16 + nI 1; rw [a9]⟩, a10⟩, hp, hw, hz, hb, hu, hs⟩
-- a letter less
theorem rl_tk_r {S : mS} {k d : Nat} {r : Nat} (hr : r = 21 ∨ r = 22 ∨ r = 23 ∨ r = 24) (i : Nat) : (bh_tkL S k d).2.2.1 r i = if k ≤ i ∧ i < k + d then S.2.2.1 r (i + 1) else S.2.2.1 r i := by
  induction d generalizing i with
  | zero => rw [if_neg (by omega)]; rfl
  | succ d ih =>
    have e : (bh_tkL S k (d + 1)).2.2.1 r = upd ((bh_tkL S k d).2.2.1 r) (k + d) ((bh_tkL S k d).2.2.1 r (k + d + 1)) := by rcases hr with rfl | rfl | rfl | rfl <;> rfl
    rw [e]
    unfold upd
    by_cases h : i = k + d
    · subst h
      rw [if_pos rfl, if_pos (by omega), ih, if_neg (by omega)]
    · rw [if_neg h, ih]
      by_cases h2 : k ≤ i ∧ i < k + d
      · rw [if_pos h2, if_pos (by omega)]
      · rw [if_neg h2, if_neg (by omega)]
theorem rl_tk_26 {S : mS} {k d : Nat} (i : Nat) : (bh_tkL S k d).2.2.2 26 i = if k ≤ i ∧ i < k + d then S.2.2.2 26 (i + 1) else S.2.2.2 26 i := by
  induction d generalizing i with
  | zero => rw [if_neg (by omega)]; rfl
  | succ d ih =>
    have e : (bh_tkL S k (d + 1)).2.2.2 26 = vp_updL ((bh_tkL S k d).2.2.2 26) (k + d) ((bh_tkL S k d).2.2.2 26 (k + d + 1)) := rfl
    rw [e]
    unfold vp_updL
    by_cases h : i = k + d
    · subst h
      rw [if_pos rfl, if_pos (by omega), ih, if_neg (by omega)]
    · rw [if_neg h, ih]
      by_cases h2 : k ≤ i ∧ i < k + d
      · rw [if_pos h2, if_pos (by omega)]
      · rw [if_neg h2, if_neg (by omega)]
theorem rl_tk_25 {S : mS} {k d : Nat} (i q : Nat) (hq : q < 8) : (bh_tkL S k d).2.2.1 25 (8 * i + q) = if k ≤ i ∧ i < k + d then S.2.2.1 25 (8 * (i + 1) + q) else S.2.2.1 25 (8 * i + q) := by
  induction d generalizing i with
  | zero => rw [if_neg (by omega)]; rfl
  | succ d ih =>
    have e : (bh_tkL S k (d + 1)).2.2.1 25 = bh_fill ((bh_tkL S k d).2.2.1 25) (8 * (k + d)) 8 (fun j => (bh_tkL S k d).2.2.1 25 (8 * (k + d + 1) + j)) := rfl
    rw [e]
    unfold bh_fill
    by_cases h : i = k + d
    · subst h
      rw [if_pos (by omega), if_pos (by omega), show 8 * (k + d) + q - 8 * (k + d) = q by omega]
      dsimp only
      rw [ih, if_neg (by omega)]
    · rw [if_neg (by omega), ih]
      by_cases h2 : k ≤ i ∧ i < k + d
      · rw [if_pos h2, if_pos (by omega)]
      · rw [if_neg h2, if_neg (by omega)]
theorem rl_tk_27 {S : mS} {k d : Nat} (i q : Nat) (hq : q < 8) : (bh_tkL S k d).2.2.2 27 (8 * i + q) = if k ≤ i ∧ i < k + d then S.2.2.2 27 (8 * (i + 1) + q) else S.2.2.2 27 (8 * i + q) := by
  induction d generalizing i with
  | zero => rw [if_neg (by omega)]; rfl
  | succ d ih =>
    have e : (bh_tkL S k (d + 1)).2.2.2 27 = bh_fill ((bh_tkL S k d).2.2.2 27) (8 * (k + d)) 8 (fun j => (bh_tkL S k d).2.2.2 27 (8 * (k + d + 1) + j)) := rfl
    rw [e]
    unfold bh_fill
    by_cases h : i = k + d
    · subst h
      rw [if_pos (by omega), if_pos (by omega), show 8 * (k + d) + q - 8 * (k + d) = q by omega]
      dsimp only
      rw [ih, if_neg (by omega)]
    · rw [if_neg (by omega), ih]
      by_cases h2 : k ≤ i ∧ i < k + d
      · rw [if_pos h2, if_pos (by omega)]
      · rw [if_neg h2, if_neg (by omega)]
/-- the reference's state but for what it keeps of letters: enough to carry the rest over -/
theorem rl_keep {nv km : Nat} {C C' : cS} {S S' : mS} (h : Rl nv km C S) (hk : bh_kp S S') (h20 : S'.2.1 20 = C'.1.2.1 16) (h2 : C'.2 = C.2) (hp : C'.1.2.2.1 1 = C.1.2.2.1 1) (hv : C'.1.2.2.2 2 = C.1.2.2.2 2) (hi : C'.1.2.1 3 = C.1.2.1 3) (hc : C'.1.2.1 6 = C.1.2.1 6) (ha : S'.1 28 = C'.1.1 15) (h4 : C'.1.1 15 ≤ 400) (hl : rl_ls nv km C' S') : Rl nv km C' S' := by
  obtain ⟨⟨⟨a1, a2, a3⟩, ⟨a4, a5, a6, a7⟩, ⟨a8, a9⟩, a10⟩, rp, rw_, rz, rb, ru, rs⟩ := h
  obtain ⟨⟨k1, k2, k3⟩, kr⟩ := hk
  obtain ⟨D1, D2⟩ := C'
  have h2 : D2 = C.2 := h2
  subst h2
  refine ⟨⟨⟨k1.trans a1, k2.trans a2, ha⟩, ⟨a4, a5, a6, h4⟩, ⟨k3.trans (a8.trans hc.symm), h20⟩, by show ∃ j, j ≤ km ∧ D1.2.1 6 = nI j; rw [show D1.2.1 6 = C.1.2.1 6 from hc]; exact a10⟩, ?_, ?_, ?_, ?_, ?_, hl⟩
  · intro v hvv
    rw [(kr 1 (by omega)).1, hp]
    exact rp v hvv
  · intro v hvv q hq
    rw [(kr 2 (by omega)).1, (kr 3 (by omega)).2, hv]
    exact rw_ v hvv q hq
  · unfold rl_z
    rw [(kr 4 (by omega)).1, hi]
    exact rz
  · intro b h1 hb
    unfold rl_b
    rw [(kr 5 (by omega)).1, (kr 6 (by omega)).1, (kr 7 (by omega)).1, (kr 8 (by omega)).1, (kr 9 (by omega)).1, (kr 10 (by omega)).1, (kr 11 (by omega)).1, (kr 12 (by omega)).1, (kr 13 (by omega)).1, (kr 14 (by omega)).1, (kr 15 (by omega)).1, (kr 16 (by omega)).1, (kr 17 (by omega)).2]
    obtain ⟨x1, x2, x3, x4⟩ := rb b h1 hb
    exact ⟨x1, x2, x3, x4⟩
  · intro b h1 hb
    rw [(kr 5 (by omega)).1, (kr 10 (by omega)).1, (kr 11 (by omega)).1, (kr 12 (by omega)).1, (kr 13 (by omega)).1, (kr 14 (by omega)).1, (kr 15 (by omega)).1, (kr 16 (by omega)).1, (kr 17 (by omega)).2]
    exact ru b h1 hb
theorem rl_tkL_20 (S : mS) (k d : Nat) : (bh_tkL S k d).2.1 20 = S.2.1 20 := by
  induction d with
  | zero => rfl
  | succ d ih => exact ih
theorem rl_drop {nv km : Nat} {C : cS} {S : mS} {k : Nat} (h : Rl nv km C S) (hk : k < C.1.1 15) : Rl nv km (bc_dp C k) (bh_take S k) := by
  have h0 := h
  obtain ⟨⟨⟨a1, a2, a3⟩, ⟨a4, a5, a6, a7⟩, ⟨a8, a9⟩, a10⟩, rp, rw_, rz, rb, ru, rs⟩ := h
  refine rl_keep h0 (bh_kp_take S k) ?_ rfl rfl rfl rfl rfl ?_ ?_ ?_
  · show (bh_tkL S k _).2.1 20 = C.1.2.1 16
    rw [rl_tkL_20]
    exact a9
  · show (bh_tkL S k _).1 28 = C.1.1 15 - 1
    rw [bh_tkL_28, a3]
  · show C.1.1 15 - 1 ≤ 400
    omega
  · intro i hi
    have hi : i < C.1.1 15 - 1 := hi
    have d10 : (bc_dp C k).1.2.2.1 10 = va_cpy (C.1.2.2.1 10) (C.1.2.2.1 10) (k + 1) k (C.1.1 15 - k - 1) := rfl
    have d11 : (bc_dp C k).1.2.2.1 11 = va_cpy (C.1.2.2.1 11) (C.1.2.2.1 11) (k + 1) k (C.1.1 15 - k - 1) := rfl
    have d12 : (bc_dp C k).1.2.2.1 12 = va_cpy (C.1.2.2.1 12) (C.1.2.2.1 12) (k + 1) k (C.1.1 15 - k - 1) := rfl
    have d13 : (bc_dp C k).1.2.2.1 13 = va_cpy (C.1.2.2.1 13) (C.1.2.2.1 13) (k + 1) k (C.1.1 15 - k - 1) := rfl
    have d14 : (bc_dp C k).1.2.2.2 14 = va_cpy (C.1.2.2.2 14) (C.1.2.2.2 14) (k + 1) k (C.1.1 15 - k - 1) := rfl
    have d2 : (bc_dp C k).2 = C.2 := rfl
    have cp : ∀ {α : Type} (f : Nat → α), va_cpy f f (k + 1) k (C.1.1 15 - k - 1) i = if k ≤ i then f (i + 1) else f i := by
      intro α f
      unfold va_cpy
      by_cases h : k ≤ i
      · rw [if_pos (by omega), if_pos h]
        congr 1
        omega
      · rw [if_neg (by omega), if_neg h]
    unfold rl_l
    rw [d10, d11, d12, d13, d14, d2]
    simp only [cp]
    unfold bh_take
    rw [rl_tk_r (r := 21) (by omega), rl_tk_r (r := 22) (by omega), rl_tk_r (r := 23) (by omega), rl_tk_r (r := 24) (by omega), rl_tk_26]
    by_cases hki : k ≤ i
    · simp only [if_pos hki, if_pos (show k ≤ i ∧ i < k + (S.1 28 - 1 - k) by omega)]
      obtain ⟨k1, k2⟩ := rs (i + 1) (by omega)
      refine ⟨k1, rl_lc_cg k2 rfl rfl rfl rfl rfl rfl (fun q hq => ?_) (fun q hq => ?_)⟩
      · rw [rl_tk_25 i q hq, if_pos (by omega)]
      · rw [rl_tk_27 i q hq, if_pos (by omega)]
    · simp only [if_neg hki, if_neg (show ¬ (k ≤ i ∧ i < k + (S.1 28 - 1 - k)) by omega)]
      obtain ⟨k1, k2⟩ := rs i (by omega)
      refine ⟨k1, rl_lc_cg k2 rfl rfl rfl rfl rfl rfl (fun q hq => ?_) (fun q hq => ?_)⟩
      · rw [rl_tk_25 i q hq, if_neg (by omega)]
      · rw [rl_tk_27 i q hq, if_neg (by omega)]
-- a letter twice
theorem rl_twice {nv km : Nat} {C : cS} {S : mS} {k : Nat} (h : Rl nv km C S) (hk : k < C.1.1 15) (hc : C.1.1 15 < 400) : Rl nv km (bc_rp C k) (bh_tw S k) := by
  have a3 := h.1.1.2.2
  obtain ⟨⟨k1, k2, k3, k4⟩, k5⟩ := h.2.2.2.2.2.2 k hk
  have e : bh_tw S k = bh_put S (S.2.2.1 21 k) (S.2.2.1 22 k) (S.2.2.1 23 k) (S.2.2.1 24 k) (S.2.2.2 26 k) (fun j => S.2.2.1 25 (8 * k + j)) (fun j => S.2.2.2 27 (8 * k + j)) := by
    unfold bh_put
    rw [if_neg (by omega)]
    rfl
  rw [e, k1, k2, k3, k4]
  exact rl_send h k5
