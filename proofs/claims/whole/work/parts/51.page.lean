/-! the class's page as integers: settings at 0 to 4, counts at 5 + c, the fields of a block at 9 + (16 c + b) 6 + k -/
def pf (P : Nat → Int) (c b k : Nat) : Int := P (9 + (c * 16 + b) * 6 + k)
def pn (P : Nat → Int) (c : Nat) : Int := P (5 + c)
theorem e_col {c : Int} (h0 : 0 ≤ c) (h1 : c < 4) : fX4_isColumn (ii c) = some (ii 1) := by
  unfold fX4_isColumn
  simp (disch := omega) only [q_0, q_1, q_4, ii_lt, ii_le, if_pos, if_neg, if_true, if_false]
theorem e_colF {c : Int} (h0 : -2147483648 ≤ c) (h1 : c < 2147483648) (h : c < 0 ∨ 4 ≤ c) : fX4_isColumn (ii c) = some (ii 0) := by
  unfold fX4_isColumn
  rcases h with h | h
  · simp (disch := omega) only [q_0, q_1, q_4, ii_lt, ii_le, if_pos, if_neg, if_true, if_false]
  · simp (disch := omega) only [q_0, q_1, q_4, ii_lt, ii_le, if_pos, if_neg, if_true, if_false]
theorem e_setting {P : Nat → Int} {k : Nat} (h : k < 5) : fX2_settingOf (ii k) (il P) = some (ii (P k)) := by
  unfold fX2_settingOf
  simp (disch := omega) only [q_0, q_5, ii_lt, ii_le, if_pos, if_neg, if_true, if_false, aget_ii, il_app, Int.toNat_natCast]
theorem e_blocks {P : Nat → Int} {c : Nat} (h : c < 4) : fX2_blocksOf (ii c) (il P) = some (ii (pn P c)) := by
  unfold fX2_blocksOf
  simp (disch := omega) only [e_col, bd_eq, q_0, q_1, q_5, ii_eq, ii_add, if_neg, aget_ii, il_app]
  rw [show (5 + (c : Int)).toNat = 5 + c by omega]
  rfl
theorem e_blocksF {P : Nat → Int} {c : Int} (h0 : -2147483648 ≤ c) (h1 : c < 2147483648) (h : c < 0 ∨ 4 ≤ c) : fX2_blocksOf (ii c) (il P) = some (ii 0) := by
  unfold fX2_blocksOf
  rw [e_colF h0 h1 h]
  simp (disch := omega) only [bd_eq, q_0, ii_eq, if_pos, if_true, if_false]
theorem e_isCell {c b k : Nat} (hc : c < 4) (hb : b < 16) (hk : k < 6) : fX2_isCell (ii c) (ii b) (ii k) = some (ii 1) := by
  unfold fX2_isCell
  simp (disch := omega) only [e_col, bd_eq, q_0, q_1, q_6, q_16, ii_eq, ii_lt, ii_le, if_neg]
theorem e_cellAt (c b : Int) : fX2_cellAt (ii c) (ii b) = some (ii (9 + (c * 16 + b) * 6)) := by
  unfold fX2_cellAt
  simp only [q_9, q_6, q_16, ii_add, ii_mul]
theorem e_field {P : Nat → Int} {c b k : Nat} (hc : c < 4) (hb : b < 16) (hk : k < 6) : fX2_fieldOf (ii c) (ii b) (ii k) (il P) = some (ii (pf P c b k)) := by
  unfold fX2_fieldOf
  rw [e_isCell hc hb hk]
  simp (disch := omega) only [bd_eq, q_0, q_1, ii_eq, if_neg, if_true, if_false, e_cellAt, ii_add, aget_ii, il_app]
  rw [show (9 + ((c : Int) * 16 + b) * 6 + k).toNat = 9 + (c * 16 + b) * 6 + k by omega]
  rfl
theorem e_hasBlock {P : Nat → Int} {c b : Nat} (hc : c < 4) (hb : (b : Int) < pn P c) (hn : pn P c ≤ 16) : fX2_hasBlock (ii c) (ii b) (il P) = some (ii 1) := by
  unfold fX2_hasBlock
  rw [e_blocks hc]
  simp (disch := omega) only [bd_eq, q_0, q_1, ii_lt, ii_le, if_neg, if_pos]
