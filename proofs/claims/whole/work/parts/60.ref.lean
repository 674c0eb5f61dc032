/-! the reference's page as integers: settings at 0 to 4, counts at 5 + 97 c, the fields of a block at 6 + 97 c + 6 b + k -/
def mf (Q : Nat → Int) (c b k : Nat) : Int := Q (6 + 97 * c + 6 * b + k)
def mn (Q : Nat → Int) (c : Nat) : Int := Q (5 + 97 * c)
theorem m_cell (c b k : Int) : fX5_cell (ii c) (ii b) (ii k) = some (ii (5 + 97 * c + 1 + 6 * b + k)) := by
  unfold fX5_cell
  simp only [q_5, q_97, q_1, q_6, ii_add, ii_mul]
theorem m_of {Q : Nat → Int} {c b k : Nat} (hc : c < 4) (hb : b < 16) (hk : k < 6) : fX5_of (ii c) (ii b) (ii k) (il Q) = some (ii (mf Q c b k)) := by
  unfold fX5_of
  simp (disch := omega) only [m_cell, bd_eq, aget_ii, il_app]
  rw [show (5 + 97 * (c : Int) + 1 + 6 * b + k).toNat = 6 + 97 * c + 6 * b + k by omega]
  rfl
theorem m_blocks {Q : Nat → Int} {c : Nat} (hc : c < 4) : fX5_blocks (ii c) (il Q) = some (ii (mn Q c)) := by
  unfold fX5_blocks
  simp (disch := omega) only [q_5, q_97, ii_add, ii_mul, aget_ii, il_app]
  rw [show (5 + 97 * (c : Int)).toNat = 5 + 97 * c by omega]
  rfl
theorem m_next {Q : Nat → Int} {S p : Int} (hS : 0 < S) (hS2 : S ≤ 500) (hF : 0 ≤ Q 1) (hF2 : Q 1 ≤ 500) (hp : -1000000 ≤ p) (hp2 : p < 1000000000) : fX5_next (ii p) (ii S) (il Q) = some (ii (nxS (Q 1) S p)) := by
  have f1 : ∀ {α : Type} (k : Int32 → Option α), aget 393 (il Q) 1 k = k (ii (Q 1)) := fun k => aget_ii (z := 1) (by omega) (by omega) (by omega)
  unfold fX5_next nxS
  simp only [f1, nm_eq, ii_sub]
  rcases Int.lt_or_le (Q 1) p with h | h
  · rw [if_neg (show ¬ p ≤ Q 1 by omega)]
    simp (disch := omega) only [q_0, q_1, ii_lt, if_pos, ii_add, ii_sub, adiv_ii, ii_mul]
    rw [Int.tdiv_eq_ediv_of_nonneg (by omega), nxS_model hS h]
  · rw [if_pos h]
    simp (disch := omega) only [q_0, ii_lt, if_neg]
theorem m_drift {Q : Nat → Int} {S p : Int} (hS : 0 < S) (hS2 : S ≤ 500) (hF : 0 ≤ Q 1) (hF2 : Q 1 ≤ 500) (hp : 0 ≤ p) (hp2 : p < 1000000000) : fX5_drift (ii p) (ii S) (il Q) = some (ii ((p - Q 1) % S)) := by
  have f1 : ∀ {α : Type} (k : Int32 → Option α), aget 393 (il Q) 1 k = k (ii (Q 1)) := fun k => aget_ii (z := 1) (by omega) (by omega) (by omega)
  unfold fX5_drift
  simp only [f1, ii_sub]
  rw [arem_ii (by omega) (by omega) hS (by omega)]
  have hr1 := Int.emod_nonneg (p - Q 1) (show S ≠ 0 by omega)
  have hr2 := Int.emod_lt_of_pos (p - Q 1) hS
  have ht := Int.tmod_eq_emod (a := p - Q 1) (b := S)
  have hab : (S.natAbs : Int) = S := by omega
  rcases Classical.em (0 ≤ p - Q 1 ∨ S ∣ p - Q 1) with hd | hd
  · rw [if_pos hd] at ht
    simp (disch := omega) only [q_0, ii_le, if_pos]
    rw [show (p - Q 1).tmod S = (p - Q 1) % S by omega]
  · rw [if_neg hd] at ht
    simp (disch := omega) only [q_0, ii_le, if_neg, ii_add]
    rw [show (p - Q 1).tmod S + S = (p - Q 1) % S by omega]
theorem m_f0 {Q : Nat → Int} {c b : Nat} (hc : c < 4) (hb : b < 16) : fX5_of (ii c) (ii b) 0 (il Q) = some (ii (mf Q c b 0)) := by
  have h := m_of (Q := Q) (k := 0) hc hb (by omega)
  rw [show (0 : Int32) = ii ((0 : Nat) : Int) by decide]
  exact h
theorem m_f1 {Q : Nat → Int} {c b : Nat} (hc : c < 4) (hb : b < 16) : fX5_of (ii c) (ii b) 1 (il Q) = some (ii (mf Q c b 1)) := by
  have h := m_of (Q := Q) (k := 1) hc hb (by omega)
  rw [show (1 : Int32) = ii ((1 : Nat) : Int) by decide]
  exact h
theorem m_f2 {Q : Nat → Int} {c b : Nat} (hc : c < 4) (hb : b < 16) : fX5_of (ii c) (ii b) 2 (il Q) = some (ii (mf Q c b 2)) := by
  have h := m_of (Q := Q) (k := 2) hc hb (by omega)
  rw [show (2 : Int32) = ii ((2 : Nat) : Int) by decide]
  exact h
theorem m_f3 {Q : Nat → Int} {c b : Nat} (hc : c < 4) (hb : b < 16) : fX5_of (ii c) (ii b) 3 (il Q) = some (ii (mf Q c b 3)) := by
  have h := m_of (Q := Q) (k := 3) hc hb (by omega)
  rw [show (3 : Int32) = ii ((3 : Nat) : Int) by decide]
  exact h
theorem m_f4 {Q : Nat → Int} {c b : Nat} (hc : c < 4) (hb : b < 16) : fX5_of (ii c) (ii b) 4 (il Q) = some (ii (mf Q c b 4)) := by
  have h := m_of (Q := Q) (k := 4) hc hb (by omega)
  rw [show (4 : Int32) = ii ((4 : Nat) : Int) by decide]
  exact h
theorem m_f5 {Q : Nat → Int} {c b : Nat} (hc : c < 4) (hb : b < 16) : fX5_of (ii c) (ii b) 5 (il Q) = some (ii (mf Q c b 5)) := by
  have h := m_of (Q := Q) (k := 5) hc hb (by omega)
  rw [show (5 : Int32) = ii ((5 : Nat) : Int) by decide]
  exact h
