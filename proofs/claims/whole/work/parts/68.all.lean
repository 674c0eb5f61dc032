/-! how many blocks all columns have; the snapshot -/
def allP (P : Nat → Int) : Int := pn P 0 + pn P 1 + pn P 2 + pn P 3
theorem Fu_5 : Fu = 99995 + 1 + 1 + 1 + 1 + 1 := rfl
theorem e_all {P : Nat → Int} : fX2_allBlocks (il P) = some (ii (allP P)) := by
  have b0 : fX2_blocksOf 0 (il P) = some (ii (pn P 0)) := e_blocks (c := 0) (by omega)
  have b1 : fX2_blocksOf (ii 1) (il P) = some (ii (pn P 1)) := e_blocks (c := 1) (by omega)
  have b2 : fX2_blocksOf (ii 2) (il P) = some (ii (pn P 2)) := e_blocks (c := 2) (by omega)
  have b3 : fX2_blocksOf (ii 3) (il P) = some (ii (pn P 3)) := e_blocks (c := 3) (by omega)
  have a1 : (0 : Int32) + 1 = ii 1 := by decide
  have a2 : ii 1 + 1 = ii 2 := by decide
  have a3 : ii 2 + 1 = ii 3 := by decide
  have a4 : ii 3 + 1 = ii 4 := by decide
  have z : ∀ v : Int, (0 : Int32) + ii v = ii v := fun v => by rw [q_0, ii_add, Int.zero_add]
  unfold fX2_allBlocks
  rw [Fu_5]
  rw [fX2_allBlocks_4]
  dsimp only
  rw [if_neg (by decide), b0, bd_eq, nm_eq, nm_eq, a1, z]
  rw [fX2_allBlocks_4]
  dsimp only
  rw [if_neg (by decide), b1, bd_eq, nm_eq, nm_eq, a2, ii_add]
  rw [fX2_allBlocks_4]
  dsimp only
  rw [if_neg (by decide), b2, bd_eq, nm_eq, nm_eq, a3, ii_add]
  rw [fX2_allBlocks_4]
  dsimp only
  rw [if_neg (by decide), b3, bd_eq, nm_eq, nm_eq, a4, ii_add]
  rw [fX2_allBlocks_4]
  dsimp only
  rw [if_pos (by decide)]
  rfl
theorem m_all {Q : Nat → Int} : fX5_all (il Q) = some (ii (mn Q 0 + mn Q 1 + mn Q 2 + mn Q 3)) := by
  have b0 : fX5_blocks 0 (il Q) = some (ii (mn Q 0)) := m_blocks (c := 0) (by omega)
  have b1 : fX5_blocks 1 (il Q) = some (ii (mn Q 1)) := m_blocks (c := 1) (by omega)
  have b2 : fX5_blocks 2 (il Q) = some (ii (mn Q 2)) := m_blocks (c := 2) (by omega)
  have b3 : fX5_blocks 3 (il Q) = some (ii (mn Q 3)) := m_blocks (c := 3) (by omega)
  unfold fX5_all
  rw [b0, b1, b2, b3]
  simp only [bd_eq, ii_add]
theorem RS.all {P Q : Nat → Int} (h : RS P Q) : mn Q 0 + mn Q 1 + mn Q 2 + mn Q 3 = allP P := by
  unfold allP
  rw [(h.2.2.2.2.2.2 0 (by omega)).1, (h.2.2.2.2.2.2 1 (by omega)).1, (h.2.2.2.2.2.2 2 (by omega)).1, (h.2.2.2.2.2.2 3 (by omega)).1]
theorem e_keep {x : Int32} {P A : Nat → Int} : ∃ A' : Nat → Int, fX4_keep x (il P) (il A) = some (ii (allP P), 1, il A') ∧ ∀ j, j < 393 → A' j = P j := by
  refine ⟨va_cpy P A 0 0 393, ?_, fun j hj => by rw [cpy_in (by omega) (by omega)]; exact congrArg P (by omega)⟩
  unfold fX4_keep fX2_copyTo
  rw [q_0, q_393, e_copy (by omega) (by omega) (by omega) (by omega) (by omega) (by omega) (by omega), bd_eq, bd_eq, e_all, bd_eq]
  rfl
theorem m_keep2 {Q : Nat → Int} {x : Int32} : ∀ (r j fu : Nat) (B : Nat → Int), j + r = 393 → r < fu → ∃ B' : Nat → Int, fX5_keep_2 (il Q) x fu (ii j) (il B) = some (ii (mn Q 0 + mn Q 1 + mn Q 2 + mn Q 3), 1, il B') ∧ (∀ i, j ≤ i → i < 393 → B' i = Q i) ∧ (∀ i, i < j → B' i = B i) := by
  intro r
  induction r with
  | zero =>
    intro j fu B hj hf
    obtain ⟨fu', rfl⟩ : ∃ q, fu = q + 1 := ⟨fu - 1, by omega⟩
    refine ⟨B, ?_, fun i h1 h2 => absurd h1 (by omega), fun _ _ => rfl⟩
    rw [fX5_keep_2]
    simp (disch := omega) only [q_393, ii_le, if_pos, m_all, bd_eq]
  | succ r ih =>
    intro j fu B hj hf
    obtain ⟨fu', rfl⟩ : ∃ q, fu = q + 1 := ⟨fu - 1, by omega⟩
    obtain ⟨B', e1, e2, e3⟩ := ih (j + 1) fu' (zu B j (Q j)) (by omega) (by omega)
    refine ⟨B', ?_, fun i h1 h2 => ?_, fun i h => by rw [e3 i (by omega), zu_ne (by omega)]⟩
    · rw [fX5_keep_2]
      simp (disch := omega) only [q_393, ii_le, if_neg, aget_ii, il_app, Int.toNat_natCast, aset_ii, nm_eq, q_1, ii_add]
      exact e1
    · rcases Nat.lt_or_ge i (j + 1) with h3 | h3
      · have e : i = j := by omega
        rw [e, e3 j (by omega), zu_eq]
      · exact e2 i h3 h2
theorem m_keep {Q B : Nat → Int} {x : Int32} : ∃ B' : Nat → Int, fX5_keep x (il Q) (il B) = some (ii (mn Q 0 + mn Q 1 + mn Q 2 + mn Q 3), 1, il B') ∧ ∀ j, j < 393 → B' j = Q j := by
  obtain ⟨B', e1, e2, e3⟩ := m_keep2 (Q := Q) (x := x) 393 0 Fu B (by omega) (by rw [Fu_s]; omega)
  refine ⟨B', ?_, fun j hj => e2 j (Nat.zero_le j) hj⟩
  unfold fX5_keep
  rw [show (0 : Int32) = ii ((0 : Nat) : Int) by decide]
  exact e1
