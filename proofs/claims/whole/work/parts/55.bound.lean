/-! a column's bounds: the cursor, how many lines, and that the lines stand deeper and deeper -/
theorem blkS_bound {H F S R : Int} {fl : Nat → Int} {b : Nat} {q : CS} (hS : 0 < S) (hS2 : S ≤ 500) (hF : 0 ≤ F) (hF2 : F ≤ 500) (hH : H ≤ 9999) (hfl : FlOK fl) (hq : 0 ≤ q.1) :
    0 ≤ (blkS H F S R fl b q).1.1 ∧ ((blkS H F S R fl b q).1.1 ≤ q.1 + 3000 ∨ (blkS H F S R fl b q).1.1 ≤ 11000) ∧ (blkS H F S R fl b q).1.2.1.length ≤ q.2.1.length + 40 := by
  unfold blkS
  split
  · exact ⟨hq, Or.inl (show q.1 ≤ q.1 + 3000 by omega), show q.2.1.length ≤ q.2.1.length + 40 by omega⟩
  · split
    · rename_i h0
      have hf : 1 ≤ fl 1 ∧ fl 1 ≤ 40 ∧ 40 ≤ fl 2 ∧ fl 2 ≤ 400 ∧ fl 2 ≤ fl 3 := by
        rcases hfl with h | h
        · exact ⟨h.2.1, h.2.2.1, h.2.2.2.1, h.2.2.2.2.1, h.2.2.2.2.2.1⟩
        · omega
      have hm := cntS_le H (3 * fl 2 / 10) (blS F S q.1 (7 * fl 2 / 10) (fl 3) (fl 4)) (fl 1).toNat
      have ho := cntS_ok H (3 * fl 2 / 10) (blS F S q.1 (7 * fl 2 / 10) (fl 3) (fl 4)) (fl 1).toNat
      generalize cntS H (3 * fl 2 / 10) (blS F S q.1 (7 * fl 2 / 10) (fl 3) (fl 4)) (fl 1).toNat = m at hm ho ⊢
      refine ⟨?_, ?_, ?_⟩
      · show 0 ≤ (if m = 0 then q.1 else _)
        split
        · exact hq
        · have hb := blS_bound (F := F) (S := S) (cu := q.1) (asc := 7 * fl 2 / 10) (lead := fl 3) (sn := fl 4) hS hS2 hF hF2 hq (by omega) (by omega) (m - 1)
          have h3 : 0 ≤ ((m - 1 : Nat) : Int) * fl 3 := Int.mul_nonneg (by omega) (by omega)
          omega
      · show (if m = 0 then q.1 else _) ≤ q.1 + 3000 ∨ (if m = 0 then q.1 else _) ≤ 11000
        split
        · exact Or.inl (by omega)
        · have := ho (m - 1) (by omega)
          exact Or.inr (by omega)
      · show (q.2.1 ++ _).length ≤ _
        rw [List.length_append, List.length_map, List.length_range]
        omega
    · split
      · rename_i h0 h1
        have hf : 1 ≤ fl 5 ∧ fl 5 ≤ 3000 := by
          rcases hfl with h | h
          · omega
          · exact h.2
        split
        · exact ⟨hq, Or.inl (by show q.1 ≤ q.1 + 3000; omega), by show q.2.1.length ≤ _; omega⟩
        · refine ⟨?_, ?_, by show q.2.1.length ≤ _; omega⟩
          · show 0 ≤ (if R = 1 then _ else _)
            have hn := nxS_ge (F := F) (S := S) (p := q.1 + fl 5) hS hF
            split <;> omega
          · right
            show (if R = 1 then _ else _) ≤ (11000 : Int)
            have hn := nxS_ge (F := F) (S := S) (p := q.1 + fl 5) hS hF
            have := hn.2.2 (by omega)
            split <;> omega
      · rename_i h0 h1
        have hf : 1 ≤ fl 5 ∧ fl 5 ≤ 3000 := by
          rcases hfl with h | h
          · omega
          · exact h.2
        refine ⟨?_, ?_, by show q.2.1.length ≤ _; omega⟩
        · show 0 ≤ (if q.1 = 0 then 0 else _)
          split <;> omega
        · left
          show (if q.1 = 0 then 0 else _) ≤ q.1 + 3000
          split <;> omega
theorem csS_bound {H F S R : Int} {fl : Nat → Nat → Int} {n : Nat} (hS : 0 < S) (hS2 : S ≤ 500) (hF : 0 ≤ F) (hF2 : F ≤ 500) (hH : H ≤ 9999) (hfl : ∀ b, b < n → FlOK (fl b)) :
    ∀ b, b ≤ n → 0 ≤ (csS H F S R fl b).1 ∧ (csS H F S R fl b).1 ≤ 11000 + 3000 * b ∧ (csS H F S R fl b).2.1.length ≤ 40 * b := by
  intro b
  induction b with
  | zero =>
    intro _
    exact ⟨Int.le_refl 0, by show (0 : Int) ≤ _; omega, Nat.le_refl 0⟩
  | succ b ih =>
    intro hb
    obtain ⟨h1, h2, h3⟩ := ih (by omega)
    obtain ⟨g1, g2, g3⟩ := blkS_bound (R := R) (b := b) (q := csS H F S R fl b) hS hS2 hF hF2 hH (hfl b (by omega)) h1
    show 0 ≤ (blkS H F S R (fl b) b (csS H F S R fl b)).1.1 ∧ (blkS H F S R (fl b) b (csS H F S R fl b)).1.1 ≤ _ ∧ (blkS H F S R (fl b) b (csS H F S R fl b)).1.2.1.length ≤ _
    refine ⟨g1, ?_, by omega⟩
    rcases g2 with g2 | g2 <;> omega
