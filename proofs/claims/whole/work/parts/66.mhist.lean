theorem m_51 {Q : Nat → Int} {n : Nat} (hn : n < 4) : ∀ (r j fu : Nat) (B : Nat → Int), j + r = 393 → r < fu → ∃ B' : Nat → Int, fX5_record_51 (il Q) (ii n) fu (ii j) (il B) = some (ii ((n + 1 : Nat) : Int), il B') ∧ (∀ i, j ≤ i → i < 393 → B' (393 * n + i) = Q i) ∧ (∀ i, i < 393 * n + j ∨ 393 * n + 393 ≤ i → B' i = B i) := by
  intro r
  induction r with
  | zero =>
    intro j fu B hj hf
    obtain ⟨fu', rfl⟩ : ∃ q, fu = q + 1 := ⟨fu - 1, by omega⟩
    refine ⟨B, ?_, fun i h1 h2 => absurd h1 (by omega), fun _ _ => rfl⟩
    rw [fX5_record_51]
    simp (disch := omega) only [q_393, ii_le, if_pos, nm_eq, q_1, ii_add]
    rfl
  | succ r ih =>
    intro j fu B hj hf
    obtain ⟨fu', rfl⟩ : ∃ q, fu = q + 1 := ⟨fu - 1, by omega⟩
    obtain ⟨B', e1, e2, e3⟩ := ih (j + 1) fu' (zu B (393 * n + j) (Q j)) (by omega) (by omega)
    refine ⟨B', ?_, fun i h1 h2 => ?_, fun i h => by rw [e3 i (by omega), zu_ne (by omega)]⟩
    · rw [fX5_record_51]
      simp (disch := omega) only [q_393, ii_le, if_neg, aget_ii, il_app, Int.toNat_natCast, ii_mul, ii_add, aset_ii, nm_eq, q_1]
      rw [show (393 * (n : Int) + j).toNat = 393 * n + j by omega]
      exact e1
    · rcases Nat.lt_or_ge i (j + 1) with h3 | h3
      · have : i = j := by omega
        subst this
        rw [e3 (393 * n + i) (by omega), zu_eq]
      · exact e2 i h3 h2
theorem m_10 {Q A : Nat → Int} {x : Int32} {N : Nat} (hN : N = 1179) : ∀ (r j fu : Nat) (B : Nat → Int), j + r = N → r < fu → (∀ i, i < j → B i = A (i + 393)) → (∀ i, j ≤ i → B i = A i) → ∃ B' : Nat → Int, fX5_record_10 (il Q) x fu (ii j) (il B) = fX5_record_49 (il Q) (x - 1) (il B') ∧ (∀ i, i < N → B' i = A (i + 393)) := by
  intro r
  induction r with
  | zero =>
    intro j fu B hj hf h1 h2
    obtain ⟨fu', rfl⟩ : ∃ q, fu = q + 1 := ⟨fu - 1, by omega⟩
    refine ⟨B, ?_, fun i hi => h1 i (by omega)⟩
    rw [fX5_record_10]
    dsimp only
    rw [if_pos (by
      rw [q_1179, ii_le (by omega) (by omega) (by omega) (by omega)]
      omega), nm_eq]
  | succ r ih =>
    intro j fu B hj hf h1 h2
    obtain ⟨fu', rfl⟩ : ∃ q, fu = q + 1 := ⟨fu - 1, by omega⟩
    obtain ⟨B', e1, e3⟩ := ih (j + 1) fu' (zu B j (B (j + 393))) (by omega) (by omega) (fun i hi => by
      rcases Nat.lt_or_ge i j with h3 | h3
      · rw [zu_ne (by omega)]
        exact h1 i h3
      · have e : i = j := by omega
        rw [e, zu_eq]
        exact h2 (j + 393) (by omega)) (fun i hi => by
      rw [zu_ne (by omega)]
      exact h2 i (by omega))
    refine ⟨B', ?_, e3⟩
    rw [fX5_record_10]
    dsimp only
    rw [if_neg (by
      rw [q_1179, ii_le (by omega) (by omega) (by omega) (by omega)]
      omega), q_393, ii_add, aget_ii (by omega) (by omega) (by omega), il_app, aset_ii (by omega) (by omega) (by omega), nm_eq, q_1, ii_add, Int.toNat_natCast, show ((j : Int) + 393).toNat = j + 393 by omega, show ((j : Int) + 1) = ((j + 1 : Nat) : Int) by omega]
    exact e1
theorem m_record {n : Nat} {B Q : Nat → Int} (hn : n ≤ 4) : ∃ B' : Nat → Int, fX5_record (ii n) (il Q) (il B) = some (ii ((if n = 4 then 4 else n + 1 : Nat) : Int), il B')
    ∧ (∀ j, j < 393 → B' (393 * (if n = 4 then 3 else n) + j) = Q j) ∧ (∀ k, k < (if n = 4 then 3 else n) → ∀ j, j < 393 → B' (393 * k + j) = B (393 * (if n = 4 then k + 1 else k) + j)) := by
  unfold fX5_record
  rcases Nat.lt_or_ge n 4 with h | h
  · obtain ⟨B', e1, e2, e3⟩ := m_51 (Q := Q) h 393 0 Fu B (by omega) (by rw [Fu_s]; omega)
    rw [if_neg (show ¬ n = 4 by omega), if_neg (show ¬ n = 4 by omega)]
    refine ⟨B', ?_, fun j hj => e2 j (Nat.zero_le j) hj, fun k hk j hj => ?_⟩
    · rw [if_neg (by
        rw [q_4, ii_eq (by omega) (by omega) (by omega) (by omega)]
        omega)]
      unfold fX5_record_49
      rw [show (0 : Int32) = ii ((0 : Nat) : Int) by decide]
      exact e1
    · rw [if_neg (show ¬ n = 4 by omega)]
      exact e3 _ (by omega)
  · have e4 : n = 4 := by omega
    subst e4
    obtain ⟨N, hN⟩ : ∃ N : Nat, N = 1179 := ⟨_, rfl⟩
    obtain ⟨B1, f1, f2⟩ := m_10 (Q := Q) (A := B) (x := ii ((4 : Nat) : Int)) hN N 0 Fu B (by omega) (by rw [Fu_s]; omega) (fun i hi => absurd hi (Nat.not_lt_zero i)) (fun _ _ => rfl)
    obtain ⟨B', e1, e2, e3⟩ := m_51 (Q := Q) (n := 3) (by omega) 393 0 Fu B1 (by omega) (by rw [Fu_s]; omega)
    refine ⟨B', ?_, fun j hj => by rw [if_pos rfl]; exact e2 j (Nat.zero_le j) hj, fun k hk j hj => ?_⟩
    · rw [if_pos (show ii ((4 : Nat) : Int) = 4 by decide), show (0 : Int32) = ii ((0 : Nat) : Int) by decide, f1]
      unfold fX5_record_49
      rw [show ii ((4 : Nat) : Int) - 1 = ii ((3 : Nat) : Int) by decide, show (0 : Int32) = ii ((0 : Nat) : Int) by decide, e1]
      rfl
    · rw [if_pos rfl] at hk
      rw [if_pos rfl, e3 _ (by omega), f2 _ (by omega)]
      exact congrArg B (by omega)
/-- recorded alike, the histories go on belonging together -/
theorem RS.recorded {P Q : Nat → Int} (h : RS P Q) {n : Nat} {A B A' B' : Nat → Int} (hn : n ≤ 4) (hr : ∀ k, k < n → RS (fun j => A (393 * k + j)) (fun j => B (393 * k + j)))
    (a1 : ∀ j, j < 393 → A' (393 * (if n = 4 then 3 else n) + j) = P j) (a2 : ∀ k, k < (if n = 4 then 3 else n) → ∀ j, j < 393 → A' (393 * k + j) = A (393 * (if n = 4 then k + 1 else k) + j))
    (b1 : ∀ j, j < 393 → B' (393 * (if n = 4 then 3 else n) + j) = Q j) (b2 : ∀ k, k < (if n = 4 then 3 else n) → ∀ j, j < 393 → B' (393 * k + j) = B (393 * (if n = 4 then k + 1 else k) + j)) :
    ∀ k, k < (if n = 4 then 4 else n + 1) → RS (fun j => A' (393 * k + j)) (fun j => B' (393 * k + j)) := by
  intro k hk
  rcases Nat.lt_or_ge k (if n = 4 then 3 else n) with h1 | h1
  · have h2 : (if n = 4 then k + 1 else k) < n := by
      split at h1 <;> split <;> omega
    exact (hr _ h2).ext (fun j hj => a2 k h1 j hj) (fun j hj => b2 k h1 j hj)
  · have e : k = (if n = 4 then 3 else n) := by
      rcases Classical.em (n = 4) with q | q
      · rw [if_pos q] at h1 hk ⊢
        omega
      · rw [if_neg q] at h1 hk ⊢
        omega
    rw [e]
    exact h.ext a1 b1
