/-! the class sets its page again after a change; the latest state comes back -/
theorem e_again {P : Nat → Int} {x1 x2 x3 x4 x5 : Int32} {lc en ov ah be sp bl lb : Nat → Int32} (hP : PgOK P) :
    ∃ (cu : Int32) (lcz enz ovz ahz bez spz blz lbz : Nat → Int), fX4_layOutAgain (il P) x1 x2 x3 x4 x5 lc en ov ah be sp bl lb
        = some (ii (P 0), ii (P 1), ii (P 2), ii (P 3), cu, il lcz, il enz, il ovz, il ahz, il bez, il spz, il blz, il lbz) ∧ LayOK P (P 2) lcz enz ovz ahz bez spz blz lbz := by
  obtain ⟨cz, -, -, rfl⟩ := ii_of x5
  obtain ⟨a1, rfl⟩ := il_of lc
  obtain ⟨a2, rfl⟩ := il_of en
  obtain ⟨a3, rfl⟩ := il_of ov
  obtain ⟨a4, rfl⟩ := il_of ah
  obtain ⟨a5, rfl⟩ := il_of be
  obtain ⟨a6, rfl⟩ := il_of sp
  obtain ⟨a7, rfl⟩ := il_of bl
  obtain ⟨a8, rfl⟩ := il_of lb
  obtain ⟨cu', lc', en', ov', ah', be', sp', bl', lb', e1, e2⟩ := e_layOut (P := P) (S := P 2) (cu := cz) (x1 := x1) (x2 := x2) (x3 := x3) (x4 := x4) (lc := a1) (en := a2) (ov := a3) (ah := a4) (be := a5) (sp := a6) (bl := a7) (lb := a8) hP hP.2.2.2.2.1 hP.2.2.2.2.2.1
  refine ⟨ii cu', lc', en', ov', ah', be', sp', bl', lb', ?_, e2⟩
  have f2 : fX2_settingOf 2 (il P) = some (ii (P 2)) := e_setting (k := 2) (by omega)
  unfold fX4_layOutAgain
  rw [f2]
  simp only [bd_eq]
  rw [e1]
  rfl
theorem e_giveBack {n : Nat} {A P : Nat → Int} (hn : n < 4) : ∃ P' : Nat → Int, fX0_giveBack (ii ((n + 1 : Nat) : Int)) (il A) (il P) = some (ii n, il P') ∧ ∀ j, j < 393 → P' j = A (393 * n + j) := by
  refine ⟨va_cpy A P (393 * n) 0 393, ?_, fun j hj => by rw [cpy_in (by omega) (by omega)]; exact congrArg A (by omega)⟩
  unfold fX0_giveBack fX2_copyFrom
  simp (disch := omega) only [q_0, q_1, q_393, ii_le, if_neg, ii_sub, nm_eq, ii_mul]
  rw [e_copy (by omega) (by omega) (by omega) (by omega) (by omega) (by omega) (by omega)]
  simp only [bd_eq]
  rw [show (((n + 1 : Nat) : Int) - 1) = n by omega, show ((n : Int) * 393).toNat = 393 * n by omega]
  rfl
theorem m_22 {B : Nat → Int} {n : Nat} (hn : n < 4) : ∀ (r j fu : Nat) (Q : Nat → Int), j + r = 393 → r < fu → ∃ Q' : Nat → Int, fX5_undo_22 (il B) (ii n) fu (ii j) (il Q) = some (ii n, ii n, il Q') ∧ (∀ i, j ≤ i → i < 393 → Q' i = B (393 * n + i)) ∧ (∀ i, i < j → Q' i = Q i) := by
  intro r
  induction r with
  | zero =>
    intro j fu Q hj hf
    obtain ⟨fu', rfl⟩ : ∃ q, fu = q + 1 := ⟨fu - 1, by omega⟩
    refine ⟨Q, ?_, fun i h1 h2 => absurd h1 (by omega), fun _ _ => rfl⟩
    rw [fX5_undo_22]
    simp (disch := omega) only [q_393, ii_le, if_pos]
  | succ r ih =>
    intro j fu Q hj hf
    obtain ⟨fu', rfl⟩ : ∃ q, fu = q + 1 := ⟨fu - 1, by omega⟩
    obtain ⟨Q', e1, e2, e3⟩ := ih (j + 1) fu' (zu Q j (B (393 * n + j))) (by omega) (by omega)
    refine ⟨Q', ?_, fun i h1 h2 => ?_, fun i h => by rw [e3 i (by omega), zu_ne (by omega)]⟩
    · rw [fX5_undo_22]
      simp (disch := omega) only [q_393, ii_le, if_neg, aget_ii, il_app, Int.toNat_natCast, ii_mul, ii_add, aset_ii, nm_eq, q_1]
      rw [show (393 * (n : Int) + j).toNat = 393 * n + j by omega]
      exact e1
    · rcases Nat.lt_or_ge i (j + 1) with h3 | h3
      · have e : i = j := by omega
        rw [e, e3 j (by omega), zu_eq]
      · exact e2 i h3 h2
theorem m_undo {n : Nat} {B Q : Nat → Int} (hn : n < 4) : ∃ Q' : Nat → Int, fX5_undo (ii ((n + 1 : Nat) : Int)) (il Q) (il B) = some (ii n, ii n, il Q') ∧ ∀ j, j < 393 → Q' j = B (393 * n + j) := by
  obtain ⟨Q', e1, e2, e3⟩ := m_22 (B := B) hn 393 0 Fu Q (by omega) (by rw [Fu_s]; omega)
  refine ⟨Q', ?_, fun j hj => e2 j (Nat.zero_le j) hj⟩
  unfold fX5_undo
  rw [if_neg (by
    rw [q_0, ii_eq (by omega) (by omega) (by omega) (by omega)]
    omega), q_1, ii_sub, nm_eq, show (((n + 1 : Nat) : Int) - 1) = n by omega, show (0 : Int32) = ii ((0 : Nat) : Int) by decide]
  exact e1
