theorem e_type {n z : Nat} {A : Nat → Int} (hn : n < 60) (hz : z < 65536) : fX4_type (ii z) (ii n) (il A) = some (ii ((n + 1 : Nat) : Int), ii ((n + 1 : Nat) : Int), il (zu A n z)) := by
  have ha : ∀ {α : Type} (k : (Nat → Int32) → Option α), asetc 60 (il A) (ii n) (ii z) k = k (il (zu A n z)) := fun k => by
    have h := aset_ii (n := 60) (P := A) (z := n) (v := z) (k := k) (by omega) (by omega) (by omega)
    rw [Int.toNat_natCast] at h
    rw [← h]
    unfold asetc aset
    rw [nar_ii hz]
  unfold fX4_type fX3_append fX3_length
  simp (disch := omega) only [q_0, q_60, ii_lt, if_neg, if_pos, ha, nm_eq, q_1, ii_add, bd_eq]
  rw [if_neg (by decide)]
  rfl
theorem m_type {n : Nat} {z : Int} {B : Nat → Int} (hn : n < 60) : fX5_type (ii z) (ii n) (il B) = some (ii ((n + 1 : Nat) : Int), ii ((n + 1 : Nat) : Int), il (zu B n z)) := by
  unfold fX5_type
  rw [if_neg (by
    rw [q_60, ii_eq (by omega) (by omega) (by omega) (by omega)]
    omega), aset_ii (by omega) (by omega) (by omega), nm_eq, q_1, ii_add, Int.toNat_natCast]
  rfl
theorem ok_type : op_type InvG := by
  intro i1 sg sm hI
  obtain ⟨hP, hH, hS, hT⟩ := hI
  obtain ⟨n, A, B, h0, h1, h2, h3, h4, h5⟩ := id hT
  obtain ⟨z, hz, ez⟩ := char_ii i1
  rcases Nat.lt_or_ge n 60 with hn | hn
  · refine ⟨(ii ((n + 1 : Nat) : Int), ii ((n + 1 : Nat) : Int), il (zu A n z)), (ii ((n + 1 : Nat) : Int), ii ((n + 1 : Nat) : Int), il (zu B n z)), ?_, ?_, rfl, hP, hH, hS, ⟨n + 1, zu A n z, zu B n z, by omega, rfl, rfl, rfl, rfl, fun i hi => ?_⟩⟩
    · rw [ez, h1, h3]
      exact e_type hn hz
    · rw [ez, h2, h4]
      exact m_type hn
    · rcases Nat.lt_or_ge i n with h6 | h6
      · rw [zu_ne (by omega), zu_ne (by omega)]
        exact h5 i h6
      · have e : i = n := by omega
        rw [e, zu_eq, zu_eq]
        exact ⟨rfl, by omega, by omega⟩
  · have e : n = 60 := by omega
    subst e
    refine ⟨(-3, ii ((60 : Nat) : Int), il A), (-3, ii ((60 : Nat) : Int), il B), ?_, ?_, rfl, hP, hH, hS, ⟨60, A, B, h0, rfl, rfl, rfl, rfl, h5⟩⟩
    · rw [ez, h1, h3]
      unfold fX4_type fX3_append
      rw [if_neg (show ¬ ii ((60 : Nat) : Int) < 0 by decide), if_neg (show ¬ ii ((60 : Nat) : Int) < 60 by decide), bd_eq]
      rw [if_pos rfl]
    · rw [ez, h2, h4]
      unfold fX5_type
      rw [if_pos (show ii ((60 : Nat) : Int) = 60 by decide)]
