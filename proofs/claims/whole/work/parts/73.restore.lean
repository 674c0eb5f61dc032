theorem m_16 {S : Nat → Int} {x : Int32} {hi : Nat → Int32} : ∀ (r j fu : Nat) (Q : Nat → Int), j + r = 393 → r < fu → ∃ Q' : Nat → Int, fX5_restore_16 (il S) x hi fu (ii j) (il Q) = some (ii (mn Q' 0 + mn Q' 1 + mn Q' 2 + mn Q' 3), x, il Q', hi) ∧ (∀ i, j ≤ i → i < 393 → Q' i = S i) ∧ (∀ i, i < j → Q' i = Q i) := by
  intro r
  induction r with
  | zero =>
    intro j fu Q hj hf
    obtain ⟨fu', rfl⟩ : ∃ q, fu = q + 1 := ⟨fu - 1, by omega⟩
    refine ⟨Q, ?_, fun i h1 h2 => absurd h1 (by omega), fun _ _ => rfl⟩
    rw [fX5_restore_16]
    simp (disch := omega) only [q_393, ii_le, if_pos, m_all, bd_eq]
  | succ r ih =>
    intro j fu Q hj hf
    obtain ⟨fu', rfl⟩ : ∃ q, fu = q + 1 := ⟨fu - 1, by omega⟩
    obtain ⟨Q', e1, e2, e3⟩ := ih (j + 1) fu' (zu Q j (S j)) (by omega) (by omega)
    refine ⟨Q', ?_, fun i h1 h2 => ?_, fun i h => by rw [e3 i (by omega), zu_ne (by omega)]⟩
    · rw [fX5_restore_16]
      simp (disch := omega) only [q_393, ii_le, if_neg, aget_ii, il_app, Int.toNat_natCast, aset_ii, nm_eq, q_1, ii_add]
      exact e1
    · rcases Nat.lt_or_ge i (j + 1) with h3 | h3
      · have e : i = j := by omega
        rw [e, e3 j (by omega), zu_eq]
      · exact e2 i h3 h2
theorem e_restore0 {ce sn rows : Nat → Int32} {x1 x2 x3 x4 x5 st : Int32} {lc en ov ah be sp bl lb : Nat → Int32} : fX4_restore 0 ce x1 x2 x3 x4 x5 lc en ov ah be sp bl lb st rows sn = some (-5, ce, x1, x2, x3, x4, x5, lc, en, ov, ah, be, sp, bl, lb, st, rows) := by
  unfold fX4_restore
  rw [if_pos rfl]
theorem m_restore0 {k : Int32} {now slot hi : Nat → Int32} : fX5_restore k 0 now slot hi = some (-5, k, now, hi) := by
  unfold fX5_restore
  rw [if_pos rfl]
set_option maxHeartbeats 4000000 in
theorem ok_restore : op_restore InvG := by
  intro sg sm hI
  obtain ⟨hP, hH, hS, hT⟩ := hI
  obtain ⟨s0, SA, SB, s1, s2, s3⟩ := id hS
  rcases s3 with s3 | ⟨s3, hRSs⟩
  · have s4 : sm.2.2.1 = 0 := s0.symm.trans s3
    refine ⟨(-5, sg.2.1, sg.2.2.1, sg.2.2.2.1, sg.2.2.2.2.1, sg.2.2.2.2.2.1, sg.2.2.2.2.2.2.1, sg.2.2.2.2.2.2.2.1, sg.2.2.2.2.2.2.2.2.1, sg.2.2.2.2.2.2.2.2.2.1, sg.2.2.2.2.2.2.2.2.2.2.1, sg.2.2.2.2.2.2.2.2.2.2.2.1, sg.2.2.2.2.2.2.2.2.2.2.2.2.1, sg.2.2.2.2.2.2.2.2.2.2.2.2.2.1, sg.2.2.2.2.2.2.2.2.2.2.2.2.2.2.1, sg.2.2.2.2.2.2.2.2.2.2.2.2.2.2.2.2.2.2.2.2.2.2.2.2.2.2.2.2.2.2.1, sg.2.2.2.2.2.2.2.2.2.2.2.2.2.2.2.2.2.2.2.2.2.2.2.2.2.2.2.2.2.2.2.1), (-5, sm.1, sm.2.2.2.2.1, sm.2.2.2.2.2.2.1), by rw [s3]; exact e_restore0, by rw [s4]; exact m_restore0, rfl, hP, hH, hS, hT⟩
  · have s4 : sm.2.2.1 = 1 := s0.symm.trans s3
    obtain ⟨P, Q, l1, l2, l3, l4, l5, l6, l7, l8, c1, c2, hRS, hrest⟩ := hP
    obtain ⟨n, A, B, hn, t1, t2, t3, t4, hr⟩ := hH
    obtain ⟨A', a1, a2, a3⟩ := e_record (P := P) (A := A) hn
    obtain ⟨B', b1, b2, b3⟩ := m_record (Q := Q) (B := B) hn
    obtain ⟨Q', g1, g2, g3⟩ := m_16 (S := SB) (x := ii ((if n = 4 then 4 else n + 1 : Nat) : Int)) (hi := il B') 393 0 Fu Q (by omega) (by rw [Fu_s]; omega)
    have hcp : ∀ j, j < 393 → va_cpy SA P 0 0 393 j = SA j := fun j hj => by rw [cpy_in (by omega) (by omega)]; exact congrArg SA (by omega)
    have hRS' : RS (va_cpy SA P 0 0 393) Q' := hRSs.ext hcp (fun j hj => g2 j (Nat.zero_le j) hj)
    obtain ⟨cu, lcz, enz, ovz, ahz, bez, spz, blz, lbz, f1, f2⟩ := e_again (P := va_cpy SA P 0 0 393) (x1 := sg.2.2.1) (x2 := sg.2.2.2.1) (x3 := sg.2.2.2.2.1) (x4 := sg.2.2.2.2.2.1) (x5 := sg.2.2.2.2.2.2.1) (lc := sg.2.2.2.2.2.2.2.1) (en := sg.2.2.2.2.2.2.2.2.1) (ov := sg.2.2.2.2.2.2.2.2.2.1) (ah := sg.2.2.2.2.2.2.2.2.2.2.1) (be := sg.2.2.2.2.2.2.2.2.2.2.2.1) (sp := sg.2.2.2.2.2.2.2.2.2.2.2.2.1) (bl := sg.2.2.2.2.2.2.2.2.2.2.2.2.2.1) (lb := sg.2.2.2.2.2.2.2.2.2.2.2.2.2.2.1) hRS'.1
    refine ⟨(ii (allP (va_cpy SA P 0 0 393)), il (va_cpy SA P 0 0 393), ii (va_cpy SA P 0 0 393 0), ii (va_cpy SA P 0 0 393 1), ii (va_cpy SA P 0 0 393 2), ii (va_cpy SA P 0 0 393 3), cu, il lcz, il enz, il ovz, il ahz, il bez, il spz, il blz, il lbz, ii ((if n = 4 then 4 else n + 1 : Nat) : Int), il A'), (ii (mn Q' 0 + mn Q' 1 + mn Q' 2 + mn Q' 3), ii ((if n = 4 then 4 else n + 1 : Nat) : Int), il Q', il B'), ?_, ?_, congrArg ii hRS'.all.symm, ⟨va_cpy SA P 0 0 393, Q', lcz, enz, ovz, ahz, bez, spz, blz, lbz, rfl, rfl, hRS', rfl, rfl, rfl, rfl, rfl, rfl, rfl, rfl, rfl, rfl, rfl, rfl, f2⟩, ⟨_, A', B', ?_, rfl, rfl, rfl, rfl, hRS.recorded hn hr a2 a3 b2 b3⟩, ?_, hT⟩
    · rw [s3, c1, t1, t3, s1]
      unfold fX4_restore fX2_copyFrom
      rw [if_neg (by decide), a1, bd_eq, q_0, q_393, e_copy (by omega) (by omega) (by omega) (by omega) (by omega) (by omega) (by omega), bd_eq, bd_eq]
      show bd (fX4_layOutAgain (il (va_cpy SA P 0 0 393)) _ _ _ _ _ _ _ _ _ _ _ _ _) _ = _
      rw [f1, bd_eq, e_all, bd_eq]
      try dsimp only
      try rfl
    · rw [s4, t2, t4, c2, s2]
      unfold fX5_restore
      rw [if_neg (by decide), b1, bd_eq, show (0 : Int32) = ii ((0 : Nat) : Int) by decide]
      exact g1
    · split <;> omega
    · exact hS
