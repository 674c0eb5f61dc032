/-! copies of states: record, undo, keep, restore rest on these -/
theorem FlC.ext {f g : Nat → Int} (h : FlC f) (e : ∀ k, k < 6 → g k = f k) : FlC g := by
  have e0 := e 0 (by omega)
  have e1 := e 1 (by omega)
  have e2 := e 2 (by omega)
  have e3 := e 3 (by omega)
  have e4 := e 4 (by omega)
  have e5 := e 5 (by omega)
  unfold FlC FlOK at h ⊢
  rw [e0, e1, e2, e3, e4, e5]
  exact h
theorem RFl.ext {f g f' g' : Nat → Int} (h : RFl f g) (e : ∀ k, k < 6 → f' k = f k) (e' : ∀ k, k < 6 → g' k = g k) : RFl f' g' := by
  unfold RFl at h ⊢
  rw [e 0 (by omega), e 1 (by omega), e 2 (by omega), e 3 (by omega), e 4 (by omega), e 5 (by omega), e' 0 (by omega), e' 1 (by omega), e' 2 (by omega), e' 3 (by omega), e' 4 (by omega), e' 5 (by omega)]
  exact h
theorem PgOK.ext {P P' : Nat → Int} (h : PgOK P) (e : ∀ j, j < 393 → P' j = P j) : PgOK P' := by
  obtain ⟨h0, h1, h2, h3, h4, h5, h6, h7, h8, h9⟩ := h
  unfold PgOK
  rw [e 0 (by omega), e 1 (by omega), e 2 (by omega), e 3 (by omega), e 4 (by omega)]
  refine ⟨h0, h1, h2, h3, h4, h5, h6, h7, h8, fun c hc => ?_⟩
  obtain ⟨a1, a2, a3⟩ := h9 c hc
  have en : pn P' c = pn P c := e (5 + c) (by omega)
  rw [en]
  exact ⟨a1, a2, fun b hb => (a3 b hb).ext (fun k hk => e _ (by omega))⟩
theorem RS.ext {P Q P' Q' : Nat → Int} (h : RS P Q) (e : ∀ j, j < 393 → P' j = P j) (e' : ∀ j, j < 393 → Q' j = Q j) : RS P' Q' := by
  obtain ⟨hp, h0, h1, h2, h3, h4, hc⟩ := h
  refine ⟨hp.ext e, by rw [e 0 (by omega), e' 0 (by omega)]; exact h0, by rw [e 1 (by omega), e' 1 (by omega)]; exact h1, by rw [e 2 (by omega), e' 2 (by omega)]; exact h2, by rw [e 3 (by omega), e' 3 (by omega)]; exact h3, by rw [e 4 (by omega), e' 4 (by omega)]; exact h4, fun c hcc => ?_⟩
  obtain ⟨a1, a2⟩ := hc c hcc
  have h16 := (hp.2.2.2.2.2.2.2.2.2 c hcc).2.1
  have en : pn P' c = pn P c := e (5 + c) (by omega)
  have em : mn Q' c = mn Q c := e' (5 + 97 * c) (by omega)
  rw [en, em]
  exact ⟨a1, fun b hb => (a2 b hb).ext (fun k hk => e _ (by omega)) (fun k hk => e' _ (by omega))⟩
theorem e_copy {n1 n3 : Nat} {A B : Nat → Int} {a b n : Int} (h1 : 0 ≤ a) (h2 : 0 ≤ b) (h3 : 0 ≤ n) (h4 : a + n ≤ n1) (h5 : b + n ≤ n3) (h6 : n1 ≤ 100000) (h7 : n3 ≤ 100000) : fX4_copyCells n1 n3 (ii a) (ii b) (ii n) (il A) (il B) = some (il (va_cpy A B a.toNat b.toNat n.toNat)) := by
  unfold fX4_copyCells
  simp (disch := omega) only [q_0, ofNat_ii, ii_sub, ii_lt, ii_le, if_pos, if_neg, acpy_ii]
theorem e_copySame {n1 : Nat} {A : Nat → Int} {a b n : Int} (h1 : 0 ≤ a) (h2 : 0 ≤ b) (h3 : 0 ≤ n) (h4 : a + n ≤ n1) (h5 : b + n ≤ n1) (h6 : n1 ≤ 100000) : fX4_copyCells_same n1 (ii a) (ii b) (ii n) (il A) = some (il (va_cpy A A a.toNat b.toNat n.toNat)) := by
  unfold fX4_copyCells_same
  simp (disch := omega) only [q_0, ofNat_ii, ii_sub, ii_lt, ii_le, if_pos, if_neg, acpy_ii]
theorem cpy_in {A B : Nat → Int} {a b n j : Nat} (h1 : b ≤ j) (h2 : j < b + n) : va_cpy A B a b n j = A (a + (j - b)) := pk_cpy_in h1 h2
theorem cpy_out {A B : Nat → Int} {a b n j : Nat} (h : j < b ∨ b + n ≤ j) : va_cpy A B a b n j = B j := pk_cpy_out h
theorem e_record {n : Nat} {A P : Nat → Int} (hn : n ≤ 4) : ∃ A' : Nat → Int, fX0_record (ii n) (il A) (il P) = some (ii ((if n = 4 then 4 else n + 1 : Nat) : Int), il A')
    ∧ (∀ j, j < 393 → A' (393 * (if n = 4 then 3 else n) + j) = P j) ∧ (∀ k, k < (if n = 4 then 3 else n) → ∀ j, j < 393 → A' (393 * k + j) = A (393 * (if n = 4 then k + 1 else k) + j)) := by
  have h31 : ∀ (m : Nat) (B : Nat → Int), m < 4 → fX0_record_31 (il P) (ii m) (il B) = some (ii ((m + 1 : Nat) : Int), il (va_cpy P B 0 (393 * m) 393)) := by
    intro m B hm
    unfold fX0_record_31 fX2_copyTo
    rw [q_393, ii_mul, q_0, e_copy (by omega) (by omega) (by omega) (by omega) (by omega) (by omega) (by omega)]
    simp only [bd_eq, nm_eq, q_1, ii_add]
    rw [show ((m : Int) * 393).toNat = 393 * m by omega]
    rfl
  unfold fX0_record
  rcases Nat.lt_or_ge n 4 with h | h
  · rw [if_neg (show ¬ n = 4 by omega), if_neg (show ¬ n = 4 by omega)]
    refine ⟨va_cpy P A 0 (393 * n) 393, ?_, fun j hj => ?_, fun k hk j hj => ?_⟩
    · rw [q_4]
      simp (disch := omega) only [ii_lt, if_pos]
      exact h31 n A h
    · rw [cpy_in (by omega) (by omega)]
      exact congrArg P (by omega)
    · rw [cpy_out (by omega), if_neg (show ¬ n = 4 by omega)]
  · have e4 : n = 4 := by omega
    subst e4
    refine ⟨va_cpy P (va_cpy A A 393 0 1179) 0 (393 * 3) 393, ?_, fun j hj => ?_, fun k hk j hj => ?_⟩
    · rw [if_neg (show ¬ ii ((4 : Nat) : Int) < 4 by decide), q_393, q_0, q_1179, e_copySame (by omega) (by omega) (by omega) (by omega) (by omega) (by omega)]
      simp only [bd_eq]
      rw [show (3 : Int32) = ii ((3 : Nat) : Int) by decide]
      exact h31 3 (va_cpy A A 393 0 1179) (by omega)
    · rw [if_pos rfl, cpy_in (by omega) (by omega)]
      exact congrArg P (by omega)
    · rw [if_pos rfl] at hk
      rw [if_pos rfl, cpy_out (by omega), cpy_in (by omega) (by omega)]
      exact congrArg A (by omega)
