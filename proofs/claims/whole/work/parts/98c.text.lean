/-! reading a text: both readers side by side -/
section
variable {A B : Nat → Int} {L : Nat}
/-- the two texts up to their length -/
def TxT (A B : Nat → Int) (L : Nat) : Prop := L ≤ 60 ∧ ∀ i, i < L → A i = B i ∧ 0 ≤ B i ∧ B i < 65536
theorem tx_a (h : TxT A B L) {p : Nat} (hp : p < L) {α : Type} (k : Int32 → Option α) : aget 60 (il A) (ii p) k = k (ii (B p)) := by
  have h1 := h.1
  rw [aget_ii (by omega) (by omega) (by omega), il_app, Int.toNat_natCast, (h.2 p hp).1]
theorem tx_b (h : TxT A B L) {p : Nat} (hp : p < L) {α : Type} (k : Int32 → Option α) : aget 60 (il B) (ii p) k = k (ii (B p)) := by
  have h1 := h.1
  rw [aget_ii (by omega) (by omega) (by omega), il_app, Int.toNat_natCast]
theorem e_idxT (h : TxT A B L) {p : Nat} (hp : p < L) : fX3_isIndex (ii p) (ii L) = some (ii 1) := by
  have h1 := h.1
  unfold fX3_isIndex
  rw [if_neg (by rw [q_0, ii_lt (by omega) (by omega) (by omega) (by omega)]; omega), if_neg (le_iiF (by omega) (by omega) hp), if_neg (by rw [q_60, ii_le (by omega) (by omega) (by omega) (by omega)]; omega)]
  rfl
theorem e_idxF (h : TxT A B L) {p : Nat} (hp : L ≤ p) (hp2 : p ≤ 60) : fX3_isIndex (ii p) (ii L) = some (ii 0) := by
  have h1 := h.1
  unfold fX3_isIndex
  rw [if_neg (by rw [q_0, ii_lt (by omega) (by omega) (by omega) (by omega)]; omega), if_pos (le_iiT (by omega) (by omega) hp)]
  rfl
theorem e_psT (h : TxT A B L) {p : Nat} {ch : Int} (hp : p < L) (hc : B p = ch) : fX3_passes (ii ch) (ii L) (ii p) (il A) = some (ii 1, ii ((p + 1 : Nat) : Int)) := by
  unfold fX3_passes
  rw [e_idxT h hp, bd_eq, if_neg ii10, tx_a h hp, hc, if_pos rfl, nm_eq, ii_suc]
  rfl
theorem e_psF (h : TxT A B L) {p : Nat} {ch : Int} (hp : p ≤ 60) (h0 : 0 ≤ ch) (h9 : ch < 65536) (hc : ¬ (p < L ∧ B p = ch)) : fX3_passes (ii ch) (ii L) (ii p) (il A) = some (ii 0, ii p) := by
  unfold fX3_passes
  rcases Nat.lt_or_ge p L with g | g
  · have hb := h.2 p g
    rw [e_idxT h g, bd_eq, if_neg ii10, tx_a h g, if_neg (by rw [ii_eq (by omega) (by omega) (by omega) (by omega)]; exact fun w => hc ⟨g, w⟩)]
    rfl
  · rw [e_idxF h g hp, bd_eq, if_pos ii00]
    rfl
theorem m_stT (h : TxT A B L) {p : Nat} {ch : Int} (hp : p < L) (hc : B p = ch) : fX5_stands (ii ch) (ii L) (ii p) (il B) = some (ii 1, ii ((p + 1 : Nat) : Int)) := by
  have h1 := h.1
  unfold fX5_stands fX5_stands_29 fX5_stands_44
  rw [if_neg (le_iiF (by omega) (by omega) hp), tx_b h hp, hc, if_pos rfl, if_neg (by decide), nm_eq, ii_suc, q_1, bchk_ii (Or.inr rfl)]
theorem m_stF (h : TxT A B L) {p : Nat} {ch : Int} (hp : p ≤ 60) (h0 : 0 ≤ ch) (h9 : ch < 65536) (hc : ¬ (p < L ∧ B p = ch)) : fX5_stands (ii ch) (ii L) (ii p) (il B) = some (ii 0, ii p) := by
  have h1 := h.1
  have h28 : fX5_stands_28 (ii p) = some (ii 0, ii p) := by
    unfold fX5_stands_28 fX5_stands_29 fX5_stands_44
    rw [if_pos rfl, q_0, ii_add, Int.add_zero, nm_eq, bchk_ii (Or.inl rfl)]
  unfold fX5_stands
  rcases Nat.lt_or_ge p L with g | g
  · have hb := h.2 p g
    rw [if_neg (le_iiF (by omega) (by omega) g), tx_b h g, if_neg (by rw [ii_eq (by omega) (by omega) (by omega) (by omega)]; exact fun w => hc ⟨g, w⟩), h28]
  · rw [if_pos (le_iiT (by omega) (by omega) g), h28]
/-- the value of a digit, as the class has it -/
def dgV (t : Int) : Int := if 48 ≤ t ∧ t ≤ 57 then t - 48 else -5
theorem e_digit (h : TxT A B L) {p : Nat} (hp : p < L) : fX3_digitAt (ii p) (ii L) (il A) = some (ii (dgV (B p))) := by
  have hb := h.2 p hp
  unfold fX3_digitAt dgV
  rw [e_idxT h hp, bd_eq, if_neg ii10]
  simp only [tx_a h hp]
  rcases Int.lt_or_le (B p) 48 with g | g
  · rw [if_pos (by rw [q_48, ii_lt (by omega) (by omega) (by omega) (by omega)]; exact g), if_neg (by omega), q_5, ii_neg]
  · rw [if_neg (by rw [q_48, ii_lt (by omega) (by omega) (by omega) (by omega)]; omega)]
    rcases Int.lt_or_le 57 (B p) with g2 | g2
    · rw [if_neg (by rw [q_57, ii_le (by omega) (by omega) (by omega) (by omega)]; omega), if_neg (by omega), q_5, ii_neg]
    · rw [if_pos (by rw [q_57, ii_le (by omega) (by omega) (by omega) (by omega)]; exact g2), if_pos ⟨g, g2⟩, q_48, ii_sub]
theorem e_71 {q : Int32} {u : Int} (h1 : 1 ≤ u) (h2 : u ≤ 100000) : fX3_readNumber_71 q (ii u) = some (ii 1, q, ii u) := by
  unfold fX3_readNumber_71
  rw [if_neg (by rw [q_0, ii_le (by omega) (by omega) (by omega) (by omega)]; omega)]
  rfl
theorem j_num (h : TxT A B L) {most : Int} (hm : 40 ≤ most) (hm2 : most ≤ 3000) : ∀ (r p fu fv : Nat) (v : Int), p + r = L → r < fu → r < fv → 1 ≤ v → v ≤ most →
    ∃ (u : Int) (q : Nat), fX3_readNumber_5 (ii most) (ii L) (il A) fu (ii p) (ii v) = some (ii 1, ii q, ii u) ∧ fX5_number_55 (ii most) (ii L) (il B) fv (ii v) (ii p) = some (ii u, ii q) ∧ 1 ≤ u ∧ u ≤ most ∧ p ≤ q ∧ q ≤ L ∧ (q = p ∨ (48 ≤ B (q - 1) ∧ B (q - 1) ≤ 57)) := by
  have hL := h.1
  intro r
  induction r with
  | zero =>
    intro p fu fv v hp hf hg hv1 hv2
    obtain ⟨n, rfl⟩ : ∃ n, fu = n + 1 := ⟨fu - 1, by omega⟩
    obtain ⟨m, rfl⟩ : ∃ m, fv = m + 1 := ⟨fv - 1, by omega⟩
    refine ⟨v, p, ?_, ?_, hv1, hv2, Nat.le_refl _, by omega, Or.inl rfl⟩
    · rw [fX3_readNumber_5]
      dsimp only
      rw [if_pos (le_iiT (by omega) (by omega) (by omega)), e_71 hv1 (by omega)]
    · rw [fX5_number_55]
      dsimp only
      rw [if_pos (le_iiT (by omega) (by omega) (by omega))]
  | succ r ih =>
    intro p fu fv v hp hf hg hv1 hv2
    obtain ⟨n, rfl⟩ : ∃ n, fu = n + 1 := ⟨fu - 1, by omega⟩
    obtain ⟨m, rfl⟩ : ∃ m, fv = m + 1 := ⟨fv - 1, by omega⟩
    have hpL : p < L := by omega
    have hb := h.2 p hpL
    have hcl : fX3_readNumber_5 (ii most) (ii L) (il A) (n + 1) (ii p) (ii v) = (if 48 ≤ B p ∧ B p ≤ 57 ∧ 10 * v + B p - 48 ≤ most then fX3_readNumber_5 (ii most) (ii L) (il A) n (ii ((p + 1 : Nat) : Int)) (ii (10 * v + B p - 48)) else some (ii 1, ii p, ii v)) := by
      rw [fX3_readNumber_5]
      dsimp only
      rw [if_neg (le_iiF (by omega) (by omega) hpL), e_digit h hpL, bd_eq, nm_eq, q_10, ii_mul, ii_add, e_71 hv1 (by omega)]
      unfold dgV
      rcases Classical.em (48 ≤ B p ∧ B p ≤ 57) with g | g
      · rw [if_pos g, if_neg (show ¬ ii (B p - 48) = -5 by rw [q_5, ii_neg, ii_eq (by omega) (by omega) (by omega) (by omega)]; omega), if_neg (show ¬ ii (v * 10 + (B p - 48)) = 0 by rw [q_0, ii_eq (by omega) (by omega) (by omega) (by omega)]; omega), show v * 10 + (B p - 48) = 10 * v + B p - 48 by omega]
        rcases Int.lt_or_le most (10 * v + B p - 48) with g2 | g2
        · rw [if_neg (by rw [ii_le (by omega) (by omega) (by omega) (by omega)]; omega), if_neg (by omega)]
        · rw [if_pos (by rw [ii_le (by omega) (by omega) (by omega) (by omega)]; exact g2), if_pos ⟨g.1, g.2, g2⟩, nm_eq, ii_suc]
      · rw [if_neg g, if_pos (show ii (-5) = -5 by decide), if_neg (fun w => g ⟨w.1, w.2.1⟩)]
    have hml : fX5_number_55 (ii most) (ii L) (il B) (m + 1) (ii v) (ii p) = (if 48 ≤ B p ∧ B p ≤ 57 ∧ 10 * v + B p - 48 ≤ most then fX5_number_55 (ii most) (ii L) (il B) m (ii (10 * v + B p - 48)) (ii ((p + 1 : Nat) : Int)) else some (ii v, ii p)) := by
      rw [fX5_number_55]
      dsimp only
      rw [if_neg (le_iiF (by omega) (by omega) hpL)]
      simp only [tx_b h hpL]
      rcases Classical.em (48 ≤ B p ∧ B p ≤ 57) with g | g
      · rw [show fX5_in (ii (B p)) 48 57 = some (ii 1) from m_inT (lo := 48) (hi := 57) (by omega) (by omega) g.1 g.2, bd_eq, if_neg ii10, q_10, q_48, ii_mul, ii_add, ii_sub, nm_eq, nm_eq, ii_suc]
        rcases Int.lt_or_le most (10 * v + B p - 48) with g2 | g2
        · rw [if_pos (by rw [ii_lt (by omega) (by omega) (by omega) (by omega)]; exact g2), if_neg (by omega)]
        · rw [if_neg (by rw [ii_lt (by omega) (by omega) (by omega) (by omega)]; omega), if_pos ⟨g.1, g.2, g2⟩]
      · rw [show fX5_in (ii (B p)) 48 57 = some (ii 0) from m_inF (lo := 48) (hi := 57) (by omega) (by omega) (by omega) (by omega) (by omega) (by omega) (by omega), bd_eq, if_pos ii00, if_neg (fun w => g ⟨w.1, w.2.1⟩)]
    rcases Classical.em (48 ≤ B p ∧ B p ≤ 57 ∧ 10 * v + B p - 48 ≤ most) with g | g
    · obtain ⟨u, q, e1, e2, e3, e4, e5, e6, e7⟩ := ih (p + 1) n m (10 * v + B p - 48) (by omega) (by omega) (by omega) (by omega) g.2.2
      refine ⟨u, q, by rw [hcl, if_pos g]; exact e1, by rw [hml, if_pos g]; exact e2, e3, e4, by omega, e6, Or.inr ?_⟩
      rcases e7 with e7 | e7
      · rw [e7, Nat.add_sub_cancel]
        exact ⟨g.1, g.2.1⟩
      · exact e7
    · exact ⟨v, p, by rw [hcl, if_neg g], by rw [hml, if_neg g], hv1, hv2, Nat.le_refl _, by omega, Or.inl rfl⟩
/-- a number, or none, on both sides -/
theorem j_number (h : TxT A B L) {most : Int} (hm : 40 ≤ most) (hm2 : most ≤ 3000) {p : Nat} (hp : p ≤ L) (num : Int32) :
    (fX3_readNumber (ii most) (ii L) (ii p) num (il A) = some (ii 0, ii p, ii 0) ∧ fX5_number (ii most) (ii L) (ii p) (il B) = some (ii (-1), ii p))
    ∨ ∃ (u : Int) (q : Nat), fX3_readNumber (ii most) (ii L) (ii p) num (il A) = some (ii 1, ii q, ii u) ∧ fX5_number (ii most) (ii L) (ii p) (il B) = some (ii u, ii q) ∧ 1 ≤ u ∧ u ≤ most ∧ p < q ∧ q ≤ L ∧ 48 ≤ B (q - 1) ∧ B (q - 1) ≤ 57 := by
  have hL := h.1
  have h71 : fX3_readNumber_71 (ii p) (ii 0) = some (ii 0, ii p, ii 0) := by
    unfold fX3_readNumber_71
    rw [if_pos (by decide)]
    rfl
  rcases Nat.lt_or_ge p L with g | g
  · have hb := h.2 p g
    rcases Classical.em (49 ≤ B p ∧ B p ≤ 57) with w | w
    · right
      obtain ⟨u, q, e1, e2, e3, e4, e5, e6, e7⟩ := j_num h hm hm2 (L - (p + 1)) (p + 1) 99999 Fu (B p - 48) (by omega) (by omega) (by rw [Fu_s]; omega) (by omega) (by omega)
      refine ⟨u, q, ?_, ?_, e3, e4, by omega, e6, ?_⟩
      · unfold fX3_readNumber
        rw [Fu_s, fX3_readNumber_5]
        dsimp only
        rw [if_neg (le_iiF (by omega) (by omega) g), e_digit h g, bd_eq, nm_eq, q_0, q_10, ii_mul, ii_add]
        unfold dgV
        rw [if_pos (show 48 ≤ B p ∧ B p ≤ 57 by omega), if_neg (show ¬ ii (B p - 48) = -5 by rw [q_5, ii_neg, ii_eq (by omega) (by omega) (by omega) (by omega)]; omega), if_neg (show ¬ ii (0 * 10 + (B p - 48)) = ii 0 by rw [ii_eq (by omega) (by omega) (by omega) (by omega)]; omega), if_pos (by rw [ii_le (by omega) (by omega) (by omega) (by omega)]; omega), nm_eq, ii_suc, show 0 * 10 + (B p - 48) = B p - 48 by omega]
        exact e1
      · unfold fX5_number
        rw [if_neg (by rw [ii_eq (by omega) (by omega) (by omega) (by omega)]; omega)]
        simp only [tx_b h g]
        rw [show fX5_in (ii (B p)) 49 57 = some (ii 1) from m_inT (lo := 49) (hi := 57) (by omega) (by omega) w.1 w.2, bd_eq, if_neg ii10, q_48, ii_sub, nm_eq, nm_eq, ii_suc]
        exact e2
      · rcases e7 with e7 | e7
        · rw [e7, Nat.add_sub_cancel]
          omega
        · exact e7
    · left
      constructor
      · unfold fX3_readNumber
        rw [Fu_s, fX3_readNumber_5]
        dsimp only
        rw [if_neg (le_iiF (by omega) (by omega) g), e_digit h g, bd_eq, nm_eq, q_0, q_10, ii_mul, ii_add, h71]
        unfold dgV
        rcases Classical.em (48 ≤ B p ∧ B p ≤ 57) with v | v
        · have e48 : B p = 48 := by omega
          rw [if_pos v, e48, if_neg (by decide), if_pos (by decide)]
        · rw [if_neg v, if_pos (show ii (-5) = -5 by decide)]
      · unfold fX5_number
        rw [if_neg (by rw [ii_eq (by omega) (by omega) (by omega) (by omega)]; omega)]
        simp only [tx_b h g]
        rw [show fX5_in (ii (B p)) 49 57 = some (ii 0) from m_inF (lo := 49) (hi := 57) (by omega) (by omega) (by omega) (by omega) (by omega) (by omega) (by omega), bd_eq, if_pos ii00, q_1, ii_neg]
  · left
    constructor
    · unfold fX3_readNumber
      rw [Fu_s, fX3_readNumber_5]
      dsimp only
      rw [if_pos (le_iiT (by omega) (by omega) g), q_0, h71]
    · unfold fX5_number
      rw [if_pos (by rw [ii_eq (by omega) (by omega) (by omega) (by omega)]; omega), q_1, ii_neg]
end
