/-! the class's arithmetic of the grid -/
theorem xor_ge {a b : Int} (h1 : -2147483648 ≤ a) (h2 : a < 2147483648) (h3 : 0 ≤ b) (h4 : b < 2147483648) : ((0 : Int32) ≤ ii a ^^^ ii b) ↔ 0 ≤ a := by
  have ha : (ii a).toBitVec.msb = decide (a < 0) := by
    rw [BitVec.msb_eq_toInt]
    have := ii_toInt h1 h2
    unfold Int32.toInt at this
    rw [this]
  have hb : (ii b).toBitVec.msb = false := by
    rw [BitVec.msb_eq_toInt]
    have := ii_toInt (a := b) (by omega) h4
    unfold Int32.toInt at this
    rw [this]
    exact decide_eq_false (by omega)
  have hm : (ii a ^^^ ii b).toBitVec.msb = decide (a < 0) := by
    show ((ii a).toBitVec ^^^ (ii b).toBitVec).msb = _
    rw [BitVec.msb_xor, ha, hb, Bool.xor_false]
  rw [BitVec.msb_eq_toInt] at hm
  have hz : (0 : Int32).toInt = 0 := by decide
  rw [Int32.le_iff_toInt_le, hz]
  have hq : ((ii a ^^^ ii b).toInt < 0) ↔ a < 0 := by
    have := decide_eq_decide.mp hm
    exact this
  omega
theorem e_floorMod {a S : Int} (h1 : -2147483648 ≤ a) (h2 : a < 2147483648) (h3 : 0 < S) (h4 : S < 1073741824) : fJ9_floorMod_7cf53 (ii a) (ii S) = some (ii (a % S)) := by
  unfold fJ9_floorMod_7cf53
  rw [arem_ii h1 h2 h3 (by omega)]
  have hx := xor_ge (a := a) (b := S) h1 h2 (by omega) (by omega)
  have hr1 := Int.emod_nonneg a (show S ≠ 0 by omega)
  have hr2 := Int.emod_lt_of_pos a h3
  have ht := Int.tmod_eq_emod (a := a) (b := S)
  rcases Int.lt_or_le a 0 with hn | hn
  · rw [if_neg (fun q => by have := hx.mp q; omega)]
    rcases Classical.em (S ∣ a) with hd | hd
    · have e0 : a % S = 0 := Int.emod_eq_zero_of_dvd hd
      rw [if_pos (Or.inr hd)] at ht
      rw [show a.tmod S = 0 by omega, e0, if_pos (by decide)]
    · have e0 : a % S ≠ 0 := fun q => hd (Int.dvd_of_emod_eq_zero q)
      rw [if_neg (fun q => by rcases q with q | q; omega; exact hd q)] at ht
      have hab : (S.natAbs : Int) = S := by omega
      rw [hab] at ht
      rw [if_neg (fun q => by
        rw [q_0, ii_eq (by omega) (by omega) (by omega) (by omega)] at q
        omega), ii_add]
      rw [show a.tmod S + S = a % S by omega]
  · rw [if_pos (hx.mpr hn), Int.tmod_eq_emod_of_nonneg hn]
theorem e_pos {S : Int} (h1 : 0 < S) (h2 : S < 2147483648) : fX1_positiveStep (ii S) = some (ii S) := by
  unfold fX1_positiveStep
  simp (disch := omega) only [q_0, ii_le, if_neg]
theorem e_next {F S p : Int} (hS : 0 < S) (hS2 : S ≤ 500) (hF : 0 ≤ F) (hF2 : F ≤ 500) (hp : 0 ≤ p) (hp2 : p < 1000000000) : fX1_nextOnGrid (ii p) (ii F) (ii S) = some (ii (nxS F S p)) := by
  unfold fX1_nextOnGrid nxS
  rcases Int.lt_or_le F p with h | h
  · have h2 := Int.emod_lt_of_pos (F - p) hS
    rw [e_pos hS (by omega), ii_sub]
    simp (disch := omega) only [ii_lt, if_pos, if_neg, if_true, if_false, bd_eq]
    rw [e_floorMod (by omega) (by omega) hS (by omega)]
    simp (disch := omega) only [bd_eq, ii_add]
  · simp (disch := omega) only [ii_lt, if_pos, if_neg, if_true, if_false]
theorem e_drift {F S p : Int} (hS : 0 < S) (hS2 : S ≤ 500) (hF : 0 ≤ F) (hF2 : F ≤ 500) (hp : 0 ≤ p) (hp2 : p < 1000000000) : fX1_driftAt (ii p) (ii F) (ii S) = some (ii ((p - F) % S)) := by
  unfold fX1_driftAt
  rw [e_pos hS (by omega), ii_sub]
  simp only [bd_eq]
  rw [e_floorMod (by omega) (by omega) hS (by omega)]
  simp only [bd_eq]
/-! lines -/
theorem e_mark {ov : Nat → Int} {c b : Nat} (hc : c < 4) : fX1_markOverflow (ii c) (ii b) (il ov) = some (il (zu ov c b)) := by
  unfold fX1_markOverflow
  simp (disch := omega) only [e_col, bd_eq, q_0, ii_eq, if_neg, if_true, if_false, aset_ii, Int.toNat_natCast]
theorem e_linesOf {lc : Nat → Int} {c : Nat} (hc : c < 4) : fX1_linesOf (ii c) (il lc) = some (ii (lc c)) := by
  unfold fX1_linesOf
  simp (disch := omega) only [e_col, bd_eq, q_0, ii_eq, if_neg, if_true, if_false, aget_ii, il_app, Int.toNat_natCast]
theorem e_addLine {lc bl lb : Nat → Int} {c b T : Nat} {p : Int} (hc : c < 4) (hT : lc c = T) (hT2 : T < 640) : fX1_addLine (ii c) (ii b) (ii p) (il lc) (il bl) (il lb) = some (il (zu lc c (T + 1)), il (zu bl (640 * c + T) p), il (zu lb (640 * c + T) b)) := by
  unfold fX1_addLine fX1_isLinePlace
  simp (disch := omega) only [e_linesOf, hT, e_col, bd_eq, q_0, q_1, q_640, ii_eq, ii_lt, ii_le, if_neg, ii_mul, ii_add, aset_ii, Int.toNat_natCast]
  rw [show ((c : Int) * 640 + T).toNat = 640 * c + T by omega]
