/-! the class sets a block as blkS does -/
def LinesOK (bl lb : Nat → Int) (c : Nat) (L : List (Int × Nat)) : Prop := ∀ (i : Nat) (p : Int × Nat), L[i]? = some p → bl (640 * c + i) = p.1 ∧ lb (640 * c + i) = p.2
/-- the mark of what overflows, as the class has it -/
def ovC (o : Nat) : Int := if o = 16 then -5 else o
theorem e_layLines {P : Nat → Int} {c b T0 : Nat} (hc : c < 4) (hb : b < 16) {H F S cu : Int} {lc ov bl lb : Nat → Int} (hS : 0 < S) (hS2 : S ≤ 500) (hF : 0 ≤ F) (hF2 : F ≤ 500) (hH : H ≤ 9999) (hH0 : 0 ≤ H) (hcu : 0 ≤ cu) (hcu2 : cu ≤ 100000)
    (h1 : 1 ≤ pf P c b 1) (h2 : pf P c b 1 ≤ 40) (h3 : 40 ≤ pf P c b 2) (h4 : pf P c b 2 ≤ 400) (h5 : pf P c b 2 ≤ pf P c b 3) (h6 : pf P c b 3 ≤ 600) (h7 : pf P c b 4 = 0 ∨ pf P c b 4 = 1) (hT0 : T0 + 40 ≤ 640) (hlc : lc c = T0)
    {f : Nat → Int} (ef : f = blS F S cu (7 * pf P c b 2 / 10) (pf P c b 3) (pf P c b 4)) {m : Nat} (em : m = cntS H (3 * pf P c b 2 / 10) f (pf P c b 1).toNat) :
    ∃ (lc' bl' lb' : Nat → Int), fX1_layLines (ii c) (ii b) (ii H) (ii F) (ii S) (ii cu) (il lc) (il ov) (il bl) (il lb) (il P) = some (ii m, ii (if m = 0 then cu else f (m - 1) + 3 * pf P c b 2 / 10), il lc', il (if m < (pf P c b 1).toNat then zu ov c b else ov), il bl', il lb')
      ∧ lc' c = ((T0 + m : Nat) : Int) ∧ (∀ j, j ≠ c → lc' j = lc j)
      ∧ (∀ i, i < m → bl' (640 * c + T0 + i) = f i ∧ lb' (640 * c + T0 + i) = b)
      ∧ (∀ j, j < 640 * c + T0 ∨ 640 * c + T0 + m ≤ j → bl' j = bl j ∧ lb' j = lb j) := by
  obtain ⟨ln, hln⟩ : ∃ ln : Nat, pf P c b 1 = ln := ⟨(pf P c b 1).toNat, by omega⟩
  have e9 : (pf P c b 1).toNat = ln := by omega
  rw [e9] at em ⊢
  obtain ⟨lc', bl', lb', e1, e2, e3, e4, e5, e6⟩ := e_72 (b := b) hc (H := H) (F := F) (S := S) (cu := cu) (asc := 7 * pf P c b 2 / 10) (lead := pf P c b 3) (sn := pf P c b 4) (below := 3 * pf P c b 2 / 10) (ln := ln) (T0 := T0) (ov := ov) hS hS2 hF hF2 hH hH0 hcu hcu2 (by omega) (by omega) (by omega) h6 h7 (by omega) (by omega) (by omega) hT0 ln 0 Fu (cu + 7 * pf P c b 2 / 10) cu lc bl lb (by omega) (by rw [Fu_s]; omega) (fun _ => rfl) (fun j q => by omega) (fun i hi => absurd hi (Nat.not_lt_zero i)) (by rw [hlc]; omega)
  rw [← ef, ← em] at e1 e2 e4 e5
  refine ⟨lc', bl', lb', ?_, e2, e3, fun i hi => by rw [ef]; rw [ef] at e4; exact e4 i (Nat.zero_le i) hi, fun j hj => e5 j (by omega)⟩
  have key : fX1_layLines_43 (ii c) (ii b) (ii H) (ii F) (ii S) (ii (pf P c b 1)) (ii (pf P c b 2)) (ii (pf P c b 3)) (ii (pf P c b 4)) (ii cu) (il lc) (il ov) (il bl) (il lb) = some (ii m, ii (if m = 0 then cu else f (m - 1) + 3 * pf P c b 2 / 10), il lc', il (if m < ln then zu ov c b else ov), il bl', il lb') := by
    unfold fX1_layLines_43
    simp (disch := omega) only [nm_eq, q_3, q_7, q_10, ii_mul, ii_div, ii_add]
    rw [hln]
    exact e1
  unfold fX1_layLines
  have f1 := e_field (P := P) (k := 1) hc hb (by omega)
  have f2 := e_field (P := P) (k := 2) hc hb (by omega)
  have f3 := e_field (P := P) (k := 3) hc hb (by omega)
  have f4 := e_field (P := P) (k := 4) hc hb (by omega)
  have g1 : (1 : Int32) = ii ((1 : Nat) : Int) := by decide
  have g2 : (2 : Int32) = ii ((2 : Nat) : Int) := by decide
  have g3 : (3 : Int32) = ii ((3 : Nat) : Int) := by decide
  have g4 : (4 : Int32) = ii ((4 : Nat) : Int) := by decide
  rw [show fX2_fieldOf (ii c) (ii b) 1 (il P) = some (ii (pf P c b 1)) by rw [g1]; exact f1, show fX2_fieldOf (ii c) (ii b) 2 (il P) = some (ii (pf P c b 2)) by rw [g2]; exact f2, show fX2_fieldOf (ii c) (ii b) 3 (il P) = some (ii (pf P c b 3)) by rw [g3]; exact f3, show fX2_fieldOf (ii c) (ii b) 4 (il P) = some (ii (pf P c b 4)) by rw [g4]; exact f4]
  simp only [bd_eq]
  rcases h7 with h7 | h7
  · rw [h7] at key ⊢
    rw [if_neg (by decide)]
    exact key
  · rw [h7] at key ⊢
    rw [if_pos (by decide)]
    exact key
