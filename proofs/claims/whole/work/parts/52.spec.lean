/-! the setting of a column, in integers: the next baseline of the grid, the baselines of a paragraph, how many of them are set, a block, a column -/
def nxS (F S p : Int) : Int := if p ≤ F then F else p + (F - p) % S
def blS (F S cu asc lead sn : Int) : Nat → Int
  | 0 => if sn = 1 then nxS F S (cu + asc) else cu + asc
  | k + 1 => if sn = 1 then nxS F S (blS F S cu asc lead sn k + lead) else blS F S cu asc lead sn k + lead
def cntS (H below : Int) (f : Nat → Int) : Nat → Nat
  | 0 => 0
  | n + 1 => if cntS H below f n = n ∧ f n + below ≤ H then n + 1 else cntS H below f n
theorem cntS_le (H below : Int) (f : Nat → Int) (n : Nat) : cntS H below f n ≤ n := by
  induction n with
  | zero => exact Nat.le_refl 0
  | succ n ih =>
    unfold cntS
    split <;> omega
theorem cntS_ok (H below : Int) (f : Nat → Int) (n i : Nat) (h : i < cntS H below f n) : f i + below ≤ H := by
  induction n with
  | zero => exact absurd h (Nat.not_lt_zero i)
  | succ n ih =>
    unfold cntS at h
    split at h
    · rename_i q
      rcases Nat.lt_or_ge i n with h1 | h1
      · exact ih (by rw [q.1]; exact h1)
      · have : i = n := by omega
        subst this
        exact q.2
    · exact ih h
theorem cntS_full (H below : Int) (f : Nat → Int) (n : Nat) (h : ∀ i, i < n → f i + below ≤ H) : cntS H below f n = n := by
  induction n with
  | zero => rfl
  | succ n ih =>
    unfold cntS
    rw [if_pos ⟨ih (fun i hi => h i (by omega)), h n (by omega)⟩]
theorem cntS_stop (H below : Int) (f : Nat → Int) (n k : Nat) (hk : k < n) (h : ∀ i, i < k → f i + below ≤ H) (hs : ¬ f k + below ≤ H) : cntS H below f n = k := by
  induction n with
  | zero => exact absurd hk (Nat.not_lt_zero k)
  | succ n ih =>
    unfold cntS
    rcases Nat.lt_or_ge k n with h1 | h1
    · have e := ih h1
      rw [if_neg (fun q => by omega)]
      exact e
    · have e : k = n := by omega
      subst e
      rw [if_neg (fun q => hs q.2)]
      exact cntS_full H below f k h
abbrev CS : Type := Int × List (Int × Nat) × Nat
def blkS (H F S R : Int) (fl : Nat → Int) (b : Nat) (q : CS) : CS × Nat :=
  if q.2.2 ≠ 16 then (q, 0)
  else if fl 0 = 0 then
    ((if cntS H (3 * fl 2 / 10) (blS F S q.1 (7 * fl 2 / 10) (fl 3) (fl 4)) (fl 1).toNat = 0 then q.1 else blS F S q.1 (7 * fl 2 / 10) (fl 3) (fl 4) (cntS H (3 * fl 2 / 10) (blS F S q.1 (7 * fl 2 / 10) (fl 3) (fl 4)) (fl 1).toNat - 1) + 3 * fl 2 / 10,
      q.2.1 ++ (List.range (cntS H (3 * fl 2 / 10) (blS F S q.1 (7 * fl 2 / 10) (fl 3) (fl 4)) (fl 1).toNat)).map (fun k => (blS F S q.1 (7 * fl 2 / 10) (fl 3) (fl 4) k, b)),
      if cntS H (3 * fl 2 / 10) (blS F S q.1 (7 * fl 2 / 10) (fl 3) (fl 4)) (fl 1).toNat < (fl 1).toNat then b else 16),
     cntS H (3 * fl 2 / 10) (blS F S q.1 (7 * fl 2 / 10) (fl 3) (fl 4)) (fl 1).toNat)
  else if fl 0 = 1 then
    if H < q.1 + fl 5 then ((q.1, q.2.1, b), 0)
    else ((if R = 1 then nxS F S (q.1 + fl 5) else q.1 + fl 5, q.2.1, 16), 1)
  else ((if q.1 = 0 then 0 else q.1 + fl 5, q.2.1, 16), 1)
def csS (H F S R : Int) (fl : Nat → Nat → Int) : Nat → CS
  | 0 => (0, [], 16)
  | b + 1 => (blkS H F S R (fl b) b (csS H F S R fl b)).1
/-- a block's fields are as the document has them -/
def FlOK (fl : Nat → Int) : Prop := (fl 0 = 0 ∧ 1 ≤ fl 1 ∧ fl 1 ≤ 40 ∧ 40 ≤ fl 2 ∧ fl 2 ≤ 400 ∧ fl 2 ≤ fl 3 ∧ fl 3 ≤ 600 ∧ (fl 4 = 0 ∨ fl 4 = 1)) ∨ ((fl 0 = 1 ∨ fl 0 = 2) ∧ 1 ≤ fl 5 ∧ fl 5 ≤ 3000)
theorem nxS_ge {F S p : Int} (hS : 0 < S) (hF : 0 ≤ F) : p ≤ nxS F S p ∧ 0 ≤ nxS F S p ∧ (0 ≤ p → nxS F S p ≤ p + F + S) := by
  unfold nxS
  have h1 := Int.emod_nonneg (F - p) (show S ≠ 0 by omega)
  have h2 := Int.emod_lt_of_pos (F - p) hS
  split <;> omega
/-- the reference's way to the next baseline -/
theorem nxS_model {F S p : Int} (hS : 0 < S) (hp : F < p) : F + (p - F + S - 1) / S * S = p + (F - p) % S := by
  have h1 := Int.emod_nonneg (F - p) (show S ≠ 0 by omega)
  have h2 := Int.emod_lt_of_pos (F - p) hS
  have h3 := Int.mul_ediv_add_emod (F - p) S
  have h4 : p - F + S - 1 = S * (-((F - p) / S)) + (S - 1 - (F - p) % S) := by
    rw [Int.mul_neg]
    omega
  have h5 : (p - F + S - 1) / S = -((F - p) / S) := by
    rw [h4, Int.add_comm, Int.add_mul_ediv_left _ _ (show S ≠ 0 by omega), Int.ediv_eq_zero_of_lt (by omega) (by omega), Int.zero_add]
  rw [h5, Int.neg_mul, Int.mul_comm]
  omega
theorem blS_bound {F S cu asc lead sn : Int} (hS : 0 < S) (hS2 : S ≤ 500) (hF : 0 ≤ F) (hF2 : F ≤ 500) (hc : 0 ≤ cu) (ha : 0 ≤ asc) (hl : 0 ≤ lead) (k : Nat) : cu + asc + k * lead ≤ blS F S cu asc lead sn k ∧ blS F S cu asc lead sn k ≤ cu + asc + 1000 + k * (lead + 1000) := by
  induction k with
  | zero =>
    have h := nxS_ge (F := F) (S := S) (p := cu + asc) hS hF
    unfold blS
    split
    · have h3 := h.2.2 (by omega)
      constructor <;> omega
    · constructor <;> omega
  | succ k ih =>
    have e1 : ((k + 1 : Nat) : Int) * lead = k * lead + lead := by
      rw [Int.natCast_add, Int.add_mul]
      omega
    have e2 : ((k + 1 : Nat) : Int) * (lead + 1000) = k * (lead + 1000) + (lead + 1000) := by
      rw [Int.natCast_add, Int.add_mul]
      omega
    have hk : 0 ≤ (k : Int) * lead := Int.mul_nonneg (by omega) hl
    have h := nxS_ge (F := F) (S := S) (p := blS F S cu asc lead sn k + lead) hS hF
    rw [e1, e2]
    unfold blS
    split
    · have h3 := h.2.2 (by omega)
      constructor <;> omega
    · constructor <;> omega
theorem blS_mono {F S cu asc lead sn : Int} (hS : 0 < S) (hF : 0 ≤ F) (hl : 0 < lead) (k : Nat) : blS F S cu asc lead sn k < blS F S cu asc lead sn (k + 1) := by
  show blS F S cu asc lead sn k < (if sn = 1 then nxS F S (blS F S cu asc lead sn k + lead) else blS F S cu asc lead sn k + lead)
  have h := nxS_ge (F := F) (S := S) (p := blS F S cu asc lead sn k + lead) hS hF
  split <;> omega
