/-! the class's loop over the lines of a paragraph -/
theorem e_91 {kk : Int32 → Int32 → Int32 → (Nat → Int32) → (Nat → Int32) → (Nat → Int32) → Option (Int32 × Int32 × (Nat → Int32) × (Nat → Int32) × (Nat → Int32) × (Nat → Int32))} {i2 i3 h w4 w6 w8 w10 cur : Int32} {lc ov bl lb : Nat → Int32} {F S p sn : Int} (hS : 0 < S) (hS2 : S ≤ 500) (hF : 0 ≤ F) (hF2 : F ≤ 500) (hp : 0 ≤ p) (hp2 : p < 1000000000) (hsn : sn = 0 ∨ sn = 1) :
    fX1_layLines_91 kk i2 i3 h (ii F) (ii S) w4 w6 (ii sn) w8 (ii p) w10 cur lc ov bl lb = fX1_layLines_104 kk i2 i3 h (ii F) (ii S) w4 w6 (ii sn) w8 (ii (if sn = 1 then nxS F S p else p)) w10 cur lc ov bl lb := by
  unfold fX1_layLines_91
  rcases hsn with rfl | rfl
  · rw [if_pos (by decide), if_neg (by decide)]
  · rw [if_neg (by decide), if_pos rfl, e_next hS hS2 hF hF2 hp hp2]
    rfl
theorem e_72 {c b : Nat} (hc : c < 4) {H F S cu asc lead sn below : Int} {ln T0 : Nat} {ov : Nat → Int} (hS : 0 < S) (hS2 : S ≤ 500) (hF : 0 ≤ F) (hF2 : F ≤ 500) (hH : H ≤ 9999) (hH0 : 0 ≤ H) (hcu : 0 ≤ cu) (hcu2 : cu ≤ 100000) (ha : 0 ≤ asc) (ha2 : asc ≤ 300) (hl : 0 < lead) (hl2 : lead ≤ 600) (hsn : sn = 0 ∨ sn = 1) (hb0 : 0 ≤ below) (hb1 : below ≤ 200) (hln : ln ≤ 40) (hT0 : T0 + 40 ≤ 640) :
    ∀ (r k n : Nat) (w9 cur : Int) (lc bl lb : Nat → Int), k + r = ln → r < n → (k = 0 → w9 = cu + asc) → (∀ j, k = j + 1 → w9 = blS F S cu asc lead sn j) → (∀ i, i < k → blS F S cu asc lead sn i + below ≤ H) → lc c = ((T0 + k : Nat) : Int) →
    ∃ (lc' bl' lb' : Nat → Int), fX1_layLines_72 (ii c) (ii b) (ii H) (ii F) (ii S) (ii ln) (ii lead) (ii sn) (ii below) (il ov) n (ii w9) (ii k) (ii cur) (il lc) (il bl) (il lb)
        = some (ii (cntS H below (blS F S cu asc lead sn) ln : Nat), ii (if cntS H below (blS F S cu asc lead sn) ln = k then cur else blS F S cu asc lead sn (cntS H below (blS F S cu asc lead sn) ln - 1) + below), il lc', il (if cntS H below (blS F S cu asc lead sn) ln < ln then zu ov c b else ov), il bl', il lb')
      ∧ lc' c = ((T0 + cntS H below (blS F S cu asc lead sn) ln : Nat) : Int) ∧ (∀ j, j ≠ c → lc' j = lc j)
      ∧ (∀ i, k ≤ i → i < cntS H below (blS F S cu asc lead sn) ln → bl' (640 * c + T0 + i) = blS F S cu asc lead sn i ∧ lb' (640 * c + T0 + i) = b)
      ∧ (∀ j, j < 640 * c + T0 + k ∨ 640 * c + T0 + cntS H below (blS F S cu asc lead sn) ln ≤ j → bl' j = bl j ∧ lb' j = lb j)
      ∧ k ≤ cntS H below (blS F S cu asc lead sn) ln := by
  intro r
  induction r with
  | zero =>
    intro k n w9 cur lc bl lb hk hn h0 hj hok hlc
    have ek : k = ln := by omega
    subst ek
    have em := cntS_full H below (blS F S cu asc lead sn) k hok
    rw [em]
    obtain ⟨n', rfl⟩ : ∃ n', n = n' + 1 := ⟨n - 1, by omega⟩
    refine ⟨lc, bl, lb, ?_, hlc, fun _ _ => rfl, fun i h1 h2 => absurd h1 (by omega), fun _ _ => ⟨rfl, rfl⟩, Nat.le_refl _⟩
    rw [fX1_layLines_72, if_pos rfl, if_neg (Nat.lt_irrefl k)]
    simp (disch := omega) only [ii_le, if_pos, if_true, Int.le_refl]
  | succ r ih =>
    intro k n w9 cur lc bl lb hk hn h0 hj hok hlc
    obtain ⟨n', rfl⟩ : ∃ n', n = n' + 1 := ⟨n - 1, by omega⟩
    have hbd := blS_bound (F := F) (S := S) (cu := cu) (asc := asc) (lead := lead) (sn := sn) hS hS2 hF hF2 hcu ha (by omega) k
    have hk40 : (k : Int) ≤ 40 := by omega
    have hm1 : (k : Int) * lead ≤ 40 * 600 := Int.mul_le_mul hk40 hl2 (by omega) (by omega)
    have hm2 : (k : Int) * (lead + 1000) ≤ 40 * 1600 := Int.mul_le_mul hk40 (by omega) (by omega) (by omega)
    have hm3 : 0 ≤ (k : Int) * lead := Int.mul_nonneg (by omega) (by omega)
    -- the step: from the head to the label 104 with the k-th baseline
    have hstep : fX1_layLines_72 (ii c) (ii b) (ii H) (ii F) (ii S) (ii ln) (ii lead) (ii sn) (ii below) (il ov) (n' + 1) (ii w9) (ii k) (ii cur) (il lc) (il bl) (il lb)
        = fX1_layLines_104 (fX1_layLines_72 (ii c) (ii b) (ii H) (ii F) (ii S) (ii ln) (ii lead) (ii sn) (ii below) (il ov) n') (ii c) (ii b) (ii H) (ii F) (ii S) (ii ln) (ii lead) (ii sn) (ii below) (ii (blS F S cu asc lead sn k)) (ii k) (ii cur) (il lc) (il ov) (il bl) (il lb) := by
      rw [fX1_layLines_72]
      rcases Nat.eq_zero_or_pos k with hz | hz
      · subst hz
        rw [h0 rfl]
        simp (disch := omega) only [q_0, ii_le, if_pos, if_neg, if_true, if_false]
        rw [e_91 hS hS2 hF hF2 (by omega) (by omega) hsn]
        rfl
      · obtain ⟨j, rfl⟩ : ∃ j, k = j + 1 := ⟨k - 1, by omega⟩
        have hbj := blS_bound (F := F) (S := S) (cu := cu) (asc := asc) (lead := lead) (sn := sn) hS hS2 hF hF2 hcu ha (by omega) j
        have hj40 : (j : Int) ≤ 40 := by omega
        have hj2 : (j : Int) * (lead + 1000) ≤ 40 * 1600 := Int.mul_le_mul hj40 (by omega) (by omega) (by omega)
        have hj3 : 0 ≤ (j : Int) * lead := Int.mul_nonneg (by omega) (by omega)
        rw [hj j rfl]
        simp (disch := omega) only [q_0, ii_le, if_pos, if_neg, if_true, if_false, ii_add, nm_eq]
        rw [e_91 hS hS2 hF hF2 (by omega) (by omega) hsn]
        rfl
    rw [hstep]
    unfold fX1_layLines_104
    rcases Int.lt_or_le H (blS F S cu asc lead sn k + below) with hov | hov
    · have em := cntS_stop H below (blS F S cu asc lead sn) ln k (by omega) hok (by omega)
      rw [em]
      refine ⟨lc, bl, lb, ?_, hlc, fun _ _ => rfl, fun i h1 h2 => absurd h1 (by omega), fun _ _ => ⟨rfl, rfl⟩, Nat.le_refl _⟩
      rw [if_pos rfl, if_pos (by omega : k < ln), ii_add]
      simp (disch := omega) only [ii_le, if_neg, e_mark, bd_eq]
    · rw [ii_add]
      simp (disch := omega) only [ii_le, if_pos]
      rw [e_addLine (T := T0 + k) hc hlc (by omega)]
      simp only [bd_eq, nm_eq, q_1, ii_add]
      rw [show ((k : Int) + 1) = ((k + 1 : Nat) : Int) by omega]
      have hlc1 : zu lc c (((T0 + k : Nat) : Int) + 1) c = ((T0 + (k + 1) : Nat) : Int) := by
        rw [zu_eq]
        omega
      obtain ⟨lc', bl', lb', e1, e2, e3, e4, e5, e6⟩ := ih (k + 1) n' (blS F S cu asc lead sn k) (blS F S cu asc lead sn k + below) (zu lc c (((T0 + k : Nat) : Int) + 1)) (zu bl (640 * c + (T0 + k)) (blS F S cu asc lead sn k)) (zu lb (640 * c + (T0 + k)) b) (by omega) (by omega) (fun q => by omega) (fun j q => by
          have : j = k := by omega
          rw [this]) (fun i hi => by
          rcases Nat.lt_or_ge i k with h1 | h1
          · exact hok i h1
          · have : i = k := by omega
            rw [this]
            exact hov) hlc1
      refine ⟨lc', bl', lb', ?_, e2, fun j hjc => by rw [e3 j hjc, zu_ne hjc], fun i h1 h2 => ?_, fun j hj2 => ?_, by omega⟩
      · rw [e1]
        have hne : cntS H below (blS F S cu asc lead sn) ln ≠ k := by omega
        rw [if_neg hne]
        rcases Nat.lt_or_ge (k + 1) (cntS H below (blS F S cu asc lead sn) ln) with h1 | h1
        · rw [if_neg (by omega)]
        · have : cntS H below (blS F S cu asc lead sn) ln = k + 1 := by omega
          rw [if_pos this, this]
          rfl
      · rcases Nat.lt_or_ge i (k + 1) with h3 | h3
        · have ei : i = k := by omega
          subst ei
          have h4 := e5 (640 * c + T0 + i) (Or.inl (by omega))
          rw [h4.1, h4.2, show 640 * c + T0 + i = 640 * c + (T0 + i) by omega, zu_eq, zu_eq]
          exact ⟨rfl, rfl⟩
        · exact e4 i h3 h2
      · have h4 := e5 j (by omega)
        rw [h4.1, h4.2, zu_ne (by omega), zu_ne (by omega)]
        exact ⟨rfl, rfl⟩
