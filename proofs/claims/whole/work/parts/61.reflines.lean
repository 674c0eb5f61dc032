/-! the reference's loop over the lines of a paragraph -/
theorem m_92 {kk : Int32 → Int32 → Int32 → (Nat → Int32) → (Nat → Int32) → (Nat → Int32) → (Nat → Int32) → Option (Int32 × (Nat → Int32) × (Nat → Int32) × (Nat → Int32) × (Nat → Int32) × (Nat → Int32))} {i4 : Int32} {Q li ow my ov dn : Nat → Int} {c b T k : Nat} {below pl p : Int} (hc : c < 4) (hb : b < 16) (hT : my c = T) (hT2 : T < 640) (hk : dn (16 * c + b) = k) (h1 : -1000000 ≤ p + below) (h2 : p + below < 1000000000) (h3 : 0 ≤ Q 0) (h4 : Q 0 ≤ 9999) :
    fX5_setsLines_92 kk (ii c) (ii b) i4 (il Q) (ii below) (ii pl) (ii k) (ii p) (il li) (il ow) (il my) (il ov) (il dn) = (if p + below ≤ Q 0 then kk (ii p) (ii (p + below)) (ii ((k + 1 : Nat) : Int)) (il (zu li (640 * c + T) p)) (il (zu ow (640 * c + T) b)) (il (zu my c ((T + 1 : Nat) : Int))) (il (zu dn (16 * c + b) ((k + 1 : Nat) : Int))) else some (ii pl, il li, il ow, il my, il (zu ov c b), il dn)) := by
  have f0 : ∀ {α : Type} (g : Int32 → Option α), aget 393 (il Q) 0 g = g (ii (Q 0)) := fun g => aget_ii (z := 0) (by omega) (by omega) (by omega)
  have fm : ∀ {α : Type} (g : Int32 → Option α), aget 4 (il my) (ii c) g = g (ii T) := fun g => by
    rw [aget_ii (by omega) (by omega) (by omega), Int.toNat_natCast]
    show g (ii (my c)) = _
    rw [hT]
  have fd : ∀ {α : Type} (g : Int32 → Option α), aget 64 (il dn) (ii (16 * (c : Int) + b)) g = g (ii k) := fun g => by
    rw [aget_ii (by omega) (by omega) (by omega), show (16 * (c : Int) + b).toNat = 16 * c + b by omega]
    show g (ii (dn (16 * c + b))) = _
    rw [hk]
  unfold fX5_setsLines_92
  rw [f0, ii_add]
  rcases Int.lt_or_le (Q 0) (p + below) with h | h
  · rw [if_neg (show ¬ p + below ≤ Q 0 by omega)]
    simp (disch := omega) only [ii_le, if_neg, aset_ii, Int.toNat_natCast]
  · rw [if_pos h]
    simp (disch := omega) only [ii_le, if_pos, fm, q_640, q_16, q_1, ii_mul, ii_add, fd, aset_ii, nm_eq, Int.toNat_natCast]
    rw [show (640 * (c : Int) + T).toNat = 640 * c + T by omega, show (16 * (c : Int) + b).toNat = 16 * c + b by omega]
    rfl
theorem m_44 {Q : Nat → Int} {c b : Nat} (hc : c < 4) (hb : b < 16) {S cu asc below : Int} {ln T0 : Nat} {ov : Nat → Int} (hS : 0 < S) (hS2 : S ≤ 500) (hF : 0 ≤ Q 1) (hF2 : Q 1 ≤ 500) (hH : Q 0 ≤ 9999) (hH0 : 0 ≤ Q 0) (hcu : 0 ≤ cu) (hcu2 : cu ≤ 100000) (ha : 0 ≤ asc) (ha2 : asc ≤ 300) (hl : 0 < mf Q c b 3) (hl2 : mf Q c b 3 ≤ 600) (hsn : mf Q c b 4 = 0 ∨ mf Q c b 4 = 1) (hb0 : 0 ≤ below) (hb1 : below ≤ 200) (hln : ln ≤ 40) (hln2 : mf Q c b 1 = ln) (hT0 : T0 + 40 ≤ 640)
    {f : Nat → Int} (ef : f = blS (Q 1) S cu asc (mf Q c b 3) (mf Q c b 4)) {m : Nat} (em : m = cntS (Q 0) below f ln) :
    ∀ (r k n : Nat) (w7 pl : Int) (li ow my dn : Nat → Int), k + r = ln → r < n → (k = 0 → w7 = cu + asc - mf Q c b 3) → (∀ j, k = j + 1 → w7 = f j) → (∀ i, i < k → f i + below ≤ Q 0) → my c = ((T0 + k : Nat) : Int) → dn (16 * c + b) = k →
    ∃ (li' ow' my' dn' : Nat → Int), fX5_setsLines_44 (ii c) (ii b) (ii S) (il Q) (ii below) (il ov) n (ii w7) (ii pl) (ii k) (il li) (il ow) (il my) (il dn)
        = some (ii (if m = k then pl else f (m - 1) + below), il li', il ow', il my', il (if m < ln then zu ov c b else ov), il dn')
      ∧ my' c = ((T0 + m : Nat) : Int) ∧ (∀ j, j ≠ c → my' j = my j) ∧ dn' (16 * c + b) = m ∧ (∀ j, j ≠ 16 * c + b → dn' j = dn j)
      ∧ (∀ i, k ≤ i → i < m → li' (640 * c + T0 + i) = f i ∧ ow' (640 * c + T0 + i) = b)
      ∧ (∀ j, j < 640 * c + T0 + k ∨ 640 * c + T0 + m ≤ j → li' j = li j ∧ ow' j = ow j) ∧ k ≤ m := by
  intro r
  induction r with
  | zero =>
    intro k n w7 pl li ow my dn hk hn h0 hj hok hmy hdn
    have ek : k = ln := by omega
    have em2 : m = k := by rw [em, ← ek]; exact cntS_full (Q 0) below f k hok
    obtain ⟨n', rfl⟩ : ∃ n', n = n' + 1 := ⟨n - 1, by omega⟩
    refine ⟨li, ow, my, dn, ?_, by rw [hmy, em2], fun _ _ => rfl, by rw [hdn, em2], fun _ _ => rfl, fun i h1 h2 => absurd h1 (by omega), fun _ _ => ⟨rfl, rfl⟩, by omega⟩
    rw [fX5_setsLines_44, m_f1 hc hb, hln2, if_pos em2, if_neg (show ¬ m < ln by omega)]
    simp (disch := omega) only [bd_eq, ii_le, if_pos]
  | succ r ih =>
    intro k n w7 pl li ow my dn hk hn h0 hj hok hmy hdn
    obtain ⟨n', rfl⟩ : ∃ n', n = n' + 1 := ⟨n - 1, by omega⟩
    have hbd := blS_bound (F := Q 1) (S := S) (cu := cu) (asc := asc) (lead := mf Q c b 3) (sn := mf Q c b 4) hS hS2 hF hF2 hcu ha (by omega) k
    have hk40 : (k : Int) ≤ 40 := by omega
    have hm2 : (k : Int) * (mf Q c b 3 + 1000) ≤ 40 * 1600 := Int.mul_le_mul hk40 (by omega) (by omega) (by omega)
    have hm3 : 0 ≤ (k : Int) * mf Q c b 3 := Int.mul_nonneg (by omega) (by omega)
    rw [← ef] at hbd
    have hfk : f k = (if mf Q c b 4 = 1 then nxS (Q 1) S (w7 + mf Q c b 3) else w7 + mf Q c b 3) := by
      rcases Nat.eq_zero_or_pos k with hz | hz
      · subst hz
        rw [h0 rfl, ef]
        show (if mf Q c b 4 = 1 then nxS (Q 1) S (cu + asc) else cu + asc) = _
        rw [show cu + asc - mf Q c b 3 + mf Q c b 3 = cu + asc by omega]
      · obtain ⟨j, rfl⟩ : ∃ j, k = j + 1 := ⟨k - 1, by omega⟩
        rw [hj j rfl, ef]
        rfl
    have hw7 : -1000000 ≤ w7 + mf Q c b 3 ∧ w7 + mf Q c b 3 < 1000000 := by
      rcases Nat.eq_zero_or_pos k with hz | hz
      · have := h0 hz
        omega
      · obtain ⟨j, hj2⟩ : ∃ j, k = j + 1 := ⟨k - 1, by omega⟩
        have hbj := blS_bound (F := Q 1) (S := S) (cu := cu) (asc := asc) (lead := mf Q c b 3) (sn := mf Q c b 4) hS hS2 hF hF2 hcu ha (by omega) j
        have hj3 : (j : Int) * (mf Q c b 3 + 1000) ≤ 40 * 1600 := Int.mul_le_mul (by omega) (by omega) (by omega) (by omega)
        have hj4 : 0 ≤ (j : Int) * mf Q c b 3 := Int.mul_nonneg (by omega) (by omega)
        rw [← ef] at hbj
        have := hj j hj2
        omega
    have hstep : fX5_setsLines_44 (ii c) (ii b) (ii S) (il Q) (ii below) (il ov) (n' + 1) (ii w7) (ii pl) (ii k) (il li) (il ow) (il my) (il dn)
        = fX5_setsLines_92 (fX5_setsLines_44 (ii c) (ii b) (ii S) (il Q) (ii below) (il ov) n') (ii c) (ii b) (ii S) (il Q) (ii below) (ii pl) (ii k) (ii (f k)) (il li) (il ow) (il my) (il ov) (il dn) := by
      rw [fX5_setsLines_44, m_f1 hc hb, m_f3 hc hb, m_f4 hc hb, hln2]
      simp (disch := omega) only [bd_eq, ii_le, if_neg, nm_eq, ii_add]
      rcases hsn with hs | hs
      · rw [hs, if_neg (by decide)]
        rw [hs, if_neg (by decide)] at hfk
        rw [hfk]
      · rw [hs, if_pos (by decide), m_next hS hS2 hF hF2 (by omega) (by omega)]
        rw [hs, if_pos rfl] at hfk
        rw [hfk]
        rfl
    rw [hstep, m_92 (T := T0 + k) hc hb hmy (by omega) hdn (by omega) (by omega) hH0 hH]
    rcases Int.lt_or_le (Q 0) (f k + below) with hov | hov
    · have em2 : m = k := by rw [em]; exact cntS_stop (Q 0) below f ln k (by omega) hok (by omega)
      rw [if_neg (show ¬ f k + below ≤ Q 0 by omega), if_pos em2, if_pos (show m < ln by omega)]
      exact ⟨li, ow, my, dn, rfl, by rw [hmy, em2], fun _ _ => rfl, by rw [hdn, em2], fun _ _ => rfl, fun i h1 h2 => absurd h1 (by omega), fun _ _ => ⟨rfl, rfl⟩, by omega⟩
    · rw [if_pos hov]
      obtain ⟨li', ow', my', dn', e1, e2, e3, e4, e5, e6, e7, e8⟩ := ih (k + 1) n' (f k) (f k + below) (zu li (640 * c + (T0 + k)) (f k)) (zu ow (640 * c + (T0 + k)) b) (zu my c ((T0 + k + 1 : Nat) : Int)) (zu dn (16 * c + b) ((k + 1 : Nat) : Int)) (by omega) (by omega) (fun q => by omega) (fun j q => by
          have : j = k := by omega
          rw [this]) (fun i hi => by
          rcases Nat.lt_or_ge i k with h1 | h1
          · exact hok i h1
          · have : i = k := by omega
            rw [this]
            exact hov) (by rw [zu_eq]; rfl) (zu_eq _ _ _)
      refine ⟨li', ow', my', dn', ?_, e2, fun j hjc => by rw [e3 j hjc, zu_ne hjc], e4, fun j hjc => by rw [e5 j hjc, zu_ne hjc], fun i h1 h2 => ?_, fun j hj2 => ?_, by omega⟩
      · rw [e1, if_neg (show ¬ m = k by omega)]
        rcases Nat.lt_or_ge (k + 1) m with h1 | h1
        · rw [if_neg (by omega)]
        · have : m = k + 1 := by omega
          rw [if_pos this, this]
          rfl
      · rcases Nat.lt_or_ge i (k + 1) with h3 | h3
        · have ei : i = k := by omega
          subst ei
          have h4 := e7 (640 * c + T0 + i) (Or.inl (by omega))
          rw [h4.1, h4.2, show 640 * c + T0 + i = 640 * c + (T0 + i) by omega, zu_eq, zu_eq]
          exact ⟨rfl, rfl⟩
        · exact e6 i h3 h2
      · have h4 := e7 j (by omega)
        rw [h4.1, h4.2, zu_ne (by omega), zu_ne (by omega)]
        exact ⟨rfl, rfl⟩
