/-! spread: the reference's loops, and the pair -/
section
variable {P Q y1 y2 y3 y4 y5 y6 y7 y8 : Nat → Int} {c n : Nat} {d : Nat → Int}
theorem by_b {f : Nat → Nat → Int} {more : Int} (hm0 : 0 < more) (hm1 : more ≤ 9999) (hN : 0 < sumF (btI f d n) n) (k : Nat) : 0 ≤ more / sumF (btI f d n) n ∧ more / sumF (btI f d n) n ≤ 9999 ∧ 0 ≤ more % sumF (btI f d n) n ∧ more % sumF (btI f d n) n < sumF (btI f d n) n := by
  have h1 := Int.emod_nonneg more (show sumF (btI f d n) n ≠ 0 by omega)
  have h2 := Int.emod_lt_of_pos more hN
  have h3 : 0 ≤ more / sumF (btI f d n) n := Int.ediv_nonneg (by omega) (by omega)
  have h4 : more / sumF (btI f d n) n ≤ more := Int.ediv_le_self _ (by omega)
  omega
theorem m_142 (h : Sp0 P Q y8 c n d) {k107 : Int32 → Int32 → Int32 → Option O12} {more : Int} {w3 w4 w6 kept : Int32} {hist : Nat → Int32} (hm0 : 0 < more) (hm1 : more ≤ 9999) (hN : 0 < sumF (btI (pf P c) d n) n) {k : Nat} (hk : k < n) (hb : btI (pf P c) d n k = 1) {x w7 : Int} (hx : x = if 0 < more % sumF (btI (pf P c) d n) n - sumF (btI (pf P c) d n) k then 1 else 0) :
    fX5_spread_142 k107 (ii c) w3 w4 (ii (hsF (riI (pf P c) d n more) 1 k)) w6 (ii w7) (ii k) (ii (more / sumF (btI (pf P c) d n) n)) (ii x) kept (il Q) hist (il y1) (il y2) (il y3) (il y4) (il y5) (il y6) (il y7) (il y8) = k107 (ii (hsF (riI (pf P c) d n more) 1 (k + 1))) (ii (w7 - 1)) (ii ((k + 1 : Nat) : Int)) := by
  obtain ⟨k1, k2, k3, k4, k5⟩ := h.kind hk
  have hk2 := (btI_iff.mp hb).1
  have h5 : 1 ≤ pf P c k 5 ∧ pf P c k 5 ≤ 3000 := by
    unfold FlOK at k4
    omega
  obtain ⟨v1, v2, v3, v4⟩ := by_b (d := d) hm0 hm1 hN k
  have hx01 : x = 0 ∨ x = 1 := by
    rw [hx]
    split
    · exact Or.inr rfl
    · exact Or.inl rfl
  have hhn : hnI (pf P c) d n more k = (if 3000 < pf P c k 5 + (more / sumF (btI (pf P c) d n) n + x) then 3000 else pf P c k 5 + (more / sumF (btI (pf P c) d n) n + x)) := by
    unfold hnI byI
    rw [← hx]
  have ho := or_01 (hsF_01 (riI (pf P c) d n more) 1 k)
  unfold fX5_spread_142 fX5_spread_173 fX5_spread_174 fX5_spread_177
  rw [ii_add, nm_eq, q_1, ii_neg, ii_add, nm_eq, ← q_1, show w7 + -1 = w7 - 1 by omega, hsF_s]
  simp only [nm_eq, ii_suc, ho.1, ho.2]
  rcases Int.lt_or_le 0 (more / sumF (btI (pf P c) d n) n + x) with g | g
  · rw [if_neg (by rw [q_0, ii_le (by omega) (by omega) (by omega) (by omega)]; omega), m_f5 h.2.1 k3, bd_eq, k5 (by omega)]
    rcases Int.lt_or_le (pf P c k 5) 3000 with g2 | g2
    · have hr : riI (pf P c) d n more k = 1 := by
        unfold riI
        rw [if_pos ⟨hb, by rw [hhn]; split <;> omega⟩]
      rw [if_neg (by rw [q_3000, ii_le (by omega) (by omega) (by omega) (by omega)]; omega), hr, if_pos rfl]
    · have hr : riI (pf P c) d n more k = 0 := by
        unfold riI
        rw [if_neg (fun w => by
          have w2 := w.2
          rw [hhn] at w2
          split at w2 <;> omega)]
      rw [if_pos (by rw [q_3000, ii_le (by omega) (by omega) (by omega) (by omega)]; omega), hr, if_neg (by decide)]
  · have hr : riI (pf P c) d n more k = 0 := by
      unfold riI
      rw [if_neg (fun w => by
        have w2 := w.2
        rw [hhn] at w2
        split at w2 <;> omega)]
    rw [if_pos (by rw [q_0, ii_le (by omega) (by omega) (by omega) (by omega)]; omega), hr, if_neg (by decide)]
theorem m_107 (h : Sp0 P Q y8 c n d) {more : Int} {kept : Int32} {hist : Nat → Int32} (hm0 : 0 < more) (hm1 : more ≤ 9999) (hN : 0 < sumF (btI (pf P c) d n) n) : ∀ (r k fu : Nat), k + r = n → r < fu →
    fX5_spread_107 (ii c) (ii more) (ii (sumF (btI (pf P c) d n) n)) (nI (mkB (btI (pf P c) d n) n)) kept (il Q) hist (il y1) (il y2) (il y3) (il y4) (il y5) (il y6) (il y7) (il y8) fu (ii (hsF (riI (pf P c) d n more) 1 k)) (ii (more % sumF (btI (pf P c) d n) n - sumF (btI (pf P c) d n) k)) (ii k)
      = (if hsF (riI (pf P c) d n more) 1 n = 0 then some (-5, kept, il Q, hist, il y1, il y2, il y3, il y4, il y5, il y6, il y7, il y8) else (bd (fX5_record kept (il Q) hist) fun qo9 => fX5_spread_204 (ii c) (ii more) (ii (sumF (btI (pf P c) d n) n)) (nI (mkB (btI (pf P c) d n) n)) qo9.1 qo9.2 (il y1) (il y2) (il y3) (il y4) (il y5) (il y6) (il y7) (il y8) Fu (ii (more % sumF (btI (pf P c) d n) n)) 0 (il Q))) := by
  have h0 := h
  obtain ⟨hR, hc, hn, hd⟩ := h0
  have hmn : mn Q c = (n : Nat) := by rw [← (hR.at hc).1, hn]
  have hn16 : n ≤ 16 := by have := (hR.at hc).2.2.1; omega
  have hNs := btI_sum (pf P c) d n n
  have hM := mkB_lt (btI (pf P c) d n) n
  have hM2 : 2 ^ n ≤ 2 ^ 16 := Nat.pow_le_pow_right (by omega) hn16
  intro r
  induction r with
  | zero =>
    intro k fu hk hf
    obtain ⟨m, rfl⟩ : ∃ m, fu = m + 1 := ⟨fu - 1, by omega⟩
    have e : k = n := by omega
    subst e
    rw [fX5_spread_107]
    dsimp only
    rw [m_blocks hc, bd_eq, hmn, if_pos (le_iiT (by omega) (by omega) (Nat.le_refl _))]
    rcases hsF_01 (riI (pf P c) d k more) 1 k with u | u
    · rw [u, if_pos ii00, if_pos rfl]
    · rw [u, if_neg ii10, if_neg (by decide)]
      congr 1
      funext qo9
      rw [arem_ii (by omega) (by omega) (by omega) (by omega), Int.tmod_eq_emod_of_nonneg (by omega)]
  | succ r ih =>
    intro k fu hk hf
    obtain ⟨m, rfl⟩ : ∃ m, fu = m + 1 := ⟨fu - 1, by omega⟩
    have hkn : k < n := by omega
    have hi := ih (k + 1) m (by omega) (by omega)
    have hks := btI_sum (pf P c) d n k
    obtain ⟨v1, v2, v3, v4⟩ := by_b (d := d) hm0 hm1 hN k
    rw [fX5_spread_107]
    dsimp only
    rw [m_blocks hc, bd_eq, hmn, if_neg (le_iiF (by omega) (by omega) hkn)]
    have hbit := bit_get (M := mkB (btI (pf P c) d n) n) (by omega) (show k < 16 by omega)
    rcases btI_01 (pf P c) d n k with q | q
    · have hz : riI (pf P c) d n more k = 0 := by
        unfold riI
        rw [if_neg (fun w => by omega)]
      rw [if_neg (fun w => by
        have := ((mkB_bit (btI (pf P c) d n) k n).mp (hbit.mp w)).2
        omega)]
      unfold fX5_spread_177
      rw [nm_eq, ii_suc]
      rw [sumF_s, q, Int.add_zero, hsF_s, hz, if_neg (by decide)] at hi
      exact hi
    · rw [if_pos (hbit.mpr ((mkB_bit (btI (pf P c) d n) k n).mpr ⟨hkn, q⟩)), adiv_ii (by omega) (by omega) (by omega) (by omega), Int.tdiv_eq_ediv_of_nonneg (by omega), q_0, q_1]
      rw [sumF_s, q, show more % sumF (btI (pf P c) d n) n - (sumF (btI (pf P c) d n) k + 1) = more % sumF (btI (pf P c) d n) n - sumF (btI (pf P c) d n) k - 1 by omega] at hi
      rcases Int.lt_or_le 0 (more % sumF (btI (pf P c) d n) n - sumF (btI (pf P c) d n) k) with g | g
      · rw [if_neg (by rw [ii_le (by omega) (by omega) (by omega) (by omega)]; omega), m_142 h hm0 hm1 hN hkn q (by rw [if_pos g])]
        exact hi
      · rw [if_pos (by rw [ii_le (by omega) (by omega) (by omega) (by omega)]; exact g), m_142 h hm0 hm1 hN hkn q (by rw [if_neg (by omega)])]
        exact hi
theorem m_204 (h : Sp0 P Q y8 c n d) {more : Int} {kept : Int32} {hist : Nat → Int32} (hm0 : 0 < more) (hm1 : more ≤ 9999) (hN : 0 < sumF (btI (pf P c) d n) n) (hrg : ∀ Z, MSpS Q Z c (hnI (pf P c) d n more) (btI (pf P c) d n) n → RgOK Z) : ∀ (r k fu : Nat) (Z : Nat → Int), k + r = n → r < fu → MSpS Q Z c (hnI (pf P c) d n more) (btI (pf P c) d n) k →
    ∃ Zq z1 z2 z3 z4 z5 z6 z7 z8 : Nat → Int, fX5_spread_204 (ii c) (ii more) (ii (sumF (btI (pf P c) d n) n)) (nI (mkB (btI (pf P c) d n) n)) kept hist (il y1) (il y2) (il y3) (il y4) (il y5) (il y6) (il y7) (il y8) fu (ii (more % sumF (btI (pf P c) d n) n - sumF (btI (pf P c) d n) k)) (ii k) (il Z) = some (ii (z4 c), kept, il Zq, hist, il z1, il z2, il z3, il z4, il z5, il z6, il z7, il z8)
      ∧ MSpS Q Zq c (hnI (pf P c) d n more) (btI (pf P c) d n) n ∧ MLayOK Zq (Zq 2) z3 z4 z5 z6 z7 z8 z1 z2 := by
  have h0 := h
  obtain ⟨hR, hc, hn, hd⟩ := h0
  have hmn : mn Q c = (n : Nat) := by rw [← (hR.at hc).1, hn]
  have hn16 : n ≤ 16 := by have := (hR.at hc).2.2.1; omega
  have hNs := btI_sum (pf P c) d n n
  have hM := mkB_lt (btI (pf P c) d n) n
  have hM2 : 2 ^ n ≤ 2 ^ 16 := Nat.pow_le_pow_right (by omega) hn16
  intro r
  induction r with
  | zero =>
    intro k fu Z hk hf hZ
    obtain ⟨m, rfl⟩ : ∃ m, fu = m + 1 := ⟨fu - 1, by omega⟩
    have e : k = n := by omega
    subst e
    have hmz : mn Z c = (k : Nat) := (hZ.2 (5 + 97 * c) (fun a ha _ => by omega)).trans hmn
    obtain ⟨z1, z2, z3, z4, z5, z6, z7, z8, s1, s2⟩ := m_sets (Q := Z) (li := y1) (ow := y2) (my := y3) (en := y4) (ov := y5) (ah := y6) (be := y7) (dn := y8) (hrg Z hZ)
    refine ⟨Z, z1, z2, z3, z4, z5, z6, z7, z8, ?_, hZ, s2⟩
    rw [fX5_spread_204]
    dsimp only
    rw [m_blocks hc, bd_eq, hmz, if_pos (le_iiT (by omega) (by omega) (Nat.le_refl _)), s1, bd_eq]
    dsimp only
    rw [aget_ii (by omega) (by omega) (by omega), Int.toNat_natCast]
    rfl
  | succ r ih =>
    intro k fu Z hk hf hZ
    obtain ⟨m, rfl⟩ : ∃ m, fu = m + 1 := ⟨fu - 1, by omega⟩
    have hkn : k < n := by omega
    have hmz : mn Z c = (n : Nat) := (hZ.2 (5 + 97 * c) (fun a ha _ => by omega)).trans hmn
    have hks := btI_sum (pf P c) d n k
    obtain ⟨v1, v2, v3, v4⟩ := by_b (d := d) hm0 hm1 hN k
    obtain ⟨k1, k2, k3, k4, k5⟩ := h.kind hkn
    rw [fX5_spread_204]
    dsimp only
    rw [m_blocks hc, bd_eq, hmz, if_neg (le_iiF (by omega) (by omega) hkn)]
    have hbit := bit_get (M := mkB (btI (pf P c) d n) n) (by omega) (show k < 16 by omega)
    rcases btI_01 (pf P c) d n k with q | q
    · have hi := ih (k + 1) m Z (by omega) (by omega) (hZ.skip q)
      rw [if_neg (fun w => by
        have := ((mkB_bit (btI (pf P c) d n) k n).mp (hbit.mp w)).2
        omega)]
      unfold fX5_spread_283
      rw [nm_eq, ii_suc]
      rw [sumF_s, q, Int.add_zero] at hi
      exact hi
    · have hk2 := (btI_iff.mp q).1
      have h5 : 1 ≤ pf P c k 5 ∧ pf P c k 5 ≤ 3000 := by
        unfold FlOK at k4
        omega
      have hi := ih (k + 1) m _ (by omega) (by omega) (hZ.put q)
      rw [sumF_s, q, show more % sumF (btI (pf P c) d n) n - (sumF (btI (pf P c) d n) k + 1) = more % sumF (btI (pf P c) d n) n - sumF (btI (pf P c) d n) k - 1 by omega] at hi
      have r5 : mf Z c k 5 = pf P c k 5 := (hZ.2 (6 + 97 * c + 6 * k + 5) (fun a ha _ => by omega)).trans (k5 (by omega))
      have h248 : ∀ x : Int, (x = if 0 < more % sumF (btI (pf P c) d n) n - sumF (btI (pf P c) d n) k then 1 else 0) → fX5_spread_248 (fX5_spread_204 (ii c) (ii more) (ii (sumF (btI (pf P c) d n) n)) (nI (mkB (btI (pf P c) d n) n)) kept hist (il y1) (il y2) (il y3) (il y4) (il y5) (il y6) (il y7) (il y8) m) (ii c) (ii more) (ii (sumF (btI (pf P c) d n) n)) (nI (mkB (btI (pf P c) d n) n)) (ii (more % sumF (btI (pf P c) d n) n - sumF (btI (pf P c) d n) k)) (ii k) (ii (pf P c k 5 + more / sumF (btI (pf P c) d n) n)) (ii x) kept (il Z) hist (il y1) (il y2) (il y3) (il y4) (il y5) (il y6) (il y7) (il y8)
          = fX5_spread_204 (ii c) (ii more) (ii (sumF (btI (pf P c) d n) n)) (nI (mkB (btI (pf P c) d n) n)) kept hist (il y1) (il y2) (il y3) (il y4) (il y5) (il y6) (il y7) (il y8) m (ii (more % sumF (btI (pf P c) d n) n - sumF (btI (pf P c) d n) k - 1)) (ii ((k + 1 : Nat) : Int)) (il (zu Z (6 + 97 * c + 6 * k + 5) (hnI (pf P c) d n more k))) := by
        intro x hx
        have hx01 : x = 0 ∨ x = 1 := by
          rw [hx]
          split
          · exact Or.inr rfl
          · exact Or.inl rfl
        have hhn : hnI (pf P c) d n more k = (if 3000 < pf P c k 5 + more / sumF (btI (pf P c) d n) n + x then 3000 else pf P c k 5 + more / sumF (btI (pf P c) d n) n + x) := by
          unfold hnI byI
          rw [← hx, Int.add_assoc]
        unfold fX5_spread_248 fX5_spread_282 fX5_spread_283
        rw [ii_add, nm_eq, q_1, ii_neg, ii_add, nm_eq, ← q_1, show fX5_cell (ii c) (ii k) 5 = some (ii ((6 + 97 * c + 6 * k + 5 : Nat) : Int)) from m_cellN c k 5, bd_eq, show more % sumF (btI (pf P c) d n) n - sumF (btI (pf P c) d n) k + -1 = more % sumF (btI (pf P c) d n) n - sumF (btI (pf P c) d n) k - 1 by omega, hhn]
        rcases Int.lt_or_le 3000 (pf P c k 5 + more / sumF (btI (pf P c) d n) n + x) with w | w
        · rw [if_neg (by rw [q_3000, ii_le (by omega) (by omega) (by omega) (by omega)]; omega), if_pos w, q_3000, aset_ii (by omega) (by omega) (by omega), nm_eq, ii_suc, Int.toNat_natCast]
        · rw [if_pos (by rw [q_3000, ii_le (by omega) (by omega) (by omega) (by omega)]; omega), if_neg (by omega), aset_ii (by omega) (by omega) (by omega), nm_eq, ii_suc, Int.toNat_natCast]
      rw [if_pos (hbit.mpr ((mkB_bit (btI (pf P c) d n) k n).mpr ⟨hkn, q⟩)), m_f5 hc k3, bd_eq, r5, adiv_ii (by omega) (by omega) (by omega) (by omega), Int.tdiv_eq_ediv_of_nonneg (by omega), ii_add, q_0, q_1]
      rcases Int.lt_or_le 0 (more % sumF (btI (pf P c) d n) n - sumF (btI (pf P c) d n) k) with g | g
      · rw [if_neg (by rw [ii_le (by omega) (by omega) (by omega) (by omega)]; omega), h248 1 (by rw [if_pos g])]
        exact hi
      · rw [if_pos (by rw [ii_le (by omega) (by omega) (by omega) (by omega)]; exact g), h248 0 (by rw [if_neg (by omega)])]
        exact hi
theorem m_48 (h : Sp0 P Q y8 c n d) {more : Int} {w5 kept : Int32} {hist : Nat → Int32} : ∀ (r k fu : Nat), k + r = n → r < fu → ∃ m : Nat,
    fX5_spread_48 (ii c) (ii more) w5 kept (il Q) hist (il y1) (il y2) (il y3) (il y4) (il y5) (il y6) (il y7) (il y8) fu (ii (sumF (btI (pf P c) d n) k)) (nI (mkB (btI (pf P c) d n) k)) (ii k) = fX5_spread_48 (ii c) (ii more) w5 kept (il Q) hist (il y1) (il y2) (il y3) (il y4) (il y5) (il y6) (il y7) (il y8) (m + 1) (ii (sumF (btI (pf P c) d n) n)) (nI (mkB (btI (pf P c) d n) n)) (ii n) := by
  have h0 := h
  obtain ⟨hR, hc, hn, hd⟩ := h0
  have hmn : mn Q c = (n : Nat) := by rw [← (hR.at hc).1, hn]
  have hn16 : n ≤ 16 := by have := (hR.at hc).2.2.1; omega
  intro r
  induction r with
  | zero =>
    intro k fu hk hf
    obtain ⟨m, rfl⟩ : ∃ m, fu = m + 1 := ⟨fu - 1, by omega⟩
    have e : k = n := by omega
    subst e
    exact ⟨m, rfl⟩
  | succ r ih =>
    intro k fu hk hf
    obtain ⟨m, rfl⟩ : ∃ m, fu = m + 1 := ⟨fu - 1, by omega⟩
    have hkn : k < n := by omega
    obtain ⟨m2, hi⟩ := ih (k + 1) m (by omega) (by omega)
    refine ⟨m2, Eq.trans ?_ hi⟩
    rw [fX5_spread_48]
    dsimp only
    rw [m_blocks hc, bd_eq, hmn, if_neg (le_iiF (by omega) (by omega) hkn), m_between h hkn, bd_eq, sumF_s, mkB_s]
    unfold fX5_spread_80
    rcases btI_01 (pf P c) d n k with q | q
    · rw [q, if_pos ii00, if_neg (by decide), nm_eq, ii_suc, Int.add_zero]
    · rw [q, if_neg ii10, if_pos rfl, bit_set (by omega), nm_eq, nm_eq, nm_eq, ii_suc, q_1, ii_add]
end
set_option maxHeartbeats 8000000 in
theorem ok_spread : op_spread InvG := by
  intro i1 i2 sg sm hI
  obtain ⟨P, Q, Az, Bz, kk, c1, c2, hRS, r1, r2, ⟨lcz, enz, ovz, ahz, bez, spz, blz, lbz, d1, d2, d3, d4, d5, d6, d7, d8, d9, d10, d11, d12, hlay⟩, hnew⟩ := act_rec hI
  obtain ⟨c, hc1, hc2, rfl⟩ := ii_of i1
  obtain ⟨w, hw1, hw2, rfl⟩ := ii_of i2
  rcases Classical.em (c < 0 ∨ 4 ≤ c) with hc | hc
  · refine ⟨sameC (-1) sg, raw12 (-1) sm, ?_, ?_, rfl, hI⟩
    · unfold fX4_spread
      rw [e_colF hc1 hc2 hc, bd_eq, if_pos ii00]
      rfl
    · unfold fX5_spread
      rw [m_colF hc1 hc2 hc, bd_eq, if_pos ii00]
  obtain ⟨e, rfl⟩ : ∃ e : Nat, c = e := ⟨c.toNat, by omega⟩
  have he : e < 4 := by omega
  rcases Classical.em (w < 1 ∨ 9999 < w) with hw | hw
  · refine ⟨sameC (-2) sg, raw12 (-2) sm, ?_, ?_, rfl, hI⟩
    · unfold fX4_spread
      rw [e_col (by omega) (by omega), bd_eq, if_neg ii10]
      rcases Int.lt_or_le w 1 with h1 | h1
      · rw [if_pos (by rw [q_1, ii_lt (by omega) (by omega) (by omega) (by omega)]; omega)]
        rfl
      rw [if_neg (by rw [q_1, ii_lt (by omega) (by omega) (by omega) (by omega)]; omega), if_neg (by rw [q_9999, ii_le (by omega) (by omega) (by omega) (by omega)]; omega)]
      rfl
    · unfold fX5_spread
      rw [m_colT (by omega) (by omega), bd_eq, if_neg ii10, show fX5_in (ii w) 1 9999 = some (ii 0) from m_inF (lo := 1) (hi := 9999) (by omega) (by omega) (by omega) (by omega) (by omega) (by omega) (by omega), bd_eq, if_pos ii00]
  obtain ⟨hs1, hs2⟩ := hRS.1.stp
  obtain ⟨y1, y2, y3, y4, y5, y6, y7, y8, k1, k2⟩ := m_setsR (li := sm.2.2.2.2.2.2.2.2.1) (ow := sm.2.2.2.2.2.2.2.2.2.1) (my := sm.2.2.2.2.2.2.2.2.2.2.1) (en := sm.2.2.2.2.2.2.2.2.2.2.2.1) (ov := sm.2.2.2.2.2.2.2.2.2.2.2.2.1) (ah := sm.2.2.2.2.2.2.2.2.2.2.2.2.2.1) (be := sm.2.2.2.2.2.2.2.2.2.2.2.2.2.2.1) (dn := sm.2.2.2.2.2.2.2.2.2.2.2.2.2.2.2) hRS.rg
  rw [← hRS.2.2.2.1] at k2
  obtain ⟨p1, p2, p3, p4⟩ := hRS.at he
  obtain ⟨n, hn⟩ := sixteen p2
  have hen := hRS.en hlay k2 he
  have henb : 0 ≤ enz e ∧ enz e ≤ 60000 := by
    have hb := csP_bound hRS.1 hs1 hs2 he (nP P e) (Nat.le_refl _)
    have hn16 : nP P e ≤ 16 := by unfold nP; omega
    rw [(hlay e he).2]
    omega
  have hsp : ∀ b : Nat, (b : Int) < pn P e → 0 ≤ spz (16 * e + b) ∧ spz (16 * e + b) ≤ 40 := fun b hb => by
    obtain ⟨q, q1, q2, q3, q4⟩ := hRS.parts hlay k2 he hb
    omega
  obtain ⟨d, hd⟩ : ∃ d : Nat → Int, d = fun i => spz (16 * e + i) := ⟨_, rfl⟩
  have hS0 : Sp0 P Q y8 e n d := ⟨hRS, he, hn, fun b hb => by
    obtain ⟨q, q1, q2, q3, q4⟩ := hRS.parts hlay k2 he (b := b) (by omega)
    have hdb : d b = spz (16 * e + b) := by rw [hd]
    omega⟩
  obtain ⟨v, Z, st', rows', e1, e2⟩ := e_raise (sp := spz) hRS.1 he hn hsp hd (more := w - enz e) (by omega) (by omega) r1
  have g1 : ¬ ii w < 1 := by rw [q_1, ii_lt (by omega) (by omega) (by omega) (by omega)]; omega
  have g2 : ii w ≤ 9999 := by rw [q_9999, ii_le (by omega) (by omega) (by omega) (by omega)]; omega
  have hend : ∀ {α : Type} (q : Int32 → Option α), aget 4 (il y4) (ii e) q = q (ii (enz e)) := fun q => by
    rw [aget_ii (by omega) (by omega) (by omega), il_app, Int.toNat_natCast, hen]
  have hn16 : n ≤ 16 := by omega
  obtain ⟨m, hm⟩ := m_48 hS0 (more := w - enz e) (w5 := 0) (kept := sm.1) (hist := sm.2.2.2.2.2.2.1) (y1 := y1) (y2 := y2) (y3 := y3) (y4 := y4) (y5 := y5) (y6 := y6) (y7 := y7) n 0 Fu (by omega) (by rw [Fu_s]; omega)
  have hmn : mn Q e = (n : Nat) := by rw [← p1, hn]
  have hml : fX5_spread (ii e) (ii w) sm.1 sm.2.2.2.2.1 sm.2.2.2.2.2.2.1 sm.2.2.2.2.2.2.2.2.1 sm.2.2.2.2.2.2.2.2.2.1 sm.2.2.2.2.2.2.2.2.2.2.1 sm.2.2.2.2.2.2.2.2.2.2.2.1 sm.2.2.2.2.2.2.2.2.2.2.2.2.1 sm.2.2.2.2.2.2.2.2.2.2.2.2.2.1 sm.2.2.2.2.2.2.2.2.2.2.2.2.2.2.1 sm.2.2.2.2.2.2.2.2.2.2.2.2.2.2.2 = (if ii (sumF (btI (pf P e) d n) n) = 0 then some (-5, sm.1, il Q, sm.2.2.2.2.2.2.1, il y1, il y2, il y3, il y4, il y5, il y6, il y7, il y8) else (if 0 < ii (w - enz e) then arem (ii (w - enz e)) (ii (sumF (btI (pf P e) d n) n)) (fun qx7 => fX5_spread_107 (ii e) (ii (w - enz e)) (ii (sumF (btI (pf P e) d n) n)) (nI (mkB (btI (pf P e) d n) n)) sm.1 (il Q) sm.2.2.2.2.2.2.1 (il y1) (il y2) (il y3) (il y4) (il y5) (il y6) (il y7) (il y8) Fu 0 qx7 0) else some (-5, sm.1, il Q, sm.2.2.2.2.2.2.1, il y1, il y2, il y3, il y4, il y5, il y6, il y7, il y8))) := by
    rw [c2]
    unfold fX5_spread
    rw [m_colT (by omega) (by omega), bd_eq, if_neg ii10, show fX5_in (ii w) 1 9999 = some (ii 1) from m_inT (lo := 1) (hi := 9999) (by omega) (by omega) (by omega) (by omega), bd_eq, if_neg ii10, k1, bd_eq]
    dsimp only
    rw [hend, ii_sub, nm_eq]
    refine Eq.trans hm ?_
    rw [fX5_spread_48]
    dsimp only
    rw [m_blocks he, bd_eq, hmn, if_pos (le_iiT (by omega) (by omega) (Nat.le_refl _))]
  have hNs := btI_sum (pf P e) d n n
  have hcl : fX4_spread (ii e) (ii w) sg.2.1 sg.2.2.1 sg.2.2.2.1 sg.2.2.2.2.1 sg.2.2.2.2.2.1 sg.2.2.2.2.2.2.1 sg.2.2.2.2.2.2.2.1 sg.2.2.2.2.2.2.2.2.1 sg.2.2.2.2.2.2.2.2.2.1 sg.2.2.2.2.2.2.2.2.2.2.1 sg.2.2.2.2.2.2.2.2.2.2.2.1 sg.2.2.2.2.2.2.2.2.2.2.2.2.1 sg.2.2.2.2.2.2.2.2.2.2.2.2.2.1 sg.2.2.2.2.2.2.2.2.2.2.2.2.2.2.1 sg.2.2.2.2.2.2.2.2.2.2.2.2.2.2.2.2.2.2.2.2.2.2.2.2.2.2.2.2.2.2.1 sg.2.2.2.2.2.2.2.2.2.2.2.2.2.2.2.2.2.2.2.2.2.2.2.2.2.2.2.2.2.2.2.1 = (if ii v = 0 then some (-5, il Z, sg.2.2.1, sg.2.2.2.1, sg.2.2.2.2.1, sg.2.2.2.2.2.1, sg.2.2.2.2.2.2.1, sg.2.2.2.2.2.2.2.1, sg.2.2.2.2.2.2.2.2.1, sg.2.2.2.2.2.2.2.2.2.1, sg.2.2.2.2.2.2.2.2.2.2.1, sg.2.2.2.2.2.2.2.2.2.2.2.1, sg.2.2.2.2.2.2.2.2.2.2.2.2.1, sg.2.2.2.2.2.2.2.2.2.2.2.2.2.1, sg.2.2.2.2.2.2.2.2.2.2.2.2.2.2.1, st', rows') else (bd (fX4_layOutAgain (il Z) sg.2.2.1 sg.2.2.2.1 sg.2.2.2.2.1 sg.2.2.2.2.2.1 sg.2.2.2.2.2.2.1 sg.2.2.2.2.2.2.2.1 sg.2.2.2.2.2.2.2.2.1 sg.2.2.2.2.2.2.2.2.2.1 sg.2.2.2.2.2.2.2.2.2.2.1 sg.2.2.2.2.2.2.2.2.2.2.2.1 sg.2.2.2.2.2.2.2.2.2.2.2.2.1 sg.2.2.2.2.2.2.2.2.2.2.2.2.2.1 sg.2.2.2.2.2.2.2.2.2.2.2.2.2.2.1) fun qo4 => bd (fX1_endOf (ii e) qo4.2.2.2.2.2.2.1) fun qo5 => some (qo5, il Z, qo4.1, qo4.2.1, qo4.2.2.1, qo4.2.2.2.1, qo4.2.2.2.2.1, qo4.2.2.2.2.2.1, qo4.2.2.2.2.2.2.1, qo4.2.2.2.2.2.2.2.1, qo4.2.2.2.2.2.2.2.2.1, qo4.2.2.2.2.2.2.2.2.2.1, qo4.2.2.2.2.2.2.2.2.2.2.1, qo4.2.2.2.2.2.2.2.2.2.2.2.1, qo4.2.2.2.2.2.2.2.2.2.2.2.2, st', rows'))) := by
    have e1' : fX4_raiseSpaces (ii e) (ii (w - enz e)) sg.2.1 sg.2.2.2.2.2.2.2.2.2.2.2.2.1 sg.2.2.2.2.2.2.2.2.2.2.2.2.2.2.2.2.2.2.2.2.2.2.2.2.2.2.2.2.2.2.1 sg.2.2.2.2.2.2.2.2.2.2.2.2.2.2.2.2.2.2.2.2.2.2.2.2.2.2.2.2.2.2.2.1 = some (ii v, il Z, st', rows') := by
      rw [c1, d10]
      exact e1
    have e0 : fX1_endOf (ii e) sg.2.2.2.2.2.2.2.2.1 = some (ii (enz e)) := by
      rw [d6]
      exact e_endOf he
    unfold fX4_spread
    rw [e_col (by omega) (by omega), bd_eq, if_neg ii10, if_neg g1, if_pos g2, e0, bd_eq, ii_sub, e1', bd_eq]
  rcases e2 with ⟨v0, v1, v2, v3, v4⟩ | ⟨v0, v1, v2, v3, v4, v5, v6⟩
  · refine ⟨sameC (-5) sg, (-5, sm.1, sm.2.2.2.2.1, sm.2.2.2.2.2.2.1, il y1, il y2, il y3, il y4, il y5, il y6, il y7, il y8), ?_, ?_, rfl, hI⟩
    · rw [hcl, v0, if_pos ii00, v1, v2, v3, ← c1]
      rfl
    · rw [hml]
      rcases Classical.em (sumF (btI (pf P e) d n) n = 0) with q | q
      · rw [q, if_pos ii00, ← c2]
      · rw [if_neg (show ¬ ii (sumF (btI (pf P e) d n) n) = 0 by rw [q_0, ii_eq (by omega) (by omega) (by omega) (by omega)]; exact q)]
        rcases Int.lt_or_le 0 (w - enz e) with u | u
        · rw [if_pos (by rw [q_0, ii_lt (by omega) (by omega) (by omega) (by omega)]; exact u), arem_ii (by omega) (by omega) (by omega) (by omega), Int.tmod_eq_emod_of_nonneg (by omega)]
          have h107 := m_107 hS0 (more := w - enz e) (kept := sm.1) (hist := sm.2.2.2.2.2.2.1) (y1 := y1) (y2 := y2) (y3 := y3) (y4 := y4) (y5 := y5) (y6 := y6) (y7 := y7) u (by omega) (by omega) n 0 Fu (by omega) (by rw [Fu_s]; omega)
          have hz : hsF (riI (pf P e) d n (w - enz e)) 1 n = 0 := by omega
          rw [hz, if_pos rfl] at h107
          have h107' := h107
          rw [show sumF (btI (pf P e) d n) 0 = 0 from rfl, Int.sub_zero] at h107'
          rw [← c2] at h107' ⊢
          exact h107'
        · rw [if_neg (by rw [q_0, ii_lt (by omega) (by omega) (by omega) (by omega)]; omega), ← c2]
  · have hbg : ∀ b, b < n → btI (pf P e) d n b = 1 → pf P e b 0 = 2 ∧ 1 ≤ hnI (pf P e) d n (w - enz e) b ∧ hnI (pf P e) d n (w - enz e) b ≤ 3000 := fun b hb q => by
      have hk2 := (btI_iff.mp q).1
      have hf := (p4 b (by omega)).1.1
      have h5 : 1 ≤ pf P e b 5 ∧ pf P e b 5 ≤ 3000 := by
        unfold FlOK at hf
        omega
      obtain ⟨x1, x2, x3, x4⟩ := by_b (d := d) v1 (show w - enz e ≤ 9999 by omega) v2 b
      refine ⟨hk2, ?_⟩
      unfold hnI byI
      split <;> (try split) <;> (try split) <;> omega
    have hrs : ∀ Y, MSpS Q Y e (hnI (pf P e) d n (w - enz e)) (btI (pf P e) d n) n → RS Z Y := fun Y hY => hRS.spr he hn v4 hY (btI_01 _ _ _) hbg
    obtain ⟨Zq, z1, z2, z3, z4, z5, z6, z7, z8, j1, j2, j3⟩ := m_204 hS0 (more := w - enz e) (kept := kk) (hist := il Bz) (y1 := y1) (y2 := y2) (y3 := y3) (y4 := y4) (y5 := y5) (y6 := y6) (y7 := y7) v1 (by omega) v2 (fun Y hY => (hrs Y hY).rg) n 0 Fu Q (by omega) (by rw [Fu_s]; omega) (MSpS.start _ _ _ _)
    have hRS2 := hrs Zq j2
    obtain ⟨cu, lcx, enx, ovx, ahx, bex, spx, blx, lbx, l1, l2, hinv⟩ := hnew Z Zq hRS2
    rw [← hRS2.2.2.2.1] at j3
    have hen2 := hRS2.en l2 j3 he
    refine ⟨outC (ii (enx e)) Z cu lcx enx ovx ahx bex spx blx lbx kk Az, out12 (ii (z4 e)) kk Zq Bz z1 z2 z3 z4 z5 z6 z7 z8, ?_, ?_, congrArg ii hen2, hinv (ii (enx e))⟩
    · rw [hcl, v0, if_neg ii10, l1, bd_eq]
      dsimp only
      rw [e_endOf he, bd_eq, v5, v6]
      try rfl
    · rw [hml, if_neg (by rw [q_0, ii_eq (by omega) (by omega) (by omega) (by omega)]; omega), if_pos (by rw [q_0, ii_lt (by omega) (by omega) (by omega) (by omega)]; exact v1), arem_ii (by omega) (by omega) (by omega) (by omega), Int.tmod_eq_emod_of_nonneg (by omega)]
      have h107 := m_107 hS0 (more := w - enz e) (kept := sm.1) (hist := sm.2.2.2.2.2.2.1) (y1 := y1) (y2 := y2) (y3 := y3) (y4 := y4) (y5 := y5) (y6 := y6) (y7 := y7) v1 (by omega) v2 n 0 Fu (by omega) (by rw [Fu_s]; omega)
      rw [v3, if_neg (by decide), r2, bd_eq] at h107
      rw [show sumF (btI (pf P e) d n) 0 = 0 from rfl, Int.sub_zero] at h107 j1
      exact h107.trans j1
