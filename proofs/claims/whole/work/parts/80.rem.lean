/-! a block taken out -/
theorem blk_cases {P Q : Nat → Int} (h : RS P Q) {c b : Int} (hc1 : -2147483648 ≤ c) (hc2 : c < 2147483648) (hb1 : -2147483648 ≤ b) (hb2 : b < 2147483648) :
    (∃ d k : Nat, c = d ∧ b = k ∧ d < 4 ∧ (k : Int) < pn P d) ∨ (fX2_hasBlock (ii c) (ii b) (il P) = some (ii 0) ∧ fX5_isBlock (ii c) (ii b) (il Q) = some (ii 0)) := by
  rcases Classical.em (c < 0 ∨ 4 ≤ c) with hc | hc
  · right
    constructor
    · unfold fX2_hasBlock
      rcases Int.lt_or_le b 0 with hb | hb
      · rw [if_pos (by rw [q_0, ii_lt (by omega) (by omega) (by omega) (by omega)]; omega)]
        rfl
      · rw [if_neg (by rw [q_0, ii_lt (by omega) (by omega) (by omega) (by omega)]; omega), e_blocksF hc1 hc2 hc, bd_eq, if_pos (by rw [ii_le (by omega) (by omega) (by omega) (by omega)]; omega)]
        rfl
    · unfold fX5_isBlock
      rw [m_colF hc1 hc2 hc, bd_eq, if_pos ii00]
      rfl
  · obtain ⟨d, rfl⟩ : ∃ d : Nat, c = d := ⟨c.toNat, by omega⟩
    have hd : d < 4 := by omega
    obtain ⟨p1, p2, p3, p4⟩ := h.at hd
    rcases Classical.em (b < 0 ∨ pn P d ≤ b) with hb | hb
    · right
      constructor
      · unfold fX2_hasBlock
        rcases Int.lt_or_le b 0 with hb3 | hb3
        · rw [if_pos (by rw [q_0, ii_lt (by omega) (by omega) (by omega) (by omega)]; omega)]
          rfl
        · rw [if_neg (by rw [q_0, ii_lt (by omega) (by omega) (by omega) (by omega)]; omega), e_blocks hd, bd_eq, if_pos (by rw [ii_le (by omega) (by omega) (by omega) (by omega)]; omega)]
          rfl
      · unfold fX5_isBlock
        rw [m_colT (by omega) (by omega), bd_eq, if_neg ii10, m_blocks hd, bd_eq, q_0, q_1, ii_sub, m_inF hb1 hb2 (by omega) (by omega) (by omega) (by omega) (by omega), bd_eq, if_pos rfl]
    · left
      exact ⟨d, b.toNat, rfl, by omega, hd, by omega⟩
theorem m_isBlockT {Q : Nat → Int} {c b : Nat} (hc : c < 4) (hb : (b : Int) < mn Q c) (hn : mn Q c ≤ 16) : fX5_isBlock (ii c) (ii b) (il Q) = some (ii 1) := by
  unfold fX5_isBlock
  rw [m_colT (by omega) (by omega), bd_eq, if_neg ii10, m_blocks hc, bd_eq, q_0, q_1, ii_sub, m_inT (by omega) (by omega) (by omega) (by omega), bd_eq, if_neg (by decide)]
theorem e_moveBlocks {P : Nat → Int} {x y m : Nat} (h1 : x + 6 * m ≤ 393) (h2 : y + 6 * m ≤ 393) : fX2_moveBlocks (ii x) (ii y) (ii m) (il P) = some (il (va_cpy P P x y (6 * m))) := by
  unfold fX2_moveBlocks
  rw [q_6, ii_mul, e_copySame (by omega) (by omega) (by omega) (by omega) (by omega) (by omega), bd_eq, show ((m : Int) * 6).toNat = 6 * m by omega, Int.toNat_natCast, Int.toNat_natCast]
def Rem (P Pz : Nat → Int) (c b n : Nat) : Prop := pn Pz c = ((n : Nat) : Int) ∧ (∀ d, d < b → ∀ k, k < 6 → pf Pz c d k = pf P c d k) ∧ (∀ d, b ≤ d → d < n → ∀ k, k < 6 → pf Pz c d k = pf P c (d + 1) k) ∧ ∀ j, j ≠ 5 + c → (j < 9 + (c * 16) * 6 ∨ 9 + (c * 16 + 16) * 6 ≤ j) → Pz j = P j
def MRem (Q Qz : Nat → Int) (c b n : Nat) : Prop := mn Qz c = ((n : Nat) : Int) ∧ (∀ d, d < b → ∀ k, k < 6 → mf Qz c d k = mf Q c d k) ∧ (∀ d, b ≤ d → d < n → ∀ k, k < 6 → mf Qz c d k = mf Q c (d + 1) k) ∧ ∀ j, j ≠ 5 + 97 * c → (j < 6 + 97 * c ∨ 6 + 97 * c + 96 ≤ j) → Qz j = Q j
theorem e_takeOut {P : Nat → Int} {c b n : Nat} (hc : c < 4) (hb : b ≤ n) (hn : n < 16) (hp : pn P c = ((n + 1 : Nat) : Int)) : ∃ Pz : Nat → Int, fX2_takeOut (ii c) (ii b) (il P) = some (il Pz) ∧ Rem P Pz c b n := by
  obtain ⟨P1, hP1⟩ : ∃ P1, P1 = va_cpy P P (9 + (c * 16 + (b + 1)) * 6) (9 + (c * 16 + b) * 6) (6 * (n - b)) := ⟨_, rfl⟩
  have hout : ∀ j, j < 9 + (c * 16 + b) * 6 ∨ 9 + (c * 16 + n) * 6 ≤ j → P1 j = P j := fun j hj => by
    rw [hP1, cpy_out (by omega)]
  have hin : ∀ d, b ≤ d → d < n → ∀ k, k < 6 → P1 (9 + (c * 16 + d) * 6 + k) = P (9 + (c * 16 + (d + 1)) * 6 + k) := fun d h1 h2 k hk => by
    rw [hP1, cpy_in (by omega) (by omega)]
    exact congrArg P (by omega)
  have hp1 : pn P1 c = ((n + 1 : Nat) : Int) := (hout (5 + c) (by omega)).trans hp
  refine ⟨zu P1 (5 + c) (n : Nat), ?_, zu_eq _ _ _, fun d hd k hk => ?_, fun d h1 h2 k hk => ?_, fun j h1 h2 => ?_⟩
  · unfold fX2_takeOut
    rw [e_hasBlock hc (by omega) (by omega), bd_eq, if_neg ii10, e_blocks hc, bd_eq, hp, q_1, ii_sub, ii_sub, ii_add, nm_eq, show ((b : Int) + 1) = ((b + 1 : Nat) : Int) by omega, e_cellAtN, bd_eq, e_cellAtN, bd_eq, show (((n + 1 : Nat) : Int) - 1 - (b : Int)) = ((n - b : Nat) : Int) by omega, e_moveBlocks (by omega) (by omega), bd_eq, ← hP1, e_blocks hc, bd_eq, hp1, ii_sub, show (((n + 1 : Nat) : Int) - 1) = (n : Nat) by omega, e_changeBlocks hc (by omega) (by omega), bd_eq]
  · show zu P1 (5 + c) _ (9 + (c * 16 + d) * 6 + k) = P (9 + (c * 16 + d) * 6 + k)
    rw [zu_ne (by omega)]
    exact hout _ (by omega)
  · show zu P1 (5 + c) _ (9 + (c * 16 + d) * 6 + k) = P (9 + (c * 16 + (d + 1)) * 6 + k)
    rw [zu_ne (by omega)]
    exact hin d h1 h2 k hk
  · rw [zu_ne h1]
    exact hout _ (by omega)
theorem m_23 {c e n : Nat} (hc : c < 4) (hn : n < 16) (he : e = 6 + 97 * c + 6 * n) : ∀ (r j fu : Nat) (B : Nat → Int), j + r = e → r < fu → 6 + 97 * c ≤ j → mn B c = (n : Nat) → ∃ B1 : Nat → Int, fX5_drops_23 (ii c) fu (ii j) (il B) = some (il B1) ∧ (∀ i, j ≤ i → i < e → B1 i = B (i + 6)) ∧ (∀ i, i < j ∨ e ≤ i → B1 i = B i) := by
  intro r
  induction r with
  | zero =>
    intro j fu B hj hf hj0 hm
    obtain ⟨fu', rfl⟩ : ∃ q, fu = q + 1 := ⟨fu - 1, by omega⟩
    refine ⟨B, ?_, fun i h1 h2 => absurd h1 (by omega), fun _ _ => rfl⟩
    rw [fX5_drops_23]
    dsimp only
    rw [m_blocks hc, bd_eq, hm, q_0, m_cell, bd_eq, if_pos (by rw [ii_le (by omega) (by omega) (by omega) (by omega)]; omega)]
  | succ r ih =>
    intro j fu B hj hf hj0 hm
    obtain ⟨fu', rfl⟩ : ∃ q, fu = q + 1 := ⟨fu - 1, by omega⟩
    obtain ⟨B1, e1, e2, e3⟩ := ih (j + 1) fu' (zu B j (B (j + 6))) (by omega) (by omega) (by omega) ((zu_ne (by omega)).trans hm)
    refine ⟨B1, ?_, fun i h1 h2 => ?_, fun i h => by rw [e3 i (by omega), zu_ne (by omega)]⟩
    · rw [fX5_drops_23]
      dsimp only
      rw [m_blocks hc, bd_eq, hm, q_0, m_cell, bd_eq, if_neg (by rw [ii_le (by omega) (by omega) (by omega) (by omega)]; omega), q_6, ii_add, aget_ii (by omega) (by omega) (by omega), il_app, aset_ii (by omega) (by omega) (by omega), nm_eq, q_1, ii_add, Int.toNat_natCast, show ((j : Int) + 6).toNat = j + 6 by omega, show ((j : Int) + 1) = ((j + 1 : Nat) : Int) by omega]
      exact e1
    · rcases Nat.lt_or_ge i (j + 1) with h3 | h3
      · have e : i = j := by omega
        rw [e, e3 j (by omega), zu_eq]
      · rw [e2 i h3 h2, zu_ne (by omega)]
theorem m_drops {Q : Nat → Int} {c b n : Nat} (hc : c < 4) (hb : b ≤ n) (hn : n < 16) (hq : mn Q c = ((n + 1 : Nat) : Int)) : ∃ Qz : Nat → Int, fX5_drops (ii c) (ii b) (il Q) = some (il Qz) ∧ MRem Q Qz c b n := by
  obtain ⟨Qz, e1, e2, e3⟩ := m_23 hc hn rfl (6 * (n - b)) (6 + 97 * c + 6 * b) Fu (zu Q (5 + 97 * c) (n : Nat)) (by omega) (by rw [Fu_s]; omega) (by omega) (zu_eq _ _ _)
  refine ⟨Qz, ?_, ?_, fun d hd k hk => ?_, fun d h1 h2 k hk => ?_, fun j h1 h2 => ?_⟩
  · unfold fX5_drops
    have hq2 : Q (5 + 97 * c) = ((n + 1 : Nat) : Int) := hq
    rw [q_5, q_97, ii_mul, ii_add, aget_ii (by omega) (by omega) (by omega), il_app, show (5 + 97 * (c : Int)).toNat = 5 + 97 * c by omega, hq2, q_1, ii_sub, aset_ii (by omega) (by omega) (by omega), show (5 + 97 * (c : Int)).toNat = 5 + 97 * c by omega, show (((n + 1 : Nat) : Int) - 1) = (n : Nat) by omega, q_0, m_cell, bd_eq, show (5 + 97 * (c : Int) + 1 + 6 * (b : Int) + 0) = ((6 + 97 * c + 6 * b : Nat) : Int) by omega]
    exact e1
  · show Qz (5 + 97 * c) = _
    rw [e3 _ (by omega), zu_eq]
  · show Qz (6 + 97 * c + 6 * d + k) = Q (6 + 97 * c + 6 * d + k)
    rw [e3 _ (by omega), zu_ne (by omega)]
  · show Qz (6 + 97 * c + 6 * d + k) = Q (6 + 97 * c + 6 * (d + 1) + k)
    rw [e2 _ (by omega) (by omega), zu_ne (by omega)]
    exact congrArg Q (by omega)
  · rw [e3 _ (by omega), zu_ne h1]
theorem RS.rem {P Q Pz Qz : Nat → Int} {c b n : Nat} (h : RS P Q) (hc : c < 4) (hn : n < 16) (hp : pn P c = ((n + 1 : Nat) : Int)) (h1 : Rem P Pz c b n) (h2 : MRem Q Qz c b n) : RS Pz Qz := by
  refine h.change (fun j hj => h1.2.2.2 j (by omega) (by omega)) (fun j hj => h2.2.2.2 j (by omega) (by omega)) (fun d hd => ?_)
  obtain ⟨g1, g2, g3, g4⟩ := h.at hd
  rcases Classical.em (d = c) with e | e
  · subst e
    rw [h1.1, h2.1]
    refine ⟨rfl, by omega, by omega, fun x hx => ?_⟩
    rcases Nat.lt_or_ge x b with hxb | hxb
    · exact BR.ext (g4 x (by omega)) (h1.2.1 x hxb) (h2.2.1 x hxb)
    · exact BR.ext (g4 (x + 1) (by omega)) (h1.2.2.1 x hxb (by omega)) (h2.2.2.1 x hxb (by omega))
  · have ep : pn Pz d = pn P d := h1.2.2.2 (5 + d) (by omega) (by omega)
    have em : mn Qz d = mn Q d := h2.2.2.2 (5 + 97 * d) (by omega) (by omega)
    rw [ep, em]
    refine ⟨g1, g2, g3, fun x hx => BR.ext (g4 x hx) (fun k hk => h1.2.2.2 _ (by omega) (by omega)) (fun k hk => h2.2.2.2 _ (by omega) (by omega))⟩
set_option maxHeartbeats 4000000 in
theorem ok_remove : op_remove InvG := by
  intro i1 i2 sg sm hI
  obtain ⟨P, Q, Az, Bz, kk, c1, c2, hRS, r1, r2, hlay, hnew⟩ := act_rec hI
  obtain ⟨c, hc1, hc2, rfl⟩ := ii_of i1
  obtain ⟨b, hb1, hb2, rfl⟩ := ii_of i2
  rcases blk_cases hRS hc1 hc2 hb1 hb2 with ⟨d, x, rfl, rfl, hd, hx⟩ | ⟨w1, w2⟩
  · obtain ⟨p1, p2, p3, p4⟩ := hRS.at hd
    obtain ⟨n, hn⟩ : ∃ n : Nat, pn P d = ((n + 1 : Nat) : Int) := ⟨(pn P d).toNat - 1, by omega⟩
    have hmn : mn Q d = ((n + 1 : Nat) : Int) := by rw [← p1, hn]
    obtain ⟨Pz, e1, e2⟩ := e_takeOut (b := x) hd (by omega) (by omega) hn
    obtain ⟨Qz, f1, f2⟩ := m_drops (b := x) hd (by omega) (by omega) hmn
    obtain ⟨cu, lcz, enz, ovz, ahz, bez, spz, blz, lbz, l1, l2, hinv⟩ := hnew Pz Qz (hRS.rem hd (by omega) hn e2 f2)
    refine ⟨outC (ii n) Pz cu lcz enz ovz ahz bez spz blz lbz kk Az, outM (ii n) kk Qz Bz, ?_, ?_, rfl, hinv (ii n)⟩
    · unfold fX4_remove
      rw [c1, e_hasBlock hd hx p3, bd_eq, if_neg ii10, r1, bd_eq, e1, bd_eq, l1, bd_eq, e_blocks hd, bd_eq, e2.1]
      try rfl
    · unfold fX5_remove
      rw [c2, m_isBlockT hd (by omega) (by omega), bd_eq, if_neg ii10, r2, bd_eq, f1, bd_eq, m_blocks hd, bd_eq, f2.1]
      try rfl
  · refine ⟨sameC (-1) sg, sameM (-1) sm, ?_, ?_, rfl, hI⟩
    · unfold fX4_remove
      rw [c1, w1, bd_eq, if_pos ii00, ← c1]
      rfl
    · unfold fX5_remove
      rw [c2, w2, bd_eq, if_pos ii00, ← c2]
      rfl
