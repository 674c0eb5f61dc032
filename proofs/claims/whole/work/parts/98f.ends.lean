/-! putAll: the class's ends, the reference's ends -/
section
variable {x1 x2 x3 x4 x5 st tl tb tf ta tn : Int32} {ce lc en ov ah be sp bl lb rows tc tr : Nat → Int32}
theorem cp_col {c : Int} (hc1 : -2147483648 ≤ c) (hc2 : c < 2147483648) (hc : c < 0 ∨ 4 ≤ c) : fX4_putAll (ii c) ce x1 x2 x3 x4 x5 lc en ov ah be sp bl lb st rows tl tb tf ta tn tc tr = some (-1, ce, x1, x2, x3, x4, x5, lc, en, ov, ah, be, sp, bl, lb, st, rows, tb, tf, ta, tn, tr) := by
  unfold fX4_putAll
  rw [e_colF hc1 hc2 hc, bd_eq, if_pos ii00]
theorem cp_fault {d f : Nat} (hd : d < 4) (hf : f ≤ 60) {b2 f2 n2 : Int32} {r2 : Nat → Int32} (h : fX3_readBlocks tl tb tf ta tn tc tr = some (ii f, b2, f2, ii f, n2, r2)) : fX4_putAll (ii d) ce x1 x2 x3 x4 x5 lc en ov ah be sp bl lb st rows tl tb tf ta tn tc tr = some (ii (-100 - (f : Int)), ce, x1, x2, x3, x4, x5, lc, en, ov, ah, be, sp, bl, lb, st, rows, b2, f2, ii f, n2, r2) := by
  unfold fX4_putAll
  rw [e_col (by omega) (by omega), bd_eq, if_neg ii10, h, bd_eq]
  dsimp only
  rw [if_neg (show ¬ ii (f : Nat) = -5 by rw [q_5, ii_neg, ii_eq (by omega) (by omega) (by omega) (by omega)]; omega), show (-100 : Int32) = ii (-100) by decide, ii_sub]
theorem cp_bad {d : Nat} (hd : d < 4) {b2 a2 n2 : Int32} {r2 : Nat → Int32} (h : fX3_readBlocks tl tb tf ta tn tc tr = some (-5, b2, ii 0, a2, n2, r2)) : fX4_putAll (ii d) ce x1 x2 x3 x4 x5 lc en ov ah be sp bl lb st rows tl tb tf ta tn tc tr = some (-2, ce, x1, x2, x3, x4, x5, lc, en, ov, ah, be, sp, bl, lb, st, rows, b2, ii 0, a2, n2, r2) := by
  unfold fX4_putAll fX3_allFit
  rw [e_col (by omega) (by omega), bd_eq, if_neg ii10, h, bd_eq]
  dsimp only
  rw [if_pos rfl, bchk_ii (Or.inl rfl), bd_eq, if_pos ii00]
theorem cp_full {P : Nat → Int} {d n0 n : Nat} (hd : d < 4) (hn0 : pn P d = (n0 : Nat)) (h16 : n0 ≤ 16) (h20 : n ≤ 20) (hf : 16 < n0 + n) {a2 n2 : Int32} {r2 : Nat → Int32} (h : fX3_readBlocks tl tb tf ta tn tc tr = some (-5, ii n, ii 1, a2, n2, r2)) : fX4_putAll (ii d) (il P) x1 x2 x3 x4 x5 lc en ov ah be sp bl lb st rows tl tb tf ta tn tc tr = some (-3, il P, x1, x2, x3, x4, x5, lc, en, ov, ah, be, sp, bl, lb, st, rows, ii n, ii 1, a2, n2, r2) := by
  unfold fX4_putAll fX3_allFit fX3_blocks
  rw [e_col (by omega) (by omega), bd_eq, if_neg ii10, h, bd_eq]
  dsimp only
  rw [if_pos rfl, bchk_ii (Or.inr rfl), bd_eq, if_neg ii10, e_blocks hd, bd_eq, hn0, bd_eq, ii_add, if_neg (by rw [q_16, ii_le (by omega) (by omega) (by omega) (by omega)]; omega)]
theorem cp_done {P Pz R : Nat → Int} {d n0 n : Nat} (hd : d < 4) (hn0 : pn P d = (n0 : Nat)) (hf : n0 + n ≤ 16) {a2 n2 kk cu z1 z2 z3 z4 : Int32} {Az : Nat → Int} {w1 w2 w3 w4 w5 w6 w7 w8 : Nat → Int32} (h : fX3_readBlocks tl tb tf ta tn tc tr = some (-5, ii n, ii 1, a2, n2, il R)) (hr : fX0_record st rows (il P) = some (kk, il Az)) (ha : fX2_appendRows 120 (ii d) (ii n) (il P) (il R) = some (il Pz)) (hp : pn Pz d = ((n0 + n : Nat) : Int)) (hl : fX4_layOutAgain (il Pz) x1 x2 x3 x4 x5 lc en ov ah be sp bl lb = some (z1, z2, z3, z4, cu, w1, w2, w3, w4, w5, w6, w7, w8)) : fX4_putAll (ii d) (il P) x1 x2 x3 x4 x5 lc en ov ah be sp bl lb st rows tl tb tf ta tn tc tr = some (ii ((n0 + n : Nat) : Int), il Pz, z1, z2, z3, z4, cu, w1, w2, w3, w4, w5, w6, w7, w8, kk, il Az, ii n, ii 1, a2, n2, il R) := by
  unfold fX4_putAll fX3_allFit fX3_blocks fX3_rows
  rw [e_col (by omega) (by omega), bd_eq, if_neg ii10, h, bd_eq]
  dsimp only
  rw [if_pos rfl, bchk_ii (Or.inr rfl), bd_eq, if_neg ii10, e_blocks hd, bd_eq, hn0, bd_eq, ii_add, if_pos (by rw [q_16, ii_le (by omega) (by omega) (by omega) (by omega)]; omega), hr, bd_eq, bd_eq, bd_eq, ha, bd_eq, hl, bd_eq, e_blocks hd, bd_eq, hp]
theorem cp_read {L : Nat} {A R : Nat → Int} {X : Int32 × Int32 × Int32 × Int32 × Int32 × (Nat → Int32)} (h : fX3_readBlocks_17 (ii L) (il A) Fu (ii ((0 : Nat) : Int)) (ii ((0 : Nat) : Int)) (ii 1) (ii ((0 : Nat) : Int)) tn (il R) = some X) : fX3_readBlocks (ii L) tb tf ta tn (il A) (il R) = some X := by
  have z0 : (0 : Int32) = ii ((0 : Nat) : Int) := by decide
  unfold fX3_readBlocks
  rw [z0, q_1]
  exact h
end
section
variable {kept at0 len : Int32} {hist tx now : Nat → Int32}
theorem mp_col {c : Int} (hc1 : -2147483648 ≤ c) (hc2 : c < 2147483648) (hc : c < 0 ∨ 4 ≤ c) : fX5_putAll (ii c) kept len at0 now hist tx = some (-1, kept, at0, now, hist) := by
  unfold fX5_putAll
  rw [m_colF hc1 hc2 hc, bd_eq, if_pos ii00]
theorem mp_start {d : Nat} (hd : d < 4) : fX5_putAll (ii d) kept len at0 now hist tx = fX5_putAll_21 (ii d) len tx kept hist Fu (ii ((0 : Nat) : Int)) (ii 1) 1 (ii ((0 : Nat) : Int)) now := by
  have z0 : (0 : Int32) = ii ((0 : Nat) : Int) := by decide
  unfold fX5_putAll
  rw [m_colT (by omega) (by omega), bd_eq, if_neg ii10, z0, q_1]
theorem mp_bad {d : Nat} {m : Nat} {n at2 : Int32} : fX5_putAll_21 (ii d) len tx kept hist (m + 1) n (ii 0) 0 at2 now = some (-2, kept, at2, now, hist) := by
  rw [fX5_putAll_21]
  dsimp only
  rw [if_pos rfl, if_pos ii00]
theorem mp_full {d : Nat} {m n0 n : Nat} {at2 : Int32} {Q : Nat → Int} (hd : d < 4) (hn0 : mn Q d = (n0 : Nat)) (h16 : n0 ≤ 16) (h20 : n ≤ 20) (hf : 16 < n0 + n) : fX5_putAll_21 (ii d) len tx kept hist (m + 1) (ii n) (ii 1) 0 at2 (il Q) = some (-3, kept, at2, il Q, hist) := by
  rw [fX5_putAll_21]
  dsimp only
  rw [if_pos rfl, if_neg ii10, m_blocks hd, bd_eq, hn0, ii_add, if_neg (by rw [q_16, ii_le (by omega) (by omega) (by omega) (by omega)]; omega)]
theorem mp_done {d : Nat} {m n0 n : Nat} {at2 kk : Int32} {Q Bz : Nat → Int} (hd : d < 4) (hn0 : mn Q d = (n0 : Nat)) (hf : n0 + n ≤ 16) (hr : fX5_record kept (il Q) hist = some (kk, il Bz)) : fX5_putAll_21 (ii d) len tx kept hist (m + 1) (ii n) (ii 1) 0 at2 (il Q) = fX5_putAll_156 (ii d) len tx (ii n) kk (il Bz) Fu (ii ((0 : Nat) : Int)) (ii ((0 : Nat) : Int)) (il Q) := by
  have z0 : (0 : Int32) = ii ((0 : Nat) : Int) := by decide
  rw [fX5_putAll_21]
  dsimp only
  rw [if_pos rfl, if_neg ii10, m_blocks hd, bd_eq, hn0, ii_add, if_pos (by rw [q_16, ii_le (by omega) (by omega) (by omega) (by omega)]; omega), hr, bd_eq, z0]
end
/-- both have read the text: what stands in it -/
theorem j_start {A B Q R : Nat → Int} {L d : Nat} (h : TxT A B L) {kept num : Int32} {hist : Nat → Int32} :
    (∃ (f : Nat) (bl fi nu : Int32) (R2 : Nat → Int32), f ≤ 60 ∧ fX3_readBlocks_17 (ii L) (il A) Fu (ii ((0 : Nat) : Int)) (ii ((0 : Nat) : Int)) (ii 1) (ii ((0 : Nat) : Int)) num (il R) = some (ii f, bl, fi, ii f, nu, R2) ∧ fX5_putAll_21 (ii d) (ii L) (il B) kept hist Fu (ii ((0 : Nat) : Int)) (ii 1) 1 (ii ((0 : Nat) : Int)) (il Q) = some (ii (-100 - (f : Int)), kept, ii f, il Q, hist))
    ∨ ∃ (n m p2 : Nat) (fit2 : Int) (at1 nu at2 : Int32) (s2 e2 : Nat → Nat) (told2 : Nat → Int) (v2 w2 : Nat → Nat → Int) (R2 : Nat → Int), n ≤ 20 ∧ 0 < n ∧ fX3_readBlocks_17 (ii L) (il A) Fu (ii ((0 : Nat) : Int)) (ii ((0 : Nat) : Int)) (ii 1) (ii ((0 : Nat) : Int)) num (il R) = some (-5, ii n, ii fit2, at1, nu, il R2) ∧ fX5_putAll_21 (ii d) (ii L) (il B) kept hist Fu (ii ((0 : Nat) : Int)) (ii 1) 1 (ii ((0 : Nat) : Int)) (il Q) = fX5_putAll_21 (ii d) (ii L) (il B) kept hist (m + 1) (ii n) (ii fit2) 0 at2 (il Q) ∧ SeqB B L n s2 e2 told2 v2 w2 R2 p2 ∧ FitB n told2 fit2 := by
  have hL := h.1
  have hS : SeqB B L 0 (fun _ => 0) (fun _ => 0) (fun _ => 0) (fun _ _ => 0) (fun _ _ => 0) R 0 := ⟨fun a ha => absurd ha (Nat.not_lt_zero a), fun g => absurd g (Nat.lt_irrefl 0), fun a ha => absurd ha (Nat.not_lt_zero _), fun _ => rfl, fun a ha => absurd ha (by omega)⟩
  have hF : FitB 0 (fun _ => 0) 1 := ⟨Or.inr rfl, fun _ a ha => absurd ha (Nat.not_lt_zero a), fun _ => rfl⟩
  have hfu : L + 1 < Fu := by
    rw [Fu_s]
    omega
  exact j_text h (L + 1) 0 0 Fu Fu _ _ _ _ _ R 1 num (by omega) hfu hfu (Nat.zero_le _) (by omega) hS hF
