/-! a whole text, read by both -/
def upN {α : Type} (f : Nat → α) (k : Nat) (x : α) (a : Nat) : α := if a = k then x else f a
theorem upN_eq {α : Type} (f : Nat → α) (k : Nat) (x : α) : upN f k x k = x := if_pos rfl
theorem upN_ne {α : Type} (f : Nat → α) {k a : Nat} (x : α) (h : a ≠ k) : upN f k x a = f a := if_neg h
section
variable {A B Q : Nat → Int} {L : Nat}
/-- k blocks stand one behind the other from the start of the text, and p is the place behind them -/
def SeqB (B : Nat → Int) (L k : Nat) (s e : Nat → Nat) (told : Nat → Int) (v w : Nat → Nat → Int) (R : Nat → Int) (p : Nat) : Prop := (∀ a, a < k → BkOK B L (s a) (e a) (told a) (v a) (w a) ∧ ∀ j, j < 6 → R (6 * a + j) = v a j) ∧ (0 < k → s 0 = 0) ∧ (∀ a, a + 1 < k → s (a + 1) = e a + 1) ∧ (k = 0 → p = 0) ∧ ∀ a, a + 1 = k → p = e a + 1
theorem SeqB.more {k p q : Nat} {s e : Nat → Nat} {told : Nat → Int} {v w : Nat → Nat → Int} {R R2 : Nat → Int} {td : Int} {v2 w2 : Nat → Int} (h : SeqB B L k s e told v w R p) (hb : BkOK B L p q td v2 w2) (h6 : Six R R2 (6 * k) v2) : SeqB B L (k + 1) (upN s k p) (upN e k q) (upN told k td) (upN v k v2) (upN w k w2) R2 (q + 1) := by
  obtain ⟨h1, h2, h3, h4, h5⟩ := h
  refine ⟨fun a ha => ?_, fun _ => ?_, fun a ha => ?_, fun g => absurd g (by omega), fun a ha => ?_⟩
  · rcases Nat.lt_or_ge a k with g | g
    · rw [upN_ne _ _ (by omega), upN_ne _ _ (by omega), upN_ne _ _ (by omega), upN_ne _ _ (by omega), upN_ne _ _ (by omega)]
      refine ⟨(h1 a g).1, fun j hj => ?_⟩
      rw [h6.2 _ (by omega)]
      exact (h1 a g).2 j hj
    · have ea : a = k := by omega
      subst ea
      rw [upN_eq, upN_eq, upN_eq, upN_eq, upN_eq]
      exact ⟨hb, fun j hj => h6.1 j hj⟩
  · rcases Nat.eq_zero_or_pos k with g | g
    · subst g
      rw [upN_eq]
      exact h4 rfl
    · rw [upN_ne _ _ (by omega)]
      exact h2 g
  · rcases Classical.em (a + 1 = k) with g | g
    · rw [upN_ne e _ (show a ≠ k by omega), ← h5 a g, g, upN_eq]
    · rw [upN_ne _ _ (by omega), upN_ne _ _ (by omega)]
      exact h3 a (by omega)
  · have ea : a = k := by omega
    rw [ea, upN_eq]
theorem and_01 {x : Int} (h : x = 0 ∨ x = 1) : ii x &&& 1 = ii x ∧ ii x &&& 0 = ii 0 := by
  rcases h with rfl | rfl
  · exact ⟨by decide, by decide⟩
  · exact ⟨by decide, by decide⟩
/-- all blocks that were read are as they must be -/
def FitB (k : Nat) (told : Nat → Int) (fit : Int) : Prop := (fit = 0 ∨ fit = 1) ∧ (fit = 1 ↔ ∀ a, a < k → told a = 0)
theorem FitB.more {k : Nat} {told : Nat → Int} {fit td : Int} (h : FitB k told fit) : FitB (k + 1) (upN told k td) (if td = 0 then fit else 0) := by
  obtain ⟨h1, h2⟩ := h
  rcases Classical.em (td = 0) with g | g
  · rw [if_pos g]
    refine ⟨h1, h2.trans ⟨fun w a ha => ?_, fun w a ha => ?_⟩⟩
    · rcases Nat.lt_or_ge a k with u | u
      · rw [upN_ne _ _ (by omega)]
        exact w a u
      · have e : a = k := by omega
        rw [e, upN_eq]
        exact g
    · have := w a (by omega)
      rw [upN_ne _ _ (by omega)] at this
      exact this
  · rw [if_neg g]
    refine ⟨Or.inl rfl, ⟨fun w => absurd w (by decide), fun w => ?_⟩⟩
    have := w k (by omega)
    rw [upN_eq] at this
    exact absurd this g
abbrev O5 : Type := Int32 × Int32 × Int32 × (Nat → Int32) × (Nat → Int32)
theorem m_101 {k21 : Int32 → Int32 → Int32 → Int32 → (Nat → Int32) → Option O5} {c : Int32} {k : Nat} {fit td : Int} {w4 kept at1 : Int32} {now hist tx : Nat → Int32} {len : Int32} (hfit : fit = 0 ∨ fit = 1) (htd : td = 0 ∨ td = -2) : fX5_putAll_101 k21 c len tx (ii k) (ii fit) (ii td) w4 kept at1 now hist = k21 (ii ((k + 1 : Nat) : Int)) (ii (if td = 0 then fit else 0)) w4 at1 now := by
  have ha := and_01 hfit
  unfold fX5_putAll_101 fX5_putAll_114
  rcases htd with g | g
  · rw [g, if_pos ii00, if_pos rfl, nm_eq, nm_eq, ii_suc, ha.1]
  · rw [g, if_neg (by decide), if_neg (by decide), nm_eq, nm_eq, ii_suc, ha.2]
theorem j_text (h : TxT A B L) {c : Nat} {kept : Int32} {hist : Nat → Int32} : ∀ (r k p fu fv : Nat) (s e : Nat → Nat) (told : Nat → Int) (v w : Nat → Nat → Int) (R : Nat → Int) (fit : Int) (num : Int32), L + 1 ≤ p + r → r < fu → r < fv → p ≤ L → 3 * k ≤ p → SeqB B L k s e told v w R p → FitB k told fit →
    (∃ (f : Nat) (bl fi nu : Int32) (R2 : Nat → Int32), f ≤ 60 ∧ fX3_readBlocks_17 (ii L) (il A) fu (ii k) (ii k) (ii fit) (ii p) num (il R) = some (ii f, bl, fi, ii f, nu, R2) ∧ fX5_putAll_21 (ii c) (ii L) (il B) kept hist fv (ii k) (ii fit) 1 (ii p) (il Q) = some (ii (-100 - (f : Int)), kept, ii f, il Q, hist))
    ∨ ∃ (n m p2 : Nat) (fit2 : Int) (at1 nu at2 : Int32) (s2 e2 : Nat → Nat) (told2 : Nat → Int) (v2 w2 : Nat → Nat → Int) (R2 : Nat → Int), n ≤ 20 ∧ 0 < n ∧ fX3_readBlocks_17 (ii L) (il A) fu (ii k) (ii k) (ii fit) (ii p) num (il R) = some (-5, ii n, ii fit2, at1, nu, il R2) ∧ fX5_putAll_21 (ii c) (ii L) (il B) kept hist fv (ii k) (ii fit) 1 (ii p) (il Q) = fX5_putAll_21 (ii c) (ii L) (il B) kept hist (m + 1) (ii n) (ii fit2) 0 at2 (il Q) ∧ SeqB B L n s2 e2 told2 v2 w2 R2 p2 ∧ FitB n told2 fit2 := by
  have hL := h.1
  intro r
  induction r with
  | zero =>
    intro k p fu fv s e told v w R fit num hp hf hg hpL h3 hS hF
    omega
  | succ r ih =>
    intro k p fu fv s e told v w R fit num hp hf hg hpL h3 hS hF
    obtain ⟨n, rfl⟩ : ∃ n, fu = n + 1 := ⟨fu - 1, by omega⟩
    obtain ⟨m, rfl⟩ : ∃ m, fv = m + 1 := ⟨fv - 1, by omega⟩
    have hcl0 : ∀ (X : Option (Int32 × Int32 × Int32 × Int32 × Int32 × (Nat → Int32))), (bd (fX3_readBlock (ii L) (ii k) (ii fit) (ii p) num (il A) (il R)) fun qo1 => if qo1.1 = 0 then (some (qo1.2.2.2.1, qo1.2.1, qo1.2.2.1, qo1.2.2.2.1, qo1.2.2.2.2.1, qo1.2.2.2.2.2)) else (if qo1.2.2.2.1 < ii L then (bd (fX3_passes 59 (ii L) qo1.2.2.2.1 (il A)) fun qo2 => if qo2.1 = 0 then (some (qo2.2, qo1.2.1, qo1.2.2.1, qo2.2, qo1.2.2.2.2.1, qo1.2.2.2.2.2)) else (nm (ii k + 1) fun qx3 => (fX3_readBlocks_17 (ii L) (il A) n) qx3 qo1.2.1 qo1.2.2.1 qo2.2 qo1.2.2.2.2.1 qo1.2.2.2.2.2)) else (some ((-5), qo1.2.1, qo1.2.2.1, qo1.2.2.2.1, qo1.2.2.2.2.1, qo1.2.2.2.2.2)))) = X → fX3_readBlocks_17 (ii L) (il A) (n + 1) (ii k) (ii k) (ii fit) (ii p) num (il R) = X := by
      intro X hX
      rw [fX3_readBlocks_17]
      dsimp only
      rw [if_neg (by rw [q_60, ii_lt (by omega) (by omega) (by omega) (by omega)]; omega)]
      exact hX
    rcases j_block h hF.1 hpL h3 num R with ⟨q, num2, q1, q2, e1, e2⟩ | ⟨q, num2, td, v2, w2, R2, e1, e2, e3, e4⟩
    · refine Or.inl ⟨q, ii k, ii fit, num2, il R, by omega, hcl0 _ ?_, ?_⟩
      · rw [e1, bd_eq]
        dsimp only
        rw [if_pos ii00]
      · rw [fX5_putAll_21]
        dsimp only
        rw [if_neg (by decide), e2 c Q, bd_eq]
        dsimp only
        unfold fX5_putAll_61
        rw [if_pos (by decide), show (-100 : Int32) = ii (-100) by decide, ii_sub]
    · obtain ⟨k1, k2, k3, k4, k5, k6⟩ := id e3
      have htd100 : ¬ ii td = -100 := by
        rw [show (-100 : Int32) = ii (-100) by decide, ii_eq (by omega) (by omega) (by omega) (by omega)]
        omega
      have hS2 := hS.more e3 e2
      have hF2 := hF.more (td := td)
      rcases Nat.lt_or_ge q L with g | g
      · rcases Classical.em (q < L ∧ B q = 59) with g2 | g2
        · have s1 := e_psT h g2.1 g2.2
          have s2 := m_stT h g2.1 g2.2
          have hc1 : fX3_readBlocks_17 (ii L) (il A) (n + 1) (ii k) (ii k) (ii fit) (ii p) num (il R) = fX3_readBlocks_17 (ii L) (il A) n (ii ((k + 1 : Nat) : Int)) (ii ((k + 1 : Nat) : Int)) (ii (if td = 0 then fit else 0)) (ii ((q + 1 : Nat) : Int)) num2 (il R2) := by
            apply hcl0
            rw [e1, bd_eq]
            dsimp only
            rw [if_neg ii10, if_pos (by rw [ii_lt (by omega) (by omega) (by omega) (by omega)]; omega), q_59, s1, bd_eq]
            dsimp only
            rw [if_neg ii10, nm_eq, ii_suc]
          have hm1 : fX5_putAll_21 (ii c) (ii L) (il B) kept hist (m + 1) (ii k) (ii fit) 1 (ii p) (il Q) = fX5_putAll_21 (ii c) (ii L) (il B) kept hist m (ii ((k + 1 : Nat) : Int)) (ii (if td = 0 then fit else 0)) 1 (ii ((q + 1 : Nat) : Int)) (il Q) := by
            have h96 : fX5_putAll_96 (fX5_putAll_21 (ii c) (ii L) (il B) kept hist m) (ii c) (ii L) (il B) (ii k) (ii fit) (ii td) kept (ii ((q + 1 : Nat) : Int)) (il Q) hist = fX5_putAll_21 (ii c) (ii L) (il B) kept hist m (ii ((k + 1 : Nat) : Int)) (ii (if td = 0 then fit else 0)) 1 (ii ((q + 1 : Nat) : Int)) (il Q) := by
              unfold fX5_putAll_96
              exact m_101 hF.1 k4
            rw [fX5_putAll_21]
            dsimp only
            rw [if_neg (by decide), e4 c Q, bd_eq]
            dsimp only
            rw [if_neg htd100, if_neg (le_iiF (by omega) (by omega) g), q_59, s2, bd_eq]
            dsimp only
            rw [if_neg ii10]
            unfold fX5_putAll_69
            rw [h96]
            rcases Nat.lt_or_ge (q + 1) L with g3 | g3
            · rw [if_pos (by rw [ii_lt (by omega) (by omega) (by omega) (by omega)]; omega)]
            · rw [if_neg (by rw [ii_lt (by omega) (by omega) (by omega) (by omega)]; omega), q_1, ii_sub, show (((q + 1 : Nat) : Int) - 1) = (q : Nat) by omega, tx_b h g2.1, if_pos (by rw [g2.2, q_59])]
          have hi := ih (k + 1) (q + 1) n m _ _ _ _ _ R2 (if td = 0 then fit else 0) num2 (by omega) (by omega) (by omega) (by omega) (by omega) hS2 hF2
          rw [hc1, hm1]
          exact hi
        · have s1 := e_psF h (show q ≤ 60 by omega) (by omega) (by omega) g2
          have s2 := m_stF h (show q ≤ 60 by omega) (by omega) (by omega) g2
          refine Or.inl ⟨q, ii ((k + 1 : Nat) : Int), ii (if td = 0 then fit else 0), num2, il R2, by omega, hcl0 _ ?_, ?_⟩
          · rw [e1, bd_eq]
            dsimp only
            rw [if_neg ii10, if_pos (by rw [ii_lt (by omega) (by omega) (by omega) (by omega)]; omega), q_59, s1, bd_eq]
            dsimp only
            rw [if_pos ii00]
          · rw [fX5_putAll_21]
            dsimp only
            rw [if_neg (by decide), e4 c Q, bd_eq]
            dsimp only
            rw [if_neg htd100, if_neg (le_iiF (by omega) (by omega) g), q_59, s2, bd_eq]
            dsimp only
            unfold fX5_putAll_61
            rw [if_pos ii00, show (-100 : Int32) = ii (-100) by decide, ii_sub]
      · obtain ⟨m2, rfl⟩ : ∃ m2, m = m2 + 1 := ⟨m - 1, by omega⟩
        have hq1 : q - 1 < L := by omega
        have hbq := h.2 (q - 1) hq1
        refine Or.inr ⟨k + 1, m2, q + 1, (if td = 0 then fit else 0), ii q, num2, ii q, _, _, _, _, _, R2, by omega, by omega, hcl0 _ ?_, ?_, hS2, hF2⟩
        · rw [e1, bd_eq]
          dsimp only
          rw [if_neg ii10, if_neg (by rw [ii_lt (by omega) (by omega) (by omega) (by omega)]; omega)]
        · rw [fX5_putAll_21]
          dsimp only
          rw [if_neg (by decide), e4 c Q, bd_eq]
          dsimp only
          rw [if_neg htd100, if_pos (le_iiT (by omega) (by omega) g)]
          unfold fX5_putAll_69
          rw [if_neg (by rw [ii_lt (by omega) (by omega) (by omega) (by omega)]; omega), q_1, ii_sub, show ((q : Int) - 1) = ((q - 1 : Nat) : Int) by omega, tx_b h hq1, if_neg (by rw [q_59, ii_eq (by omega) (by omega) (by omega) (by omega)]; exact k3)]
          exact m_101 hF.1 k4
/-- blocks put behind the others, on either side -/
def PutN (P Pz : Nat → Int) (c n0 n : Nat) (v : Nat → Nat → Int) : Prop := pn Pz c = ((n0 + n : Nat) : Int) ∧ (∀ a, a < n → ∀ j, j < 6 → pf Pz c (n0 + a) j = v a j) ∧ ∀ j, j ≠ 5 + c → (j < 9 + (c * 16 + n0) * 6 ∨ 9 + (c * 16 + n0 + n) * 6 ≤ j) → Pz j = P j
def MPutN (Q Qz : Nat → Int) (c n0 n : Nat) (w : Nat → Nat → Int) : Prop := mn Qz c = ((n0 + n : Nat) : Int) ∧ (∀ a, a < n → ∀ j, j < 6 → mf Qz c (n0 + a) j = w a j) ∧ ∀ j, j ≠ 5 + 97 * c → (j < 6 + 97 * c + 6 * n0 ∨ 6 + 97 * c + 6 * (n0 + n) ≤ j) → Qz j = Q j
theorem m_156 (h : TxT A B L) {c n0 n : Nat} {kept : Int32} {hist : Nat → Int32} {s e : Nat → Nat} {told : Nat → Int} {v w : Nat → Nat → Int} {R : Nat → Int} {p : Nat} (hc : c < 4) (hn16 : n0 + n ≤ 16) (hS : SeqB B L n s e told v w R p) :
    ∀ (r a fu x : Nat) (Z : Nat → Int), a + r = n → r < fu → (a < n → x = s a) → MPutN Q Z c n0 a w → ∃ (Qz : Nat → Int) (at1 : Int32), fX5_putAll_156 (ii c) (ii L) (il B) (ii n) kept hist fu (ii a) (ii x) (il Z) = some (ii ((n0 + n : Nat) : Int), kept, at1, il Qz, hist) ∧ MPutN Q Qz c n0 n w := by
  obtain ⟨h1, h2, h3, h4, h5⟩ := hS
  intro r
  induction r with
  | zero =>
    intro a fu x Z ha hf hx hZ
    obtain ⟨m, rfl⟩ : ∃ m, fu = m + 1 := ⟨fu - 1, by omega⟩
    have ea : a = n := by omega
    subst ea
    refine ⟨Z, ii x, ?_, hZ⟩
    rw [fX5_putAll_156]
    dsimp only
    rw [if_pos (le_iiT (by omega) (by omega) (Nat.le_refl _)), m_blocks hc, bd_eq, hZ.1]
  | succ r ih =>
    intro a fu x Z ha hf hx hZ
    obtain ⟨m, rfl⟩ : ∃ m, fu = m + 1 := ⟨fu - 1, by omega⟩
    have han : a < n := by omega
    obtain ⟨⟨k1, k2, k3, k4, k5, k6⟩, k7⟩ := h1 a han
    obtain ⟨Y, y1, y2, y3, y4⟩ := k6 c (n0 + a) Z hc (by omega) hZ.1
    have hput : MPutN Q Y c n0 (a + 1) w := by
      refine ⟨y2, fun b hb j hj => ?_, fun j h1 h2 => ?_⟩
      · rcases Nat.lt_or_ge b a with g | g
        · exact (y4 (6 + 97 * c + 6 * (n0 + b) + j) (by omega) (by omega)).trans (hZ.2.1 b g j hj)
        · have eb : b = a := by omega
          subst eb
          exact y3 j hj
      · rw [y4 j h1 (by omega)]
        exact hZ.2.2 j h1 (by omega)
    obtain ⟨Qz, at1, z1, z2⟩ := ih (a + 1) m (e a + 1) Y (by omega) (by omega) (fun g => (h3 a g).symm) hput
    refine ⟨Qz, at1, ?_, z2⟩
    rw [fX5_putAll_156]
    dsimp only
    rw [if_neg (le_iiF (by omega) (by omega) han), hx han, y1, bd_eq]
    dsimp only
    rw [nm_eq, nm_eq, ii_suc, ii_suc]
    exact z1
theorem e_appendRows {P R : Nat → Int} {c n0 n : Nat} {v : Nat → Nat → Int} (hc : c < 4) (hp : pn P c = (n0 : Nat)) (hn16 : n0 + n ≤ 16) (hR : ∀ a, a < n → ∀ j, j < 6 → R (6 * a + j) = v a j) : ∃ Pz : Nat → Int, fX2_appendRows 120 (ii c) (ii n) (il P) (il R) = some (il Pz) ∧ PutN P Pz c n0 n v := by
  obtain ⟨D, hD⟩ : ∃ D, D = va_cpy R P 0 (9 + (c * 16 + n0) * 6) (n * 6) := ⟨_, rfl⟩
  have hDo : ∀ j, j < 9 + (c * 16 + n0) * 6 ∨ 9 + (c * 16 + n0 + n) * 6 ≤ j → D j = P j := fun j hj => by rw [hD, cpy_out (by omega)]
  have hpD : pn D c = (n0 : Nat) := (hDo (5 + c) (by omega)).trans hp
  refine ⟨zu D (5 + c) ((n0 + n : Nat) : Int), ?_, zu_eq _ _ _, fun a ha j hj => ?_, fun j h1 h2 => ?_⟩
  · unfold fX2_appendRows
    rw [e_col (by omega) (by omega), bd_eq, if_neg ii10, if_neg (by rw [q_0, ii_lt (by omega) (by omega) (by omega) (by omega)]; omega), e_blocks hc, hp, bd_eq, if_neg (by rw [q_16, ii_sub, ii_lt (by omega) (by omega) (by omega) (by omega)]; omega), bd_eq, e_cellAtN, bd_eq, q_0, q_6, ii_mul, e_copy (by omega) (by omega) (by omega) (by omega) (by omega) (by omega) (by omega), bd_eq, Int.toNat_natCast, show ((n : Int) * 6).toNat = n * 6 by omega, show (0 : Int).toNat = 0 from rfl, ← hD, e_blocks hc, bd_eq, hpD, ii_add, show ((n0 : Int) + n) = ((n0 + n : Nat) : Int) by omega, e_changeBlocks hc (by omega) (by omega), bd_eq]
  · show zu D (5 + c) _ (9 + (c * 16 + (n0 + a)) * 6 + j) = v a j
    rw [zu_ne (by omega), hD, cpy_in (by omega) (by omega), ← hR a ha j hj]
    exact congrArg R (by omega)
  · rw [zu_ne h1]
    exact hDo j h2
theorem RS.putN {P Q Pz Qz : Nat → Int} {c n0 n : Nat} {v w : Nat → Nat → Int} (h : RS P Q) (hc : c < 4) (hp : pn P c = (n0 : Nat)) (hn16 : n0 + n ≤ 16) (h1 : PutN P Pz c n0 n v) (h2 : MPutN Q Qz c n0 n w) (h3 : ∀ a, a < n → FlC (v a) ∧ RFl (v a) (w a)) : RS Pz Qz := by
  refine h.change (fun j hj => h1.2.2 j (by omega) (by omega)) (fun j hj => h2.2.2 j (by omega) (by omega)) (fun d hd => ?_)
  obtain ⟨g1, g2, g3, g4⟩ := h.at hd
  rcases Classical.em (d = c) with e | e
  · subst e
    rw [h1.1, h2.1]
    refine ⟨rfl, by omega, by omega, fun b hb => ?_⟩
    rcases Nat.lt_or_ge b n0 with hbn | hbn
    · exact BR.ext (g4 b (by omega)) (fun k hk => h1.2.2 _ (by omega) (by omega)) (fun k hk => h2.2.2 _ (by omega) (by omega))
    · obtain ⟨a, rfl⟩ : ∃ a, b = n0 + a := ⟨b - n0, by omega⟩
      exact BR.ext (h3 a (by omega)) (fun k hk => h1.2.1 a (by omega) k hk) (fun k hk => h2.2.1 a (by omega) k hk)
  · have hcd : d < c ∨ c < d := by omega
    have ep : pn Pz d = pn P d := h1.2.2 (5 + d) (by omega) (by omega)
    have em : mn Qz d = mn Q d := h2.2.2 (5 + 97 * d) (by omega) (by rcases hcd with q | q <;> omega)
    rw [ep, em]
    refine ⟨g1, g2, g3, fun b hb => BR.ext (g4 b hb) (fun k hk => h1.2.2 _ (by omega) (by rcases hcd with q | q <;> omega)) (fun k hk => h2.2.2 _ (by rcases hcd with q | q <;> omega) (by rcases hcd with q | q <;> omega))⟩
end
