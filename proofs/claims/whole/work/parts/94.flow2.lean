/-! the reference's flow -/
section
variable {y1 y2 y3 y4 y5 y6 y7 y8 : Nat → Int}
abbrev O12 : Type := Int32 × Int32 × (Nat → Int32) × (Nat → Int32) × (Nat → Int32) × (Nat → Int32) × (Nat → Int32) × (Nat → Int32) × (Nat → Int32) × (Nat → Int32) × (Nat → Int32) × (Nat → Int32)
abbrev out12 (v kk : Int32) (Qz Bz : Nat → Int) (z1 z2 z3 z4 z5 z6 z7 z8 : Nat → Int) : O12 := (v, kk, il Qz, il Bz, il z1, il z2, il z3, il z4, il z5, il z6, il z7, il z8)
theorem m_232 {c o m : Nat} {s left v : Int} {kk : Int32} {Q Bz : Nat → Int} (hc : c < 3) (ho : o < 16) (hs : s = 0 ∨ (1 ≤ s ∧ s < 41)) : fX5_flow_232 (ii c) (ii o) (ii m) (ii s) (ii left) (5 + (97 * ii c)) (ii v) kk (il Q) (il Bz) (il y1) (il y2) (il y3) (il y4) (il y5) (il y6) (il y7) (il y8) = some (out12 (ii m) kk (if 0 < s then zu (zu (zu Q (5 + 97 * c) v) (6 + 97 * c + 6 * o + 1) s) (6 + 97 * (c + 1) + 6 * 0 + 1) left else zu Q (5 + 97 * c) v) Bz y1 y2 y3 y4 y5 y6 y7 y8) := by
  unfold fX5_flow_232
  rw [q_5, q_97, ii_mul, ii_add, aset_ii (by omega) (by omega) (by omega), show (5 + 97 * (c : Int)).toNat = 5 + 97 * c by omega]
  rcases hs with hs | hs
  · subst hs
    rw [if_pos (by decide), if_neg (by decide)]
  · rw [if_neg (by rw [q_0, ii_le (by omega) (by omega) (by omega) (by omega)]; omega), if_pos (show 0 < s by omega), ii_suc]
    rw [show fX5_cell (ii c) (ii o) 1 = some (ii ((6 + 97 * c + 6 * o + 1 : Nat) : Int)) from m_cellN c o 1, bd_eq, aset_ii (by omega) (by omega) (by omega), Int.toNat_natCast]
    rw [show fX5_cell (ii ((c + 1 : Nat) : Int)) 0 1 = some (ii ((6 + 97 * (c + 1) + 6 * 0 + 1 : Nat) : Int)) from m_cellN (c + 1) 0 1, bd_eq, aset_ii (by omega) (by omega) (by omega), Int.toNat_natCast]
theorem m_163 {c o m : Nat} {s left : Int} {kk : Int32} {Bz : Nat → Int} (hc : c < 3) (ho : o + m ≤ 16) (hm : m ≤ 16) (hm0 : 0 < m) (hs : s = 0 ∨ (1 ≤ s ∧ s < 41)) : ∀ (r k fu : Nat) (B : Nat → Int), k + r = 6 * m → r < fu →
    ∃ C : Nat → Int, fX5_flow_163 (ii c) (ii o) (ii m) (ii s) (ii left) kk (il Bz) (il y1) (il y2) (il y3) (il y4) (il y5) (il y6) (il y7) (il y8) fu (ii k) (il B) = some (out12 (ii m) kk (if 0 < s then zu (zu (zu C (5 + 97 * c) ((o + 1 : Nat) : Int)) (6 + 97 * c + 6 * o + 1) s) (6 + 97 * (c + 1) + 6 * 0 + 1) left else zu C (5 + 97 * c) (o : Nat)) Bz y1 y2 y3 y4 y5 y6 y7 y8)
      ∧ (∀ i, k ≤ i → i < 6 * m → C (6 + 97 * (c + 1) + i) = B (6 + 97 * c + 6 * o + i)) ∧ ∀ j, j < 6 + 97 * (c + 1) + k ∨ 6 + 97 * (c + 1) + 6 * m ≤ j → C j = B j := by
  intro r
  induction r with
  | zero =>
    intro k fu B hk hf
    obtain ⟨n, rfl⟩ : ∃ n, fu = n + 1 := ⟨fu - 1, by omega⟩
    refine ⟨B, ?_, fun i h1 h2 => absurd h1 (by omega), fun _ _ => rfl⟩
    rw [fX5_flow_163]
    dsimp only
    rw [q_6, ii_mul, if_pos (by rw [ii_le (by omega) (by omega) (by omega) (by omega)]; omega), ii_suc, m_232 hc (by omega) hs, m_232 hc (by omega) hs]
    rcases hs with hs | hs
    · subst hs
      rw [if_pos (by decide), if_neg (by decide), if_neg (by decide)]
    · rw [if_neg (by rw [q_0, ii_le (by omega) (by omega) (by omega) (by omega)]; omega), if_pos (show 0 < s by omega), if_pos (show 0 < s by omega)]
  | succ r ih =>
    intro k fu B hk hf
    obtain ⟨n, rfl⟩ : ∃ n, fu = n + 1 := ⟨fu - 1, by omega⟩
    obtain ⟨C, e1, e2, e3⟩ := ih (k + 1) n (zu B (6 + 97 * (c + 1) + k) (B (6 + 97 * c + 6 * o + k))) (by omega) (by omega)
    refine ⟨C, ?_, fun i h1 h2 => ?_, fun j hj => by rw [e3 j (by omega), zu_ne (by omega)]⟩
    · rw [fX5_flow_163]
      dsimp only
      rw [q_6, ii_mul, if_neg (by rw [ii_le (by omega) (by omega) (by omega) (by omega)]; omega), show ii (c : Nat) + 1 = ii ((c + 1 : Nat) : Int) from ii_suc c, show fX5_cell (ii ((c + 1 : Nat) : Int)) 0 0 = some (ii ((6 + 97 * (c + 1) + 6 * 0 + 0 : Nat) : Int)) from m_cellN (c + 1) 0 0, bd_eq, show fX5_cell (ii c) (ii o) 0 = some (ii ((6 + 97 * c + 6 * o + 0 : Nat) : Int)) from m_cellN c o 0, bd_eq, ii_add, ii_add, aget_ii (by omega) (by omega) (by omega), il_app, aset_ii (by omega) (by omega) (by omega), nm_eq, ii_suc, show (((6 + 97 * c + 6 * o + 0 : Nat) : Int) + k).toNat = 6 + 97 * c + 6 * o + k by omega, show (((6 + 97 * (c + 1) + 6 * 0 + 0 : Nat) : Int) + k).toNat = 6 + 97 * (c + 1) + k by omega]
      exact e1
    · rcases Nat.lt_or_ge i (k + 1) with h3 | h3
      · have e : i = k := by omega
        rw [e, e3 _ (by omega), zu_eq]
      · rw [e2 i h3 h2, zu_ne (by omega)]
theorem m_115 {c o m w : Nat} {s left : Int} {kk : Int32} {Bz : Nat → Int} (hc : c < 3) (hwm : w + m ≤ 16) : ∀ (r fu : Nat) (B : Nat → Int), r ≤ 6 * w → r < fu →
    ∃ C : Nat → Int, fX5_flow_115 (ii c) (ii o) (ii m) (ii s) (ii left) kk (il Bz) (il y1) (il y2) (il y3) (il y4) (il y5) (il y6) (il y7) (il y8) fu (ii ((r : Int) - 1)) (il B) = fX5_flow_163 (ii c) (ii o) (ii m) (ii s) (ii left) kk (il Bz) (il y1) (il y2) (il y3) (il y4) (il y5) (il y6) (il y7) (il y8) Fu 0 (il C)
      ∧ (∀ i, i < r → C (6 + 97 * (c + 1) + 6 * m + i) = B (6 + 97 * (c + 1) + i)) ∧ ∀ j, j < 6 + 97 * (c + 1) + 6 * m ∨ 6 + 97 * (c + 1) + 6 * m + r ≤ j → C j = B j := by
  intro r
  induction r with
  | zero =>
    intro fu B hr hf
    obtain ⟨n, rfl⟩ : ∃ n, fu = n + 1 := ⟨fu - 1, by omega⟩
    refine ⟨B, ?_, fun i h1 => absurd h1 (Nat.not_lt_zero i), fun _ _ => rfl⟩
    rw [fX5_flow_115]
    dsimp only
    rw [if_pos (show ii (((0 : Nat) : Int) - 1) < 0 by decide)]
  | succ r ih =>
    intro fu B hr hf
    obtain ⟨n, rfl⟩ : ∃ n, fu = n + 1 := ⟨fu - 1, by omega⟩
    obtain ⟨C, e1, e2, e3⟩ := ih n (zu B (6 + 97 * (c + 1) + 6 * m + r) (B (6 + 97 * (c + 1) + r))) (by omega) (by omega)
    refine ⟨C, ?_, fun i h1 => ?_, fun j hj => by rw [e3 j (by omega), zu_ne (by omega)]⟩
    · rw [fX5_flow_115]
      dsimp only
      rw [show (((r + 1 : Nat) : Int) - 1) = (r : Nat) by omega, if_neg (by rw [q_0, ii_lt (by omega) (by omega) (by omega) (by omega)]; omega), show ii (c : Nat) + 1 = ii ((c + 1 : Nat) : Int) from ii_suc c, show fX5_cell (ii ((c + 1 : Nat) : Int)) (ii m) 0 = some (ii ((6 + 97 * (c + 1) + 6 * m + 0 : Nat) : Int)) from m_cellN (c + 1) m 0, bd_eq, show fX5_cell (ii ((c + 1 : Nat) : Int)) 0 0 = some (ii ((6 + 97 * (c + 1) + 6 * 0 + 0 : Nat) : Int)) from m_cellN (c + 1) 0 0, bd_eq, ii_add, ii_add, aget_ii (by omega) (by omega) (by omega), il_app, aset_ii (by omega) (by omega) (by omega), nm_eq, q_1, ii_neg, ii_add, show (((6 + 97 * (c + 1) + 6 * 0 + 0 : Nat) : Int) + r).toNat = 6 + 97 * (c + 1) + r by omega, show (((6 + 97 * (c + 1) + 6 * m + 0 : Nat) : Int) + r).toNat = 6 + 97 * (c + 1) + 6 * m + r by omega, show ((r : Int) + -1) = (r : Int) - 1 by omega]
      exact e1
    · rcases Nat.lt_or_ge i r with h3 | h3
      · rw [e2 i h3, zu_ne (by omega)]
      · have e : i = r := by omega
        rw [e, e3 _ (by omega), zu_eq]
/-- what the reference does behind its copy -/
theorem m_flow {Q : Nat → Int} {c o m w : Nat} {s : Int} {kk : Int32} {Bz : Nat → Int} (hc : c < 3) (ho : o + m ≤ 16) (hm0 : 0 < m) (hwm : w + m ≤ 16) (hs : s = 0 ∨ (1 ≤ s ∧ s < 41)) :
    ∃ Qz : Nat → Int, fX5_flow_115 (ii c) (ii o) (ii m) (ii s) (ii (mf Q c o 1 - s)) kk (il Bz) (il y1) (il y2) (il y3) (il y4) (il y5) (il y6) (il y7) (il y8) Fu (ii (((6 * w : Nat) : Int) - 1)) (il (zu Q (5 + 97 * (c + 1)) ((w + m : Nat) : Int))) = some (out12 (ii m) kk Qz Bz y1 y2 y3 y4 y5 y6 y7 y8) ∧ MFlo Q Qz c o m w s := by
  obtain ⟨C, e1, e2, e3⟩ := m_115 (c := c) (o := o) (m := m) (w := w) (s := s) (left := mf Q c o 1 - s) (kk := kk) (Bz := Bz) (y1 := y1) (y2 := y2) (y3 := y3) (y4 := y4) (y5 := y5) (y6 := y6) (y7 := y7) (y8 := y8) hc hwm (6 * w) Fu (zu Q (5 + 97 * (c + 1)) ((w + m : Nat) : Int)) (Nat.le_refl _) (by rw [Fu_s]; omega)
  obtain ⟨D, g1, g2, g3⟩ := m_163 (c := c) (o := o) (m := m) (s := s) (left := mf Q c o 1 - s) (kk := kk) (Bz := Bz) (y1 := y1) (y2 := y2) (y3 := y3) (y4 := y4) (y5 := y5) (y6 := y6) (y7 := y7) (y8 := y8) hc ho (by omega) hm0 hs (6 * m) 0 Fu C (by omega) (by rw [Fu_s]; omega)
  have hC : ∀ j, j < 6 + 97 * (c + 1) + 6 * m ∨ 6 + 97 * (c + 1) + 6 * m + 6 * w ≤ j → j ≠ 5 + 97 * (c + 1) → C j = Q j := fun j h1 h2 => by rw [e3 j h1, zu_ne h2]
  have hCi : ∀ i, i < 6 * w → C (6 + 97 * (c + 1) + 6 * m + i) = Q (6 + 97 * (c + 1) + i) := fun i hi => by rw [e2 i hi, zu_ne (by omega)]
  have hD : ∀ j, j < 6 + 97 * (c + 1) ∨ 6 + 97 * (c + 1) + 6 * m ≤ j → D j = C j := fun j h1 => g3 j (by omega)
  have hDi : ∀ i, i < 6 * m → D (6 + 97 * (c + 1) + i) = Q (6 + 97 * c + 6 * o + i) := fun i hi => by rw [g2 i (Nat.zero_le i) hi, hC _ (by omega) (by omega)]
  have hD5 : D (5 + 97 * (c + 1)) = ((w + m : Nat) : Int) := by rw [hD _ (by omega), e3 _ (by omega), zu_eq]
  rcases hs with hs | hs
  · subst hs
    rw [if_neg (by decide)] at g1
    refine ⟨zu D (5 + 97 * c) (o : Nat), e1.trans g1, ?_, ?_, fun b hb k hk => ?_, fun q => absurd q (by decide), fun j hj k hk => ?_, fun j hj k hk => ?_, fun j hj => ?_, fun d hd x1 x2 => ⟨?_, fun b hb k hk => ?_⟩⟩
    · rw [if_neg (by decide)]
      exact zu_eq _ _ _
    · show zu D (5 + 97 * c) _ (5 + 97 * (c + 1)) = _
      rw [zu_ne (by omega), hD5]
    · show zu D (5 + 97 * c) _ (6 + 97 * c + 6 * b + k) = Q (6 + 97 * c + 6 * b + k)
      rw [zu_ne (by omega), hD _ (by omega), hC _ (by omega) (by omega)]
    · rw [if_neg (fun q => absurd q.2 (by decide))]
      show zu D (5 + 97 * c) _ (6 + 97 * (c + 1) + 6 * j + k) = Q (6 + 97 * c + 6 * (o + j) + k)
      rw [zu_ne (by omega), show 6 + 97 * (c + 1) + 6 * j + k = 6 + 97 * (c + 1) + (6 * j + k) by omega, hDi _ (by omega)]
      exact congrArg Q (by omega)
    · show zu D (5 + 97 * c) _ (6 + 97 * (c + 1) + 6 * (m + j) + k) = Q (6 + 97 * (c + 1) + 6 * j + k)
      rw [zu_ne (by omega), hD _ (by omega), show 6 + 97 * (c + 1) + 6 * (m + j) + k = 6 + 97 * (c + 1) + 6 * m + (6 * j + k) by omega, hCi _ (by omega)]
      exact congrArg Q (by omega)
    · rw [zu_ne (by omega), hD _ (by omega), hC _ (by omega) (by omega)]
    · show zu D (5 + 97 * c) _ (5 + 97 * d) = Q (5 + 97 * d)
      rw [zu_ne (by omega), hD _ (by omega), hC _ (by omega) (by omega)]
    · show zu D (5 + 97 * c) _ (6 + 97 * d + 6 * b + k) = Q (6 + 97 * d + 6 * b + k)
      rw [zu_ne (by omega), hD _ (by omega), hC _ (by omega) (by omega)]
  · have hso : 0 < s := by omega
    rw [if_pos hso] at g1
    obtain ⟨E, hE⟩ : ∃ E, E = zu (zu (zu D (5 + 97 * c) ((o + 1 : Nat) : Int)) (6 + 97 * c + 6 * o + 1) s) (6 + 97 * (c + 1) + 6 * 0 + 1) (mf Q c o 1 - s) := ⟨_, rfl⟩
    rw [← hE] at g1
    have hEo : ∀ j, j ≠ 5 + 97 * c → j ≠ 6 + 97 * c + 6 * o + 1 → j ≠ 6 + 97 * (c + 1) + 6 * 0 + 1 → E j = D j := fun j h1 h2 h3 => by rw [hE, zu_ne h3, zu_ne h2, zu_ne h1]
    refine ⟨E, e1.trans g1, ?_, ?_, fun b hb k hk => ?_, fun _ k hk => ?_, fun j hj k hk => ?_, fun j hj k hk => ?_, fun j hj => ?_, fun d hd x1 x2 => ⟨?_, fun b hb k hk => ?_⟩⟩
    · rw [if_pos hso]
      show E (5 + 97 * c) = _
      rw [hE, zu_ne (by omega), zu_ne (by omega), zu_eq]
      omega
    · show E (5 + 97 * (c + 1)) = _
      rw [hEo _ (by omega) (by omega) (by omega), hD5]
    · show E (6 + 97 * c + 6 * b + k) = Q (6 + 97 * c + 6 * b + k)
      rw [hEo _ (by omega) (by omega) (by omega), hD _ (by omega), hC _ (by omega) (by omega)]
    · show E (6 + 97 * c + 6 * o + k) = fldV (mf Q c o) 1 s k
      unfold fldV
      rcases Classical.em (k = 1) with e | e
      · rw [if_pos e, e, hE, zu_ne (by omega), zu_eq]
      · rw [if_neg e, hEo _ (by omega) (by omega) (by omega), hD _ (by omega), hC _ (by omega) (by omega)]
        rfl
    · show E (6 + 97 * (c + 1) + 6 * j + k) = _
      rcases Classical.em (j = 0) with ej | ej
      · rw [if_pos ⟨ej, hso⟩, ej]
        unfold fldV
        rcases Classical.em (k = 1) with e | e
        · rw [if_pos e, e, hE, zu_eq]
        · rw [if_neg e, hEo _ (by omega) (by omega) (by omega), show 6 + 97 * (c + 1) + 6 * 0 + k = 6 + 97 * (c + 1) + k by omega, hDi k (by omega)]
          rfl
      · rw [if_neg (fun q => ej q.1), hEo _ (by omega) (by omega) (by omega), show 6 + 97 * (c + 1) + 6 * j + k = 6 + 97 * (c + 1) + (6 * j + k) by omega, hDi _ (by omega)]
        exact congrArg Q (by omega)
    · show E (6 + 97 * (c + 1) + 6 * (m + j) + k) = Q (6 + 97 * (c + 1) + 6 * j + k)
      rw [hEo _ (by omega) (by omega) (by omega), hD _ (by omega), show 6 + 97 * (c + 1) + 6 * (m + j) + k = 6 + 97 * (c + 1) + 6 * m + (6 * j + k) by omega, hCi _ (by omega)]
      exact congrArg Q (by omega)
    · rw [hEo _ (by omega) (by omega) (by omega), hD _ (by omega), hC _ (by omega) (by omega)]
    · show E (5 + 97 * d) = Q (5 + 97 * d)
      rw [hEo _ (by omega) (by omega) (by omega), hD _ (by omega), hC _ (by omega) (by omega)]
    · show E (6 + 97 * d + 6 * b + k) = Q (6 + 97 * d + 6 * b + k)
      rw [hEo _ (by omega) (by omega) (by omega), hD _ (by omega), hC _ (by omega) (by omega)]
end
theorem e_stay {P sp : Nat → Int} {c o : Nat} {dn : Int} (hP : PgOK P) (hc : c < 4) (ho : (o : Int) < pn P c) (hsp : sp (16 * c + o) = dn) (hd0 : 0 ≤ dn) (hd : dn ≤ 40) : fX4_linesThatStay (ii c) (ii o) (il P) (il sp) = some (ii (stayF (pf P c o) dn (P 4))) := by
  obtain ⟨h0, h1, h2, h3, h4, h5, h6, h7, h8, h9⟩ := hP
  obtain ⟨p1, p2, p3⟩ := h9 c hc
  have hf := (p3 o ho).1
  have ho16 : o < 16 := by omega
  unfold fX4_linesThatStay stayF
  rw [e_f0 hc ho16, bd_eq]
  rcases Classical.em (pf P c o 0 = 0) with q | q
  · have hL : 1 ≤ pf P c o 1 ∧ pf P c o 1 ≤ 40 := by
      unfold FlOK at hf
      omega
    rw [q, if_pos ii00, if_pos rfl, show fX2_fieldOf (ii c) (ii o) 1 (il P) = some (ii (pf P c o 1)) from e_field (k := 1) hc ho16 (by omega), bd_eq, show fX2_settingOf 4 (il P) = some (ii (P 4)) from e_setting (k := 4) (by omega), bd_eq, e_parts hc ho16, bd_eq, hsp, ii_sub]
    rcases Int.lt_or_le (pf P c o 1 - dn) (P 4) with g | g
    · rw [if_pos (by rw [ii_lt (by omega) (by omega) (by omega) (by omega)]; exact g), nm_eq, ii_sub, nm_eq, if_neg (show ¬ dn ≤ pf P c o 1 - P 4 by omega)]
      rcases Int.lt_or_le (pf P c o 1 - P 4) (P 4) with g2 | g2
      · rw [if_neg (by rw [ii_le (by omega) (by omega) (by omega) (by omega)]; omega), if_neg (by omega)]
        rfl
      · rw [if_pos (by rw [ii_le (by omega) (by omega) (by omega) (by omega)]; omega), if_pos g2]
    · rw [if_neg (by rw [ii_lt (by omega) (by omega) (by omega) (by omega)]; omega), nm_eq, ii_sub, nm_eq, show pf P c o 1 - (pf P c o 1 - dn) = dn by omega, if_pos (show dn ≤ pf P c o 1 - P 4 by omega)]
      rcases Int.lt_or_le dn (P 4) with g2 | g2
      · rw [if_neg (by rw [ii_le (by omega) (by omega) (by omega) (by omega)]; omega), if_neg (by omega)]
        rfl
      · rw [if_pos (by rw [ii_le (by omega) (by omega) (by omega) (by omega)]; omega), if_pos g2]
  · rw [if_neg (show ¬ ii (pf P c o 0) = 0 by rw [q_0, ii_eq (by unfold FlOK at hf; omega) (by unfold FlOK at hf; omega) (by omega) (by omega)]; exact q), if_neg q]
    rfl
theorem m_stay {P Q ov dnA : Nat → Int} {c o : Nat} {dn : Int} (hR : RS P Q) (hc : c < 4) (ho : (o : Int) < pn P c) (hov : ov c = o) (hdn : dnA (16 * c + o) = dn) (hd0 : 0 ≤ dn) (hd : dn ≤ 40) : fX5_stays (ii c) (il Q) (il ov) (il dnA) = some (ii (stayF (pf P c o) dn (P 4))) := by
  obtain ⟨p1, p2, p3, p4⟩ := hR.at hc
  obtain ⟨hF, hRl⟩ := p4 o ho
  have hf := hF.1
  obtain ⟨r0, r1, r2⟩ := hRl
  have ho16 : o < 16 := by omega
  have e4 := hR.eq5 (k := 4) (by omega)
  have h78 := hR.1.range (k := 4) (by omega)
  have h7 : 1 ≤ P 4 := h78.1
  have h8 : P 4 ≤ 3 := h78.2
  have f4 : ∀ {α : Type} (q : Int32 → Option α), aget 393 (il Q) 4 q = q (ii (P 4)) := fun q => by
    rw [show aget 393 (il Q) 4 q = q (ii (Q 4)) from aget_ii (z := 4) (by omega) (by omega) (by omega), e4]
  unfold fX5_stays fX5_stays_59 stayF
  rw [aget_ii (by omega) (by omega) (by omega), il_app, Int.toNat_natCast, hov, m_f0 hc ho16, bd_eq, ← r0]
  rcases Classical.em (pf P c o 0 = 0) with q | q
  · have hL : 1 ≤ pf P c o 1 ∧ pf P c o 1 ≤ 40 := by
      unfold FlOK at hf
      omega
    rw [q, if_pos ii00, if_pos rfl, m_place hc ho16, hdn, m_f1 hc ho16, bd_eq, ← (r1 q).1, f4, ii_sub, nm_eq, f4, f4]
    rcases Int.lt_or_le (pf P c o 1 - P 4) dn with g | g
    · rw [if_neg (by rw [ii_le (by omega) (by omega) (by omega) (by omega)]; omega), if_neg (show ¬ dn ≤ pf P c o 1 - P 4 by omega)]
      rcases Int.lt_or_le (pf P c o 1 - P 4) (P 4) with g2 | g2
      · rw [if_neg (by rw [ii_le (by omega) (by omega) (by omega) (by omega)]; omega), if_neg (by omega)]
        rfl
      · rw [if_pos (by rw [ii_le (by omega) (by omega) (by omega) (by omega)]; omega), if_pos g2]
    · rw [if_pos (by rw [ii_le (by omega) (by omega) (by omega) (by omega)]; omega), if_pos g]
      rcases Int.lt_or_le dn (P 4) with g2 | g2
      · rw [if_neg (by rw [ii_le (by omega) (by omega) (by omega) (by omega)]; omega), if_neg (by omega)]
        rfl
      · rw [if_pos (by rw [ii_le (by omega) (by omega) (by omega) (by omega)]; omega), if_pos g2]
  · rw [if_neg (show ¬ ii (pf P c o 0) = 0 by rw [q_0, ii_eq (by unfold FlOK at hf; omega) (by unfold FlOK at hf; omega) (by omega) (by omega)]; exact q), if_neg q]
    rfl
abbrev raw12 (v : Int32) (sm : SM) : O12 := (v, sm.1, sm.2.2.2.2.1, sm.2.2.2.2.2.2.1, sm.2.2.2.2.2.2.2.2.1, sm.2.2.2.2.2.2.2.2.2.1, sm.2.2.2.2.2.2.2.2.2.2.1, sm.2.2.2.2.2.2.2.2.2.2.2.1, sm.2.2.2.2.2.2.2.2.2.2.2.2.1, sm.2.2.2.2.2.2.2.2.2.2.2.2.2.1, sm.2.2.2.2.2.2.2.2.2.2.2.2.2.2.1, sm.2.2.2.2.2.2.2.2.2.2.2.2.2.2.2)
set_option maxHeartbeats 8000000 in
theorem ok_flow : op_flow InvG := by
  intro i1 sg sm hI
  obtain ⟨P, Q, Az, Bz, kk, c1, c2, hRS, r1, r2, ⟨lcz, enz, ovz, ahz, bez, spz, blz, lbz, d1, d2, d3, d4, d5, d6, d7, d8, d9, d10, d11, d12, hlay⟩, hnew⟩ := act_rec hI
  obtain ⟨c, hc1, hc2, rfl⟩ := ii_of i1
  rcases Classical.em (c < 0 ∨ 4 ≤ c) with hc | hc
  · refine ⟨sameC (-1) sg, raw12 (-1) sm, ?_, ?_, rfl, hI⟩
    · unfold fX4_flow
      rw [e_colF hc1 hc2 hc, bd_eq, if_pos ii00]
      rfl
    · unfold fX5_flow
      rw [m_colF hc1 hc2 hc, bd_eq, if_pos ii00]
  obtain ⟨d, rfl⟩ : ∃ d : Nat, c = d := ⟨c.toNat, by omega⟩
  have hd4 : d < 4 := by omega
  rcases Classical.em (d = 3) with e3 | e3
  · subst e3
    refine ⟨sameC (-4) sg, raw12 (-4) sm, ?_, ?_, rfl, hI⟩
    · unfold fX4_flow
      rw [e_col (by omega) (by omega), bd_eq, if_neg ii10, if_pos (by decide)]
      rfl
    · unfold fX5_flow
      rw [m_colT (by omega) (by omega), bd_eq, if_neg ii10, if_pos (by decide)]
  have hd : d < 3 := by omega
  have hne3 : ¬ ii (d : Nat) = 3 := by rw [q_3, ii_eq (by omega) (by omega) (by omega) (by omega)]; omega
  obtain ⟨y1, y2, y3, y4, y5, y6, y7, y8, k1, k2⟩ := m_setsR (li := sm.2.2.2.2.2.2.2.2.1) (ow := sm.2.2.2.2.2.2.2.2.2.1) (my := sm.2.2.2.2.2.2.2.2.2.2.1) (en := sm.2.2.2.2.2.2.2.2.2.2.2.1) (ov := sm.2.2.2.2.2.2.2.2.2.2.2.2.1) (ah := sm.2.2.2.2.2.2.2.2.2.2.2.2.2.1) (be := sm.2.2.2.2.2.2.2.2.2.2.2.2.2.2.1) (dn := sm.2.2.2.2.2.2.2.2.2.2.2.2.2.2.2) hRS.rg
  rw [← hRS.2.2.2.1] at k2
  obtain ⟨p1, p2, p3, p4⟩ := hRS.at hd4
  obtain ⟨w1, w2, w3, w4⟩ := hRS.at (show d + 1 < 4 by omega)
  have hov5 : ∀ {α : Type} (q : Int32 → Option α), aget 4 (il y5) (ii d) q = q (ii (y5 d)) := fun q => by
    rw [aget_ii (by omega) (by omega) (by omega), il_app, Int.toNat_natCast]
  have hovc : fX1_overflowingBlockOf (ii d) (il ovz) = some (ii (ovz d)) := by
    unfold fX1_overflowingBlockOf
    rw [e_col (by omega) (by omega), bd_eq, if_neg ii10, aget_ii (by omega) (by omega) (by omega), il_app, Int.toNat_natCast]
  rcases hRS.over hlay k2 hd4 with ⟨o1, o2⟩ | ⟨o, o1, o2, o3⟩
  · refine ⟨sameC (-5) sg, (-5, sm.1, sm.2.2.2.2.1, sm.2.2.2.2.2.2.1, il y1, il y2, il y3, il y4, il y5, il y6, il y7, il y8), ?_, ?_, rfl, hI⟩
    · unfold fX4_flow
      rw [e_col (by omega) (by omega), bd_eq, if_neg ii10, if_neg hne3, d7, hovc, bd_eq, o1, if_pos (by decide), ← d7]
      rfl
    · unfold fX5_flow
      rw [m_colT (by omega) (by omega), bd_eq, if_neg ii10, if_neg hne3, c2, k1, bd_eq]
      dsimp only
      rw [hov5, o2, if_pos (by decide), ← c2]
  · obtain ⟨n, hn⟩ := sixteen p2
    obtain ⟨w, hw⟩ := sixteen w2
    obtain ⟨m, hm⟩ : ∃ m : Nat, n = o + m := ⟨n - o, by omega⟩
    subst hm
    have hmn : mn Q d = ((o + m : Nat) : Int) := by rw [← p1, hn]
    have hmw : mn Q (d + 1) = (w : Nat) := by rw [← w1, hw]
    have ho16 : o < 16 := by omega
    have hm0 : 0 < m := by omega
    have t1 : ¬ ii (o : Nat) = -5 := by rw [q_5, ii_neg, ii_eq (by omega) (by omega) (by omega) (by omega)]; omega
    have t2 : ¬ ii (o : Nat) = 16 := by rw [q_16, ii_eq (by omega) (by omega) (by omega) (by omega)]; omega
    have t3 : (((o + m : Nat) : Int) - (o : Nat)) = (m : Nat) := by omega
    have t4 : ii (d : Nat) + 1 = ii ((d + 1 : Nat) : Int) := ii_suc d
    rcases Nat.lt_or_ge 16 (w + m) with hf | hf
    · refine ⟨sameC (-3) sg, (-3, sm.1, sm.2.2.2.2.1, sm.2.2.2.2.2.2.1, il y1, il y2, il y3, il y4, il y5, il y6, il y7, il y8), ?_, ?_, rfl, hI⟩
      · unfold fX4_flow
        rw [e_col (by omega) (by omega), bd_eq, if_neg ii10, if_neg hne3, d7, hovc, bd_eq, o2, if_neg t1, c1, e_blocks hd4, bd_eq, hn, ii_sub, t3, nm_eq, t4, e_blocks (show d + 1 < 4 by omega), bd_eq, hw, ii_add, if_neg (by rw [q_16, ii_le (by omega) (by omega) (by omega) (by omega)]; omega), ← d7, ← c1]
        rfl
      · unfold fX5_flow
        rw [m_colT (by omega) (by omega), bd_eq, if_neg ii10, if_neg hne3, c2, k1, bd_eq]
        dsimp only
        rw [hov5, o3, if_neg t2, m_blocks hd4, bd_eq, hmn, ii_sub, t3, nm_eq, t4, m_blocks (show d + 1 < 4 by omega), bd_eq, hmw, ii_add, if_neg (by rw [q_16, ii_le (by omega) (by omega) (by omega) (by omega)]; omega), ← c2]
    · obtain ⟨q, q0, q1, q2, q3⟩ := hRS.parts hlay k2 hd4 o1
      obtain ⟨s, hs⟩ : ∃ s, s = stayF (pf P d o) q (P 4) := ⟨_, rfl⟩
      have h4r := hRS.1.range (k := 4) (by omega)
      have h41 : 1 ≤ P 4 := h4r.1
      have hF := (p4 o o1).1.1
      have hs1 : s = 0 ∨ (1 ≤ s ∧ s < 41 ∧ pf P d o 0 = 0 ∧ 1 ≤ pf P d o 1 - s) := by
        unfold stayF at hs
        rcases Classical.em (pf P d o 0 = 0) with u | u
        · have hL : 1 ≤ pf P d o 1 ∧ pf P d o 1 ≤ 40 := by
            unfold FlOK at hF
            omega
          rw [if_pos u] at hs
          rcases Int.lt_or_le (pf P d o 1 - P 4) (q : Int) with v | v
          · rw [if_neg (show ¬ (q : Int) ≤ pf P d o 1 - P 4 by omega)] at hs
            split at hs <;> omega
          · rw [if_pos v] at hs
            split at hs <;> omega
        · rw [if_neg u] at hs
          exact Or.inl hs
      have hs2 : s = 0 ∨ (1 ≤ s ∧ s < 41) := by omega
      obtain ⟨Pz, e1, e2⟩ := e_moveToNext (s := s) hd hn (by omega) hm0 hw hf hs2
      obtain ⟨Qz, f1, f2⟩ := m_flow (Q := Q) (s := s) (kk := kk) (Bz := Bz) (y1 := y1) (y2 := y2) (y3 := y3) (y4 := y4) (y5 := y5) (y6 := y6) (y7 := y7) (y8 := y8) hd (show o + m ≤ 16 by omega) hm0 hf hs2
      obtain ⟨cu, lcx, enx, ovx, ahx, bex, spx, blx, lbx, l1, l2, hinv⟩ := hnew Pz Qz (hRS.flo hd hn hm0 hw hf e2 f2 (fun hs0 => by omega))
      refine ⟨outC (ii m) Pz cu lcx enx ovx ahx bex spx blx lbx kk Az, out12 (ii m) kk Qz Bz y1 y2 y3 y4 y5 y6 y7 y8, ?_, ?_, rfl, hinv (ii m)⟩
      · unfold fX4_flow
        rw [e_col (by omega) (by omega), bd_eq, if_neg ii10, if_neg hne3, d7, hovc, bd_eq, o2, if_neg t1, c1, e_blocks hd4, bd_eq, hn, ii_sub, t3, nm_eq, t4, e_blocks (show d + 1 < 4 by omega), bd_eq, hw, ii_add, if_pos (by rw [q_16, ii_le (by omega) (by omega) (by omega) (by omega)]; omega), r1, bd_eq, d10, e_stay hRS.1 hd4 o1 q1 (by omega) (by omega), bd_eq, ← hs, e1, bd_eq, ← d7, ← d10, l1, bd_eq]
        try rfl
      · unfold fX5_flow
        rw [m_colT (by omega) (by omega), bd_eq, if_neg ii10, if_neg hne3, c2, k1, bd_eq]
        dsimp only
        rw [hov5, o3, if_neg t2, m_blocks hd4, bd_eq, hmn, ii_sub, t3, nm_eq, t4, m_blocks (show d + 1 < 4 by omega), bd_eq, hmw, ii_add, if_pos (by rw [q_16, ii_le (by omega) (by omega) (by omega) (by omega)]; omega), r2, bd_eq, m_stay hRS hd4 o1 o3 q2 (by omega) (by omega), bd_eq, ← hs, m_f1 hd4 ho16, bd_eq, ii_sub, nm_eq, q_5, q_97, ii_mul, ii_add, aset_ii (by omega) (by omega) (by omega), q_6, ii_mul, q_1, ii_sub, nm_eq, show (5 + 97 * ((d + 1 : Nat) : Int)).toNat = 5 + 97 * (d + 1) by omega, show ((w : Int) + (m : Nat)) = ((w + m : Nat) : Int) by omega, show (6 * (w : Int) - 1) = ((6 * w : Nat) : Int) - 1 by omega]
        exact f1
