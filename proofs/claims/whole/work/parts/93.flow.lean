/-! a column flows on: what becomes of the page -/
/-- how many lines of a block stay -/
def stayF (f : Nat → Int) (done least : Int) : Int := if f 0 = 0 then (if least ≤ (if done ≤ f 1 - least then done else f 1 - least) then (if done ≤ f 1 - least then done else f 1 - least) else 0) else 0
def Flo (P Pz : Nat → Int) (c o m w : Nat) (s : Int) : Prop := pn Pz c = (if 0 < s then (o : Int) + 1 else o) ∧ pn Pz (c + 1) = ((w + m : Nat) : Int) ∧ (∀ b, b < o → ∀ k, k < 6 → pf Pz c b k = pf P c b k) ∧ (0 < s → ∀ k, k < 6 → pf Pz c o k = fldV (pf P c o) 1 s k)
  ∧ (∀ j, j < m → ∀ k, k < 6 → pf Pz (c + 1) j k = if j = 0 ∧ 0 < s then fldV (pf P c o) 1 (pf P c o 1 - s) k else pf P c (o + j) k) ∧ (∀ j, j < w → ∀ k, k < 6 → pf Pz (c + 1) (m + j) k = pf P (c + 1) j k)
  ∧ (∀ j, j < 5 → Pz j = P j) ∧ ∀ d, d < 4 → d ≠ c → d ≠ c + 1 → pn Pz d = pn P d ∧ ∀ b, b < 16 → ∀ k, k < 6 → pf Pz d b k = pf P d b k
def MFlo (Q Qz : Nat → Int) (c o m w : Nat) (s : Int) : Prop := mn Qz c = (if 0 < s then (o : Int) + 1 else o) ∧ mn Qz (c + 1) = ((w + m : Nat) : Int) ∧ (∀ b, b < o → ∀ k, k < 6 → mf Qz c b k = mf Q c b k) ∧ (0 < s → ∀ k, k < 6 → mf Qz c o k = fldV (mf Q c o) 1 s k)
  ∧ (∀ j, j < m → ∀ k, k < 6 → mf Qz (c + 1) j k = if j = 0 ∧ 0 < s then fldV (mf Q c o) 1 (mf Q c o 1 - s) k else mf Q c (o + j) k) ∧ (∀ j, j < w → ∀ k, k < 6 → mf Qz (c + 1) (m + j) k = mf Q (c + 1) j k)
  ∧ (∀ j, j < 5 → Qz j = Q j) ∧ ∀ d, d < 4 → d ≠ c → d ≠ c + 1 → mn Qz d = mn Q d ∧ ∀ b, b < 16 → ∀ k, k < 6 → mf Qz d b k = mf Q d b k
theorem RS.flo {P Q Pz Qz : Nat → Int} {c o m w : Nat} {s : Int} (h : RS P Q) (hc : c < 3) (hn : pn P c = ((o + m : Nat) : Int)) (hm : 0 < m) (hw : pn P (c + 1) = (w : Nat)) (hwm : w + m ≤ 16) (h1 : Flo P Pz c o m w s) (h2 : MFlo Q Qz c o m w s)
    (hs : 0 < s → pf P c o 0 = 0 ∧ 1 ≤ s ∧ 1 ≤ pf P c o 1 - s) : RS Pz Qz := by
  obtain ⟨a1, a2, a3, a4, a5, a6, a7, a8⟩ := h1
  obtain ⟨b1, b2, b3, b4, b5, b6, b7, b8⟩ := h2
  obtain ⟨p1, p2, p3, p4⟩ := h.at (show c < 4 by omega)
  obtain ⟨r1, r2, r3, r4⟩ := h.at (show c + 1 < 4 by omega)
  have hdiv : 0 < s → (FlC (fldV (pf P c o) 1 s) ∧ RFl (fldV (pf P c o) 1 s) (fldV (mf Q c o) 1 s)) ∧ (FlC (fldV (pf P c o) 1 (pf P c o 1 - s)) ∧ RFl (fldV (pf P c o) 1 (pf P c o 1 - s)) (fldV (mf Q c o) 1 (mf Q c o 1 - s))) := by
    intro hs0
    obtain ⟨s1, s2, s3⟩ := hs hs0
    obtain ⟨hF, hR⟩ := p4 o (by omega)
    obtain ⟨f1, f2, f3⟩ := hF
    obtain ⟨q1, q2, q3⟩ := hR
    obtain ⟨z1, z2, z3, z4⟩ := q2 s1
    have key : ∀ v, 1 ≤ v → v ≤ 40 → FlC (fldV (pf P c o) 1 v) ∧ RFl (fldV (pf P c o) 1 v) (fldV (mf Q c o) 1 v) := fun v v1 v2 => by
      refine ⟨⟨?_, fun _ => f2 s1, fun q => absurd s1 q⟩, q1, fun _ => ⟨rfl, z2, z3, z4⟩, fun q => absurd s1 q⟩
      rcases f1 with ⟨t0, t1, t2, t3, t4, t5, t6, t7⟩ | ⟨t0, t1, t2⟩
      · exact Or.inl ⟨t0, v1, v2, t3, t4, t5, t6, t7⟩
      · omega
    have h40 : pf P c o 1 ≤ 40 := by
      unfold FlOK at f1
      omega
    rw [← z1]
    exact ⟨key s (by omega) (by omega), key _ (by omega) (by omega)⟩
  refine h.change a7 b7 (fun d hd => ?_)
  rcases Classical.em (d = c) with e | e
  · subst e
    rw [a1, b1]
    refine ⟨rfl, ?_, ?_, fun b hb => ?_⟩
    · split <;> omega
    · split <;> omega
    · rcases Nat.lt_or_ge b o with g | g
      · exact BR.ext (p4 b (by omega)) (a3 b g) (b3 b g)
      · rcases Int.lt_or_le 0 s with hs0 | hs0
        · rw [if_pos hs0] at hb
          have eb : b = o := by omega
          subst eb
          exact BR.ext (hdiv hs0).1 (a4 hs0) (b4 hs0)
        · rw [if_neg (by omega)] at hb
          omega
  · rcases Classical.em (d = c + 1) with e2 | e2
    · subst e2
      rw [a2, b2]
      refine ⟨rfl, by omega, by omega, fun b hb => ?_⟩
      rcases Nat.lt_or_ge b m with g | g
      · rcases Classical.em (b = 0 ∧ 0 < s) with q | q
        · refine BR.ext (hdiv q.2).2 (fun k hk => ?_) (fun k hk => ?_)
          · rw [a5 b g k hk, if_pos q]
          · rw [b5 b g k hk, if_pos q]
        · refine BR.ext (p4 (o + b) (by omega)) (fun k hk => ?_) (fun k hk => ?_)
          · rw [a5 b g k hk, if_neg q]
          · rw [b5 b g k hk, if_neg q]
      · obtain ⟨j, rfl⟩ : ∃ j, b = m + j := ⟨b - m, by omega⟩
        exact BR.ext (r4 j (by omega)) (a6 j (by omega)) (b6 j (by omega))
    · obtain ⟨g1, g2, g3, g4⟩ := h.at hd
      obtain ⟨x1, x2⟩ := a8 d hd e e2
      obtain ⟨x3, x4⟩ := b8 d hd e e2
      rw [x1, x3]
      exact ⟨g1, g2, g3, fun b hb => BR.ext (g4 b hb) (x2 b (by omega)) (x4 b (by omega))⟩
set_option maxHeartbeats 4000000 in
theorem e_moveToNext {P : Nat → Int} {c o m w : Nat} {s : Int} (hc : c < 3) (hn : pn P c = ((o + m : Nat) : Int)) (hn16 : o + m ≤ 16) (hm : 0 < m) (hw : pn P (c + 1) = (w : Nat)) (hwm : w + m ≤ 16) (hs : s = 0 ∨ (1 ≤ s ∧ s < 41)) : ∃ Pz : Nat → Int, fX2_moveToNext (ii c) (ii o) (ii s) (il P) = some (il Pz) ∧ Flo P Pz c o m w s := by
  obtain ⟨A, hA⟩ : ∃ A, A = va_cpy P P (9 + ((c + 1) * 16 + 0) * 6) (9 + ((c + 1) * 16 + m) * 6) (6 * w) := ⟨_, rfl⟩
  obtain ⟨B, hB⟩ : ∃ B, B = va_cpy A A (9 + (c * 16 + o) * 6) (9 + ((c + 1) * 16 + 0) * 6) (6 * m) := ⟨_, rfl⟩
  have hAo : ∀ j, j < 9 + ((c + 1) * 16 + m) * 6 ∨ 9 + ((c + 1) * 16 + m + w) * 6 ≤ j → A j = P j := fun j hj => by
    rw [hA, cpy_out (by omega)]
  have hAi : ∀ j, j < w → ∀ k, k < 6 → A (9 + ((c + 1) * 16 + (m + j)) * 6 + k) = P (9 + ((c + 1) * 16 + j) * 6 + k) := fun j hj k hk => by
    rw [hA, cpy_in (by omega) (by omega)]
    exact congrArg P (by omega)
  have hBo : ∀ j, j < 9 + ((c + 1) * 16) * 6 ∨ 9 + ((c + 1) * 16 + m) * 6 ≤ j → B j = A j := fun j hj => by
    rw [hB, cpy_out (by omega)]
  have hBi : ∀ j, j < m → ∀ k, k < 6 → B (9 + ((c + 1) * 16 + j) * 6 + k) = P (9 + (c * 16 + (o + j)) * 6 + k) := fun j hj k hk => by
    rw [hB, cpy_in (by omega) (by omega), hAo _ (by omega)]
    exact congrArg P (by omega)
  have hpA : pn A (c + 1) = (w : Nat) := (hAo (5 + (c + 1)) (by omega)).trans hw
  have hpB : pn B (c + 1) = (w : Nat) := (hBo (5 + (c + 1)) (by omega)).trans hpA
  obtain ⟨D, hD⟩ : ∃ D, D = zu (zu B (5 + (c + 1)) ((w + m : Nat) : Int)) (5 + c) (o : Nat) := ⟨_, rfl⟩
  have hDo : ∀ j, 9 ≤ j → D j = B j := fun j hj => by rw [hD, zu_ne (by omega), zu_ne (by omega)]
  have hstart : fX2_moveToNext (ii c) (ii o) (ii s) (il P) = (if ii s ≤ 0 then (some (il D)) else (bd (fX2_changeBlocks (ii c) (ii o + 1) (il D)) fun qo17 => bd (fX2_fieldOf (ii c + 1) 0 1 qo17) fun qo18 => bd (fX2_changeField (ii c + 1) 0 1 (qo18 - ii s) qo17) fun qo19 => bd (fX2_changeField (ii c) (ii o) 1 (ii s) qo19) fun qo20 => some qo20)) := by
    have hc1 : ii (c : Nat) + 1 = ii ((c + 1 : Nat) : Int) := ii_suc c
    have z0 : fX2_cellAt (ii ((c + 1 : Nat) : Int)) 0 = some (ii ((9 + ((c + 1) * 16 + 0) * 6 : Nat) : Int)) := e_cellAtN (c + 1) 0
    unfold fX2_moveToNext
    rw [hc1, nm_eq, e_blocks (show c < 4 by omega), bd_eq, hn, ii_sub, nm_eq, e_col (by omega) (by omega), bd_eq, if_neg ii10, e_hasBlock (show c < 4 by omega) (by omega) (by omega), bd_eq, if_neg ii10, e_blocks (show c + 1 < 4 by omega), bd_eq, hw, show (((o + m : Nat) : Int) - (o : Nat)) = (m : Nat) by omega, ii_add, if_pos (by rw [q_16, ii_le (by omega) (by omega) (by omega) (by omega)]; omega), z0, bd_eq, e_cellAtN, bd_eq, bd_eq, e_moveBlocks (by omega) (by omega), bd_eq, ← hA, e_cellAtN, bd_eq, bd_eq, e_moveBlocks (by omega) (by omega), bd_eq, ← hB, e_blocks (show c + 1 < 4 by omega), bd_eq, hpB, ii_add, show ((w : Int) + (m : Nat)) = ((w + m : Nat) : Int) by omega, e_changeBlocks (show c + 1 < 4 by omega) (by omega) (by omega), bd_eq, e_changeBlocks (show c < 4 by omega) (by omega) (by omega), bd_eq, ← hD]
  have other : ∀ Z : Nat → Int, (∀ j, (j < 9 → j ≠ 5 + c → j ≠ 5 + (c + 1) → Z j = P j)) → (∀ d, d < 4 → d ≠ c → d ≠ c + 1 → ∀ b, b < 16 → ∀ k, k < 6 → Z (9 + (d * 16 + b) * 6 + k) = B (9 + (d * 16 + b) * 6 + k)) → (∀ j, j < 5 → Z j = P j) ∧ ∀ d, d < 4 → d ≠ c → d ≠ c + 1 → pn Z d = pn P d ∧ ∀ b, b < 16 → ∀ k, k < 6 → pf Z d b k = pf P d b k := by
    intro Z hZ1 hZ2
    refine ⟨fun j hj => hZ1 j (by omega) (by omega) (by omega), fun d hd e e2 => ⟨hZ1 (5 + d) (by omega) (by omega) (by omega), fun b hb k hk => ?_⟩⟩
    show Z (9 + (d * 16 + b) * 6 + k) = P (9 + (d * 16 + b) * 6 + k)
    rw [hZ2 d hd e e2 b hb k hk, hBo _ (by omega), hAo _ (by omega)]
  have hsmall : ∀ j, j < 9 → j ≠ 5 + c → j ≠ 5 + (c + 1) → D j = P j := fun j h1 h2 h3 => by
    rw [hD, zu_ne (by omega), zu_ne (by omega), hBo _ (by omega), hAo _ (by omega)]
  rcases hs with hs | hs
  · subst hs
    obtain ⟨x1, x2⟩ := other D hsmall (fun d hd e e2 b hb k hk => hDo _ (by omega))
    refine ⟨D, by rw [hstart, if_pos (by decide)], ?_, ?_, fun b hb k hk => ?_, fun q => absurd q (by decide), fun j hj k hk => ?_, fun j hj k hk => ?_, x1, x2⟩
    · rw [if_neg (by decide)]
      show D (5 + c) = _
      rw [hD, zu_eq]
    · show D (5 + (c + 1)) = _
      rw [hD, zu_ne (by omega), zu_eq]
    · show D (9 + (c * 16 + b) * 6 + k) = P (9 + (c * 16 + b) * 6 + k)
      rw [hDo _ (by omega), hBo _ (by omega), hAo _ (by omega)]
    · rw [if_neg (fun q => absurd q.2 (by decide))]
      show D (9 + ((c + 1) * 16 + j) * 6 + k) = P (9 + (c * 16 + (o + j)) * 6 + k)
      rw [hDo _ (by omega)]
      exact hBi j hj k hk
    · show D (9 + ((c + 1) * 16 + (m + j)) * 6 + k) = P (9 + ((c + 1) * 16 + j) * 6 + k)
      rw [hDo _ (by omega), hBo _ (by omega)]
      exact hAi j hj k hk
  · have hso : 0 < s := by omega
    obtain ⟨E, hE⟩ : ∃ E, E = zu (zu (zu D (5 + c) ((o + 1 : Nat) : Int)) (9 + ((c + 1) * 16 + 0) * 6 + 1) (pf P c o 1 - s)) (9 + (c * 16 + o) * 6 + 1) s := ⟨_, rfl⟩
    have hfld : pf (zu D (5 + c) ((o + 1 : Nat) : Int)) (c + 1) 0 1 = pf P c o 1 := by
      show zu D (5 + c) _ (9 + ((c + 1) * 16 + 0) * 6 + 1) = _
      rw [zu_ne (by omega), hDo _ (by omega)]
      have := hBi 0 hm 1 (by omega)
      rw [this]
      rfl
    have hgo : fX2_moveToNext (ii c) (ii o) (ii s) (il P) = some (il E) := by
      have hc1 : ii (c : Nat) + 1 = ii ((c + 1 : Nat) : Int) := ii_suc c
      rw [hstart, if_neg (by rw [q_0, ii_le (by omega) (by omega) (by omega) (by omega)]; omega), ii_suc, e_changeBlocks (show c < 4 by omega) (by omega) (by omega), bd_eq, hc1]
      rw [show fX2_fieldOf (ii ((c + 1 : Nat) : Int)) 0 1 (il (zu D (5 + c) ((o + 1 : Nat) : Int))) = some (ii (pf (zu D (5 + c) ((o + 1 : Nat) : Int)) (c + 1) 0 1)) from e_field (b := 0) (k := 1) (by omega) (by omega) (by omega), bd_eq, hfld, ii_sub]
      rw [show fX2_changeField (ii ((c + 1 : Nat) : Int)) 0 1 (ii (pf P c o 1 - s)) (il (zu D (5 + c) ((o + 1 : Nat) : Int))) = some (il (zu (zu D (5 + c) ((o + 1 : Nat) : Int)) (9 + ((c + 1) * 16 + 0) * 6 + 1) (pf P c o 1 - s))) from e_changeField (b := 0) (k := 1) (by omega) (by omega) (by omega), bd_eq]
      rw [show fX2_changeField (ii c) (ii o) 1 (ii s) (il (zu (zu D (5 + c) ((o + 1 : Nat) : Int)) (9 + ((c + 1) * 16 + 0) * 6 + 1) (pf P c o 1 - s))) = some (il E) from by rw [hE]; exact e_changeField (k := 1) (by omega) (by omega) (by omega), bd_eq]
    have hEo : ∀ j, 9 ≤ j → j ≠ 9 + ((c + 1) * 16 + 0) * 6 + 1 → j ≠ 9 + (c * 16 + o) * 6 + 1 → E j = B j := fun j h1 h2 h3 => by
      rw [hE, zu_ne h3, zu_ne h2, zu_ne (by omega), hDo j h1]
    obtain ⟨x1, x2⟩ := other E (fun j h1 h2 h3 => by rw [hE, zu_ne (by omega), zu_ne (by omega), zu_ne (by omega)]; exact hsmall j h1 h2 h3) (fun d hd e e2 b hb k hk => hEo _ (by omega) (by omega) (by omega))
    refine ⟨E, hgo, ?_, ?_, fun b hb k hk => ?_, fun _ k hk => ?_, fun j hj k hk => ?_, fun j hj k hk => ?_, x1, x2⟩
    · rw [if_pos hso]
      show E (5 + c) = _
      rw [hE, zu_ne (by omega), zu_ne (by omega), zu_eq]
      omega
    · show E (5 + (c + 1)) = _
      rw [hE, zu_ne (by omega), zu_ne (by omega), zu_ne (by omega), hD, zu_ne (by omega), zu_eq]
    · show E (9 + (c * 16 + b) * 6 + k) = P (9 + (c * 16 + b) * 6 + k)
      rw [hEo _ (by omega) (by omega) (by omega), hBo _ (by omega), hAo _ (by omega)]
    · show E (9 + (c * 16 + o) * 6 + k) = fldV (pf P c o) 1 s k
      unfold fldV
      rcases Classical.em (k = 1) with e | e
      · rw [if_pos e, e, hE, zu_eq]
      · rw [if_neg e, hEo _ (by omega) (by omega) (by omega), hBo _ (by omega), hAo _ (by omega)]
        rfl
    · show E (9 + ((c + 1) * 16 + j) * 6 + k) = _
      rcases Classical.em (j = 0) with ej | ej
      · rw [if_pos ⟨ej, hso⟩, ej]
        unfold fldV
        rcases Classical.em (k = 1) with e | e
        · rw [if_pos e, e, hE, zu_ne (by omega), zu_eq]
        · rw [if_neg e, hEo _ (by omega) (by omega) (by omega), hBi 0 hm k hk]
          rfl
      · rw [if_neg (fun q => ej q.1), hEo _ (by omega) (by omega) (by omega)]
        exact hBi j hj k hk
    · show E (9 + ((c + 1) * 16 + (m + j)) * 6 + k) = P (9 + ((c + 1) * 16 + j) * 6 + k)
      rw [hEo _ (by omega) (by omega) (by omega), hBo _ (by omega)]
      exact hAi j hj k hk
