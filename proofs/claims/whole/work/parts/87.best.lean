/-! the step with the least drift -/
/-- B is the greatest of the steps from a to z whose drift is least -/
def Best (D : Int → Int) (a z B : Int) : Prop := a ≤ B ∧ B ≤ z ∧ (∀ s, a ≤ s → s ≤ z → D B ≤ D s) ∧ ∀ s, B < s → s ≤ z → D B < D s
theorem Best.one {D : Int → Int} {a z B C : Int} (h1 : Best D a z B) (h2 : Best D a z C) : B = C := by
  obtain ⟨a1, a2, a3, a4⟩ := h1
  obtain ⟨b1, b2, b3, b4⟩ := h2
  rcases Int.lt_trichotomy B C with h | h | h
  · have := a4 C h b2
    have := b3 B a1 a2
    omega
  · exact h
  · have := b4 B h a2
    have := a3 C b1 b2
    omega
theorem e_with {P : Nat → Int} {S : Int} {x1 x2 x3 x4 x5 : Int32} {lc en ov ah be sp bl lb : Nat → Int32} (hP : PgOK P) (hS : 20 ≤ S) (hS2 : S ≤ 500) :
    ∃ (cu : Int32) (t1 t2 t3 t4 t5 t6 t7 t8 : Nat → Int), fX4_sumOfDriftsWith (ii S) (il P) x1 x2 x3 x4 x5 lc en ov ah be sp bl lb = some (outT (ii (allP0 P S)) P S cu t1 t2 t3 t4 t5 t6 t7 t8) := by
  obtain ⟨cu, t1, t2, t3, t4, t5, t6, t7, t8, l1, l2⟩ := e_layOutR (P := P) (S := S) (x1 := x1) (x2 := x2) (x3 := x3) (x4 := x4) (x5 := x5) (lc := lc) (en := en) (ov := ov) (ah := ah) (be := be) (sp := sp) (bl := bl) (lb := lb) hP hS hS2
  refine ⟨cu, t1, t2, t3, t4, t5, t6, t7, t8, ?_⟩
  unfold fX4_sumOfDriftsWith
  rw [l1, bd_eq]
  dsimp only
  rw [l2.cl.allD hP hS hS2, bd_eq]
  rfl
theorem e_best35 {P : Nat → Int} (hP : PgOK P) {a z : Int} (ha : 20 ≤ a) (hz : z ≤ 500) : ∀ (r fu : Nat) (B s : Int) (x1 x2 x3 x4 x5 : Int32) (lc en ov ah be sp bl lb : Nat → Int32), s = a - 1 + r → r < fu → s < B → a ≤ B → B ≤ z → (∀ q, s < q → q ≤ z → allP0 P B ≤ allP0 P q) → (∀ q, B < q → q ≤ z → allP0 P B < allP0 P q) →
    ∃ (C : Int) (o : Int32 × Int32 × Int32 × Int32 × Int32 × Int32 × (Nat → Int32) × (Nat → Int32) × (Nat → Int32) × (Nat → Int32) × (Nat → Int32) × (Nat → Int32) × (Nat → Int32) × (Nat → Int32)), fX4_bestStep_35 (ii a) (il P) fu (ii B) (ii (allP0 P B)) (ii s) x1 x2 x3 x4 x5 lc en ov ah be sp bl lb = some o ∧ o.1 = ii C ∧ Best (allP0 P) a z C := by
  intro r
  induction r with
  | zero =>
    intro fu B s x1 x2 x3 x4 x5 lc en ov ah be sp bl lb hs hf h1 h2 h3 h4 h5
    obtain ⟨n, rfl⟩ : ∃ n, fu = n + 1 := ⟨fu - 1, by omega⟩
    refine ⟨B, (ii B, x1, x2, x3, x4, x5, lc, en, ov, ah, be, sp, bl, lb), ?_, rfl, h2, h3, fun q q1 q2 => h4 q (by omega) q2, h5⟩
    rw [fX4_bestStep_35]
    dsimp only
    rw [if_pos (by rw [ii_lt (by omega) (by omega) (by omega) (by omega)]; omega)]
  | succ r ih =>
    intro fu B s x1 x2 x3 x4 x5 lc en ov ah be sp bl lb hs hf h1 h2 h3 h4 h5
    obtain ⟨n, rfl⟩ : ∃ n, fu = n + 1 := ⟨fu - 1, by omega⟩
    have hB := allP0_b hP (show 20 ≤ B by omega) (show B ≤ 500 by omega)
    have hs0 := allP0_b hP (show 20 ≤ s by omega) (show s ≤ 500 by omega)
    rcases Int.lt_or_le 0 (allP0 P B) with h6 | h6
    · obtain ⟨cu, t1, t2, t3, t4, t5, t6, t7, t8, w1⟩ := e_with (P := P) (S := s) (x1 := x1) (x2 := x2) (x3 := x3) (x4 := x4) (x5 := x5) (lc := lc) (en := en) (ov := ov) (ah := ah) (be := be) (sp := sp) (bl := bl) (lb := lb) hP (by omega) (by omega)
      rw [fX4_bestStep_35]
      dsimp only
      rw [if_neg (by rw [ii_lt (by omega) (by omega) (by omega) (by omega)]; omega), if_neg (by rw [q_0, ii_le (by omega) (by omega) (by omega) (by omega)]; omega), w1, bd_eq]
      dsimp only
      unfold fX4_bestStep_68
      rw [nm_eq, q_1, ii_neg, ii_add, show s + -1 = s - 1 by omega]
      rcases Int.lt_or_le (allP0 P s) (allP0 P B) with h7 | h7
      · rw [if_neg (by rw [ii_le (by omega) (by omega) (by omega) (by omega)]; omega)]
        refine ih n s (s - 1) _ _ _ _ _ _ _ _ _ _ _ _ _ (by omega) (by omega) (by omega) (by omega) (by omega) (fun q q1 q2 => ?_) (fun q q1 q2 => ?_)
        · rcases Int.lt_or_le s q with q3 | q3
          · have := h4 q q3 q2
            omega
          · have e : q = s := by omega
            rw [e]
            exact Int.le_refl _
        · have := h4 q q1 q2
          omega
      · rw [if_pos (by rw [ii_le (by omega) (by omega) (by omega) (by omega)]; omega)]
        refine ih n B (s - 1) _ _ _ _ _ _ _ _ _ _ _ _ _ (by omega) (by omega) (by omega) (by omega) (by omega) (fun q q1 q2 => ?_) h5
        rcases Int.lt_or_le s q with q3 | q3
        · exact h4 q q3 q2
        · have e : q = s := by omega
          rw [e]
          exact h7
    · refine ⟨B, (ii B, x1, x2, x3, x4, x5, lc, en, ov, ah, be, sp, bl, lb), ?_, rfl, h2, h3, fun q q1 q2 => ?_, h5⟩
      · rw [fX4_bestStep_35]
        dsimp only
        rw [if_neg (by rw [ii_lt (by omega) (by omega) (by omega) (by omega)]; omega), if_pos (by rw [q_0, ii_le (by omega) (by omega) (by omega) (by omega)]; omega)]
      · have := allP0_b hP (show 20 ≤ q by omega) (show q ≤ 500 by omega)
        omega
theorem m_best34 {P Q : Nat → Int} (hRS : RS P Q) {a z : Int} (ha : 20 ≤ a) (hz : z ≤ 500) : ∀ (r fu : Nat) (B L s : Int) (li ow my en ov ah be dn : Nat → Int32), s + r = z + 1 → r < fu → a ≤ s → (s = a → 0 < r) → (a < s → L = allP0 P B ∧ a ≤ B ∧ B < s ∧ (∀ q, a ≤ q → q < s → allP0 P B ≤ allP0 P q) ∧ (∀ q, B < q → q < s → allP0 P B < allP0 P q)) →
    ∃ (C : Int) (o : Int32 × (Nat → Int32) × (Nat → Int32) × (Nat → Int32) × (Nat → Int32) × (Nat → Int32) × (Nat → Int32) × (Nat → Int32) × (Nat → Int32)), fX5_bestStep_34 (ii a) (ii z) (il Q) fu (ii B) (ii L) (ii s) li ow my en ov ah be dn = some o ∧ o.1 = ii C ∧ Best (allP0 P) a z C := by
  intro r
  induction r with
  | zero =>
    intro fu B L s li ow my en ov ah be dn hs hf h1 h2 h3
    obtain ⟨n, rfl⟩ : ∃ n, fu = n + 1 := ⟨fu - 1, by omega⟩
    have h4 : a < s := by
      rcases Int.lt_or_le a s with q | q
      · exact q
      · have := h2 (by omega)
        omega
    obtain ⟨g1, g2, g3, g4, g5⟩ := h3 h4
    refine ⟨B, (ii B, li, ow, my, en, ov, ah, be, dn), ?_, rfl, g2, by omega, fun q q1 q2 => g4 q q1 (by omega), fun q q1 q2 => g5 q q1 (by omega)⟩
    rw [fX5_bestStep_34]
    dsimp only
    rw [if_pos (by rw [ii_lt (by omega) (by omega) (by omega) (by omega)]; omega)]
  | succ r ih =>
    intro fu B L s li ow my en ov ah be dn hs hf h1 h2 h3
    obtain ⟨n, rfl⟩ : ∃ n, fu = n + 1 := ⟨fu - 1, by omega⟩
    obtain ⟨z1, z2, z3, z4, z5, z6, z7, z8, n1, n2⟩ := m_setsAllR (S := s) (li := li) (ow := ow) (my := my) (en := en) (ov := ov) (ah := ah) (be := be) (dn := dn) hRS.rg (by omega) (by omega)
    have hM := n2.cl hRS
    have hs0 := allP0_b hRS.1 (show 20 ≤ s by omega) (show s ≤ 500 by omega)
    have hw := hM.mwhole hRS (show 20 ≤ s by omega) (by omega) (w := 0) (by omega) (by omega)
    rw [wh_all0] at hw
    rw [fX5_bestStep_34]
    dsimp only
    rw [if_neg (by rw [ii_lt (by omega) (by omega) (by omega) (by omega)]; omega), n1, bd_eq]
    dsimp only
    rw [show (0 : Int32) = ii 0 from q_0, hw, bd_eq]
    unfold fX5_bestStep_68 fX5_bestStep_75
    rw [nm_eq, nm_eq, q_1, ii_add]
    rcases Classical.em (s = a) with e | e
    · rw [if_pos (by rw [e])]
      refine ih n s (allP0 P s) (s + 1) _ _ _ _ _ _ _ _ (by omega) (by omega) (by omega) (fun q => by omega) (fun _ => ⟨rfl, by omega, by omega, fun q q1 q2 => ?_, fun q q1 q2 => by omega⟩)
      have e2 : q = s := by omega
      rw [e2]
      exact Int.le_refl _
    · obtain ⟨g1, g2, g3, g4, g5⟩ := h3 (by omega)
      have hB := allP0_b hRS.1 (show 20 ≤ B by omega) (show B ≤ 500 by omega)
      rw [if_neg (by rw [ii_eq (by omega) (by omega) (by omega) (by omega)]; exact e)]
      rcases Int.lt_or_le L (allP0 P s) with h7 | h7
      · rw [if_pos (by rw [ii_lt (by omega) (by omega) (by omega) (by omega)]; exact h7)]
        refine ih n B L (s + 1) _ _ _ _ _ _ _ _ (by omega) (by omega) (by omega) (fun q => by omega) (fun _ => ⟨g1, g2, by omega, fun q q1 q2 => ?_, fun q q1 q2 => ?_⟩)
        · rcases Int.lt_or_le q s with q3 | q3
          · exact g4 q q1 q3
          · have e2 : q = s := by omega
            rw [e2]
            omega
        · rcases Int.lt_or_le q s with q3 | q3
          · exact g5 q q1 q3
          · have e2 : q = s := by omega
            rw [e2]
            omega
      · rw [if_neg (by rw [ii_lt (by omega) (by omega) (by omega) (by omega)]; omega)]
        refine ih n s (allP0 P s) (s + 1) _ _ _ _ _ _ _ _ (by omega) (by omega) (by omega) (fun q => by omega) (fun _ => ⟨rfl, by omega, by omega, fun q q1 q2 => ?_, fun q q1 q2 => by omega⟩)
        rcases Int.lt_or_le q s with q3 | q3
        · have := g4 q q1 q3
          omega
        · have e2 : q = s := by omega
          rw [e2]
          exact Int.le_refl _
set_option maxHeartbeats 4000000 in
theorem ok_bestStep : op_bestStep InvG := by
  intro i1 i2 sg sm hI
  obtain ⟨P, Q, lcz, enz, ovz, ahz, bez, spz, blz, lbz, c1, c2, hRS, d1, d2, d3, d4, d5, d6, d7, d8, d9, d10, d11, d12, hlay, y1, y2, y3, y4, y5, y6, y7, y8, k1, k2⟩ := act_qry hI
  obtain ⟨a, ha1, ha2, rfl⟩ := ii_of i1
  obtain ⟨z, hz1, hz2, rfl⟩ := ii_of i2
  rcases Classical.em (20 ≤ a ∧ a ≤ z ∧ z ≤ 500) with h | h
  · obtain ⟨h1, h2, h3⟩ := h
    obtain ⟨cu, t1, t2, t3, t4, t5, t6, t7, t8, w1⟩ := e_with (P := P) (S := z) (x1 := sg.2.2.2.2.2.2.2.2.2.2.2.2.2.2.2.2.1) (x2 := sg.2.2.2.2.2.2.2.2.2.2.2.2.2.2.2.2.2.1) (x3 := sg.2.2.2.2.2.2.2.2.2.2.2.2.2.2.2.2.2.2.1) (x4 := sg.2.2.2.2.2.2.2.2.2.2.2.2.2.2.2.2.2.2.2.1) (x5 := sg.2.2.2.2.2.2.2.2.2.2.2.2.2.2.2.2.2.2.2.2.1) (lc := sg.2.2.2.2.2.2.2.2.2.2.2.2.2.2.2.2.2.2.2.2.2.1) (en := sg.2.2.2.2.2.2.2.2.2.2.2.2.2.2.2.2.2.2.2.2.2.2.1) (ov := sg.2.2.2.2.2.2.2.2.2.2.2.2.2.2.2.2.2.2.2.2.2.2.2.1) (ah := sg.2.2.2.2.2.2.2.2.2.2.2.2.2.2.2.2.2.2.2.2.2.2.2.2.1) (be := sg.2.2.2.2.2.2.2.2.2.2.2.2.2.2.2.2.2.2.2.2.2.2.2.2.2.1) (sp := sg.2.2.2.2.2.2.2.2.2.2.2.2.2.2.2.2.2.2.2.2.2.2.2.2.2.2.1) (bl := sg.2.2.2.2.2.2.2.2.2.2.2.2.2.2.2.2.2.2.2.2.2.2.2.2.2.2.2.1) (lb := sg.2.2.2.2.2.2.2.2.2.2.2.2.2.2.2.2.2.2.2.2.2.2.2.2.2.2.2.2.1) hRS.1 (by omega) h3
    obtain ⟨C, o, e1, e2, e3⟩ := e_best35 hRS.1 h1 h3 (z - a).toNat Fu z (z - 1) (ii (P 0)) (ii (P 1)) (ii z) (ii (P 3)) cu (il t1) (il t2) (il t3) (il t4) (il t5) (il t6) (il t7) (il t8) (by omega) (by rw [Fu_s]; omega) (by omega) h2 (Int.le_refl _) (fun q q1 q2 => by
      have e : q = z := by omega
      rw [e]
      exact Int.le_refl _) (fun q q1 q2 => by omega)
    obtain ⟨C2, o2, f1, f2, f3⟩ := m_best34 hRS h1 h3 (z + 1 - a).toNat Fu a 0 a (sm.2.2.2.2.2.2.2.2.1) (sm.2.2.2.2.2.2.2.2.2.1) (sm.2.2.2.2.2.2.2.2.2.2.1) (sm.2.2.2.2.2.2.2.2.2.2.2.1) (sm.2.2.2.2.2.2.2.2.2.2.2.2.1) (sm.2.2.2.2.2.2.2.2.2.2.2.2.2.1) (sm.2.2.2.2.2.2.2.2.2.2.2.2.2.2.1) (sm.2.2.2.2.2.2.2.2.2.2.2.2.2.2.2) (by omega) (by rw [Fu_s]; omega) (Int.le_refl _) (fun _ => by omega) (fun q => by omega)
    have hC : C = C2 := e3.one f3
    refine ⟨o, o2, ?_, ?_, by rw [e2, f2, hC], hI⟩
    · rw [c1]
      unfold fX4_bestStep
      rw [if_neg (by rw [q_20, ii_lt (by omega) (by omega) (by omega) (by omega)]; omega), if_neg (by rw [ii_lt (by omega) (by omega) (by omega) (by omega)]; omega), if_pos (by rw [q_500, ii_le (by omega) (by omega) (by omega) (by omega)]; omega), w1, bd_eq, nm_eq, q_1, ii_sub]
      exact e1
    · rw [c2]
      unfold fX5_bestStep
      rw [show fX5_in (ii a) 20 500 = some (ii 1) from m_inT (lo := 20) (hi := 500) (by omega) (by omega) h1 (by omega), bd_eq, if_neg ii10, show fX5_in (ii z) (ii a) 500 = some (ii 1) from m_inT (lo := a) (hi := 500) (by omega) (by omega) h2 h3, bd_eq, if_neg ii10, q_0]
      exact f1
  · refine ⟨rawT (-2) sg, rawM (-2) sm, ?_, ?_, rfl, hI⟩
    · unfold fX4_bestStep
      rcases Int.lt_or_le a 20 with h1 | h1
      · rw [if_pos (by rw [q_20, ii_lt (by omega) (by omega) (by omega) (by omega)]; omega)]
      rw [if_neg (by rw [q_20, ii_lt (by omega) (by omega) (by omega) (by omega)]; omega)]
      rcases Int.lt_or_le z a with h2 | h2
      · rw [if_pos (by rw [ii_lt (by omega) (by omega) (by omega) (by omega)]; omega)]
      rw [if_neg (by rw [ii_lt (by omega) (by omega) (by omega) (by omega)]; omega), if_neg (by rw [q_500, ii_le (by omega) (by omega) (by omega) (by omega)]; omega)]
    · unfold fX5_bestStep
      rcases Classical.em (20 ≤ a ∧ a ≤ 500) with h1 | h1
      · rw [show fX5_in (ii a) 20 500 = some (ii 1) from m_inT (lo := 20) (hi := 500) (by omega) (by omega) h1.1 h1.2, bd_eq, if_neg ii10, show fX5_in (ii z) (ii a) 500 = some (ii 0) from m_inF (lo := a) (hi := 500) (by omega) (by omega) (by omega) (by omega) (by omega) (by omega) (by omega), bd_eq, if_pos ii00]
      · rw [show fX5_in (ii a) 20 500 = some (ii 0) from m_inF (lo := 20) (hi := 500) (by omega) (by omega) (by omega) (by omega) (by omega) (by omega) (by omega), bd_eq, if_pos ii00]
