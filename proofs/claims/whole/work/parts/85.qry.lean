/-! what is told: line, block -/
abbrev rawM (v : Int32) (sm : SM) : Int32 × (Nat → Int32) × (Nat → Int32) × (Nat → Int32) × (Nat → Int32) × (Nat → Int32) × (Nat → Int32) × (Nat → Int32) × (Nat → Int32) := (v, sm.2.2.2.2.2.2.2.2.1, sm.2.2.2.2.2.2.2.2.2.1, sm.2.2.2.2.2.2.2.2.2.2.1, sm.2.2.2.2.2.2.2.2.2.2.2.1, sm.2.2.2.2.2.2.2.2.2.2.2.2.1, sm.2.2.2.2.2.2.2.2.2.2.2.2.2.1, sm.2.2.2.2.2.2.2.2.2.2.2.2.2.2.1, sm.2.2.2.2.2.2.2.2.2.2.2.2.2.2.2)
abbrev outY (v : Int32) (y1 y2 y3 y4 y5 y6 y7 y8 : Nat → Int) : Int32 × (Nat → Int32) × (Nat → Int32) × (Nat → Int32) × (Nat → Int32) × (Nat → Int32) × (Nat → Int32) × (Nat → Int32) × (Nat → Int32) := (v, il y1, il y2, il y3, il y4, il y5, il y6, il y7, il y8)
theorem act_qry {sg : SG} {sm : SM} (hI : InvG sg sm) : ∃ (P Q lcz enz ovz ahz bez spz blz lbz : Nat → Int), sg.2.1 = il P ∧ sm.2.2.2.2.1 = il Q ∧ RS P Q ∧ sg.2.2.1 = ii (P 0) ∧ sg.2.2.2.1 = ii (P 1) ∧ sg.2.2.2.2.1 = ii (P 2) ∧ sg.2.2.2.2.2.1 = ii (P 3) ∧ sg.2.2.2.2.2.2.2.1 = il lcz ∧ sg.2.2.2.2.2.2.2.2.1 = il enz ∧ sg.2.2.2.2.2.2.2.2.2.1 = il ovz ∧ sg.2.2.2.2.2.2.2.2.2.2.1 = il ahz ∧ sg.2.2.2.2.2.2.2.2.2.2.2.1 = il bez ∧ sg.2.2.2.2.2.2.2.2.2.2.2.2.1 = il spz ∧ sg.2.2.2.2.2.2.2.2.2.2.2.2.2.1 = il blz ∧ sg.2.2.2.2.2.2.2.2.2.2.2.2.2.2.1 = il lbz ∧ LayOK P (P 2) lcz enz ovz ahz bez spz blz lbz
    ∧ ∃ (y1 y2 y3 y4 y5 y6 y7 y8 : Nat → Int), fX5_sets (il Q) sm.2.2.2.2.2.2.2.2.1 sm.2.2.2.2.2.2.2.2.2.1 sm.2.2.2.2.2.2.2.2.2.2.1 sm.2.2.2.2.2.2.2.2.2.2.2.1 sm.2.2.2.2.2.2.2.2.2.2.2.2.1 sm.2.2.2.2.2.2.2.2.2.2.2.2.2.1 sm.2.2.2.2.2.2.2.2.2.2.2.2.2.2.1 sm.2.2.2.2.2.2.2.2.2.2.2.2.2.2.2 = some (il y1, il y2, il y3, il y4, il y5, il y6, il y7, il y8) ∧ MLayOK Q (P 2) y3 y4 y5 y6 y7 y8 y1 y2 := by
  obtain ⟨hP, hH, hS, hT⟩ := hI
  obtain ⟨P, Q, l1, l2, l3, l4, l5, l6, l7, l8, c1, c2, hRS, d1, d2, d3, d4, d5, d6, d7, d8, d9, d10, d11, d12, d13⟩ := hP
  obtain ⟨y1, y2, y3, y4, y5, y6, y7, y8, k1, k2⟩ := m_setsR (li := sm.2.2.2.2.2.2.2.2.1) (ow := sm.2.2.2.2.2.2.2.2.2.1) (my := sm.2.2.2.2.2.2.2.2.2.2.1) (en := sm.2.2.2.2.2.2.2.2.2.2.2.1) (ov := sm.2.2.2.2.2.2.2.2.2.2.2.2.1) (ah := sm.2.2.2.2.2.2.2.2.2.2.2.2.2.1) (be := sm.2.2.2.2.2.2.2.2.2.2.2.2.2.2.1) (dn := sm.2.2.2.2.2.2.2.2.2.2.2.2.2.2.2) hRS.rg
  rw [← hRS.2.2.2.1] at k2
  exact ⟨P, Q, l1, l2, l3, l4, l5, l6, l7, l8, c1, c2, hRS, d1, d2, d3, d4, d5, d6, d7, d8, d9, d10, d11, d12, d13, y1, y2, y3, y4, y5, y6, y7, y8, k1, k2⟩
theorem PgOK.stp {P : Nat → Int} (h : PgOK P) : 20 ≤ P 2 ∧ P 2 ≤ 500 := ⟨h.2.2.2.2.1, h.2.2.2.2.2.1⟩
set_option maxHeartbeats 4000000 in
theorem ok_line : op_line InvG := by
  intro i1 i2 i3 sg sm hI
  obtain ⟨P, Q, lcz, enz, ovz, ahz, bez, spz, blz, lbz, c1, c2, hRS, d1, d2, d3, d4, d5, d6, d7, d8, d9, d10, d11, d12, hlay, y1, y2, y3, y4, y5, y6, y7, y8, k1, k2⟩ := act_qry hI
  obtain ⟨c, hc1, hc2, rfl⟩ := ii_of i1
  obtain ⟨x, hx1, hx2, rfl⟩ := ii_of i2
  obtain ⟨w, hw1, hw2, rfl⟩ := ii_of i3
  rcases Classical.em (c < 0 ∨ 4 ≤ c) with hc | hc
  · refine ⟨-1, rawM (-1) sm, ?_, ?_, rfl, hI⟩
    · unfold fX4_line
      rw [e_colF hc1 hc2 hc, bd_eq, if_pos ii00]
    · unfold fX5_line
      rw [m_colF hc1 hc2 hc, bd_eq, if_pos ii00]
  obtain ⟨d, rfl⟩ : ∃ d : Nat, c = d := ⟨c.toNat, by omega⟩
  have hd : d < 4 := by omega
  obtain ⟨hs1, hs2⟩ := hRS.1.stp
  obtain ⟨b1, b2, b3⟩ := ffP_b hRS.1 hs1 hs2 hd
  have hC := hlay.cl
  have hM := k2.cl hRS
  rcases Classical.em (x < 0 ∨ w < 0 ∨ 4 < w) with hb | hb
  · refine ⟨-2, rawM (-2) sm, ?_, ?_, rfl, hI⟩
    · unfold fX4_line
      rw [e_col (by omega) (by omega), bd_eq, if_neg ii10]
      rcases Int.lt_or_le x 0 with h1 | h1
      · rw [if_pos (by rw [q_0, ii_lt (by omega) (by omega) (by omega) (by omega)]; omega)]
      rw [if_neg (by rw [q_0, ii_lt (by omega) (by omega) (by omega) (by omega)]; omega)]
      rcases Int.lt_or_le w 0 with h2 | h2
      · rw [if_pos (by rw [q_0, ii_lt (by omega) (by omega) (by omega) (by omega)]; omega)]
      rw [if_neg (by rw [q_0, ii_lt (by omega) (by omega) (by omega) (by omega)]; omega), if_neg (by rw [q_4, ii_le (by omega) (by omega) (by omega) (by omega)]; omega)]
    · unfold fX5_line
      rw [m_colT (by omega) (by omega), bd_eq, if_neg ii10]
      rcases Int.lt_or_le x 0 with h1 | h1
      · rw [if_pos (by rw [q_0, ii_lt (by omega) (by omega) (by omega) (by omega)]; omega)]
      rw [if_neg (by rw [q_0, ii_lt (by omega) (by omega) (by omega) (by omega)]; omega), show fX5_in (ii w) 0 4 = some (ii 0) from m_inF (lo := 0) (hi := 4) (by omega) (by omega) (by omega) (by omega) (by omega) (by omega) (by omega), bd_eq, if_pos ii00]
  obtain ⟨n, rfl⟩ : ∃ n : Nat, x = n := ⟨x.toNat, by omega⟩
  have g1 : ¬ ii (n : Nat) < 0 := by rw [q_0, ii_lt (by omega) (by omega) (by omega) (by omega)]; omega
  have g2 : ¬ ii w < 0 := by rw [q_0, ii_lt (by omega) (by omega) (by omega) (by omega)]; omega
  have g3 : ii w ≤ 4 := by rw [q_4, ii_le (by omega) (by omega) (by omega) (by omega)]; omega
  have g4 : fX5_in (ii w) 0 4 = some (ii 1) := m_inT (lo := 0) (hi := 4) (by omega) (by omega) (by omega) (by omega)
  rcases Nat.lt_or_ge n (nnP P (P 2) d) with hn | hn
  · have hff := b2 n hn
    have g5 : ii (n : Nat) < ii (nnP P (P 2) d : Nat) := by rw [ii_lt (by omega) (by omega) (by omega) (by omega)]; omega
    have e1 := hRS.1.2.2.1
    have w5 : w = 0 ∨ w = 1 ∨ w = 2 ∨ w = 3 ∨ w = 4 := by omega
    have hcl : fX4_line (ii d) (ii n) (ii w) sg.2.2.2.1 sg.2.2.2.2.1 sg.2.2.2.2.2.2.2.1 sg.2.2.2.2.2.2.2.2.2.2.2.2.2.1 sg.2.2.2.2.2.2.2.2.2.2.2.2.2.2.1 = (if ii w = 0 then some (ii (ffP P (P 2) d n)) else (if ii w = 1 then some (ii (drP P (P 2) d n)) else (if ii w = 2 then some (ii (ggP P (P 2) d n)) else (if ii w = 3 then some (ii (beP P (P 2) d (ffP P (P 2) d n))) else some (ii (afP P (P 2) d (ffP P (P 2) d n))))))) := by
      rw [d2, d3, d5, d11, d12]
      unfold fX4_line
      rw [e_col (by omega) (by omega), bd_eq, if_neg ii10, if_neg g1, if_neg g2, if_pos g3, hC.count hd, bd_eq, if_pos g5, hC.base hd b1 hn, bd_eq, e_drift (by omega) hs2 hRS.1.2.2.1 hRS.1.2.2.2.1 (by omega) (by omega), hC.owner hd b1 hn, show ii (d : Int) - 1 = ii ((d : Int) - 1) by rw [q_1, ii_sub], show ii (d : Int) + 1 = ii ((d : Int) + 1) by rw [q_1, ii_add], hC.before hRS.1 hs1 hs2 hd (by omega) (by omega), hC.after hRS.1 hs1 hs2 hd (by omega) (by omega)]
      simp only [bd_eq]
      rcases beP_01 P (P 2) d (ffP P (P 2) d n) with u | u <;> rcases afP_01 P (P 2) d (ffP P (P 2) d n) with v | v <;> rw [u, v] <;> rfl
    have hml : fX5_line (ii d) (ii n) (ii w) sm.2.2.2.2.1 sm.2.2.2.2.2.2.2.2.1 sm.2.2.2.2.2.2.2.2.2.1 sm.2.2.2.2.2.2.2.2.2.2.1 sm.2.2.2.2.2.2.2.2.2.2.2.1 sm.2.2.2.2.2.2.2.2.2.2.2.2.1 sm.2.2.2.2.2.2.2.2.2.2.2.2.2.1 sm.2.2.2.2.2.2.2.2.2.2.2.2.2.2.1 sm.2.2.2.2.2.2.2.2.2.2.2.2.2.2.2 = (if ii w = 0 then some (outY (ii (ffP P (P 2) d n)) y1 y2 y3 y4 y5 y6 y7 y8) else (if ii w = 1 then some (outY (ii (drP P (P 2) d n)) y1 y2 y3 y4 y5 y6 y7 y8) else (if ii w = 2 then some (outY (ii (ggP P (P 2) d n)) y1 y2 y3 y4 y5 y6 y7 y8) else (if ii w = 3 then some (outY (ii (beP P (P 2) d (ffP P (P 2) d n))) y1 y2 y3 y4 y5 y6 y7 y8) else some (outY (ii (afP P (P 2) d (ffP P (P 2) d n))) y1 y2 y3 y4 y5 y6 y7 y8))))) := by
      have f2 : ∀ {α : Type} (q : Int32 → Option α), aget 393 (il Q) 2 q = q (ii (P 2)) := fun q => by
        rw [show aget 393 (il Q) 2 q = q (ii (Q 2)) from aget_ii (z := 2) (by omega) (by omega) (by omega), hRS.2.2.2.1]
      rw [c2]
      unfold fX5_line
      rw [m_colT (by omega) (by omega), bd_eq, if_neg ii10, if_neg g1, g4, bd_eq, if_neg ii10, k1, bd_eq]
      dsimp only
      rw [hM.many hd, if_pos g5, hM.lin hd b1 hn, hM.own hd b1 hn, f2, hM.mdr hRS hs1 hs2 hd hn]
      unfold fX5_line_76
      rw [hM.mbefore hRS.1 hs1 hs2 hd (by omega) (by omega), hM.mafter hRS.1 hs1 hs2 hd (by omega) (by omega)]
      simp only [bd_eq]
      rcases w5 with rfl | rfl | rfl | rfl | rfl
      · rw [if_pos (by decide), if_pos (by decide), if_pos (by decide)]
      · rw [if_pos (by decide), if_neg (by decide), if_pos (by decide), if_neg (by decide), if_pos (by decide)]
      · rw [if_pos (by decide), if_neg (by decide), if_neg (by decide), if_neg (by decide), if_neg (by decide), if_pos (by decide)]
      · rcases beP_01 P (P 2) d (ffP P (P 2) d n) with u | u
        · rw [u, if_neg (by decide), if_pos (by decide), if_pos ii00, if_neg (by decide), if_neg (by decide), if_neg (by decide), if_pos (by decide)]
          try rfl
        · rw [u, if_neg (by decide), if_pos (by decide), if_neg ii10, if_neg (by decide), if_neg (by decide), if_neg (by decide), if_pos (by decide)]
          try rfl
      · rcases afP_01 P (P 2) d (ffP P (P 2) d n) with u | u
        · rw [u, if_neg (by decide), if_neg (by decide), if_pos ii00, if_neg (by decide), if_neg (by decide), if_neg (by decide), if_neg (by decide)]
          try rfl
        · rw [u, if_neg (by decide), if_neg (by decide), if_neg ii10, if_neg (by decide), if_neg (by decide), if_neg (by decide), if_neg (by decide)]
          try rfl
    rcases w5 with rfl | rfl | rfl | rfl | rfl
    · exact ⟨_, outY (ii (ffP P (P 2) d n)) y1 y2 y3 y4 y5 y6 y7 y8, by rw [hcl, if_pos (by decide)], by rw [hml, if_pos (by decide)], rfl, hI⟩
    · exact ⟨_, outY (ii (drP P (P 2) d n)) y1 y2 y3 y4 y5 y6 y7 y8, by rw [hcl, if_neg (by decide), if_pos (by decide)], by rw [hml, if_neg (by decide), if_pos (by decide)], rfl, hI⟩
    · exact ⟨_, outY (ii (ggP P (P 2) d n)) y1 y2 y3 y4 y5 y6 y7 y8, by rw [hcl, if_neg (by decide), if_neg (by decide), if_pos (by decide)], by rw [hml, if_neg (by decide), if_neg (by decide), if_pos (by decide)], rfl, hI⟩
    · exact ⟨_, outY (ii (beP P (P 2) d (ffP P (P 2) d n))) y1 y2 y3 y4 y5 y6 y7 y8, by rw [hcl, if_neg (by decide), if_neg (by decide), if_neg (by decide), if_pos (by decide)], by rw [hml, if_neg (by decide), if_neg (by decide), if_neg (by decide), if_pos (by decide)], rfl, hI⟩
    · exact ⟨_, outY (ii (afP P (P 2) d (ffP P (P 2) d n))) y1 y2 y3 y4 y5 y6 y7 y8, by rw [hcl, if_neg (by decide), if_neg (by decide), if_neg (by decide), if_neg (by decide)], by rw [hml, if_neg (by decide), if_neg (by decide), if_neg (by decide), if_neg (by decide)], rfl, hI⟩
  · have g5 : ¬ ii (n : Nat) < ii (nnP P (P 2) d : Nat) := by rw [ii_lt (by omega) (by omega) (by omega) (by omega)]; omega
    refine ⟨-5, outY (-5) y1 y2 y3 y4 y5 y6 y7 y8, ?_, ?_, rfl, hI⟩
    · rw [d5]
      unfold fX4_line
      rw [e_col (by omega) (by omega), bd_eq, if_neg ii10, if_neg g1, if_neg g2, if_pos g3, hC.count hd, bd_eq, if_neg g5]
    · rw [c2]
      unfold fX5_line
      rw [m_colT (by omega) (by omega), bd_eq, if_neg ii10, if_neg g1, g4, bd_eq, if_neg ii10, k1, bd_eq]
      dsimp only
      rw [hM.many hd, if_neg g5]
theorem e_place {A : Nat → Int} {c b : Nat} (hc : c < 4) (hb : b < 16) {α : Type} (k : Int32 → Option α) : aget 64 (il A) ((ii c * 16) + ii b) k = k (ii (A (16 * c + b))) := by
  rw [q_16, ii_mul, ii_add, aget_ii (by omega) (by omega) (by omega), il_app, show ((c : Int) * 16 + b).toNat = 16 * c + b by omega]
theorem m_place {A : Nat → Int} {c b : Nat} (hc : c < 4) (hb : b < 16) {α : Type} (k : Int32 → Option α) : aget 64 (il A) ((16 * ii c) + ii b) k = k (ii (A (16 * c + b))) := by
  rw [q_16, ii_mul, ii_add, aget_ii (by omega) (by omega) (by omega), il_app, show (16 * (c : Int) + b).toNat = 16 * c + b by omega]
theorem e_parts {sp : Nat → Int} {c b : Nat} (hc : c < 4) (hb : b < 16) : fX1_setPartsOf (ii c) (ii b) (il sp) = some (ii (sp (16 * c + b))) := by
  unfold fX1_setPartsOf
  rw [e_isPlace hc hb, bd_eq, if_neg ii10, e_place hc hb]
theorem e_ahead {A : Nat → Int} {c b : Nat} (hc : c < 4) (hb : b < 16) : fX1_cursorAhead (ii c) (ii b) (il A) = some (ii (A (16 * c + b))) := by
  unfold fX1_cursorAhead
  rw [e_isPlace hc hb, bd_eq, if_neg ii10, e_place hc hb]
theorem e_behind {A : Nat → Int} {c b : Nat} (hc : c < 4) (hb : b < 16) : fX1_cursorBehind (ii c) (ii b) (il A) = some (ii (A (16 * c + b))) := by
  unfold fX1_cursorBehind
  rw [e_isPlace hc hb, bd_eq, if_neg ii10, e_place hc hb]
theorem ofZ {Q : Nat → Int} {c b : Nat} {w : Int} (hc : c < 4) (hb : b < 16) (h0 : 0 ≤ w) (h5 : w < 6) : fX5_of (ii c) (ii b) (ii w) (il Q) = some (ii (mf Q c b w.toNat)) := by
  obtain ⟨k, rfl⟩ : ∃ k : Nat, w = k := ⟨w.toNat, by omega⟩
  exact m_of hc hb (by omega)
theorem fieldZ {P : Nat → Int} {c b : Nat} {w : Int} (hc : c < 4) (hb : b < 16) (h0 : 0 ≤ w) (h5 : w < 6) : fX2_fieldOf (ii c) (ii b) (ii w) (il P) = some (ii (pf P c b w.toNat)) := by
  obtain ⟨k, rfl⟩ : ∃ k : Nat, w = k := ⟨w.toNat, by omega⟩
  exact e_field hc hb (by omega)
set_option maxHeartbeats 4000000 in
theorem ok_block : op_block InvG := by
  intro i1 i2 i3 sg sm hI
  obtain ⟨P, Q, lcz, enz, ovz, ahz, bez, spz, blz, lbz, c1, c2, hRS, d1, d2, d3, d4, d5, d6, d7, d8, d9, d10, d11, d12, hlay, y1, y2, y3, y4, y5, y6, y7, y8, k1, k2⟩ := act_qry hI
  obtain ⟨c, hc1, hc2, rfl⟩ := ii_of i1
  obtain ⟨x, hx1, hx2, rfl⟩ := ii_of i2
  obtain ⟨w, hw1, hw2, rfl⟩ := ii_of i3
  rcases blk_cases hRS hc1 hc2 hx1 hx2 with ⟨d, b, rfl, rfl, hd, hb⟩ | ⟨w1, w2⟩
  · obtain ⟨p1, p2, p3, p4⟩ := hRS.at hd
    have hb16 : b < 16 := by omega
    obtain ⟨hF, hR⟩ := p4 b hb
    have hk := hF.1
    rcases Classical.em (w < 0 ∨ 8 < w) with hw | hw
    · refine ⟨-2, rawM (-2) sm, ?_, ?_, rfl, hI⟩
      · rw [c1]
        unfold fX4_block
        rw [e_hasBlock hd hb p3, bd_eq, if_neg ii10]
        rcases Int.lt_or_le w 0 with h2 | h2
        · rw [if_pos (by rw [q_0, ii_lt (by omega) (by omega) (by omega) (by omega)]; omega)]
        rw [if_neg (by rw [q_0, ii_lt (by omega) (by omega) (by omega) (by omega)]; omega), if_neg (by rw [q_8, ii_le (by omega) (by omega) (by omega) (by omega)]; omega)]
      · rw [c2]
        unfold fX5_block
        rw [m_isBlockT hd (by omega) (by omega), bd_eq, if_neg ii10, show fX5_in (ii w) 0 8 = some (ii 0) from m_inF (lo := 0) (hi := 8) (by omega) (by omega) (by omega) (by omega) (by omega) (by omega) (by omega), bd_eq, if_pos ii00]
    · have g2 : ¬ ii w < 0 := by rw [q_0, ii_lt (by omega) (by omega) (by omega) (by omega)]; omega
      have g3 : ii w ≤ 8 := by rw [q_8, ii_le (by omega) (by omega) (by omega) (by omega)]; omega
      have g4 : fX5_in (ii w) 0 8 = some (ii 1) := m_inT (lo := 0) (hi := 8) (by omega) (by omega) (by omega) (by omega)
      have hm0 : fX5_block (ii d) (ii b) (ii w) sm.2.2.2.2.1 sm.2.2.2.2.2.2.2.2.1 sm.2.2.2.2.2.2.2.2.2.1 sm.2.2.2.2.2.2.2.2.2.2.1 sm.2.2.2.2.2.2.2.2.2.2.2.1 sm.2.2.2.2.2.2.2.2.2.2.2.2.1 sm.2.2.2.2.2.2.2.2.2.2.2.2.2.1 sm.2.2.2.2.2.2.2.2.2.2.2.2.2.2.1 sm.2.2.2.2.2.2.2.2.2.2.2.2.2.2.2 = fX5_block_39 (ii d) (ii b) (ii w) (il Q) (ii (if pf P d b 0 = 0 then 1 else 0)) sm.2.2.2.2.2.2.2.2.1 sm.2.2.2.2.2.2.2.2.2.1 sm.2.2.2.2.2.2.2.2.2.2.1 sm.2.2.2.2.2.2.2.2.2.2.2.1 sm.2.2.2.2.2.2.2.2.2.2.2.2.1 sm.2.2.2.2.2.2.2.2.2.2.2.2.2.1 sm.2.2.2.2.2.2.2.2.2.2.2.2.2.2.1 sm.2.2.2.2.2.2.2.2.2.2.2.2.2.2.2 := by
        rw [c2]
        unfold fX5_block
        rw [m_isBlockT hd (by omega) (by omega), bd_eq, if_neg ii10, g4, bd_eq, if_neg ii10, m_f0 hd hb16, bd_eq, ← hR.1]
        rcases Classical.em (pf P d b 0 = 0) with q | q
        · rw [q, if_pos ii00, if_pos rfl]
          rfl
        · rw [if_neg (show ¬ ii (pf P d b 0) = 0 by rw [q_0, ii_eq (by unfold FlOK at hk; omega) (by unfold FlOK at hk; omega) (by omega) (by omega)]; exact q), if_neg q]
          rfl
      rcases Int.lt_or_le w 6 with h6 | h6
      · refine ⟨ii (pf P d b w.toNat), rawM (ii (pf P d b w.toNat)) sm, ?_, ?_, rfl, hI⟩
        · rw [c1]
          unfold fX4_block
          rw [e_hasBlock hd hb p3, bd_eq, if_neg ii10, if_neg g2, if_pos g3, if_neg (by rw [q_6, ii_le (by omega) (by omega) (by omega) (by omega)]; omega), fieldZ hd hb16 (by omega) (by omega), bd_eq]
        · rw [hm0]
          unfold fX5_block_39 fX5_block_61 fX5_block_66
          rw [if_neg (by rw [q_6, ii_le (by omega) (by omega) (by omega) (by omega)]; omega), ofZ hd hb16 (by omega) (by omega)]
          simp only [bd_eq]
          obtain ⟨hF1, hF2, hF3⟩ := hF
          obtain ⟨hR1, hR2, hR3⟩ := hR
          have w6 : w = 0 ∨ w = 1 ∨ w = 2 ∨ w = 3 ∨ w = 4 ∨ w = 5 := by omega
          rcases Classical.em (pf P d b 0 = 0) with q | q
          · rw [if_pos q]
            obtain ⟨z1, z2, z3, z4⟩ := hR2 q
            have z5 := hF2 q
            rcases w6 with rfl | rfl | rfl | rfl | rfl | rfl
            · rw [if_pos (by decide)]
              show _ = some (rawM (ii (pf P d b 0)) sm)
              rw [hR1]
              rfl
            · rw [if_neg (by decide), if_neg (by decide), if_neg (by decide)]
              show _ = some (rawM (ii (pf P d b 1)) sm)
              rw [z1]
              rfl
            · rw [if_neg (by decide), if_neg (by decide), if_neg (by decide)]
              show _ = some (rawM (ii (pf P d b 2)) sm)
              rw [z2]
              rfl
            · rw [if_neg (by decide), if_neg (by decide), if_neg (by decide)]
              show _ = some (rawM (ii (pf P d b 3)) sm)
              rw [z3]
              rfl
            · rw [if_neg (by decide), if_neg (by decide), if_neg (by decide)]
              show _ = some (rawM (ii (pf P d b 4)) sm)
              rw [z4]
              rfl
            · rw [if_neg (by decide), if_pos (by decide), if_pos (by decide)]
              show _ = some (rawM (ii (pf P d b 5)) sm)
              rw [z5]
              rfl
          · rw [if_neg q]
            have z5 := hR3 q
            obtain ⟨z1, z2, z3, z4⟩ := hF3 q
            rcases w6 with rfl | rfl | rfl | rfl | rfl | rfl
            · rw [if_pos (by decide)]
              show _ = some (rawM (ii (pf P d b 0)) sm)
              rw [hR1]
              rfl
            · rw [if_neg (by decide), if_neg (by decide), if_pos (by decide)]
              show _ = some (rawM (ii (pf P d b 1)) sm)
              rw [z1]
              rfl
            · rw [if_neg (by decide), if_neg (by decide), if_pos (by decide)]
              show _ = some (rawM (ii (pf P d b 2)) sm)
              rw [z2]
              rfl
            · rw [if_neg (by decide), if_neg (by decide), if_pos (by decide)]
              show _ = some (rawM (ii (pf P d b 3)) sm)
              rw [z3]
              rfl
            · rw [if_neg (by decide), if_neg (by decide), if_pos (by decide)]
              show _ = some (rawM (ii (pf P d b 4)) sm)
              rw [z4]
              rfl
            · rw [if_neg (by decide), if_pos (by decide), if_neg (by decide)]
              show _ = some (rawM (ii (pf P d b 5)) sm)
              rw [z5]
              rfl
      · obtain ⟨q, hq40, s1, s2, s3⟩ := hRS.parts hlay k2 hd hb
        have hcl : fX4_block (ii d) (ii b) (ii w) sg.2.1 sg.2.2.2.2.2.2.2.2.2.2.1 sg.2.2.2.2.2.2.2.2.2.2.2.1 sg.2.2.2.2.2.2.2.2.2.2.2.2.1 = (if ii w = 8 then some (ii q) else (if ii q = 0 then some (-5) else (if ii w = 6 then some (ii (ahz (16 * d + b))) else some (ii (bez (16 * d + b)))))) := by
          rw [c1, d8, d9, d10]
          unfold fX4_block
          rw [e_hasBlock hd hb p3, bd_eq, if_neg ii10, if_neg g2, if_pos g3, if_pos (by rw [q_6, ii_le (by omega) (by omega) (by omega) (by omega)]; omega), e_parts hd hb16, e_ahead hd hb16, e_behind hd hb16, s1]
          simp only [bd_eq]
        have hml : fX5_block (ii d) (ii b) (ii w) sm.2.2.2.2.1 sm.2.2.2.2.2.2.2.2.1 sm.2.2.2.2.2.2.2.2.2.1 sm.2.2.2.2.2.2.2.2.2.2.1 sm.2.2.2.2.2.2.2.2.2.2.2.1 sm.2.2.2.2.2.2.2.2.2.2.2.2.1 sm.2.2.2.2.2.2.2.2.2.2.2.2.2.1 sm.2.2.2.2.2.2.2.2.2.2.2.2.2.2.1 sm.2.2.2.2.2.2.2.2.2.2.2.2.2.2.2 = (if ii w = 8 then some (outY (ii q) y1 y2 y3 y4 y5 y6 y7 y8) else (if ii q = 0 then some (outY (-5) y1 y2 y3 y4 y5 y6 y7 y8) else (if ii w = 6 then some (outY (ii (y6 (16 * d + b))) y1 y2 y3 y4 y5 y6 y7 y8) else some (outY (ii (y7 (16 * d + b))) y1 y2 y3 y4 y5 y6 y7 y8)))) := by
          rw [hm0]
          unfold fX5_block_39
          rw [if_pos (by rw [q_6, ii_le (by omega) (by omega) (by omega) (by omega)]; omega), k1, bd_eq, nm_eq]
          dsimp only
          rw [m_place hd hb16, m_place hd hb16, m_place hd hb16, m_place hd hb16, s2]
        have w3 : w = 6 ∨ w = 7 ∨ w = 8 := by omega
        rcases Nat.eq_zero_or_pos q with hq | hq
        · subst hq
          rcases w3 with rfl | rfl | rfl
          · exact ⟨-5, outY (-5) y1 y2 y3 y4 y5 y6 y7 y8, by rw [hcl, if_neg (by decide), if_pos (by decide)], by rw [hml, if_neg (by decide), if_pos (by decide)], rfl, hI⟩
          · exact ⟨-5, outY (-5) y1 y2 y3 y4 y5 y6 y7 y8, by rw [hcl, if_neg (by decide), if_pos (by decide)], by rw [hml, if_neg (by decide), if_pos (by decide)], rfl, hI⟩
          · exact ⟨_, outY _ y1 y2 y3 y4 y5 y6 y7 y8, by rw [hcl, if_pos (by decide)], by rw [hml, if_pos (by decide)], rfl, hI⟩
        · have hq0 : ¬ ii (q : Nat) = 0 := by rw [q_0, ii_eq (by omega) (by omega) (by omega) (by omega)]; omega
          obtain ⟨t1, t2⟩ := s3 (by omega)
          rcases w3 with rfl | rfl | rfl
          · exact ⟨_, outY _ y1 y2 y3 y4 y5 y6 y7 y8, by rw [hcl, if_neg (by decide), if_neg hq0, if_pos (by decide), t1], by rw [hml, if_neg (by decide), if_neg hq0, if_pos (by decide)], rfl, hI⟩
          · exact ⟨_, outY _ y1 y2 y3 y4 y5 y6 y7 y8, by rw [hcl, if_neg (by decide), if_neg hq0, if_neg (by decide), t2], by rw [hml, if_neg (by decide), if_neg hq0, if_neg (by decide)], rfl, hI⟩
          · exact ⟨_, outY _ y1 y2 y3 y4 y5 y6 y7 y8, by rw [hcl, if_pos (by decide)], by rw [hml, if_pos (by decide)], rfl, hI⟩
  · refine ⟨-1, rawM (-1) sm, ?_, ?_, rfl, hI⟩
    · rw [c1]
      unfold fX4_block
      rw [w1, bd_eq, if_pos ii00]
    · rw [c2]
      unfold fX5_block
      rw [w2, bd_eq, if_pos ii00]
