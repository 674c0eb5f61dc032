/-! paragraph, put -/
theorem sixteen {P : Nat → Int} {c : Nat} (h0 : 0 ≤ pn P c) : ∃ n : Nat, pn P c = n := ⟨(pn P c).toNat, by omega⟩
set_option maxHeartbeats 4000000 in
theorem ok_paragraph : op_paragraph InvG := by
  intro i1 i2 i3 i4 i5 hs5 sg sm hI
  obtain ⟨P, Q, Az, Bz, kk, c1, c2, hRS, r1, r2, hlay, hnew⟩ := act_rec hI
  obtain ⟨c, hc1, hc2, rfl⟩ := ii_of i1
  obtain ⟨a1, ha1, hb1, rfl⟩ := ii_of i2
  obtain ⟨a2, ha2, hb2, rfl⟩ := ii_of i3
  obtain ⟨a3, ha3, hb3, rfl⟩ := ii_of i4
  obtain ⟨s, hs, rfl⟩ : ∃ s : Int, (s = 0 ∨ s = 1) ∧ i5 = ii s := by
    rcases hs5 with h | h
    · exact ⟨0, Or.inl rfl, h⟩
    · exact ⟨1, Or.inr rfl, h⟩
  rcases Classical.em (c < 0 ∨ 4 ≤ c) with hc | hc
  · refine ⟨sameC (-1) sg, sameM (-1) sm, ?_, ?_, rfl, hI⟩
    · unfold fX4_paragraph
      rw [e_colF hc1 hc2 hc, bd_eq, if_pos ii00]
      rfl
    · unfold fX5_paragraph
      rw [m_colF hc1 hc2 hc, bd_eq, if_pos ii00]
      rfl
  obtain ⟨d, rfl⟩ : ∃ d : Nat, c = d := ⟨c.toNat, by omega⟩
  have hd : d < 4 := by omega
  rcases Classical.em (1 ≤ a1 ∧ a1 ≤ 40 ∧ 40 ≤ a2 ∧ a2 ≤ 400 ∧ a2 ≤ a3 ∧ a3 ≤ 600) with hg | hg
  · obtain ⟨g1, g2, g3, g4, g5, g6⟩ := hg
    obtain ⟨p1, p2, p3, p4⟩ := hRS.at hd
    obtain ⟨n, hn⟩ := sixteen p2
    have hmn : mn Q d = n := by rw [← p1, hn]
    have k1 : ¬ ii a1 < 1 := by rw [q_1, ii_lt (by omega) (by omega) (by omega) (by omega)]; omega
    have k2 : ¬ 40 < ii a1 := by rw [q_40, ii_lt (by omega) (by omega) (by omega) (by omega)]; omega
    have k3 : ¬ 400 < ii a2 := by rw [q_400, ii_lt (by omega) (by omega) (by omega) (by omega)]; omega
    have k4 : ii a3 ≤ 600 := by rw [q_600, ii_le (by omega) (by omega) (by omega) (by omega)]; omega
    have k5 : fX4_isFitting (ii a2) (ii a3) = some (ii 1) := by
      unfold fX4_isFitting
      rw [if_neg (by rw [q_40, ii_lt (by omega) (by omega) (by omega) (by omega)]; omega), if_neg (by rw [ii_lt (by omega) (by omega) (by omega) (by omega)]; omega)]
      rfl
    have j1 : fX5_in (ii a1) 1 40 = some (ii 1) := m_inT (lo := 1) (hi := 40) (by omega) (by omega) g1 g2
    have j2 : fX5_in (ii a2) 40 400 = some (ii 1) := m_inT (lo := 40) (hi := 400) (by omega) (by omega) g3 g4
    have j3 : fX5_in (ii a3) (ii a2) 600 = some (ii 1) := m_inT (lo := a2) (hi := 600) (by omega) (by omega) g5 g6
    rcases Nat.lt_or_ge n 16 with h16 | h16
    · obtain ⟨Pz, e1, e2⟩ := e_appendParagraph (a1 := a1) (a2 := a2) (a3 := a3) (s := s) hd h16 hn hs
      obtain ⟨Qz, f1, f2⟩ := m_puts (v0 := 0) (v1 := a1) (v2 := a2) (v3 := a3) (v4 := s) (v5 := 0) hd h16 hmn
      obtain ⟨cu, lcz, enz, ovz, ahz, bez, spz, blz, lbz, l1, l2, hinv⟩ := hnew Pz Qz (hRS.put hd h16 hn e2 f2 (parV_ok g1 g2 g3 g4 g5 g6 hs))
      refine ⟨outC (ii n) Pz cu lcz enz ovz ahz bez spz blz lbz kk Az, outM (ii n) kk Qz Bz, ?_, ?_, rfl, hinv (ii n)⟩
      · unfold fX4_paragraph
        rw [e_col (by omega) (by omega), bd_eq, if_neg ii10, if_neg k1, if_neg k2, if_neg k3, if_pos k4, k5, bd_eq, if_neg ii10, c1, e_blocks hd, bd_eq, hn, if_pos (by rw [q_16, ii_lt (by omega) (by omega) (by omega) (by omega)]; omega), r1, bd_eq, e1, bd_eq, l1, bd_eq]
        try rfl
      · unfold fX5_paragraph
        rw [m_colT (by omega) (by omega), bd_eq, if_neg ii10, j1, bd_eq, if_neg ii10, j2, bd_eq, if_neg ii10, j3, bd_eq, if_neg ii10, c2, m_blocks hd, bd_eq, hmn, if_neg (by rw [q_16, ii_eq (by omega) (by omega) (by omega) (by omega)]; omega), r2, bd_eq]
        unfold fX5_paragraph_80
        rcases hs with rfl | rfl
        · rw [if_pos ii00, q_0, f1]
          rfl
        · rw [if_neg ii10, q_0, q_1, f1]
          rfl
    · have e16 : n = 16 := by omega
      subst e16
      refine ⟨sameC (-3) sg, sameM (-3) sm, ?_, ?_, rfl, hI⟩
      · unfold fX4_paragraph
        rw [e_col (by omega) (by omega), bd_eq, if_neg ii10, if_neg k1, if_neg k2, if_neg k3, if_pos k4, k5, bd_eq, if_neg ii10, c1, e_blocks hd, bd_eq, hn, if_neg (by decide), ← c1]
        rfl
      · unfold fX5_paragraph
        rw [m_colT (by omega) (by omega), bd_eq, if_neg ii10, j1, bd_eq, if_neg ii10, j2, bd_eq, if_neg ii10, j3, bd_eq, if_neg ii10, c2, m_blocks hd, bd_eq, hmn, if_pos (by decide), ← c2]
        rfl
  · refine ⟨sameC (-2) sg, sameM (-2) sm, ?_, ?_, rfl, hI⟩
    · unfold fX4_paragraph
      rw [e_col (by omega) (by omega), bd_eq, if_neg ii10]
      rcases Int.lt_or_le a1 1 with h1 | h1
      · rw [if_pos (by rw [q_1, ii_lt (by omega) (by omega) (by omega) (by omega)]; omega)]
        rfl
      rw [if_neg (by rw [q_1, ii_lt (by omega) (by omega) (by omega) (by omega)]; omega)]
      rcases Int.lt_or_le 40 a1 with h2 | h2
      · rw [if_pos (by rw [q_40, ii_lt (by omega) (by omega) (by omega) (by omega)]; omega)]
        rfl
      rw [if_neg (by rw [q_40, ii_lt (by omega) (by omega) (by omega) (by omega)]; omega)]
      rcases Int.lt_or_le 400 a2 with h3 | h3
      · rw [if_pos (by rw [q_400, ii_lt (by omega) (by omega) (by omega) (by omega)]; omega)]
        rfl
      rw [if_neg (by rw [q_400, ii_lt (by omega) (by omega) (by omega) (by omega)]; omega)]
      rcases Int.lt_or_le 600 a3 with h4 | h4
      · rw [if_neg (by rw [q_600, ii_le (by omega) (by omega) (by omega) (by omega)]; omega)]
        rfl
      rw [if_pos (by rw [q_600, ii_le (by omega) (by omega) (by omega) (by omega)]; omega)]
      have k5 : fX4_isFitting (ii a2) (ii a3) = some (ii 0) := by
        unfold fX4_isFitting
        rcases Int.lt_or_le a2 40 with h5 | h5
        · rw [if_pos (by rw [q_40, ii_lt (by omega) (by omega) (by omega) (by omega)]; omega)]
          rfl
        · rw [if_neg (by rw [q_40, ii_lt (by omega) (by omega) (by omega) (by omega)]; omega), if_pos (by rw [ii_lt (by omega) (by omega) (by omega) (by omega)]; omega)]
          rfl
      rw [k5, bd_eq, if_pos ii00]
      rfl
    · unfold fX5_paragraph
      rw [m_colT (by omega) (by omega), bd_eq, if_neg ii10]
      rcases Classical.em (1 ≤ a1 ∧ a1 ≤ 40) with h1 | h1
      · rw [show fX5_in (ii a1) 1 40 = some (ii 1) from m_inT (lo := 1) (hi := 40) (by omega) (by omega) h1.1 h1.2, bd_eq, if_neg ii10]
        rcases Classical.em (40 ≤ a2 ∧ a2 ≤ 400) with h2 | h2
        · rw [show fX5_in (ii a2) 40 400 = some (ii 1) from m_inT (lo := 40) (hi := 400) (by omega) (by omega) h2.1 h2.2, bd_eq, if_neg ii10]
          rw [show fX5_in (ii a3) (ii a2) 600 = some (ii 0) from m_inF (lo := a2) (hi := 600) (by omega) (by omega) (by omega) (by omega) (by omega) (by omega) (by omega), bd_eq, if_pos ii00]
          rfl
        · rw [show fX5_in (ii a2) 40 400 = some (ii 0) from m_inF (lo := 40) (hi := 400) (by omega) (by omega) (by omega) (by omega) (by omega) (by omega) (by omega), bd_eq, if_pos ii00]
          rfl
      · rw [show fX5_in (ii a1) 1 40 = some (ii 0) from m_inF (lo := 1) (hi := 40) (by omega) (by omega) (by omega) (by omega) (by omega) (by omega) (by omega), bd_eq, if_pos ii00]
        rfl
set_option maxHeartbeats 4000000 in
theorem ok_put : op_put InvG := by
  intro i1 i2 i3 hs5 sg sm hI
  obtain ⟨P, Q, Az, Bz, kk, c1, c2, hRS, r1, r2, hlay, hnew⟩ := act_rec hI
  obtain ⟨c, hc1, hc2, rfl⟩ := ii_of i1
  obtain ⟨hg, ha1, hb1, rfl⟩ := ii_of i3
  rcases Classical.em (c < 0 ∨ 4 ≤ c) with hc | hc
  · refine ⟨sameC (-1) sg, sameM (-1) sm, ?_, ?_, rfl, hI⟩
    · unfold fX4_put
      rw [e_colF hc1 hc2 hc, bd_eq, if_pos ii00]
      rfl
    · unfold fX5_put
      rw [m_colF hc1 hc2 hc, bd_eq, if_pos ii00]
      rfl
  obtain ⟨d, rfl⟩ : ∃ d : Nat, c = d := ⟨c.toNat, by omega⟩
  have hd : d < 4 := by omega
  rcases Classical.em (1 ≤ hg ∧ hg ≤ 3000) with hh | hh
  · obtain ⟨g1, g2⟩ := hh
    obtain ⟨p1, p2, p3, p4⟩ := hRS.at hd
    obtain ⟨n, hn⟩ := sixteen p2
    have hmn : mn Q d = n := by rw [← p1, hn]
    have k1 : ¬ ii hg < 1 := by rw [q_1, ii_lt (by omega) (by omega) (by omega) (by omega)]; omega
    have k4 : ii hg ≤ 3000 := by rw [q_3000, ii_le (by omega) (by omega) (by omega) (by omega)]; omega
    have j1 : fX5_in (ii hg) 1 3000 = some (ii 1) := m_inT (lo := 1) (hi := 3000) (by omega) (by omega) g1 g2
    rcases Nat.lt_or_ge n 16 with h16 | h16
    · have go : ∀ kd : Int, (kd = 1 ∨ kd = 2) → ∃ o4 o5, fX4_put_69 (ii hg) (ii n) (ii d) (ii kd) (il P) sg.2.2.1 sg.2.2.2.1 sg.2.2.2.2.1 sg.2.2.2.2.2.1 sg.2.2.2.2.2.2.1 sg.2.2.2.2.2.2.2.1 sg.2.2.2.2.2.2.2.2.1 sg.2.2.2.2.2.2.2.2.2.1 sg.2.2.2.2.2.2.2.2.2.2.1 sg.2.2.2.2.2.2.2.2.2.2.2.1 sg.2.2.2.2.2.2.2.2.2.2.2.2.1 sg.2.2.2.2.2.2.2.2.2.2.2.2.2.1 sg.2.2.2.2.2.2.2.2.2.2.2.2.2.2.1 kk (il Az) = some o4 ∧ fX5_put_51 (ii hg) (ii d) (ii kd) kk (il Q) (il Bz) = some o5 ∧ o4.1 = o5.1 ∧ InvG (ActC sg o4) (ActM sm o5) := by
        intro kd hkd
        obtain ⟨Pz, e1, e2⟩ := e_appendLineless (kd := kd) (h := hg) hd h16 hn
        obtain ⟨Qz, f1, f2⟩ := m_puts (v0 := kd) (v1 := 0) (v2 := 0) (v3 := 0) (v4 := 0) (v5 := hg) hd h16 hmn
        obtain ⟨cu, lcz, enz, ovz, ahz, bez, spz, blz, lbz, l1, l2, hinv⟩ := hnew Pz Qz (hRS.put hd h16 hn e2 f2 (linV_ok hkd g1 g2))
        refine ⟨outC (ii n) Pz cu lcz enz ovz ahz bez spz blz lbz kk Az, outM (ii n) kk Qz Bz, ?_, ?_, rfl, hinv (ii n)⟩
        · unfold fX4_put_69
          rw [e1, bd_eq, l1, bd_eq]
          try rfl
        · unfold fX5_put_51
          rw [q_0, f1, bd_eq]
          try rfl
      have hcl : ∀ kd : Int, (i2 = 0 ∧ kd = 2 ∨ i2 = 1 ∧ kd = 1) → fX4_put (ii d) i2 (ii hg) sg.2.1 sg.2.2.1 sg.2.2.2.1 sg.2.2.2.2.1 sg.2.2.2.2.2.1 sg.2.2.2.2.2.2.1 sg.2.2.2.2.2.2.2.1 sg.2.2.2.2.2.2.2.2.1 sg.2.2.2.2.2.2.2.2.2.1 sg.2.2.2.2.2.2.2.2.2.2.1 sg.2.2.2.2.2.2.2.2.2.2.2.1 sg.2.2.2.2.2.2.2.2.2.2.2.2.1 sg.2.2.2.2.2.2.2.2.2.2.2.2.2.1 sg.2.2.2.2.2.2.2.2.2.2.2.2.2.2.1 sg.2.2.2.2.2.2.2.2.2.2.2.2.2.2.2.2.2.2.2.2.2.2.2.2.2.2.2.2.2.2.1 sg.2.2.2.2.2.2.2.2.2.2.2.2.2.2.2.2.2.2.2.2.2.2.2.2.2.2.2.2.2.2.2.1 = fX4_put_69 (ii hg) (ii n) (ii d) (ii kd) (il P) sg.2.2.1 sg.2.2.2.1 sg.2.2.2.2.1 sg.2.2.2.2.2.1 sg.2.2.2.2.2.2.1 sg.2.2.2.2.2.2.2.1 sg.2.2.2.2.2.2.2.2.1 sg.2.2.2.2.2.2.2.2.2.1 sg.2.2.2.2.2.2.2.2.2.2.1 sg.2.2.2.2.2.2.2.2.2.2.2.1 sg.2.2.2.2.2.2.2.2.2.2.2.2.1 sg.2.2.2.2.2.2.2.2.2.2.2.2.2.1 sg.2.2.2.2.2.2.2.2.2.2.2.2.2.2.1 kk (il Az) := by
        intro kd hkd
        unfold fX4_put
        rw [e_col (by omega) (by omega), bd_eq, if_neg ii10, if_neg k1, if_pos k4, c1, e_blocks hd, bd_eq, hn, if_pos (by rw [q_16, ii_lt (by omega) (by omega) (by omega) (by omega)]; omega), r1, bd_eq]
        rcases hkd with ⟨h1, h2⟩ | ⟨h1, h2⟩
        · rw [h2, if_pos h1]
          rfl
        · rw [h2, if_neg (by rw [h1]; decide)]
          rfl
      have hml : ∀ kd : Int, (i2 = 0 ∧ kd = 2 ∨ i2 = 1 ∧ kd = 1) → fX5_put (ii d) i2 (ii hg) sm.1 sm.2.2.2.2.1 sm.2.2.2.2.2.2.1 = fX5_put_51 (ii hg) (ii d) (ii kd) kk (il Q) (il Bz) := by
        intro kd hkd
        unfold fX5_put
        rw [m_colT (by omega) (by omega), bd_eq, if_neg ii10, j1, bd_eq, if_neg ii10, c2, m_blocks hd, bd_eq, hmn, if_neg (by rw [q_16, ii_eq (by omega) (by omega) (by omega) (by omega)]; omega), r2, bd_eq]
        rcases hkd with ⟨h1, h2⟩ | ⟨h1, h2⟩
        · rw [h2, if_pos h1]
          rfl
        · rw [h2, if_neg (by rw [h1]; decide)]
          rfl
      rcases hs5 with h | h
      · obtain ⟨o4, o5, w1, w2, w3, w4⟩ := go 2 (Or.inr rfl)
        exact ⟨o4, o5, (hcl 2 (Or.inl ⟨h, rfl⟩)).trans w1, (hml 2 (Or.inl ⟨h, rfl⟩)).trans w2, w3, w4⟩
      · obtain ⟨o4, o5, w1, w2, w3, w4⟩ := go 1 (Or.inl rfl)
        exact ⟨o4, o5, (hcl 1 (Or.inr ⟨h, rfl⟩)).trans w1, (hml 1 (Or.inr ⟨h, rfl⟩)).trans w2, w3, w4⟩
    · have e16 : n = 16 := by omega
      subst e16
      refine ⟨sameC (-3) sg, sameM (-3) sm, ?_, ?_, rfl, hI⟩
      · unfold fX4_put
        rw [e_col (by omega) (by omega), bd_eq, if_neg ii10, if_neg k1, if_pos k4, c1, e_blocks hd, bd_eq, hn, if_neg (by decide), ← c1]
        rfl
      · unfold fX5_put
        rw [m_colT (by omega) (by omega), bd_eq, if_neg ii10, j1, bd_eq, if_neg ii10, c2, m_blocks hd, bd_eq, hmn, if_pos (by decide), ← c2]
        rfl
  · refine ⟨sameC (-2) sg, sameM (-2) sm, ?_, ?_, rfl, hI⟩
    · unfold fX4_put
      rw [e_col (by omega) (by omega), bd_eq, if_neg ii10]
      rcases Int.lt_or_le hg 1 with h1 | h1
      · rw [if_pos (by rw [q_1, ii_lt (by omega) (by omega) (by omega) (by omega)]; omega)]
        rfl
      rw [if_neg (by rw [q_1, ii_lt (by omega) (by omega) (by omega) (by omega)]; omega), if_neg (by rw [q_3000, ii_le (by omega) (by omega) (by omega) (by omega)]; omega)]
      rfl
    · unfold fX5_put
      rw [m_colT (by omega) (by omega), bd_eq, if_neg ii10, show fX5_in (ii hg) 1 3000 = some (ii 0) from m_inF (lo := 1) (hi := 3000) (by omega) (by omega) (by omega) (by omega) (by omega) (by omega) (by omega), bd_eq, if_pos ii00]
      rfl
