/-! what is counted -/
def unP (P : Nat → Int) (S : Int) (c : Nat) : Int := sumF (plP P c) (nP P c) - (nnP P S c : Nat)
def ovI (ov : Nat → Int) (c : Nat) : Int := if ov c = -5 then 0 else 1
theorem ovI_01 (ov : Nat → Int) (c : Nat) : ovI ov c = 0 ∨ ovI ov c = 1 := by
  unfold ovI
  split
  · exact Or.inl rfl
  · exact Or.inr rfl
theorem e_allUn {P lc bl lb : Nat → Int} {S : Int} (hP : PgOK P) (hC : CL P S lc bl lb) : fX4_allUnsetLines (il P) (il lc) = some (ii (sumF (unP P S) 4)) := by
  unfold fX4_allUnsetLines
  refine CL.four (t := sumF (unP P S)) (fun n k hk => ?_) (fun n => ?_) rfl
  · rw [fX4_allUnsetLines_4]
    dsimp only
    unfold fX4_unsetLines
    rw [if_neg (n4 hk), e_plines hP hk, bd_eq, hC.count hk, bd_eq, bd_eq, nm_eq, nm_eq, ii_sub, ii_add, ii_suc]
    rfl
  · rw [fX4_allUnsetLines_4]
    dsimp only
    rw [if_pos (by decide)]
theorem e_overs {ov : Nat → Int} (hov : ∀ c, c < 4 → -5 ≤ ov c ∧ ov c ≤ 16) : fX1_overflowingColumns (il ov) = some (ii (sumF (ovI ov) 4)) := by
  unfold fX1_overflowingColumns
  refine CL.four (t := sumF (ovI ov)) (fun n k hk => ?_) (fun n => ?_) rfl
  · have ho := hov k hk
    rw [fX1_overflowingColumns_4]
    dsimp only
    unfold fX1_overflowingBlockOf fX1_overflowingColumns_22
    rw [if_neg (n4 hk), e_col (by omega) (by omega), bd_eq, if_neg ii10, aget_ii (by omega) (by omega) (by omega), il_app, Int.toNat_natCast, bd_eq, sumF_s, q_5, ii_neg]
    unfold ovI
    rcases Classical.em (ov k = -5) with q | q
    · rw [q, if_pos rfl, if_pos rfl, nm_eq, ii_suc, Int.add_zero]
    · rw [if_neg (show ¬ ii (ov k) = ii (-5) by rw [ii_eq (by omega) (by omega) (by omega) (by omega)]; exact q), if_neg q, nm_eq, nm_eq, ii_suc, q_1, ii_add]
  · rw [fX1_overflowingColumns_4]
    dsimp only
    rw [if_pos (by decide)]
theorem e_greatEnd {en : Nat → Int} (hen : ∀ c, c < 4 → 0 ≤ en c ∧ en c ≤ 60000) : fX1_greatestEnd (il en) = some (ii (maxF en 4)) := by
  unfold fX1_greatestEnd
  refine CL.four (t := maxF en) (fun n k hk => ?_) (fun n => ?_) rfl
  · have ho := hen k hk
    have hm := maxF_b (f := en) (n := k) (B := 60000) (by omega) (fun i hi => hen i (by omega))
    rw [fX1_greatestEnd_4]
    dsimp only
    rw [if_neg (n4 hk), e_endOf hk, bd_eq, nm_eq, nm_eq, ii_suc, maxF_s]
    rcases Int.lt_or_le (maxF en k) (en k) with q | q
    · rw [if_pos (by rw [ii_lt (by omega) (by omega) (by omega) (by omega)]; exact q), if_pos q]
    · rw [if_neg (by rw [ii_lt (by omega) (by omega) (by omega) (by omega)]; omega), if_neg (by omega)]
  · rw [fX1_greatestEnd_4]
    dsimp only
    rw [if_pos (by decide)]
theorem m_c54 {P Q y1 y2 y3 y4 y5 y6 y7 y8 ov en : Nat → Int} (hR : RS P Q) (hM : CL P (P 2) y3 y1 y2) (hov : ∀ c, c < 4 → -5 ≤ ov c ∧ ov c ≤ 16) (hen : ∀ c, c < 4 → 0 ≤ en c ∧ en c ≤ 60000) (e4 : ∀ c, c < 4 → y4 c = en c) (e5 : ∀ c, c < 4 → (ov c = -5 ∧ y5 c = 16) ∨ ∃ o : Nat, o < 16 ∧ ov c = o ∧ y5 c = o) {i1 kept len : Int32} :
    ∀ (r k fu : Nat), k + r = 4 → r < fu → ∃ n : Nat, fX5_count_54 i1 kept len (il Q) (il y1) (il y2) (il y3) (il y4) (il y5) (il y6) (il y7) (il y8) fu (ii (sumF (unP P (P 2)) k)) (ii (sumF (ovI ov) k)) (ii (maxF en k)) (ii (k : Nat)) = fX5_count_54 i1 kept len (il Q) (il y1) (il y2) (il y3) (il y4) (il y5) (il y6) (il y7) (il y8) (n + 1) (ii (sumF (unP P (P 2)) 4)) (ii (sumF (ovI ov) 4)) (ii (maxF en 4)) (ii ((4 : Nat) : Int)) := by
  intro r
  induction r with
  | zero =>
    intro k fu hk hf
    obtain ⟨n, rfl⟩ : ∃ n, fu = n + 1 := ⟨fu - 1, by omega⟩
    have e : k = 4 := by omega
    subst e
    exact ⟨n, rfl⟩
  | succ r ih =>
    intro k fu hk hf
    obtain ⟨n, rfl⟩ : ∃ n, fu = n + 1 := ⟨fu - 1, by omega⟩
    have hk4 : k < 4 := by omega
    obtain ⟨n', hi⟩ := ih (k + 1) n (by omega) (by omega)
    refine ⟨n', Eq.trans ?_ hi⟩
    have ho := hen k hk4
    have hm := maxF_b (f := en) (n := k) (B := 60000) (by omega) (fun i hi => hen i (by omega))
    have h95 : ∀ (w2 : Int32) (x s1 : Int), fX5_count_95 (fX5_count_54 i1 kept len (il Q) (il y1) (il y2) (il y3) (il y4) (il y5) (il y6) (il y7) (il y8) n) i1 kept len (il Q) w2 (ii (maxF en k)) (ii (k : Nat)) (ii x) (ii s1) (il y1) (il y2) (il y3) (il y4) (il y5) (il y6) (il y7) (il y8) = fX5_count_54 i1 kept len (il Q) (il y1) (il y2) (il y3) (il y4) (il y5) (il y6) (il y7) (il y8) n w2 (ii (x + s1)) (ii (maxF en (k + 1))) (ii ((k + 1 : Nat) : Int)) := by
      intro w2 x s1
      have fe : ∀ {α : Type} (q : Int32 → Option α), aget 4 (il y4) (ii k) q = q (ii (en k)) := fun q => by
        rw [aget_ii (by omega) (by omega) (by omega), il_app, Int.toNat_natCast, e4 k hk4]
      unfold fX5_count_95 fX5_count_121
      rw [nm_eq, ii_add, fe, fe, nm_eq, nm_eq, ii_suc, maxF_s]
      rcases Int.lt_or_le (maxF en k) (en k) with q | q
      · rw [if_neg (by rw [ii_le (by omega) (by omega) (by omega) (by omega)]; omega), if_pos q]
      · rw [if_pos (by rw [ii_le (by omega) (by omega) (by omega) (by omega)]; omega), if_neg (by omega)]
    have fo : ∀ {α : Type} (q : Int32 → Option α), aget 4 (il y5) (ii k) q = q (ii (y5 k)) := fun q => by
      rw [aget_ii (by omega) (by omega) (by omega), il_app, Int.toNat_natCast]
    rw [fX5_count_54]
    dsimp only
    rw [if_neg (n4 hk4), m_plines hR hk4, bd_eq, hM.many hk4, nm_eq, fo, ii_sub, ii_add, q_0, q_1, h95, h95, sumF_s, sumF_s]
    unfold ovI
    rcases e5 k hk4 with ⟨u, v⟩ | ⟨o, o1, o2, o3⟩
    · rw [u, v, if_pos (by decide), if_pos rfl]
      rfl
    · rw [o2, o3, if_neg (by rw [q_16, ii_le (by omega) (by omega) (by omega) (by omega)]; omega), if_neg (by omega)]
      rfl
theorem e_onPage {P : Nat → Int} (hP : PgOK P) : fX1_baselinesOnPage (ii (P 0)) (ii (P 1)) (ii (P 2)) = some (ii (if P 1 ≤ P 0 then (P 0 - P 1) / P 2 + 1 else 0)) := by
  obtain ⟨h0, h1, h2, h3, h4, h5, h6⟩ := id hP
  unfold fX1_baselinesOnPage
  rcases Int.lt_or_le (P 0) (P 1) with q | q
  · rw [if_neg (by rw [ii_le (by omega) (by omega) (by omega) (by omega)]; omega), if_neg (by omega)]
    rfl
  · rw [if_pos (by rw [ii_le (by omega) (by omega) (by omega) (by omega)]; omega), if_pos q, e_pos (by omega) (by omega), bd_eq, ii_sub, adiv_ii (by omega) (by omega) (by omega) (by omega), Int.tdiv_eq_ediv_of_nonneg (by omega), q_1, ii_add]
set_option maxHeartbeats 8000000 in
theorem ok_count : op_count InvG := by
  intro i1 sg sm hI
  obtain ⟨P, Q, lcz, enz, ovz, ahz, bez, spz, blz, lbz, c1, c2, hRS, d1, d2, d3, d4, d5, d6, d7, d8, d9, d10, d11, d12, hlay, y1, y2, y3, y4, y5, y6, y7, y8, k1, k2⟩ := act_qry hI
  obtain ⟨hP, hH, hS, hT⟩ := id hI
  obtain ⟨hn, hA, hB, hn4, t1, t2, t3, t4, hr⟩ := hH
  obtain ⟨tn, tA, tB, u0, u1, u2, u3, u4, u5⟩ := hT
  obtain ⟨w, hw1, hw2, rfl⟩ := ii_of i1
  obtain ⟨hs1, hs2⟩ := hRS.1.stp
  have hC := hlay.cl
  have hM := k2.cl hRS
  rcases Classical.em (w < 0 ∨ w = 9 ∨ 14 < w) with hw | hw
  · refine ⟨-2, rawM (-2) sm, ?_, ?_, rfl, hI⟩
    · unfold fX4_count
      simp only [q_0, q_1, q_2, q_3, q_4, q_5, q_6, q_7, q_8, q_9, q_10, q_11, q_12, q_13, q_14, ii_neg]
      rw [if_neg (show ¬ ii w = ii 0 by rw [ii_eq (by omega) (by omega) (by omega) (by omega)]; omega)]
      rw [if_neg (show ¬ ii w = ii 1 by rw [ii_eq (by omega) (by omega) (by omega) (by omega)]; omega)]
      rw [if_neg (show ¬ ii w = ii 2 by rw [ii_eq (by omega) (by omega) (by omega) (by omega)]; omega)]
      rw [if_neg (show ¬ ii w = ii 3 by rw [ii_eq (by omega) (by omega) (by omega) (by omega)]; omega)]
      rw [if_neg (show ¬ ii w = ii 4 by rw [ii_eq (by omega) (by omega) (by omega) (by omega)]; omega)]
      rw [if_neg (show ¬ ii w = ii 5 by rw [ii_eq (by omega) (by omega) (by omega) (by omega)]; omega)]
      rw [if_neg (show ¬ ii w = ii 6 by rw [ii_eq (by omega) (by omega) (by omega) (by omega)]; omega)]
      rw [if_neg (show ¬ ii w = ii 7 by rw [ii_eq (by omega) (by omega) (by omega) (by omega)]; omega)]
      rw [if_neg (show ¬ ii w = ii 8 by rw [ii_eq (by omega) (by omega) (by omega) (by omega)]; omega)]
      rcases Classical.em (w = 9) with w9 | w9
      · rw [if_pos (by rw [w9])]
      rw [if_neg (show ¬ ii w = ii 9 by rw [ii_eq (by omega) (by omega) (by omega) (by omega)]; exact w9)]
      rw [if_neg (show ¬ ii w = ii 10 by rw [ii_eq (by omega) (by omega) (by omega) (by omega)]; omega)]
      rw [if_neg (show ¬ ii w = ii 11 by rw [ii_eq (by omega) (by omega) (by omega) (by omega)]; omega)]
      rw [if_neg (show ¬ ii w = ii 12 by rw [ii_eq (by omega) (by omega) (by omega) (by omega)]; omega)]
      rw [if_neg (show ¬ ii w = ii 13 by rw [ii_eq (by omega) (by omega) (by omega) (by omega)]; omega)]
      rw [if_neg (show ¬ ii w = ii 14 by rw [ii_eq (by omega) (by omega) (by omega) (by omega)]; omega)]
    · unfold fX5_count
      rw [show fX5_in (ii w) 0 8 = some (ii 0) from m_inF (lo := 0) (hi := 8) (by omega) (by omega) (by omega) (by omega) (by omega) (by omega) (by omega), bd_eq, if_pos ii00, show fX5_in (ii w) 10 14 = some (ii 0) from m_inF (lo := 10) (hi := 14) (by omega) (by omega) (by omega) (by omega) (by omega) (by omega) (by omega), bd_eq, if_pos ii00]
  have hov : ∀ c, c < 4 → -5 ≤ ovz c ∧ ovz c ≤ 16 := fun c hc => by
    have h16 := (hRS.at hc).2.2.1
    rcases hRS.over hlay k2 hc with ⟨q1, q2⟩ | ⟨o, q1, q2, q3⟩ <;> omega
  have hov2 : ∀ c, c < 4 → (ovz c = -5 ∧ y5 c = 16) ∨ ∃ o : Nat, o < 16 ∧ ovz c = o ∧ y5 c = o := fun c hc => by
    have h16 := (hRS.at hc).2.2.1
    rcases hRS.over hlay k2 hc with q | ⟨o, q1, q2, q3⟩
    · exact Or.inl q
    · exact Or.inr ⟨o, by omega, q2, q3⟩
  have hen : ∀ c, c < 4 → 0 ≤ enz c ∧ enz c ≤ 60000 := fun c hc => by
    have h16 := (hRS.at hc).2.2.1
    have hb := csP_bound hRS.1 hs1 hs2 hc (nP P c) (Nat.le_refl _)
    have hn16 : nP P c ≤ 16 := by unfold nP; omega
    rw [(hlay c hc).2]
    omega
  have hs10 : ∀ k : Nat, k < 5 → fX2_settingOf (ii ((k : Int) + 10) - 10) (il P) = some (ii (P k)) ∧ ∀ {α : Type} (q : Int32 → Option α), aget 393 (il Q) (ii ((k : Int) + 10) - 10) q = q (ii (P k)) := fun k hk => by
    rw [q_10, ii_sub, show ((k : Int) + 10 - 10) = k by omega]
    refine ⟨e_setting hk, fun q => ?_⟩
    rw [aget_ii (by omega) (by omega) (by omega), il_app, Int.toNat_natCast, hRS.eq5 hk]
  rcases Int.lt_or_le 9 w with hw10 | hw10
  · have w5 : w = 10 ∨ w = 11 ∨ w = 12 ∨ w = 13 ∨ w = 14 := by omega
    have hml : fX5_count (ii w) sm.1 sm.2.1 sm.2.2.2.2.1 sm.2.2.2.2.2.2.2.2.1 sm.2.2.2.2.2.2.2.2.2.1 sm.2.2.2.2.2.2.2.2.2.2.1 sm.2.2.2.2.2.2.2.2.2.2.2.1 sm.2.2.2.2.2.2.2.2.2.2.2.2.1 sm.2.2.2.2.2.2.2.2.2.2.2.2.2.1 sm.2.2.2.2.2.2.2.2.2.2.2.2.2.2.1 sm.2.2.2.2.2.2.2.2.2.2.2.2.2.2.2 = fX5_count_24 (ii w) sm.1 sm.2.1 (il Q) sm.2.2.2.2.2.2.2.2.1 sm.2.2.2.2.2.2.2.2.2.1 sm.2.2.2.2.2.2.2.2.2.2.1 sm.2.2.2.2.2.2.2.2.2.2.2.1 sm.2.2.2.2.2.2.2.2.2.2.2.2.1 sm.2.2.2.2.2.2.2.2.2.2.2.2.2.1 sm.2.2.2.2.2.2.2.2.2.2.2.2.2.2.1 sm.2.2.2.2.2.2.2.2.2.2.2.2.2.2.2 := by
      rw [c2]
      unfold fX5_count
      rw [show fX5_in (ii w) 0 8 = some (ii 0) from m_inF (lo := 0) (hi := 8) (by omega) (by omega) (by omega) (by omega) (by omega) (by omega) (by omega), bd_eq, if_pos ii00, show fX5_in (ii w) 10 14 = some (ii 1) from m_inT (lo := 10) (hi := 14) (by omega) (by omega) (by omega) (by omega), bd_eq, if_neg ii10]
    rcases w5 with rfl | rfl | rfl | rfl | rfl
    · refine ⟨ii (P 0), rawM (ii (P 0)) sm, ?_, ?_, rfl, hI⟩
      · rw [c1]
        unfold fX4_count
        rw [if_neg (by decide), if_neg (by decide), if_neg (by decide), if_neg (by decide), if_neg (by decide), if_neg (by decide), if_neg (by decide), if_neg (by decide), if_neg (by decide), if_neg (by decide), if_pos (by decide), show fX2_settingOf (ii 10 - 10) (il P) = some (ii (P 0)) from (hs10 0 (by omega)).1, bd_eq]
      · rw [hml]
        unfold fX5_count_24
        rw [if_neg (by decide)]
        exact (hs10 0 (by omega)).2 _
    · refine ⟨ii (P 1), rawM (ii (P 1)) sm, ?_, ?_, rfl, hI⟩
      · rw [c1]
        unfold fX4_count
        rw [if_neg (by decide), if_neg (by decide), if_neg (by decide), if_neg (by decide), if_neg (by decide), if_neg (by decide), if_neg (by decide), if_neg (by decide), if_neg (by decide), if_neg (by decide), if_neg (by decide), if_pos (by decide), show fX2_settingOf (ii 11 - 10) (il P) = some (ii (P 1)) from (hs10 1 (by omega)).1, bd_eq]
      · rw [hml]
        unfold fX5_count_24
        rw [if_neg (by decide)]
        exact (hs10 1 (by omega)).2 _
    · refine ⟨ii (P 2), rawM (ii (P 2)) sm, ?_, ?_, rfl, hI⟩
      · rw [c1]
        unfold fX4_count
        rw [if_neg (by decide), if_neg (by decide), if_neg (by decide), if_neg (by decide), if_neg (by decide), if_neg (by decide), if_neg (by decide), if_neg (by decide), if_neg (by decide), if_neg (by decide), if_neg (by decide), if_neg (by decide), if_pos (by decide), show fX2_settingOf (ii 12 - 10) (il P) = some (ii (P 2)) from (hs10 2 (by omega)).1, bd_eq]
      · rw [hml]
        unfold fX5_count_24
        rw [if_neg (by decide)]
        exact (hs10 2 (by omega)).2 _
    · refine ⟨ii (P 3), rawM (ii (P 3)) sm, ?_, ?_, rfl, hI⟩
      · rw [c1]
        unfold fX4_count
        rw [if_neg (by decide), if_neg (by decide), if_neg (by decide), if_neg (by decide), if_neg (by decide), if_neg (by decide), if_neg (by decide), if_neg (by decide), if_neg (by decide), if_neg (by decide), if_neg (by decide), if_neg (by decide), if_neg (by decide), if_pos (by decide), show fX2_settingOf (ii 13 - 10) (il P) = some (ii (P 3)) from (hs10 3 (by omega)).1, bd_eq]
      · rw [hml]
        unfold fX5_count_24
        rw [if_neg (by decide)]
        exact (hs10 3 (by omega)).2 _
    · refine ⟨ii (P 4), rawM (ii (P 4)) sm, ?_, ?_, rfl, hI⟩
      · rw [c1]
        unfold fX4_count
        rw [if_neg (by decide), if_neg (by decide), if_neg (by decide), if_neg (by decide), if_neg (by decide), if_neg (by decide), if_neg (by decide), if_neg (by decide), if_neg (by decide), if_neg (by decide), if_neg (by decide), if_neg (by decide), if_neg (by decide), if_neg (by decide), if_pos (by decide), show fX2_settingOf (ii 14 - 10) (il P) = some (ii (P 4)) from (hs10 4 (by omega)).1, bd_eq]
      · rw [hml]
        unfold fX5_count_24
        rw [if_neg (by decide)]
        exact (hs10 4 (by omega)).2 _
  · have w9 : w = 0 ∨ w = 1 ∨ w = 2 ∨ w = 3 ∨ w = 4 ∨ w = 5 ∨ w = 6 ∨ w = 7 ∨ w = 8 := by omega
    have hml : ∃ n : Nat, fX5_count (ii w) sm.1 sm.2.1 sm.2.2.2.2.1 sm.2.2.2.2.2.2.2.2.1 sm.2.2.2.2.2.2.2.2.2.1 sm.2.2.2.2.2.2.2.2.2.2.1 sm.2.2.2.2.2.2.2.2.2.2.2.1 sm.2.2.2.2.2.2.2.2.2.2.2.2.1 sm.2.2.2.2.2.2.2.2.2.2.2.2.2.1 sm.2.2.2.2.2.2.2.2.2.2.2.2.2.2.1 sm.2.2.2.2.2.2.2.2.2.2.2.2.2.2.2 = fX5_count_54 (ii w) sm.1 sm.2.1 (il Q) (il y1) (il y2) (il y3) (il y4) (il y5) (il y6) (il y7) (il y8) (n + 1) (ii (sumF (unP P (P 2)) 4)) (ii (sumF (ovI ovz) 4)) (ii (maxF enz 4)) (ii ((4 : Nat) : Int)) := by
      obtain ⟨n, e⟩ := m_c54 (y6 := y6) (y7 := y7) (y8 := y8) (i1 := ii w) (kept := sm.1) (len := sm.2.1) hRS hM hov hen (fun c hc => (hRS.en hlay k2 hc).symm) hov2 4 0 Fu (by omega) (by rw [Fu_s]; omega)
      refine ⟨n, Eq.trans ?_ e⟩
      rw [c2]
      unfold fX5_count fX5_count_24
      rw [show fX5_in (ii w) 0 8 = some (ii 1) from m_inT (lo := 0) (hi := 8) (by omega) (by omega) (by omega) (by omega), bd_eq, if_neg ii10, if_pos (by rw [q_9, ii_le (by omega) (by omega) (by omega) (by omega)]; omega), k1, bd_eq]
      rfl
    obtain ⟨n, hml⟩ := hml
    have f0 : ∀ {α : Type} (q : Int32 → Option α), aget 393 (il Q) 0 q = q (ii (P 0)) := fun q => by
      rw [show aget 393 (il Q) 0 q = q (ii (Q 0)) from aget_ii (z := 0) (by omega) (by omega) (by omega), hRS.2.1]
    have f1 : ∀ {α : Type} (q : Int32 → Option α), aget 393 (il Q) 1 q = q (ii (P 1)) := fun q => by
      rw [show aget 393 (il Q) 1 q = q (ii (Q 1)) from aget_ii (z := 1) (by omega) (by omega) (by omega), hRS.2.2.1]
    have f2 : ∀ {α : Type} (q : Int32 → Option α), aget 393 (il Q) 2 q = q (ii (P 2)) := fun q => by
      rw [show aget 393 (il Q) 2 q = q (ii (Q 2)) from aget_ii (z := 2) (by omega) (by omega) (by omega), hRS.2.2.2.1]
    rcases w9 with rfl | rfl | rfl | rfl | rfl | rfl | rfl | rfl | rfl
    · refine ⟨ii (allP P), outY (ii (allP P)) y1 y2 y3 y4 y5 y6 y7 y8, ?_, ?_, rfl, hI⟩
      · rw [c1, d1, d2, d3, d5, d6, d7, d11, t1, u1]
        unfold fX4_count
        rw [if_pos (by decide), e_all, bd_eq]
      · rw [hml, fX5_count_54]
        dsimp only
        rw [if_pos (show (4 : Int32) ≤ ii ((4 : Nat) : Int) by decide), if_neg (by decide), if_pos (by decide), m_all, bd_eq, hRS.all]
    · refine ⟨ii (allP1 P (P 2)), outY (ii (allP1 P (P 2))) y1 y2 y3 y4 y5 y6 y7 y8, ?_, ?_, rfl, hI⟩
      · rw [c1, d1, d2, d3, d5, d6, d7, d11, t1, u1]
        unfold fX4_count
        rw [if_neg (by decide), if_pos (by decide), show fX1_allLines (il lcz) = some (ii (allP1 P (P 2))) from hC.allN, bd_eq]
      · rw [hml, fX5_count_54]
        dsimp only
        rw [if_pos (show (4 : Int32) ≤ ii ((4 : Nat) : Int) by decide), if_neg (by decide), if_neg (by decide), if_pos (by decide), f2, show fX5_whole (ii (P 2)) 1 (il Q) (il y1) (il y3) = some (ii (allP1 P (P 2))) by rw [q_1, hM.mwhole hRS hs1 hs2 (w := 1) (by omega) (by omega), wh_all1], bd_eq]
    · refine ⟨ii (allP0 P (P 2)), outY (ii (allP0 P (P 2))) y1 y2 y3 y4 y5 y6 y7 y8, ?_, ?_, rfl, hI⟩
      · rw [c1, d1, d2, d3, d5, d6, d7, d11, t1, u1]
        unfold fX4_count
        rw [if_neg (by decide), if_neg (by decide), if_pos (by decide), show fX1_sumOfAllDrifts (ii (P 1)) (ii (P 2)) (il lcz) (il blz) = some (ii (allP0 P (P 2))) from hC.allD hRS.1 hs1 hs2, bd_eq]
      · rw [hml, fX5_count_54]
        dsimp only
        rw [if_pos (show (4 : Int32) ≤ ii ((4 : Nat) : Int) by decide), if_neg (by decide), if_neg (by decide), if_neg (by decide), if_pos (by decide), f2, show fX5_whole (ii (P 2)) 0 (il Q) (il y1) (il y3) = some (ii (allP0 P (P 2))) by rw [q_0, hM.mwhole hRS hs1 hs2 (w := 0) (by omega) (by omega), wh_all0], bd_eq]
    · refine ⟨ii (sumF (unP P (P 2)) 4), outY (ii (sumF (unP P (P 2)) 4)) y1 y2 y3 y4 y5 y6 y7 y8, ?_, ?_, rfl, hI⟩
      · rw [c1, d1, d2, d3, d5, d6, d7, d11, t1, u1]
        unfold fX4_count
        rw [if_neg (by decide), if_neg (by decide), if_neg (by decide), if_pos (by decide), e_allUn hRS.1 hC, bd_eq]
      · rw [hml, fX5_count_54]
        dsimp only
        rw [if_pos (show (4 : Int32) ≤ ii ((4 : Nat) : Int) by decide), if_neg (by decide), if_neg (by decide), if_neg (by decide), if_neg (by decide)]
    · refine ⟨ii (sumF (ovI ovz) 4), outY (ii (sumF (ovI ovz) 4)) y1 y2 y3 y4 y5 y6 y7 y8, ?_, ?_, rfl, hI⟩
      · rw [c1, d1, d2, d3, d5, d6, d7, d11, t1, u1]
        unfold fX4_count
        rw [if_neg (by decide), if_neg (by decide), if_neg (by decide), if_neg (by decide), if_pos (by decide), e_overs hov, bd_eq]
      · rw [hml, fX5_count_54]
        dsimp only
        rw [if_pos (show (4 : Int32) ≤ ii ((4 : Nat) : Int) by decide), if_pos (by decide), if_neg (by decide), if_pos (by decide)]
    · refine ⟨ii (maxF enz 4), outY (ii (maxF enz 4)) y1 y2 y3 y4 y5 y6 y7 y8, ?_, ?_, rfl, hI⟩
      · rw [c1, d1, d2, d3, d5, d6, d7, d11, t1, u1]
        unfold fX4_count
        rw [if_neg (by decide), if_neg (by decide), if_neg (by decide), if_neg (by decide), if_neg (by decide), if_pos (by decide), e_greatEnd hen, bd_eq]
      · rw [hml, fX5_count_54]
        dsimp only
        rw [if_pos (show (4 : Int32) ≤ ii ((4 : Nat) : Int) by decide), if_pos (by decide), if_neg (by decide), if_neg (by decide), if_pos (by decide)]
    · refine ⟨ii (if P 1 ≤ P 0 then (P 0 - P 1) / P 2 + 1 else 0), outY (ii (if P 1 ≤ P 0 then (P 0 - P 1) / P 2 + 1 else 0)) y1 y2 y3 y4 y5 y6 y7 y8, ?_, ?_, rfl, hI⟩
      · rw [c1, d1, d2, d3, d5, d6, d7, d11, t1, u1]
        unfold fX4_count
        rw [if_neg (by decide), if_neg (by decide), if_neg (by decide), if_neg (by decide), if_neg (by decide), if_neg (by decide), if_pos (by decide), e_onPage hRS.1, bd_eq]
      · rw [hml, fX5_count_54]
        dsimp only
        obtain ⟨h0, h1, h2, h3, h4, h5, h6⟩ := id hRS.1
        rw [if_pos (show (4 : Int32) ≤ ii ((4 : Nat) : Int) by decide), if_pos (by decide), if_pos (by decide), f1, f0]
        rcases Int.lt_or_le (P 0) (P 1) with q | q
        · rw [if_neg (by rw [ii_le (by omega) (by omega) (by omega) (by omega)]; omega), if_neg (by omega)]
          rfl
        · rw [if_pos (by rw [ii_le (by omega) (by omega) (by omega) (by omega)]; omega), if_pos q, f0, f1, f2, ii_sub, adiv_ii (by omega) (by omega) (by omega) (by omega), Int.tdiv_eq_ediv_of_nonneg (by omega), q_1, ii_add]
    · refine ⟨ii (hn : Nat), outY (ii (hn : Nat)) y1 y2 y3 y4 y5 y6 y7 y8, ?_, ?_, rfl, hI⟩
      · rw [c1, d1, d2, d3, d5, d6, d7, d11, t1, u1]
        unfold fX4_count
        rw [if_neg (by decide), if_neg (by decide), if_neg (by decide), if_neg (by decide), if_neg (by decide), if_neg (by decide), if_neg (by decide), if_pos (by decide), show fX0_states (ii (hn : Nat)) = some (ii (hn : Nat)) from rfl, bd_eq]
      · rw [hml, fX5_count_54]
        dsimp only
        rw [if_pos (show (4 : Int32) ≤ ii ((4 : Nat) : Int) by decide), if_pos (by decide), if_neg (by decide), if_neg (by decide), if_neg (by decide), if_pos (by decide), t2]
    · refine ⟨ii (tn : Nat), outY (ii (tn : Nat)) y1 y2 y3 y4 y5 y6 y7 y8, ?_, ?_, rfl, hI⟩
      · rw [c1, d1, d2, d3, d5, d6, d7, d11, t1, u1]
        unfold fX4_count
        rw [if_neg (by decide), if_neg (by decide), if_neg (by decide), if_neg (by decide), if_neg (by decide), if_neg (by decide), if_neg (by decide), if_neg (by decide), if_pos (by decide), show fX3_length (ii (tn : Nat)) = some (ii (tn : Nat)) from rfl, bd_eq]
      · rw [hml, fX5_count_54]
        dsimp only
        rw [if_pos (show (4 : Int32) ≤ ii ((4 : Nat) : Int) by decide), if_pos (by decide), if_neg (by decide), if_neg (by decide), if_neg (by decide), if_neg (by decide), u2]
