/-! what is told of a column -/
def ubP (sp : Nat → Int) (c b : Nat) : Int := if sp (16 * c + b) = 0 then 1 else 0
theorem ubP_01 (sp : Nat → Int) (c b : Nat) : ubP sp c b = 0 ∨ ubP sp c b = 1 := by
  unfold ubP
  split
  · exact Or.inr rfl
  · exact Or.inl rfl
theorem e_unset {P sp : Nat → Int} (hP : PgOK P) {c : Nat} (hc : c < 4) (hsp : ∀ b : Nat, (b : Int) < pn P c → 0 ≤ sp (16 * c + b) ∧ sp (16 * c + b) ≤ 40) : fX4_unsetBlocks (ii c) (il P) (il sp) = some (ii (sumF (ubP sp c) (nP P c))) := by
  have h9 := hP.2.2.2.2.2.2.2.2.2 c hc
  have hn : pn P c = (nP P c : Nat) := by unfold nP; omega
  unfold fX4_unsetBlocks
  refine loopFu (t := sumF (ubP sp c)) (N := nP P c) (by unfold nP; omega) (fun n k hk => ?_) (fun n => ?_) rfl
  · have hs := hsp k (by omega)
    rw [fX4_unsetBlocks_4]
    dsimp only
    rw [e_blocks hc, bd_eq, hn, if_neg (le_iiF (by omega) (by omega) hk), e_parts hc (by omega), bd_eq, sumF_s]
    unfold fX4_unsetBlocks_31 ubP
    rcases Classical.em (sp (16 * c + k) = 0) with q | q
    · rw [q, if_pos ii00, if_pos rfl, nm_eq, nm_eq, ii_suc, q_1, ii_add]
    · rw [if_neg (show ¬ ii (sp (16 * c + k)) = 0 by rw [q_0, ii_eq (by omega) (by omega) (by omega) (by omega)]; exact q), if_neg q, nm_eq, ii_suc, Int.add_zero]
  · rw [fX4_unsetBlocks_4]
    dsimp only
    rw [e_blocks hc, bd_eq, hn, if_pos (le_iiT (by omega) (by omega) (Nat.le_refl _))]
section
variable {P Q : Nat → Int} {y1 y2 y3 y4 y5 y6 y7 y8 : Nat → Int}
theorem m_c116 (hR : RS P Q) (h : CL P (P 2) y3 y1 y2) {k40 : Int32 → Int32 → Int32 → Int32 → Option (Int32 × (Nat → Int32) × (Nat → Int32) × (Nat → Int32) × (Nat → Int32) × (Nat → Int32) × (Nat → Int32) × (Nat → Int32) × (Nat → Int32))} {i2 w3 w6 : Int32} {now : Nat → Int32} {c k : Nat} {M A s1 : Int} (hc : c < 4) (hk : k < nnP P (P 2) c) :
    fX5_column_116 k40 (ii c) i2 now w3 (ii M) w6 (ii k) (ii (ffP P (P 2) c k)) (ii A) (ii s1) (il y1) (il y2) (il y3) (il y4) (il y5) (il y6) (il y7) (il y8) = k40 w3 (ii (A + s1)) (ii (M + meP P (P 2) c k)) (ii ((k + 1 : Nat) : Int)) := by
  obtain ⟨hs1, hs2⟩ := hR.1.stp
  obtain ⟨b1, b2, b3⟩ := ffP_b hR.1 hs1 hs2 hc
  have hb := b2 k hk
  unfold fX5_column_116 fX5_column_145 fX5_column_150
  rw [nm_eq, ii_add, h.mbefore hR.1 hs1 hs2 hc (by omega) (by omega), bd_eq]
  rcases beP_01 P (P 2) c (ffP P (P 2) c k) with w | w
  · rw [w, if_pos ii00, h.mafter hR.1 hs1 hs2 hc (by omega) (by omega), bd_eq]
    rcases afP_01 P (P 2) c (ffP P (P 2) c k) with v | v
    · have e : meP P (P 2) c k = 0 := by
        unfold meP
        rw [if_neg (by omega)]
      rw [v, if_pos ii00, nm_eq, nm_eq, ii_suc, e, q_0, ii_add]
    · have e : meP P (P 2) c k = 1 := by
        unfold meP
        rw [if_pos (Or.inr v)]
      rw [v, if_neg ii10, nm_eq, nm_eq, ii_suc, e, q_1, ii_add]
  · have e : meP P (P 2) c k = 1 := by
      unfold meP
      rw [if_pos (Or.inl w)]
    rw [w, if_neg ii10, nm_eq, nm_eq, ii_suc, e, q_1, ii_add]
theorem m_c92 (hR : RS P Q) (h : CL P (P 2) y3 y1 y2) {k40 : Int32 → Int32 → Int32 → Int32 → Option (Int32 × (Nat → Int32) × (Nat → Int32) × (Nat → Int32) × (Nat → Int32) × (Nat → Int32) × (Nat → Int32) × (Nat → Int32) × (Nat → Int32))} {i2 s0 w6 : Int32} {c k : Nat} {M A : Int} (hc : c < 4) (hk : k < nnP P (P 2) c) :
    fX5_column_92 k40 (ii c) i2 (il Q) (ii A) (ii M) w6 (ii k) (ii (ffP P (P 2) c k)) (ii (drP P (P 2) c k)) s0 (il y1) (il y2) (il y3) (il y4) (il y5) (il y6) (il y7) (il y8) = k40 s0 (ii (A + onP P (P 2) c k)) (ii (M + meP P (P 2) c k)) (ii ((k + 1 : Nat) : Int)) := by
  obtain ⟨hs1, hs2⟩ := hR.1.stp
  obtain ⟨b1, b2, b3⟩ := ffP_b hR.1 hs1 hs2 hc
  have hb := b2 k hk
  have hd := drP_b hR.1 hs1 hs2 c k
  have e1 := hR.2.2.1
  obtain ⟨h0, h1, h2, h3, h4⟩ := id hR.1
  have f1 : ∀ {α : Type} (g : Int32 → Option α), aget 393 (il Q) 1 g = g (ii (Q 1)) := fun g => aget_ii (z := 1) (by omega) (by omega) (by omega)
  unfold fX5_column_92 fX5_column_115
  rw [f1, ← e1, q_0, q_1, m_c116 hR h hc hk, m_c116 hR h hc hk]
  unfold onP
  rcases Classical.em (drP P (P 2) c k = 0) with d0 | d0
  · rw [d0, if_pos rfl]
    rcases Int.lt_or_le (ffP P (P 2) c k) (P 1) with q | q
    · rw [if_pos (by rw [ii_lt (by omega) (by omega) (by omega) (by omega)]; exact q), if_neg (by omega)]
    · rw [if_neg (by rw [ii_lt (by omega) (by omega) (by omega) (by omega)]; omega), if_pos ⟨q, rfl⟩]
  · rw [if_neg (show ¬ ii (drP P (P 2) c k) = ii 0 by rw [ii_eq (by omega) (by omega) (by omega) (by omega)]; exact d0), if_neg (fun v => d0 v.2)]
theorem m_c40 (hR : RS P Q) (h : CL P (P 2) y3 y1 y2) {i2 w6 : Int32} {c : Nat} (hc : c < 4) : ∀ (r k fu : Nat), k + r = nnP P (P 2) c → r < fu →
    fX5_column_40 (ii c) i2 (il Q) w6 (il y1) (il y2) (il y3) (il y4) (il y5) (il y6) (il y7) (il y8) fu (ii (maxF (drP P (P 2) c) k)) (ii (sumF (onP P (P 2) c) k)) (ii (sumF (meP P (P 2) c) k)) (ii (k : Nat)) = fX5_column_162 (ii c) i2 (il Q) (ii (maxF (drP P (P 2) c) (nnP P (P 2) c))) (ii (sumF (onP P (P 2) c) (nnP P (P 2) c))) (ii (sumF (meP P (P 2) c) (nnP P (P 2) c))) (il y1) (il y2) (il y3) (il y4) (il y5) (il y6) (il y7) (il y8) Fu w6 0 := by
  obtain ⟨hs1, hs2⟩ := hR.1.stp
  obtain ⟨b1, b2, b3⟩ := ffP_b hR.1 hs1 hs2 hc
  have f2 : ∀ {α : Type} (q : Int32 → Option α), aget 393 (il Q) 2 q = q (ii (P 2)) := fun q => by
    rw [show aget 393 (il Q) 2 q = q (ii (Q 2)) from aget_ii (z := 2) (by omega) (by omega) (by omega), hR.2.2.2.1]
  intro r
  induction r with
  | zero =>
    intro k fu hk hf
    obtain ⟨n, rfl⟩ : ∃ n, fu = n + 1 := ⟨fu - 1, by omega⟩
    have e : k = nnP P (P 2) c := by omega
    rw [fX5_column_40]
    dsimp only
    rw [h.many hc, if_pos (le_iiT (by omega) (by omega) (by omega)), e]
  | succ r ih =>
    intro k fu hk hf
    obtain ⟨n, rfl⟩ : ∃ n, fu = n + 1 := ⟨fu - 1, by omega⟩
    have hkn : k < nnP P (P 2) c := by omega
    have hm := maxF_b (f := drP P (P 2) c) (n := k) (B := 500) (by omega) (fun i hi => drP_b hR.1 hs1 hs2 c i)
    have hd := drP_b hR.1 hs1 hs2 c k
    rw [fX5_column_40]
    dsimp only
    rw [h.many hc, if_neg (le_iiF (by omega) (by omega) hkn), h.lin hc b1 hkn, f2, h.mdr hR hs1 hs2 hc hkn, bd_eq, m_c92 hR h hc hkn, m_c92 hR h hc hkn]
    have hi := ih (k + 1) n (by omega) (by omega)
    rw [maxF_s, sumF_s, sumF_s] at hi
    rcases Int.lt_or_le (maxF (drP P (P 2) c) k) (drP P (P 2) c k) with q | q
    · rw [if_neg (by rw [ii_le (by omega) (by omega) (by omega) (by omega)]; omega)]
      rw [if_pos q] at hi
      exact hi
    · rw [if_pos (by rw [ii_le (by omega) (by omega) (by omega) (by omega)]; omega)]
      rw [if_neg (by omega)] at hi
      exact hi
theorem m_c162 (hR : RS P Q) {i2 w3 w4 w5 : Int32} {c : Nat} (hc : c < 4) (hdn : ∀ b : Nat, (b : Int) < pn P c → 0 ≤ y8 (16 * c + b) ∧ y8 (16 * c + b) ≤ 40) : ∃ n : Nat, fX5_column_162 (ii c) i2 (il Q) w3 w4 w5 (il y1) (il y2) (il y3) (il y4) (il y5) (il y6) (il y7) (il y8) Fu 0 0 = fX5_column_162 (ii c) i2 (il Q) w3 w4 w5 (il y1) (il y2) (il y3) (il y4) (il y5) (il y6) (il y7) (il y8) (n + 1) (ii (sumF (ubP y8 c) (nP P c))) (ii (nP P c : Nat)) := by
  obtain ⟨p1, p2, p3, p4⟩ := hR.at hc
  have hn : mn Q c = (nP P c : Nat) := by unfold nP; omega
  have hn2 : pn P c = (nP P c : Nat) := by unfold nP; omega
  refine loopEnd (F := fX5_column_162 (ii c) i2 (il Q) w3 w4 w5 (il y1) (il y2) (il y3) (il y4) (il y5) (il y6) (il y7) (il y8)) (t := sumF (ubP y8 c)) (N := nP P c) (fun n k hk => ?_) (nP P c) 0 Fu (by omega) (by rw [Fu_s]; omega)
  have hs := hdn k (by omega)
  rw [fX5_column_162]
  dsimp only
  rw [m_blocks hc, bd_eq, hn, if_neg (le_iiF (by omega) (by omega) hk), m_place hc (by omega), sumF_s]
  unfold fX5_column_194 ubP
  rcases Classical.em (y8 (16 * c + k) = 0) with q | q
  · rw [q, if_pos ii00, if_pos rfl, nm_eq, nm_eq, ii_suc, q_1, ii_add]
  · rw [if_neg (show ¬ ii (y8 (16 * c + k)) = 0 by rw [q_0, ii_eq (by omega) (by omega) (by omega) (by omega)]; exact q), if_neg q, nm_eq, nm_eq, ii_suc, q_0, ii_add]
end
set_option maxHeartbeats 8000000 in
theorem ok_column : op_column InvG := by
  intro i1 i2 sg sm hI
  obtain ⟨P, Q, lcz, enz, ovz, ahz, bez, spz, blz, lbz, c1, c2, hRS, d1, d2, d3, d4, d5, d6, d7, d8, d9, d10, d11, d12, hlay, y1, y2, y3, y4, y5, y6, y7, y8, k1, k2⟩ := act_qry hI
  obtain ⟨c, hc1, hc2, rfl⟩ := ii_of i1
  obtain ⟨w, hw1, hw2, rfl⟩ := ii_of i2
  rcases Classical.em (c < 0 ∨ 4 ≤ c) with hc | hc
  · refine ⟨-1, rawM (-1) sm, ?_, ?_, rfl, hI⟩
    · unfold fX4_column
      rw [e_colF hc1 hc2 hc, bd_eq, if_pos ii00]
    · unfold fX5_column
      rw [m_colF hc1 hc2 hc, bd_eq, if_pos ii00]
  obtain ⟨d, rfl⟩ : ∃ d : Nat, c = d := ⟨c.toNat, by omega⟩
  have hd : d < 4 := by omega
  obtain ⟨hs1, hs2⟩ := hRS.1.stp
  have hC := hlay.cl
  have hM := k2.cl hRS
  rcases Classical.em (w < 0 ∨ 9 < w) with hw | hw
  · refine ⟨-2, rawM (-2) sm, ?_, ?_, rfl, hI⟩
    · unfold fX4_column
      rw [e_col (by omega) (by omega), bd_eq, if_neg ii10]
      simp only [q_0, q_1, q_2, q_3, q_4, q_5, q_6, q_7, q_8, q_9, ii_neg]
      rw [if_neg (show ¬ ii w = ii 0 by rw [ii_eq (by omega) (by omega) (by omega) (by omega)]; omega)]
      rw [if_neg (show ¬ ii w = ii 1 by rw [ii_eq (by omega) (by omega) (by omega) (by omega)]; omega)]
      rw [if_neg (show ¬ ii w = ii 2 by rw [ii_eq (by omega) (by omega) (by omega) (by omega)]; omega)]
      rw [if_neg (show ¬ ii w = ii 3 by rw [ii_eq (by omega) (by omega) (by omega) (by omega)]; omega)]
      rw [if_neg (show ¬ ii w = ii 4 by rw [ii_eq (by omega) (by omega) (by omega) (by omega)]; omega)]
      rw [if_neg (show ¬ ii w = ii 5 by rw [ii_eq (by omega) (by omega) (by omega) (by omega)]; omega)]
      rw [if_neg (show ¬ ii w = ii 6 by rw [ii_eq (by omega) (by omega) (by omega) (by omega)]; omega)]
      rw [if_neg (show ¬ ii w = ii 7 by rw [ii_eq (by omega) (by omega) (by omega) (by omega)]; omega)]
      rw [if_neg (show ¬ ii w = ii 8 by rw [ii_eq (by omega) (by omega) (by omega) (by omega)]; omega)]
      rw [if_neg (show ¬ ii w = ii 9 by rw [ii_eq (by omega) (by omega) (by omega) (by omega)]; omega)]
    · unfold fX5_column
      rw [m_colT (by omega) (by omega), bd_eq, if_neg ii10, show fX5_in (ii w) 0 9 = some (ii 0) from m_inF (lo := 0) (hi := 9) (by omega) (by omega) (by omega) (by omega) (by omega) (by omega) (by omega), bd_eq, if_pos ii00]
  obtain ⟨p1, p2, p3, p4⟩ := hRS.at hd
  have hn : mn Q d = (nP P d : Nat) := by unfold nP; omega
  have hn2 : pn P d = (nP P d : Nat) := by unfold nP; omega
  have hsp : ∀ b : Nat, (b : Int) < pn P d → 0 ≤ spz (16 * d + b) ∧ spz (16 * d + b) ≤ 40 := fun b hb => by
    obtain ⟨q, q1, q2, q3, q4⟩ := hRS.parts hlay k2 hd hb
    omega
  have hdn : ∀ b : Nat, (b : Int) < pn P d → 0 ≤ y8 (16 * d + b) ∧ y8 (16 * d + b) ≤ 40 := fun b hb => by
    obtain ⟨q, q1, q2, q3, q4⟩ := hRS.parts hlay k2 hd hb
    omega
  have hub : sumF (ubP spz d) (nP P d) = sumF (ubP y8 d) (nP P d) := sumF_congr (fun b hb => by
    obtain ⟨q, q1, q2, q3, q4⟩ := hRS.parts hlay k2 hd (b := b) (by omega)
    unfold ubP
    rw [q2, q3])
  have hen := hRS.en hlay k2 hd
  have hml : ∃ n : Nat, fX5_column (ii d) (ii w) sm.2.2.2.2.1 sm.2.2.2.2.2.2.2.2.1 sm.2.2.2.2.2.2.2.2.2.1 sm.2.2.2.2.2.2.2.2.2.2.1 sm.2.2.2.2.2.2.2.2.2.2.2.1 sm.2.2.2.2.2.2.2.2.2.2.2.2.1 sm.2.2.2.2.2.2.2.2.2.2.2.2.2.1 sm.2.2.2.2.2.2.2.2.2.2.2.2.2.2.1 sm.2.2.2.2.2.2.2.2.2.2.2.2.2.2.2 = fX5_column_162 (ii d) (ii w) (il Q) (ii (maxF (drP P (P 2) d) (nnP P (P 2) d))) (ii (sumF (onP P (P 2) d) (nnP P (P 2) d))) (ii (sumF (meP P (P 2) d) (nnP P (P 2) d))) (il y1) (il y2) (il y3) (il y4) (il y5) (il y6) (il y7) (il y8) (n + 1) (ii (sumF (ubP y8 d) (nP P d))) (ii (nP P d : Nat)) := by
    obtain ⟨n, e⟩ := m_c162 (y1 := y1) (y2 := y2) (y3 := y3) (y4 := y4) (y5 := y5) (y6 := y6) (y7 := y7) (y8 := y8) hRS (i2 := ii w) (w3 := ii (maxF (drP P (P 2) d) (nnP P (P 2) d))) (w4 := ii (sumF (onP P (P 2) d) (nnP P (P 2) d))) (w5 := ii (sumF (meP P (P 2) d) (nnP P (P 2) d))) hd hdn
    refine ⟨n, ?_⟩
    rw [c2]
    unfold fX5_column
    rw [m_colT (by omega) (by omega), bd_eq, if_neg ii10, show fX5_in (ii w) 0 9 = some (ii 1) from m_inT (lo := 0) (hi := 9) (by omega) (by omega) (by omega) (by omega), bd_eq, if_neg ii10, k1, bd_eq]
    dsimp only
    have h40 := m_c40 (y4 := y4) (y5 := y5) (y6 := y6) (y7 := y7) (y8 := y8) hRS hM (i2 := ii w) (w6 := 0) hd (nnP P (P 2) d) 0 Fu (by omega) (by have := (ffP_b hRS.1 hs1 hs2 hd).1; rw [Fu_s]; omega)
    exact h40.trans e
  obtain ⟨n, hml⟩ := hml
  have w10 : w = 0 ∨ w = 1 ∨ w = 2 ∨ w = 3 ∨ w = 4 ∨ w = 5 ∨ w = 6 ∨ w = 7 ∨ w = 8 ∨ w = 9 := by omega
  have hh : ∀ {α : Type} (q : Int32 → Option α), aget 393 (il Q) 0 q = q (ii (P 0)) := fun q => by
    rw [show aget 393 (il Q) 0 q = q (ii (Q 0)) from aget_ii (z := 0) (by omega) (by omega) (by omega), hRS.2.1]
  have f2 : ∀ {α : Type} (q : Int32 → Option α), aget 393 (il Q) 2 q = q (ii (P 2)) := fun q => by
    rw [show aget 393 (il Q) 2 q = q (ii (Q 2)) from aget_ii (z := 2) (by omega) (by omega) (by omega), hRS.2.2.2.1]
  have fe : ∀ {α : Type} (q : Int32 → Option α), aget 4 (il y4) (ii d) q = q (ii (enz d)) := fun q => by
    rw [aget_ii (by omega) (by omega) (by omega), il_app, Int.toNat_natCast, hen]
  rcases w10 with rfl | rfl | rfl | rfl | rfl | rfl | rfl | rfl | rfl | rfl
  · refine ⟨ii (nP P d : Nat), outY (ii (nP P d : Nat)) y1 y2 y3 y4 y5 y6 y7 y8, ?_, ?_, rfl, hI⟩
    · rw [c1, d2, d3, d5, d6, d10, d11]
      unfold fX4_column
      rw [e_col (by omega) (by omega), bd_eq, if_neg ii10, if_pos (by decide), e_blocks hd, bd_eq, hn2]
    · rw [hml, fX5_column_162]
      dsimp only
      rw [m_blocks hd, bd_eq, hn, if_pos (le_iiT (by omega) (by omega) (Nat.le_refl _)), if_neg (by decide), if_pos (by decide), bd_eq]
  · refine ⟨ii (nnP P (P 2) d : Nat), outY (ii (nnP P (P 2) d : Nat)) y1 y2 y3 y4 y5 y6 y7 y8, ?_, ?_, rfl, hI⟩
    · rw [c1, d2, d3, d5, d6, d10, d11]
      unfold fX4_column
      rw [e_col (by omega) (by omega), bd_eq, if_neg ii10, if_neg (by decide), if_pos (by decide), hC.count hd, bd_eq]
    · rw [hml, fX5_column_162]
      dsimp only
      rw [m_blocks hd, bd_eq, hn, if_pos (le_iiT (by omega) (by omega) (Nat.le_refl _)), if_neg (by decide), if_neg (by decide), if_pos (by decide), hM.many hd]
  · refine ⟨ii (enz d), outY (ii (enz d)) y1 y2 y3 y4 y5 y6 y7 y8, ?_, ?_, rfl, hI⟩
    · rw [c1, d2, d3, d5, d6, d10, d11]
      unfold fX4_column
      rw [e_col (by omega) (by omega), bd_eq, if_neg ii10, if_neg (by decide), if_neg (by decide), if_pos (by decide), e_endOf hd, bd_eq]
    · rw [hml, fX5_column_162]
      dsimp only
      rw [m_blocks hd, bd_eq, hn, if_pos (le_iiT (by omega) (by omega) (Nat.le_refl _)), if_neg (by decide), if_neg (by decide), if_neg (by decide), if_pos (by decide), fe]
  · refine ⟨ii (sumF (plP P d) (nP P d) - (nnP P (P 2) d : Nat)), outY (ii (sumF (plP P d) (nP P d) - (nnP P (P 2) d : Nat))) y1 y2 y3 y4 y5 y6 y7 y8, ?_, ?_, rfl, hI⟩
    · rw [c1, d2, d3, d5, d6, d10, d11]
      unfold fX4_column
      rw [e_col (by omega) (by omega), bd_eq, if_neg ii10, if_neg (by decide), if_neg (by decide), if_neg (by decide), if_pos (by decide), show fX4_unsetLines (ii d) (il P) (il lcz) = some (ii (sumF (plP P d) (nP P d) - (nnP P (P 2) d : Nat))) by unfold fX4_unsetLines; rw [e_plines hRS.1 hd, bd_eq, hC.count hd, bd_eq, ii_sub], bd_eq]
    · rw [hml, fX5_column_162]
      dsimp only
      rw [m_blocks hd, bd_eq, hn, if_pos (le_iiT (by omega) (by omega) (Nat.le_refl _)), if_neg (by decide), if_neg (by decide), if_neg (by decide), if_neg (by decide), if_pos (by decide), m_plines hRS hd, bd_eq, hM.many hd, ii_sub]
  · refine ⟨ii (sumF (ubP y8 d) (nP P d)), outY (ii (sumF (ubP y8 d) (nP P d))) y1 y2 y3 y4 y5 y6 y7 y8, ?_, ?_, rfl, hI⟩
    · rw [c1, d2, d3, d5, d6, d10, d11]
      unfold fX4_column
      rw [e_col (by omega) (by omega), bd_eq, if_neg ii10, if_neg (by decide), if_neg (by decide), if_neg (by decide), if_neg (by decide), if_pos (by decide), e_unset hRS.1 hd hsp, bd_eq, hub]
    · rw [hml, fX5_column_162]
      dsimp only
      rw [m_blocks hd, bd_eq, hn, if_pos (le_iiT (by omega) (by omega) (Nat.le_refl _)), if_neg (by decide), if_neg (by decide), if_neg (by decide), if_neg (by decide), if_neg (by decide)]
  · refine ⟨ii (sumF (drP P (P 2) d) (nnP P (P 2) d)), outY (ii (sumF (drP P (P 2) d) (nnP P (P 2) d))) y1 y2 y3 y4 y5 y6 y7 y8, ?_, ?_, rfl, hI⟩
    · rw [c1, d2, d3, d5, d6, d10, d11]
      unfold fX4_column
      rw [e_col (by omega) (by omega), bd_eq, if_neg ii10, if_neg (by decide), if_neg (by decide), if_neg (by decide), if_neg (by decide), if_neg (by decide), if_pos (by decide), hC.sumD hRS.1 hs1 hs2 hd, bd_eq]
    · rw [hml, fX5_column_162]
      dsimp only
      rw [m_blocks hd, bd_eq, hn, if_pos (le_iiT (by omega) (by omega) (Nat.le_refl _)), if_pos (by decide), if_pos (by decide), f2, hM.msumD hRS hs1 hs2 hd, bd_eq]
  · refine ⟨ii (maxF (drP P (P 2) d) (nnP P (P 2) d)), outY (ii (maxF (drP P (P 2) d) (nnP P (P 2) d))) y1 y2 y3 y4 y5 y6 y7 y8, ?_, ?_, rfl, hI⟩
    · rw [c1, d2, d3, d5, d6, d10, d11]
      unfold fX4_column
      rw [e_col (by omega) (by omega), bd_eq, if_neg ii10, if_neg (by decide), if_neg (by decide), if_neg (by decide), if_neg (by decide), if_neg (by decide), if_neg (by decide), if_pos (by decide), hC.maxD hRS.1 hs1 hs2 hd, bd_eq]
    · rw [hml, fX5_column_162]
      dsimp only
      rw [m_blocks hd, bd_eq, hn, if_pos (le_iiT (by omega) (by omega) (Nat.le_refl _)), if_pos (by decide), if_neg (by decide), if_pos (by decide)]
  · refine ⟨ii (sumF (onP P (P 2) d) (nnP P (P 2) d)), outY (ii (sumF (onP P (P 2) d) (nnP P (P 2) d))) y1 y2 y3 y4 y5 y6 y7 y8, ?_, ?_, rfl, hI⟩
    · rw [c1, d2, d3, d5, d6, d10, d11]
      unfold fX4_column
      rw [e_col (by omega) (by omega), bd_eq, if_neg ii10, if_neg (by decide), if_neg (by decide), if_neg (by decide), if_neg (by decide), if_neg (by decide), if_neg (by decide), if_neg (by decide), if_pos (by decide), hC.cntG hRS.1 hs1 hs2 hd, bd_eq]
    · rw [hml, fX5_column_162]
      dsimp only
      rw [m_blocks hd, bd_eq, hn, if_pos (le_iiT (by omega) (by omega) (Nat.le_refl _)), if_pos (by decide), if_neg (by decide), if_neg (by decide), if_pos (by decide)]
  · refine ⟨ii (sumF (meP P (P 2) d) (nnP P (P 2) d)), outY (ii (sumF (meP P (P 2) d) (nnP P (P 2) d))) y1 y2 y3 y4 y5 y6 y7 y8, ?_, ?_, rfl, hI⟩
    · rw [c1, d2, d3, d5, d6, d10, d11]
      unfold fX4_column
      rw [e_col (by omega) (by omega), bd_eq, if_neg ii10, if_neg (by decide), if_neg (by decide), if_neg (by decide), if_neg (by decide), if_neg (by decide), if_neg (by decide), if_neg (by decide), if_neg (by decide), if_pos (by decide), hC.met hRS.1 hs1 hs2 hd, bd_eq]
    · rw [hml, fX5_column_162]
      dsimp only
      rw [m_blocks hd, bd_eq, hn, if_pos (le_iiT (by omega) (by omega) (Nat.le_refl _)), if_pos (by decide), if_neg (by decide), if_neg (by decide), if_neg (by decide), if_pos (by decide)]
  · refine ⟨ii (P 0 - enz d), outY (ii (P 0 - enz d)) y1 y2 y3 y4 y5 y6 y7 y8, ?_, ?_, rfl, hI⟩
    · rw [c1, d2, d3, d5, d6, d10, d11]
      unfold fX4_column
      rw [e_col (by omega) (by omega), bd_eq, if_neg ii10, if_neg (by decide), if_neg (by decide), if_neg (by decide), if_neg (by decide), if_neg (by decide), if_neg (by decide), if_neg (by decide), if_neg (by decide), if_neg (by decide), if_pos (by decide), show fX2_settingOf 0 (il P) = some (ii (P 0)) from e_setting (k := 0) (by omega), bd_eq, e_endOf hd, bd_eq, ii_sub]
    · rw [hml, fX5_column_162]
      dsimp only
      rw [m_blocks hd, bd_eq, hn, if_pos (le_iiT (by omega) (by omega) (Nat.le_refl _)), if_pos (by decide), if_neg (by decide), if_neg (by decide), if_neg (by decide), if_neg (by decide), hh, fe, ii_sub]
