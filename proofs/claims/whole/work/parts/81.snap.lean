/-! a field changed on both sides; snap -/
def fldV (f : Nat → Int) (k : Nat) (v : Int) (j : Nat) : Int := if j = k then v else f j
theorem e_changeField {P : Nat → Int} {c b k : Nat} {v : Int} (hc : c < 4) (hb : b < 16) (hk : k < 6) : fX2_changeField (ii c) (ii b) (ii k) (ii v) (il P) = some (il (zu P (9 + (c * 16 + b) * 6 + k) v)) := by
  unfold fX2_changeField
  rw [e_isCell hc hb hk, bd_eq, if_neg ii10, e_cellAtN, bd_eq, ii_add, aset_ii (by omega) (by omega) (by omega), show (((9 + (c * 16 + b) * 6 : Nat) : Int) + k).toNat = 9 + (c * 16 + b) * 6 + k by omega]
theorem e_endOf {en : Nat → Int} {c : Nat} (hc : c < 4) : fX1_endOf (ii c) (il en) = some (ii (en c)) := by
  unfold fX1_endOf
  rw [e_col (by omega) (by omega), bd_eq, if_neg ii10, aget_ii (by omega) (by omega) (by omega), il_app, Int.toNat_natCast]
theorem RS.fld {P Q : Nat → Int} {c b k : Nat} {v : Int} (h : RS P Q) (hc : c < 4) (hb : (b : Int) < pn P c) (hk : k < 6) (h3 : FlC (fldV (pf P c b) k v) ∧ RFl (fldV (pf P c b) k v) (fldV (mf Q c b) k v)) : RS (zu P (9 + (c * 16 + b) * 6 + k) v) (zu Q (6 + 97 * c + 6 * b + k) v) := by
  have hb16 := (h.at hc).2.2.1
  refine h.change (fun j hj => zu_ne (by omega)) (fun j hj => zu_ne (by omega)) (fun d hd => ?_)
  obtain ⟨g1, g2, g3, g4⟩ := h.at hd
  have ep : pn (zu P (9 + (c * 16 + b) * 6 + k) v) d = pn P d := zu_ne (by omega)
  have hcd : d < c ∨ d = c ∨ c < d := by omega
  have em : mn (zu Q (6 + 97 * c + 6 * b + k) v) d = mn Q d := zu_ne (by rcases hcd with q | q | q <;> omega)
  rw [ep, em]
  refine ⟨g1, g2, g3, fun x hx => ?_⟩
  rcases Classical.em (d = c ∧ x = b) with ⟨e1, e2⟩ | e
  · subst e1
    subst e2
    refine BR.ext h3 (fun j hj => ?_) (fun j hj => ?_)
    · show zu P _ v (9 + (d * 16 + x) * 6 + j) = fldV (pf P d x) k v j
      unfold fldV
      rcases Classical.em (j = k) with e | e
      · rw [if_pos e, e, zu_eq]
      · rw [if_neg e, zu_ne (by omega)]
        rfl
    · show zu Q _ v (6 + 97 * d + 6 * x + j) = fldV (mf Q d x) k v j
      unfold fldV
      rcases Classical.em (j = k) with e | e
      · rw [if_pos e, e, zu_eq]
      · rw [if_neg e, zu_ne (by omega)]
        rfl
  · exact BR.ext (g4 x hx) (fun j hj => zu_ne (by omega)) (fun j hj => zu_ne (by rcases hcd with q | q | q <;> omega))
theorem m_setsR {Q : Nat → Int} {li ow my en ov ah be dn : Nat → Int32} (hQ : RgOK Q) :
    ∃ (liz owz myz enz ovz ahz bez dnz : Nat → Int), fX5_sets (il Q) li ow my en ov ah be dn = some (il liz, il owz, il myz, il enz, il ovz, il ahz, il bez, il dnz) ∧ MLayOK Q (Q 2) myz enz ovz ahz bez dnz liz owz := by
  obtain ⟨a1, rfl⟩ := il_of li
  obtain ⟨a2, rfl⟩ := il_of ow
  obtain ⟨a3, rfl⟩ := il_of my
  obtain ⟨a4, rfl⟩ := il_of en
  obtain ⟨a5, rfl⟩ := il_of ov
  obtain ⟨a6, rfl⟩ := il_of ah
  obtain ⟨a7, rfl⟩ := il_of be
  obtain ⟨a8, rfl⟩ := il_of dn
  exact m_sets hQ
theorem m_setsAllR {Q : Nat → Int} {S : Int} {li ow my en ov ah be dn : Nat → Int32} (hQ : RgOK Q) (hS : 20 ≤ S) (hS2 : S ≤ 500) :
    ∃ (liz owz myz enz ovz ahz bez dnz : Nat → Int), fX5_setsAll (ii S) (il Q) li ow my en ov ah be dn = some (il liz, il owz, il myz, il enz, il ovz, il ahz, il bez, il dnz) ∧ MLayOK Q S myz enz ovz ahz bez dnz liz owz := by
  obtain ⟨a1, rfl⟩ := il_of li
  obtain ⟨a2, rfl⟩ := il_of ow
  obtain ⟨a3, rfl⟩ := il_of my
  obtain ⟨a4, rfl⟩ := il_of en
  obtain ⟨a5, rfl⟩ := il_of ov
  obtain ⟨a6, rfl⟩ := il_of ah
  obtain ⟨a7, rfl⟩ := il_of be
  obtain ⟨a8, rfl⟩ := il_of dn
  exact m_setsAll hQ hS hS2
theorem RS.en {P Q : Nat → Int} (h : RS P Q) {S : Int} {lc en ov ah be sp bl lb my enz ovz ahz bez dn li ow : Nat → Int} (h1 : LayOK P S lc en ov ah be sp bl lb) (h2 : MLayOK Q S my enz ovz ahz bez dn li ow) {c : Nat} (hc : c < 4) : en c = enz c := by
  rw [(h1 c hc).2, (h2 c hc).2, h.cs hc _ (Nat.le_refl _), h.n hc]
theorem m_cellN (c b k : Nat) : fX5_cell (ii c) (ii b) (ii k) = some (ii ((6 + 97 * c + 6 * b + k : Nat) : Int)) := by
  rw [m_cell, show (5 + 97 * (c : Int) + 1 + 6 * b + k) = ((6 + 97 * c + 6 * b + k : Nat) : Int) by omega]
set_option maxHeartbeats 4000000 in
theorem ok_snap : op_snap InvG := by
  intro i1 i2 i3 hs3 sg sm hI
  obtain ⟨P, Q, Az, Bz, kk, c1, c2, hRS, r1, r2, hlay, hnew⟩ := act_rec hI
  obtain ⟨c, hc1, hc2, rfl⟩ := ii_of i1
  obtain ⟨b, hb1, hb2, rfl⟩ := ii_of i2
  obtain ⟨s, hs, rfl⟩ : ∃ s : Int, (s = 0 ∨ s = 1) ∧ i3 = ii s := by
    rcases hs3 with h | h
    · exact ⟨0, Or.inl rfl, h⟩
    · exact ⟨1, Or.inr rfl, h⟩
  rcases blk_cases hRS hc1 hc2 hb1 hb2 with ⟨d, x, rfl, rfl, hd, hx⟩ | ⟨w1, w2⟩
  · obtain ⟨p1, p2, p3, p4⟩ := hRS.at hd
    have hx16 : x < 16 := by omega
    obtain ⟨hF, hR⟩ := p4 x hx
    obtain ⟨hR0, hR1, hR2⟩ := id hR
    have q0 : fX4_snap (ii d) (ii x) (ii s) sg.2.1 sg.2.2.1 sg.2.2.2.1 sg.2.2.2.2.1 sg.2.2.2.2.2.1 sg.2.2.2.2.2.2.1 sg.2.2.2.2.2.2.2.1 sg.2.2.2.2.2.2.2.2.1 sg.2.2.2.2.2.2.2.2.2.1 sg.2.2.2.2.2.2.2.2.2.2.1 sg.2.2.2.2.2.2.2.2.2.2.2.1 sg.2.2.2.2.2.2.2.2.2.2.2.2.1 sg.2.2.2.2.2.2.2.2.2.2.2.2.2.1 sg.2.2.2.2.2.2.2.2.2.2.2.2.2.2.1 sg.2.2.2.2.2.2.2.2.2.2.2.2.2.2.2.2.2.2.2.2.2.2.2.2.2.2.2.2.2.2.1 sg.2.2.2.2.2.2.2.2.2.2.2.2.2.2.2.2.2.2.2.2.2.2.2.2.2.2.2.2.2.2.2.1 = (if pf P d x 0 = 0 then fX4_snap_39 (ii d) (ii x) (ii s) sg.2.1 sg.2.2.1 sg.2.2.2.1 sg.2.2.2.2.1 sg.2.2.2.2.2.1 sg.2.2.2.2.2.2.1 sg.2.2.2.2.2.2.2.1 sg.2.2.2.2.2.2.2.2.1 sg.2.2.2.2.2.2.2.2.2.1 sg.2.2.2.2.2.2.2.2.2.2.1 sg.2.2.2.2.2.2.2.2.2.2.2.1 sg.2.2.2.2.2.2.2.2.2.2.2.2.1 sg.2.2.2.2.2.2.2.2.2.2.2.2.2.1 sg.2.2.2.2.2.2.2.2.2.2.2.2.2.2.1 sg.2.2.2.2.2.2.2.2.2.2.2.2.2.2.2.2.2.2.2.2.2.2.2.2.2.2.2.2.2.2.1 sg.2.2.2.2.2.2.2.2.2.2.2.2.2.2.2.2.2.2.2.2.2.2.2.2.2.2.2.2.2.2.2.1 else some (sameC (-4) sg)) := by
      unfold fX4_snap
      rw [c1, e_hasBlock hd hx p3, bd_eq, if_neg ii10, e_f0 hd hx16, bd_eq]
      have hk := hF.1
      rcases Classical.em (pf P d x 0 = 0) with h | h
      · rw [if_pos h, if_pos (by rw [h]; decide)]
        rcases hs with rfl | rfl
        · rw [if_pos ii00]
          rfl
        · rw [if_neg ii10]
          rfl
      · rw [if_neg h, if_neg (by
          rw [q_0, ii_eq (by unfold FlOK at hk; omega) (by unfold FlOK at hk; omega) (by omega) (by omega)]
          exact h), ← c1]
        rfl
    rcases Classical.em (pf P d x 0 = 0) with h0 | h0
    · have h4 : pf P d x 4 = 0 ∨ pf P d x 4 = 1 := by
        have hk := hF.1
        unfold FlOK at hk
        omega
      have m4 : mf Q d x 4 = pf P d x 4 := (hR1 h0).2.2.2.symm
      have m0 : mf Q d x 0 = 0 := hR0.symm.trans h0
      have qm : fX5_of (ii d) (ii x) 4 (il Q) = some (ii (pf P d x 4)) := by
        rw [← m4]
        exact m_f4 hd hx16
      rcases Classical.em (pf P d x 4 = s) with h | h
      · refine ⟨sameC (-5) sg, (-5, sm.1, sm.2.2.2.2.1, sm.2.2.2.2.2.2.1, sm.2.2.2.2.2.2.2.2.1, sm.2.2.2.2.2.2.2.2.2.1, sm.2.2.2.2.2.2.2.2.2.2.1, sm.2.2.2.2.2.2.2.2.2.2.2.1, sm.2.2.2.2.2.2.2.2.2.2.2.2.1, sm.2.2.2.2.2.2.2.2.2.2.2.2.2.1, sm.2.2.2.2.2.2.2.2.2.2.2.2.2.2.1, sm.2.2.2.2.2.2.2.2.2.2.2.2.2.2.2), ?_, ?_, rfl, hI⟩
        · rw [q0, if_pos h0]
          unfold fX4_snap_39
          rw [c1, show fX2_fieldOf (ii d) (ii x) 4 (il P) = some (ii (pf P d x 4)) from e_field (k := 4) hd hx16 (by omega), bd_eq, if_pos (by rw [h]), ← c1]
          rfl
        · unfold fX5_snap
          rw [c2, m_isBlockT hd (by omega) (by omega), bd_eq, if_neg ii10, m_f0 hd hx16, bd_eq, m0, if_pos ii00, qm, bd_eq, h]
          unfold fX5_snap_40
          rcases hs with rfl | rfl
          · rw [if_neg (by decide), if_pos (by decide), ← c2]
          · rw [if_pos (by decide), if_pos (by decide), ← c2]
      · have hnewF : FlC (fldV (pf P d x) 4 s) ∧ RFl (fldV (pf P d x) 4 s) (fldV (mf Q d x) 4 s) := by
          obtain ⟨f1, f2, f3⟩ := hF
          refine ⟨⟨?_, fun _ => f2 h0, fun q => absurd h0 q⟩, hR0, fun _ => ⟨(hR1 h0).1, (hR1 h0).2.1, (hR1 h0).2.2.1, rfl⟩, fun q => absurd h0 q⟩
          rcases f1 with ⟨t0, t1, t2, t3, t4, t5, t6, t7⟩ | ⟨t0, t1, t2⟩
          · exact Or.inl ⟨t0, t1, t2, t3, t4, t5, t6, hs⟩
          · omega
        have hRS2 := hRS.fld (k := 4) (v := s) hd hx (by omega) hnewF
        obtain ⟨cu, lcz, enz, ovz, ahz, bez, spz, blz, lbz, l1, l2, hinv⟩ := hnew _ _ hRS2
        obtain ⟨y1, y2, y3, y4, y5, y6, y7, y8, k1, k2⟩ := m_setsR (li := sm.2.2.2.2.2.2.2.2.1) (ow := sm.2.2.2.2.2.2.2.2.2.1) (my := sm.2.2.2.2.2.2.2.2.2.2.1) (en := sm.2.2.2.2.2.2.2.2.2.2.2.1) (ov := sm.2.2.2.2.2.2.2.2.2.2.2.2.1) (ah := sm.2.2.2.2.2.2.2.2.2.2.2.2.2.1) (be := sm.2.2.2.2.2.2.2.2.2.2.2.2.2.2.1) (dn := sm.2.2.2.2.2.2.2.2.2.2.2.2.2.2.2) hRS2.rg
        have e2 := hRS2.2.2.2.1
        rw [← e2] at k2
        have hen := hRS2.en l2 k2 hd
        refine ⟨outC (ii (enz d)) (zu P (9 + (d * 16 + x) * 6 + 4) s) cu lcz enz ovz ahz bez spz blz lbz kk Az, (ii (y4 d), kk, il (zu Q (6 + 97 * d + 6 * x + 4) s), il Bz, il y1, il y2, il y3, il y4, il y5, il y6, il y7, il y8), ?_, ?_, congrArg ii hen, hinv (ii (enz d))⟩
        · rw [q0, if_pos h0]
          unfold fX4_snap_39
          rw [c1, show fX2_fieldOf (ii d) (ii x) 4 (il P) = some (ii (pf P d x 4)) from e_field (k := 4) hd hx16 (by omega), bd_eq, if_neg (by rw [ii_eq (by omega) (by omega) (by omega) (by omega)]; exact h), r1, bd_eq, show fX2_changeField (ii d) (ii x) 4 (ii s) (il P) = some (il (zu P (9 + (d * 16 + x) * 6 + 4) s)) from e_changeField (k := 4) hd hx16 (by omega), bd_eq, l1, bd_eq, e_endOf hd, bd_eq]
          try rfl
        · have hcell : fX5_cell (ii d) (ii x) 4 = some (ii ((6 + 97 * d + 6 * x + 4 : Nat) : Int)) := m_cellN d x 4
          have h71 : fX5_snap_71 (ii d) (ii ((6 + 97 * d + 6 * x + 4 : Nat) : Int)) (ii s) kk (il Q) (il Bz) sm.2.2.2.2.2.2.2.2.1 sm.2.2.2.2.2.2.2.2.2.1 sm.2.2.2.2.2.2.2.2.2.2.1 sm.2.2.2.2.2.2.2.2.2.2.2.1 sm.2.2.2.2.2.2.2.2.2.2.2.2.1 sm.2.2.2.2.2.2.2.2.2.2.2.2.2.1 sm.2.2.2.2.2.2.2.2.2.2.2.2.2.2.1 sm.2.2.2.2.2.2.2.2.2.2.2.2.2.2.2 = some (ii (y4 d), kk, il (zu Q (6 + 97 * d + 6 * x + 4) s), il Bz, il y1, il y2, il y3, il y4, il y5, il y6, il y7, il y8) := by
            unfold fX5_snap_71
            rw [aset_ii (by omega) (by omega) (by omega), Int.toNat_natCast, k1, bd_eq]
            dsimp only
            rw [aget_ii (by omega) (by omega) (by omega), Int.toNat_natCast]
            rfl
          unfold fX5_snap
          rw [c2, m_isBlockT hd (by omega) (by omega), bd_eq, if_neg ii10, m_f0 hd hx16, bd_eq, m0, if_pos ii00, qm, bd_eq]
          unfold fX5_snap_40
          rcases hs with rfl | rfl
          · have h1 : pf P d x 4 = 1 := by omega
            rw [h1, if_pos (by decide), if_neg (by decide), r2, bd_eq, hcell, bd_eq, if_pos ii00]
            exact h71
          · have h1 : pf P d x 4 = 0 := by omega
            rw [h1, if_neg (by decide), if_neg (by decide), r2, bd_eq, hcell, bd_eq, if_neg ii10]
            exact h71
    · refine ⟨sameC (-4) sg, (-4, sm.1, sm.2.2.2.2.1, sm.2.2.2.2.2.2.1, sm.2.2.2.2.2.2.2.2.1, sm.2.2.2.2.2.2.2.2.2.1, sm.2.2.2.2.2.2.2.2.2.2.1, sm.2.2.2.2.2.2.2.2.2.2.2.1, sm.2.2.2.2.2.2.2.2.2.2.2.2.1, sm.2.2.2.2.2.2.2.2.2.2.2.2.2.1, sm.2.2.2.2.2.2.2.2.2.2.2.2.2.2.1, sm.2.2.2.2.2.2.2.2.2.2.2.2.2.2.2), by rw [q0, if_neg h0], ?_, rfl, hI⟩
      have hk := hF.1
      unfold fX5_snap
      rw [c2, m_isBlockT hd (by omega) (by omega), bd_eq, if_neg ii10, m_f0 hd hx16, bd_eq, ← hR0, if_neg (by
        rw [q_0, ii_eq (by unfold FlOK at hk; omega) (by unfold FlOK at hk; omega) (by omega) (by omega)]
        exact h0), ← c2]
  · refine ⟨sameC (-1) sg, (-1, sm.1, sm.2.2.2.2.1, sm.2.2.2.2.2.2.1, sm.2.2.2.2.2.2.2.2.1, sm.2.2.2.2.2.2.2.2.2.1, sm.2.2.2.2.2.2.2.2.2.2.1, sm.2.2.2.2.2.2.2.2.2.2.2.1, sm.2.2.2.2.2.2.2.2.2.2.2.2.1, sm.2.2.2.2.2.2.2.2.2.2.2.2.2.1, sm.2.2.2.2.2.2.2.2.2.2.2.2.2.2.1, sm.2.2.2.2.2.2.2.2.2.2.2.2.2.2.2), ?_, ?_, rfl, hI⟩
    · unfold fX4_snap
      rw [c1, w1, bd_eq, if_pos ii00, ← c1]
      rfl
    · unfold fX5_snap
      rw [c2, w2, bd_eq, if_pos ii00, ← c2]
