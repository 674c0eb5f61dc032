/-! what another step would bring -/
abbrev rawT (v : Int32) (sg : SG) : Int32 × Int32 × Int32 × Int32 × Int32 × Int32 × (Nat → Int32) × (Nat → Int32) × (Nat → Int32) × (Nat → Int32) × (Nat → Int32) × (Nat → Int32) × (Nat → Int32) × (Nat → Int32) := (v, sg.2.2.2.2.2.2.2.2.2.2.2.2.2.2.2.2.1, sg.2.2.2.2.2.2.2.2.2.2.2.2.2.2.2.2.2.1, sg.2.2.2.2.2.2.2.2.2.2.2.2.2.2.2.2.2.2.1, sg.2.2.2.2.2.2.2.2.2.2.2.2.2.2.2.2.2.2.2.1, sg.2.2.2.2.2.2.2.2.2.2.2.2.2.2.2.2.2.2.2.2.1, sg.2.2.2.2.2.2.2.2.2.2.2.2.2.2.2.2.2.2.2.2.2.1, sg.2.2.2.2.2.2.2.2.2.2.2.2.2.2.2.2.2.2.2.2.2.2.1, sg.2.2.2.2.2.2.2.2.2.2.2.2.2.2.2.2.2.2.2.2.2.2.2.1, sg.2.2.2.2.2.2.2.2.2.2.2.2.2.2.2.2.2.2.2.2.2.2.2.2.1, sg.2.2.2.2.2.2.2.2.2.2.2.2.2.2.2.2.2.2.2.2.2.2.2.2.2.1, sg.2.2.2.2.2.2.2.2.2.2.2.2.2.2.2.2.2.2.2.2.2.2.2.2.2.2.1, sg.2.2.2.2.2.2.2.2.2.2.2.2.2.2.2.2.2.2.2.2.2.2.2.2.2.2.2.1, sg.2.2.2.2.2.2.2.2.2.2.2.2.2.2.2.2.2.2.2.2.2.2.2.2.2.2.2.2.1)
abbrev outT (v : Int32) (P : Nat → Int) (S : Int) (cu : Int32) (t1 t2 t3 t4 t5 t6 t7 t8 : Nat → Int) : Int32 × Int32 × Int32 × Int32 × Int32 × Int32 × (Nat → Int32) × (Nat → Int32) × (Nat → Int32) × (Nat → Int32) × (Nat → Int32) × (Nat → Int32) × (Nat → Int32) × (Nat → Int32) := (v, ii (P 0), ii (P 1), ii S, ii (P 3), cu, il t1, il t2, il t3, il t4, il t5, il t6, il t7, il t8)
theorem e_layOutR {P : Nat → Int} {S : Int} {x1 x2 x3 x4 x5 : Int32} {lc en ov ah be sp bl lb : Nat → Int32} (hP : PgOK P) (hS : 20 ≤ S) (hS2 : S ≤ 500) :
    ∃ (cu : Int32) (t1 t2 t3 t4 t5 t6 t7 t8 : Nat → Int), fX1_layOut (ii S) x1 x2 x3 x4 x5 lc en ov ah be sp bl lb (il P) = some (ii (P 0), ii (P 1), ii S, ii (P 3), cu, il t1, il t2, il t3, il t4, il t5, il t6, il t7, il t8) ∧ LayOK P S t1 t2 t3 t4 t5 t6 t7 t8 := by
  obtain ⟨cz, -, -, rfl⟩ := ii_of x5
  obtain ⟨a1, rfl⟩ := il_of lc
  obtain ⟨a2, rfl⟩ := il_of en
  obtain ⟨a3, rfl⟩ := il_of ov
  obtain ⟨a4, rfl⟩ := il_of ah
  obtain ⟨a5, rfl⟩ := il_of be
  obtain ⟨a6, rfl⟩ := il_of sp
  obtain ⟨a7, rfl⟩ := il_of bl
  obtain ⟨a8, rfl⟩ := il_of lb
  obtain ⟨cu', t1, t2, t3, t4, t5, t6, t7, t8, e1, e2⟩ := e_layOut (P := P) (S := S) (cu := cz) (x1 := x1) (x2 := x2) (x3 := x3) (x4 := x4) (lc := a1) (en := a2) (ov := a3) (ah := a4) (be := a5) (sp := a6) (bl := a7) (lb := a8) hP hS hS2
  exact ⟨ii cu', t1, t2, t3, t4, t5, t6, t7, t8, e1, e2⟩
theorem sumF_one (n : Nat) : sumF (fun _ => 1) n = n := by
  induction n with
  | zero => rfl
  | succ n ih =>
    rw [sumF_s, ih]
    rfl
theorem whP_0 (P : Nat → Int) (S : Int) (c : Nat) : whP P S 0 c = drP P S c := funext fun i => if_pos rfl
theorem whP_1 (P : Nat → Int) (S : Int) (c : Nat) : whP P S 1 c = fun _ => 1 := funext fun i => rfl
theorem whP_2 (P : Nat → Int) (S : Int) (c : Nat) : whP P S 2 c = onP P S c := funext fun i => rfl
def allP0 (P : Nat → Int) (S : Int) : Int := sumF (fun c => sumF (drP P S c) (nnP P S c)) 4
def allP1 (P : Nat → Int) (S : Int) : Int := sumF (fun c => (nnP P S c : Nat)) 4
def allP2 (P : Nat → Int) (S : Int) : Int := sumF (fun c => sumF (onP P S c) (nnP P S c)) 4
theorem wh_all0 (P : Nat → Int) (S : Int) : sumF (fun c => sumF (whP P S 0 c) (nnP P S c)) 4 = allP0 P S := sumF_congr fun i _ => by rw [whP_0]
theorem wh_all1 (P : Nat → Int) (S : Int) : sumF (fun c => sumF (whP P S 1 c) (nnP P S c)) 4 = allP1 P S := sumF_congr fun i _ => by rw [whP_1, sumF_one]
theorem wh_all2 (P : Nat → Int) (S : Int) : sumF (fun c => sumF (whP P S 2 c) (nnP P S c)) 4 = allP2 P S := sumF_congr fun i _ => by rw [whP_2]
theorem allP0_b {P : Nat → Int} {S : Int} (hP : PgOK P) (hS : 20 ≤ S) (hS2 : S ≤ 500) : 0 ≤ allP0 P S ∧ allP0 P S ≤ 4 * 320000 := by
  refine sumF_b (n := 4) (B := 320000) (fun c hc => ?_)
  have h1 := (ffP_b hP hS hS2 hc).1
  have h2 := sumF_b (f := drP P S c) (n := nnP P S c) (B := 500) (fun i _ => drP_b hP hS hS2 c i)
  omega
set_option maxHeartbeats 4000000 in
theorem ok_ifStep : op_ifStep InvG := by
  intro i1 i2 sg sm hI
  obtain ⟨P, Q, lcz, enz, ovz, ahz, bez, spz, blz, lbz, c1, c2, hRS, d1, d2, d3, d4, d5, d6, d7, d8, d9, d10, d11, d12, hlay, y1, y2, y3, y4, y5, y6, y7, y8, k1, k2⟩ := act_qry hI
  obtain ⟨S, hS1, hS2, rfl⟩ := ii_of i1
  obtain ⟨w, hw1, hw2, rfl⟩ := ii_of i2
  rcases Classical.em (20 ≤ S ∧ S ≤ 500 ∧ 0 ≤ w ∧ w ≤ 2) with h | h
  · obtain ⟨h1, h2, h3, h4⟩ := h
    have g1 : ¬ ii S < 20 := by rw [q_20, ii_lt (by omega) (by omega) (by omega) (by omega)]; omega
    have g2 : ¬ 500 < ii S := by rw [q_500, ii_lt (by omega) (by omega) (by omega) (by omega)]; omega
    have g3 : ¬ ii w < 0 := by rw [q_0, ii_lt (by omega) (by omega) (by omega) (by omega)]; omega
    have g4 : ii w ≤ 2 := by rw [q_2, ii_le (by omega) (by omega) (by omega) (by omega)]; omega
    have g5 : fX5_in (ii S) 20 500 = some (ii 1) := m_inT (lo := 20) (hi := 500) (by omega) (by omega) h1 h2
    have g6 : fX5_in (ii w) 0 2 = some (ii 1) := m_inT (lo := 0) (hi := 2) (by omega) (by omega) h3 h4
    obtain ⟨cu, t1, t2, t3, t4, t5, t6, t7, t8, l1, l2⟩ := e_layOutR (P := P) (S := S) (x1 := sg.2.2.2.2.2.2.2.2.2.2.2.2.2.2.2.2.1) (x2 := sg.2.2.2.2.2.2.2.2.2.2.2.2.2.2.2.2.2.1) (x3 := sg.2.2.2.2.2.2.2.2.2.2.2.2.2.2.2.2.2.2.1) (x4 := sg.2.2.2.2.2.2.2.2.2.2.2.2.2.2.2.2.2.2.2.1) (x5 := sg.2.2.2.2.2.2.2.2.2.2.2.2.2.2.2.2.2.2.2.2.1) (lc := sg.2.2.2.2.2.2.2.2.2.2.2.2.2.2.2.2.2.2.2.2.2.1) (en := sg.2.2.2.2.2.2.2.2.2.2.2.2.2.2.2.2.2.2.2.2.2.2.1) (ov := sg.2.2.2.2.2.2.2.2.2.2.2.2.2.2.2.2.2.2.2.2.2.2.2.1) (ah := sg.2.2.2.2.2.2.2.2.2.2.2.2.2.2.2.2.2.2.2.2.2.2.2.2.1) (be := sg.2.2.2.2.2.2.2.2.2.2.2.2.2.2.2.2.2.2.2.2.2.2.2.2.2.1) (sp := sg.2.2.2.2.2.2.2.2.2.2.2.2.2.2.2.2.2.2.2.2.2.2.2.2.2.2.1) (bl := sg.2.2.2.2.2.2.2.2.2.2.2.2.2.2.2.2.2.2.2.2.2.2.2.2.2.2.2.1) (lb := sg.2.2.2.2.2.2.2.2.2.2.2.2.2.2.2.2.2.2.2.2.2.2.2.2.2.2.2.2.1) hRS.1 h1 h2
    obtain ⟨z1, z2, z3, z4, z5, z6, z7, z8, n1, n2⟩ := m_setsAllR (S := S) (li := sm.2.2.2.2.2.2.2.2.1) (ow := sm.2.2.2.2.2.2.2.2.2.1) (my := sm.2.2.2.2.2.2.2.2.2.2.1) (en := sm.2.2.2.2.2.2.2.2.2.2.2.1) (ov := sm.2.2.2.2.2.2.2.2.2.2.2.2.1) (ah := sm.2.2.2.2.2.2.2.2.2.2.2.2.2.1) (be := sm.2.2.2.2.2.2.2.2.2.2.2.2.2.2.1) (dn := sm.2.2.2.2.2.2.2.2.2.2.2.2.2.2.2) hRS.rg h1 h2
    have hC := l2.cl
    have hM := n2.cl hRS
    have hcl : fX4_ifStep (ii S) (ii w) sg.2.1 sg.2.2.2.2.2.2.2.2.2.2.2.2.2.2.2.2.1 sg.2.2.2.2.2.2.2.2.2.2.2.2.2.2.2.2.2.1 sg.2.2.2.2.2.2.2.2.2.2.2.2.2.2.2.2.2.2.1 sg.2.2.2.2.2.2.2.2.2.2.2.2.2.2.2.2.2.2.2.1 sg.2.2.2.2.2.2.2.2.2.2.2.2.2.2.2.2.2.2.2.2.1 sg.2.2.2.2.2.2.2.2.2.2.2.2.2.2.2.2.2.2.2.2.2.1 sg.2.2.2.2.2.2.2.2.2.2.2.2.2.2.2.2.2.2.2.2.2.2.1 sg.2.2.2.2.2.2.2.2.2.2.2.2.2.2.2.2.2.2.2.2.2.2.2.1 sg.2.2.2.2.2.2.2.2.2.2.2.2.2.2.2.2.2.2.2.2.2.2.2.2.1 sg.2.2.2.2.2.2.2.2.2.2.2.2.2.2.2.2.2.2.2.2.2.2.2.2.2.1 sg.2.2.2.2.2.2.2.2.2.2.2.2.2.2.2.2.2.2.2.2.2.2.2.2.2.2.1 sg.2.2.2.2.2.2.2.2.2.2.2.2.2.2.2.2.2.2.2.2.2.2.2.2.2.2.2.1 sg.2.2.2.2.2.2.2.2.2.2.2.2.2.2.2.2.2.2.2.2.2.2.2.2.2.2.2.2.1 = (if ii w = 0 then some (outT (ii (allP0 P S)) P S cu t1 t2 t3 t4 t5 t6 t7 t8) else (if ii w = 1 then some (outT (ii (allP1 P S)) P S cu t1 t2 t3 t4 t5 t6 t7 t8) else some (outT (ii (allP2 P S)) P S cu t1 t2 t3 t4 t5 t6 t7 t8))) := by
      rw [c1]
      unfold fX4_ifStep
      rw [if_neg g1, if_neg g2, if_neg g3, if_pos g4, l1, bd_eq]
      dsimp only
      rw [hC.allD hRS.1 h1 h2, hC.allN, hC.allG hRS.1 h1 h2]
      simp only [bd_eq]
      rfl
    have hml : fX5_ifStep (ii S) (ii w) sm.2.2.2.2.1 sm.2.2.2.2.2.2.2.2.1 sm.2.2.2.2.2.2.2.2.2.1 sm.2.2.2.2.2.2.2.2.2.2.1 sm.2.2.2.2.2.2.2.2.2.2.2.1 sm.2.2.2.2.2.2.2.2.2.2.2.2.1 sm.2.2.2.2.2.2.2.2.2.2.2.2.2.1 sm.2.2.2.2.2.2.2.2.2.2.2.2.2.2.1 sm.2.2.2.2.2.2.2.2.2.2.2.2.2.2.2 = some (outY (ii (sumF (fun c => sumF (whP P S w c) (nnP P S c)) 4)) z1 z2 z3 z4 z5 z6 z7 z8) := by
      rw [c2]
      unfold fX5_ifStep
      rw [g5, bd_eq, if_neg ii10, g6, bd_eq, if_neg ii10, n1, bd_eq]
      dsimp only
      rw [hM.mwhole hRS h1 h2 h3 h4, bd_eq]
    have w3 : w = 0 ∨ w = 1 ∨ w = 2 := by omega
    rcases w3 with rfl | rfl | rfl
    · exact ⟨outT (ii (allP0 P S)) P S cu t1 t2 t3 t4 t5 t6 t7 t8, outY (ii (allP0 P S)) z1 z2 z3 z4 z5 z6 z7 z8, by rw [hcl, if_pos (by decide)], by rw [hml, wh_all0], rfl, hI⟩
    · exact ⟨outT (ii (allP1 P S)) P S cu t1 t2 t3 t4 t5 t6 t7 t8, outY (ii (allP1 P S)) z1 z2 z3 z4 z5 z6 z7 z8, by rw [hcl, if_neg (by decide), if_pos (by decide)], by rw [hml, wh_all1], rfl, hI⟩
    · exact ⟨outT (ii (allP2 P S)) P S cu t1 t2 t3 t4 t5 t6 t7 t8, outY (ii (allP2 P S)) z1 z2 z3 z4 z5 z6 z7 z8, by rw [hcl, if_neg (by decide), if_neg (by decide)], by rw [hml, wh_all2], rfl, hI⟩
  · refine ⟨rawT (-2) sg, rawM (-2) sm, ?_, ?_, rfl, hI⟩
    · unfold fX4_ifStep
      rcases Int.lt_or_le S 20 with h1 | h1
      · rw [if_pos (by rw [q_20, ii_lt (by omega) (by omega) (by omega) (by omega)]; omega)]
      rw [if_neg (by rw [q_20, ii_lt (by omega) (by omega) (by omega) (by omega)]; omega)]
      rcases Int.lt_or_le 500 S with h2 | h2
      · rw [if_pos (by rw [q_500, ii_lt (by omega) (by omega) (by omega) (by omega)]; omega)]
      rw [if_neg (by rw [q_500, ii_lt (by omega) (by omega) (by omega) (by omega)]; omega)]
      rcases Int.lt_or_le w 0 with h3 | h3
      · rw [if_pos (by rw [q_0, ii_lt (by omega) (by omega) (by omega) (by omega)]; omega)]
      rw [if_neg (by rw [q_0, ii_lt (by omega) (by omega) (by omega) (by omega)]; omega), if_neg (by rw [q_2, ii_le (by omega) (by omega) (by omega) (by omega)]; omega)]
    · unfold fX5_ifStep
      rcases Classical.em (20 ≤ S ∧ S ≤ 500) with h1 | h1
      · rw [show fX5_in (ii S) 20 500 = some (ii 1) from m_inT (lo := 20) (hi := 500) (by omega) (by omega) h1.1 h1.2, bd_eq, if_neg ii10, show fX5_in (ii w) 0 2 = some (ii 0) from m_inF (lo := 0) (hi := 2) (by omega) (by omega) (by omega) (by omega) (by omega) (by omega) (by omega), bd_eq, if_pos ii00]
      · rw [show fX5_in (ii S) 20 500 = some (ii 0) from m_inF (lo := 20) (hi := 500) (by omega) (by omega) (by omega) (by omega) (by omega) (by omega) (by omega), bd_eq, if_pos ii00]
