/-! set -/
def sLo (z : Int) : Int := if z = 0 then 200 else if z = 2 then 20 else if z = 4 then 1 else 0
def sHi (z : Int) : Int := if z = 0 then 9999 else if z = 1 then 500 else if z = 2 then 500 else if z = 3 then 1 else 3
theorem sLo_b (z : Int) : 0 ≤ sLo z ∧ sLo z ≤ 200 := by
  unfold sLo
  split <;> (try split) <;> (try split) <;> omega
theorem sHi_b (z : Int) : 1 ≤ sHi z ∧ sHi z ≤ 9999 := by
  unfold sHi
  split <;> (try split) <;> (try split) <;> (try split) <;> omega
theorem five_z {z : Int} (h0 : 0 ≤ z) (h5 : z < 5) : z = 0 ∨ z = 1 ∨ z = 2 ∨ z = 3 ∨ z = 4 := by omega
theorem e_cL {α : Type} {z : Int} {k : Int32 → Option α} (h0 : 0 ≤ z) (h5 : z < 5) : aget 5 cstL (ii z) k = k (ii (sLo z)) := by
  rw [aget_ii h0 (by omega) (by omega)]
  rcases five_z h0 h5 with rfl | rfl | rfl | rfl | rfl <;> exact congrArg k (by decide)
theorem e_cG {α : Type} {z : Int} {k : Int32 → Option α} (h0 : 0 ≤ z) (h5 : z < 5) : aget 5 cstG (ii z) k = k (ii (sHi z)) := by
  rw [aget_ii h0 (by omega) (by omega)]
  rcases five_z h0 h5 with rfl | rfl | rfl | rfl | rfl <;> exact congrArg k (by decide)
theorem m_set67 {z : Int} {i2 k : Int32} {now hi : Nat → Int32} (h0 : 0 ≤ z) (h5 : z < 5) : fX5_set (ii z) i2 k now hi = fX5_set_67 (ii z) i2 (ii (sLo z)) (ii (sHi z)) k now hi := by
  unfold fX5_set fX5_set_30 fX5_set_51
  rcases five_z h0 h5 with rfl | rfl | rfl | rfl | rfl
  · rw [if_pos (by decide), if_pos (by decide)]
    rfl
  · rw [if_neg (by decide), if_neg (by decide), if_neg (by decide), if_neg (by decide), if_pos (by decide)]
    rfl
  · rw [if_neg (by decide), if_pos (by decide), if_neg (by decide), if_neg (by decide), if_pos (by decide)]
    rfl
  · rw [if_neg (by decide), if_neg (by decide), if_neg (by decide), if_neg (by decide), if_neg (by decide), if_neg (by decide), if_pos (by decide)]
    rfl
  · rw [if_neg (by decide), if_neg (by decide), if_pos (by decide), if_neg (by decide), if_neg (by decide), if_neg (by decide), if_neg (by decide)]
    rfl
theorem m_setAny (i1 i2 k : Int32) (now hi : Nat → Int32) : ∃ lo up : Int32, fX5_set i1 i2 k now hi = fX5_set_67 i1 i2 lo up k now hi := by
  unfold fX5_set fX5_set_30 fX5_set_51
  repeat' split
  all_goals exact ⟨_, _, rfl⟩
theorem m_setF {z : Int} {i2 k : Int32} {now hi : Nat → Int32} (h1 : -2147483648 ≤ z) (h2 : z < 2147483648) (h : z < 0 ∨ 5 ≤ z) : fX5_set (ii z) i2 k now hi = some (-2, k, now, hi) := by
  obtain ⟨lo, up, e⟩ := m_setAny (ii z) i2 k now hi
  rw [e]
  unfold fX5_set_67
  rw [q_0, q_4, m_inF h1 h2 (by omega) (by omega) (by omega) (by omega) (by omega), bd_eq, if_pos rfl]
theorem e_changeSetting {P : Nat → Int} {z w : Int} (h0 : 0 ≤ z) (h5 : z < 5) : fX2_changeSetting (ii z) (ii w) (il P) = some (il (zu P z.toNat w)) := by
  unfold fX2_changeSetting
  simp (disch := omega) only [q_0, q_5, ii_lt, ii_le, if_neg, aset_ii]
theorem RS.set {P Q : Nat → Int} (h : RS P Q) {k : Nat} {w : Int} (hk : k < 5) (hl : sLo k ≤ w) (hu : w ≤ sHi k) : RS (zu P k w) (zu Q k w) := by
  obtain ⟨⟨h0, h1, h2, h3, h4, h5, h6, h7, h8, h9⟩, e0, e1, e2, e3, e4, hh⟩ := h
  have epn : ∀ c, pn (zu P k w) c = pn P c := fun c => zu_ne (by omega)
  have epf : ∀ c b, pf (zu P k w) c b = pf P c b := fun c b => funext fun j => zu_ne (by omega)
  have emn : ∀ c, mn (zu Q k w) c = mn Q c := fun c => zu_ne (by omega)
  have emf : ∀ c b, mf (zu Q k w) c b = mf Q c b := fun c b => funext fun j => zu_ne (by omega)
  unfold RS PgOK
  simp only [epn, epf, emn, emf]
  have k5 : k = 0 ∨ k = 1 ∨ k = 2 ∨ k = 3 ∨ k = 4 := by omega
  rcases k5 with rfl | rfl | rfl | rfl | rfl
  · have a1 : 200 ≤ w := hl
    have a2 : w ≤ 9999 := hu
    exact ⟨⟨a1, a2, h2, h3, h4, h5, h6, h7, h8, h9⟩, rfl, e1, e2, e3, e4, hh⟩
  · have a1 : 0 ≤ w := hl
    have a2 : w ≤ 500 := hu
    exact ⟨⟨h0, h1, a1, a2, h4, h5, h6, h7, h8, h9⟩, e0, rfl, e2, e3, e4, hh⟩
  · have a1 : 20 ≤ w := hl
    have a2 : w ≤ 500 := hu
    exact ⟨⟨h0, h1, h2, h3, a1, a2, h6, h7, h8, h9⟩, e0, e1, rfl, e3, e4, hh⟩
  · have a1 : 0 ≤ w := hl
    have a2 : w ≤ 1 := hu
    have a3 : w = 0 ∨ w = 1 := by omega
    exact ⟨⟨h0, h1, h2, h3, h4, h5, a3, h7, h8, h9⟩, e0, e1, e2, rfl, e4, hh⟩
  · have a1 : 1 ≤ w := hl
    have a2 : w ≤ 3 := hu
    exact ⟨⟨h0, h1, h2, h3, h4, h5, h6, a1, a2, h9⟩, e0, e1, e2, e3, rfl, hh⟩
theorem PgOK.range {P : Nat → Int} (h : PgOK P) {k : Nat} (hk : k < 5) : sLo k ≤ P k ∧ P k ≤ sHi k := by
  obtain ⟨h0, h1, h2, h3, h4, h5, h6, h7, h8, h9⟩ := h
  have k5 : k = 0 ∨ k = 1 ∨ k = 2 ∨ k = 3 ∨ k = 4 := by omega
  rcases k5 with rfl | rfl | rfl | rfl | rfl
  · exact ⟨h0, h1⟩
  · exact ⟨h2, h3⟩
  · exact ⟨h4, h5⟩
  · exact ⟨show (0 : Int) ≤ P 3 by omega, show P 3 ≤ (1 : Int) by omega⟩
  · exact ⟨h7, h8⟩
theorem RS.eq5 {P Q : Nat → Int} (h : RS P Q) {k : Nat} (hk : k < 5) : P k = Q k := by
  obtain ⟨hp, e0, e1, e2, e3, e4, hh⟩ := h
  have k5 : k = 0 ∨ k = 1 ∨ k = 2 ∨ k = 3 ∨ k = 4 := by omega
  rcases k5 with rfl | rfl | rfl | rfl | rfl
  · exact e0
  · exact e1
  · exact e2
  · exact e3
  · exact e4
set_option maxHeartbeats 4000000 in
theorem ok_set : op_set InvG := by
  intro i1 i2 sg sm hI
  obtain ⟨P, Q, Az, Bz, kk, c1, c2, hRS, r1, r2, hlay, hnew⟩ := act_rec hI
  obtain ⟨z, hz1, hz2, rfl⟩ := ii_of i1
  obtain ⟨w, hw1, hw2, rfl⟩ := ii_of i2
  rcases Classical.em (z < 0 ∨ 5 ≤ z) with hz | hz
  · refine ⟨sameC (-2) sg, sameM (-2) sm, ?_, m_setF hz1 hz2 hz, rfl, hI⟩
    unfold fX4_set
    rcases hz with hz | hz
    · rw [if_pos (show ii z < 0 by rw [q_0, ii_lt (by omega) (by omega) (by omega) (by omega)]; omega)]
      rfl
    · rw [if_neg (show ¬ ii z < 0 by rw [q_0, ii_lt (by omega) (by omega) (by omega) (by omega)]; omega), if_neg (show ¬ ii z < 5 by rw [q_5, ii_lt (by omega) (by omega) (by omega) (by omega)]; omega)]
      rfl
  · have hlo := sLo_b z
    have hhi := sHi_b z
    have g1 : ¬ ii z < 0 := by rw [q_0, ii_lt (by omega) (by omega) (by omega) (by omega)]; omega
    have g2 : ii z < 5 := by rw [q_5, ii_lt (by omega) (by omega) (by omega) (by omega)]; omega
    obtain ⟨k, rfl⟩ : ∃ k : Nat, z = k := ⟨z.toNat, by omega⟩
    have hk : k < 5 := by omega
    have hr := hRS.1.range hk
    rcases Classical.em (w < sLo k ∨ sHi k < w) with hw | hw
    · refine ⟨sameC (-2) sg, sameM (-2) sm, ?_, ?_, rfl, hI⟩
      · unfold fX4_set
        rw [if_neg g1, if_pos g2, e_cL (by omega) (by omega)]
        rcases Int.lt_or_le w (sLo k) with h | h
        · rw [if_pos (by rw [ii_lt (by omega) (by omega) (by omega) (by omega)]; omega)]
          rfl
        · rw [if_neg (by rw [ii_lt (by omega) (by omega) (by omega) (by omega)]; omega), e_cG (by omega) (by omega), if_neg (by rw [ii_le (by omega) (by omega) (by omega) (by omega)]; omega)]
          rfl
      · rw [m_set67 (by omega) (by omega)]
        unfold fX5_set_67
        rw [q_0, q_4, m_inT (by omega) (by omega) (by omega) (by omega), bd_eq, ← q_0, if_neg ii10, m_inF hw1 hw2 (by omega) (by omega) (by omega) (by omega) hw, bd_eq, if_pos ii00]
        rfl
    · have a1 : ¬ ii w < ii (sLo k) := by rw [ii_lt (by omega) (by omega) (by omega) (by omega)]; omega
      have a2 : ii w ≤ ii (sHi k) := by rw [ii_le (by omega) (by omega) (by omega) (by omega)]; omega
      have ek := hRS.eq5 hk
      rcases Classical.em (P k = w) with he | he
      · refine ⟨sameC (-5) sg, sameM (-5) sm, ?_, ?_, rfl, hI⟩
        · unfold fX4_set
          rw [if_neg g1, if_pos g2, e_cL (by omega) (by omega), if_neg a1, e_cG (by omega) (by omega), if_pos a2, c1, e_setting hk, bd_eq, if_pos (by rw [he])]
          rw [← c1]
          rfl
        · rw [m_set67 (by omega) (by omega)]
          unfold fX5_set_67
          rw [q_0, q_4, m_inT (by omega) (by omega) (by omega) (by omega), bd_eq, ← q_0, if_neg ii10, m_inT (by omega) (by omega) (by omega) (by omega), bd_eq, if_neg ii10, c2, aget_ii (by omega) (by omega) (by omega), il_app, Int.toNat_natCast, if_pos (by rw [← ek, he]), ← c2]
          rfl
      · obtain ⟨cu, lcz, enz, ovz, ahz, bez, spz, blz, lbz, f1, f2, hinv⟩ := hnew (zu P k w) (zu Q k w) (hRS.set hk (by omega) (by omega))
        refine ⟨outC (ii (P k)) (zu P k w) cu lcz enz ovz ahz bez spz blz lbz kk Az, outM (ii (P k)) kk (zu Q k w) Bz, ?_, ?_, rfl, hinv (ii (P k))⟩
        · unfold fX4_set
          rw [if_neg g1, if_pos g2, e_cL (by omega) (by omega), if_neg a1, e_cG (by omega) (by omega), if_pos a2, c1, e_setting hk, bd_eq, if_neg (by rw [ii_eq (by omega) (by omega) (by omega) (by omega)]; exact he), r1, bd_eq, e_changeSetting (by omega) (by omega), bd_eq, Int.toNat_natCast, f1, bd_eq]
          try rfl
        · rw [m_set67 (by omega) (by omega)]
          unfold fX5_set_67
          rw [q_0, q_4, m_inT (by omega) (by omega) (by omega) (by omega), bd_eq, ← q_0, if_neg ii10, m_inT (by omega) (by omega) (by omega) (by omega), bd_eq, if_neg ii10, c2, aget_ii (by omega) (by omega) (by omega), il_app, Int.toNat_natCast, if_neg (by rw [ii_eq (by omega) (by omega) (by omega) (by omega)]; omega), r2, bd_eq, aset_ii (by omega) (by omega) (by omega), Int.toNat_natCast, ek]
          try rfl
