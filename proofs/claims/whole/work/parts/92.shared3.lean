/-! the reference's way to a shared baseline, and the pair -/
section
variable {P : Nat → Int} {S : Int} {y1 y2 y3 y4 y5 y6 y7 y8 : Nat → Int}
abbrev O9 : Type := Int32 × (Nat → Int32) × (Nat → Int32) × (Nat → Int32) × (Nat → Int32) × (Nat → Int32) × (Nat → Int32) × (Nat → Int32) × (Nat → Int32)
/-- the lines behind which the search stands: all of the columns before c, k of c -/
def DnP (P : Nat → Int) (S : Int) (c k : Nat) (p : Int) : Prop := (∃ d, d < c ∧ ∃ i, i < nnP P S d ∧ ffP P S d i = p) ∨ ∃ i, i < k ∧ ffP P S c i = p
def BsP (P : Nat → Int) (S last : Int) (c k : Nat) (B : Int) : Prop := (B = -1 ∧ ∀ p, DnP P S c k p → ShP P S p → ¬ last < p) ∨ (0 ≤ B ∧ B ≤ 9999 ∧ ShP P S B ∧ last < B ∧ ∀ p, DnP P S c k p → ShP P S p → last < p → B ≤ p)
theorem DnP.step {c k : Nat} {p : Int} (h : DnP P S c (k + 1) p) : DnP P S c k p ∨ p = ffP P S c k := by
  rcases h with h | ⟨i, hi, e⟩
  · exact Or.inl (Or.inl h)
  · rcases Nat.lt_or_ge i k with g | g
    · exact Or.inl (Or.inr ⟨i, g, e⟩)
    · have e2 : i = k := by omega
      rw [e2] at e
      exact Or.inr e.symm
theorem BsP.keep {last B : Int} {c k : Nat} (h : BsP P S last c k B) (hq : ShP P S (ffP P S c k) → last < ffP P S c k → 0 ≤ B ∧ B ≤ ffP P S c k) : BsP P S last c (k + 1) B := by
  rcases h with ⟨h1, h2⟩ | ⟨h1, h2, h3, h4, h5⟩
  · left
    refine ⟨h1, fun p hp hs hl => ?_⟩
    rcases hp.step with g | g
    · exact h2 p g hs hl
    · rw [g] at hs hl
      have := hq hs hl
      omega
  · right
    refine ⟨h1, h2, h3, h4, fun p hp hs hl => ?_⟩
    rcases hp.step with g | g
    · exact h5 p g hs hl
    · rw [g] at hs hl ⊢
      exact (hq hs hl).2
theorem BsP.take {last B : Int} {c k : Nat} (h : BsP P S last c k B) (hb : 0 ≤ ffP P S c k ∧ ffP P S c k ≤ 9999) (hs : ShP P S (ffP P S c k)) (hl : last < ffP P S c k) (hB : B < 0 ∨ ffP P S c k < B) : BsP P S last c (k + 1) (ffP P S c k) := by
  right
  refine ⟨hb.1, hb.2, hs, hl, fun p hp hs2 hl2 => ?_⟩
  rcases hp.step with g | g
  · rcases h with ⟨h1, h2⟩ | ⟨h1, h2, h3, h4, h5⟩
    · exact absurd hl2 (h2 p g hs2)
    · have := h5 p g hs2 hl2
      omega
  · rw [g]
    exact Int.le_refl _
theorem BsP.turn {last B : Int} {c : Nat} (h : BsP P S last c (nnP P S c) B) : BsP P S last (c + 1) 0 B := by
  have hd : ∀ p, DnP P S (c + 1) 0 p → DnP P S c (nnP P S c) p := fun p hp => by
    rcases hp with ⟨d, hd, i, hi, e⟩ | ⟨i, hi, e⟩
    · rcases Nat.lt_or_ge d c with g | g
      · exact Or.inl ⟨d, g, i, hi, e⟩
      · have e2 : d = c := by omega
        rw [e2] at hi e
        exact Or.inr ⟨i, hi, e⟩
    · exact absurd hi (Nat.not_lt_zero i)
  rcases h with ⟨h1, h2⟩ | ⟨h1, h2, h3, h4, h5⟩
  · exact Or.inl ⟨h1, fun p hp => h2 p (hd p hp)⟩
  · exact Or.inr ⟨h1, h2, h3, h4, fun p hp => h5 p (hd p hp)⟩
theorem BsP.b {last B : Int} {c k : Nat} (h : BsP P S last c k B) : -1 ≤ B ∧ B ≤ 9999 := by
  rcases h with h | h
  · omega
  · omega
theorem m_44s (h : CL P S y3 y1 y2) (hP : PgOK P) (hS : 20 ≤ S) (hS2 : S ≤ 500) {k25 k35 : Int32 → Int32 → Option O9} {i2 w3 : Int32} {last : Int} (hl1 : -1 ≤ last) (hl2 : last ≤ 9999) {c : Nat} (hc : c < 4) :
    ∀ (q k fu : Nat) (B : Int), k + q = nnP P S c → q < fu → BsP P S last c k B → ∃ C, fX5_shared_44 k25 k35 i2 w3 (ii last) (ii c) (il y1) (il y2) (il y3) (il y4) (il y5) (il y6) (il y7) (il y8) fu (ii B) (ii (k : Nat)) = k35 (ii C) (ii ((c + 1 : Nat) : Int)) ∧ BsP P S last (c + 1) 0 C := by
  obtain ⟨b1, b2, b3⟩ := ffP_b hP hS hS2 hc
  intro q
  induction q with
  | zero =>
    intro k fu B hk hf hB
    obtain ⟨n, rfl⟩ : ∃ n, fu = n + 1 := ⟨fu - 1, by omega⟩
    have e : k = nnP P S c := by omega
    rw [e] at hB
    refine ⟨B, ?_, hB.turn⟩
    rw [fX5_shared_44]
    dsimp only
    rw [h.many hc, if_pos (le_iiT (by omega) (by omega) (by omega)), nm_eq, ii_suc]
  | succ q ih =>
    intro k fu B hk hf hB
    obtain ⟨n, rfl⟩ : ∃ n, fu = n + 1 := ⟨fu - 1, by omega⟩
    have hkn : k < nnP P S c := by omega
    have hb := b2 k hkn
    have hBb := hB.b
    have hst := sum4_b (g := fun d => htP P S d (ffP P S c k)) (fun d _ => htP_01 P S d _)
    have h105 : ∀ C, BsP P S last c (k + 1) C → ∃ D, fX5_shared_105 k25 k35 (fX5_shared_44 k25 k35 i2 w3 (ii last) (ii c) (il y1) (il y2) (il y3) (il y4) (il y5) (il y6) (il y7) (il y8) n) i2 w3 (ii last) (ii C) (ii c) (ii (k : Nat)) (il y1) (il y2) (il y3) (il y4) (il y5) (il y6) (il y7) (il y8) = k35 (ii D) (ii ((c + 1 : Nat) : Int)) ∧ BsP P S last (c + 1) 0 D := by
      intro C hC
      unfold fX5_shared_105
      rw [nm_eq, ii_suc]
      exact ih (k + 1) n C (by omega) (by omega) hC
    have h91 : last < ffP P S c k → (B < 0 ∨ ffP P S c k < B) → ∃ D, fX5_shared_91 k25 k35 (fX5_shared_44 k25 k35 i2 w3 (ii last) (ii c) (il y1) (il y2) (il y3) (il y4) (il y5) (il y6) (il y7) (il y8) n) i2 w3 (ii last) (ii B) (ii c) (ii (k : Nat)) (ii (ffP P S c k)) (il y1) (il y2) (il y3) (il y4) (il y5) (il y6) (il y7) (il y8) = k35 (ii D) (ii ((c + 1 : Nat) : Int)) ∧ BsP P S last (c + 1) 0 D := by
      intro g1 g2
      unfold fX5_shared_91
      rw [h.mstand hP hS hS2 (by omega) (by omega), bd_eq]
      rcases Int.lt_or_le 1 (sumF (fun d => htP P S d (ffP P S c k)) 4) with g3 | g3
      · rw [if_neg (by rw [q_1, ii_le (by omega) (by omega) (by omega) (by omega)]; omega)]
        exact h105 _ (hB.take hb g3 g1 g2)
      · rw [if_pos (by rw [q_1, ii_le (by omega) (by omega) (by omega) (by omega)]; omega)]
        refine h105 _ (hB.keep (fun hs _ => ?_))
        unfold ShP at hs
        omega
    rw [fX5_shared_44]
    dsimp only
    rw [h.many hc, if_neg (le_iiF (by omega) (by omega) hkn), h.lin hc b1 hkn]
    rcases Int.lt_or_le last (ffP P S c k) with g1 | g1
    · rw [if_neg (by rw [ii_le (by omega) (by omega) (by omega) (by omega)]; omega)]
      rcases Int.lt_or_le B 0 with g2 | g2
      · rw [if_pos (by rw [q_0, ii_lt (by omega) (by omega) (by omega) (by omega)]; omega)]
        exact h91 g1 (Or.inl g2)
      · rw [if_neg (by rw [q_0, ii_lt (by omega) (by omega) (by omega) (by omega)]; omega)]
        rcases Int.lt_or_le (ffP P S c k) B with g3 | g3
        · rw [if_neg (by rw [ii_le (by omega) (by omega) (by omega) (by omega)]; omega)]
          exact h91 g1 (Or.inr g3)
        · rw [if_pos (by rw [ii_le (by omega) (by omega) (by omega) (by omega)]; omega)]
          exact h105 _ (hB.keep (fun _ _ => ⟨g2, g3⟩))
    · rw [if_pos (by rw [ii_le (by omega) (by omega) (by omega) (by omega)]; omega)]
      exact h105 _ (hB.keep (fun _ hl => by omega))
theorem m_35s (h : CL P S y3 y1 y2) (hP : PgOK P) (hS : 20 ≤ S) (hS2 : S ≤ 500) {k25 : Int32 → Int32 → Option O9} {i2 w3 : Int32} {last : Int} (hl1 : -1 ≤ last) (hl2 : last ≤ 9999) :
    ∀ (q c fu : Nat) (B : Int), c + q = 4 → q < fu → BsP P S last c 0 B → ∃ C, fX5_shared_35 k25 i2 w3 (ii last) (il y1) (il y2) (il y3) (il y4) (il y5) (il y6) (il y7) (il y8) fu (ii B) (ii (c : Nat)) = (if C < 0 then some (outY (-5) y1 y2 y3 y4 y5 y6 y7 y8) else k25 (w3 + (-1)) (ii C)) ∧ BsP P S last 4 0 C := by
  intro q
  induction q with
  | zero =>
    intro c fu B hk hf hB
    obtain ⟨n, rfl⟩ : ∃ n, fu = n + 1 := ⟨fu - 1, by omega⟩
    have e : c = 4 := by omega
    subst e
    refine ⟨B, ?_, hB⟩
    have hb := hB.b
    rw [fX5_shared_35]
    dsimp only
    rw [if_pos (show (4 : Int32) ≤ ii ((4 : Nat) : Int) by decide), nm_eq]
    rcases Int.lt_or_le B 0 with g | g
    · rw [if_pos g, if_neg (by rw [q_0, ii_le (by omega) (by omega) (by omega) (by omega)]; omega)]
    · rw [if_pos (by rw [q_0, ii_le (by omega) (by omega) (by omega) (by omega)]; omega), if_neg (show ¬ B < 0 by omega)]
  | succ q ih =>
    intro c fu B hk hf hB
    obtain ⟨n, rfl⟩ : ∃ n, fu = n + 1 := ⟨fu - 1, by omega⟩
    have hc : c < 4 := by omega
    have hn := (ffP_b hP hS hS2 hc).1
    obtain ⟨C, e1, e2⟩ := m_44s (k25 := k25) (k35 := fX5_shared_35 k25 i2 w3 (ii last) (il y1) (il y2) (il y3) (il y4) (il y5) (il y6) (il y7) (il y8) n) (i2 := i2) (w3 := w3) h hP hS hS2 hl1 hl2 hc (nnP P S c) 0 Fu B (by omega) (by rw [Fu_s]; omega) hB
    obtain ⟨D, g1, g2⟩ := ih (c + 1) n C (by omega) (by omega) e2
    refine ⟨D, ?_, g2⟩
    rw [fX5_shared_35]
    dsimp only
    rw [if_neg (n4 hc)]
    exact e1.trans g1
/-- the reference's answer when it stands at B -/
def ansS (P : Nat → Int) (S w B : Int) : Int := if B = -5 then -5 else if w = 0 then B else sumF (fun d => htP P S d B) 4
theorem m_25s (h : CL P S y3 y1 y2) (hP : PgOK P) (hS : 20 ≤ S) (hS2 : S ≤ 500) {w : Int} (hw : w = 0 ∨ w = 1) :
    ∀ (q fu left : Nat) (last : Int), 10000 - last ≤ q → q + 1 < fu → left < 2147483648 → -1 ≤ last → last ≤ 9999 → ∃ R, fX5_shared_25 (ii w) (il y1) (il y2) (il y3) (il y4) (il y5) (il y6) (il y7) (il y8) fu (ii left) (ii last) = some (outY (ii (ansS P S w R)) y1 y2 y3 y4 y5 y6 y7 y8) ∧ ResP P S left last R := by
  intro q
  induction q with
  | zero =>
    intro fu left last h1 h2 h3 h4 h5
    omega
  | succ q ih =>
    intro fu left last h1 h2 h3 h4 h5
    obtain ⟨n, rfl⟩ : ∃ n, fu = n + 1 := ⟨fu - 1, by omega⟩
    obtain ⟨C, e1, e2⟩ := m_35s (k25 := fX5_shared_25 (ii w) (il y1) (il y2) (il y3) (il y4) (il y5) (il y6) (il y7) (il y8) n) (i2 := ii w) (w3 := ii left) h hP hS hS2 h4 h5 4 0 Fu (-1) (by omega) (by rw [Fu_s]; omega) (Or.inl ⟨rfl, fun p hp => by
      rcases hp with ⟨d, hd, _⟩ | ⟨i, hi, _⟩
      · exact absurd hd (Nat.not_lt_zero d)
      · exact absurd hi (Nat.not_lt_zero i)⟩)
    have hall : ∀ p, ShP P S p → DnP P S 4 0 p := fun p hp => by
      obtain ⟨c, hc, i, hi, e⟩ := hp.line
      exact Or.inl ⟨c, hc, i, hi, e⟩
    rw [fX5_shared_25]
    dsimp only
    rw [if_neg (by rw [q_0, ii_lt (by omega) (by omega) (by omega) (by omega)]; omega), q_1, ii_neg]
    rw [q_1, ii_neg] at e1
    have e0 : fX5_shared_35 (fX5_shared_25 (ii w) (il y1) (il y2) (il y3) (il y4) (il y5) (il y6) (il y7) (il y8) n) (ii w) (ii left) (ii last) (il y1) (il y2) (il y3) (il y4) (il y5) (il y6) (il y7) (il y8) Fu (ii (-1)) 0 = (if C < 0 then some (outY (-5) y1 y2 y3 y4 y5 y6 y7 y8) else fX5_shared_25 (ii w) (il y1) (il y2) (il y3) (il y4) (il y5) (il y6) (il y7) (il y8) n (ii left + ii (-1)) (ii C)) := e1
    rw [e0]
    rcases e2 with ⟨u1, u2⟩ | ⟨u1, u2, u3, u4, u5⟩
    · rw [if_pos (by omega)]
      exact ⟨-5, rfl, ResP.none (fun p hp => u2 p (hall p hp) hp) left⟩
    · have hnx : NxP P S last C := ⟨u3, u4, fun p hp hl => u5 p (hall p hp) hp hl⟩
      rw [if_neg (by omega), ii_add]
      rcases Nat.eq_zero_or_pos left with hz | hz
      · subst hz
        obtain ⟨n', rfl⟩ : ∃ x, n = x + 1 := ⟨n - 1, by omega⟩
        refine ⟨C, ?_, Or.inl hnx⟩
        rw [fX5_shared_25]
        dsimp only
        rw [if_pos (by decide)]
        unfold ansS
        rw [if_neg (show ¬ C = -5 by omega)]
        rcases hw with rfl | rfl
        · rw [if_pos (by decide), if_pos rfl]
        · rw [if_neg (by decide), if_neg (by decide), h.mstand hP hS hS2 (by omega) (by omega), bd_eq]
      · obtain ⟨l, rfl⟩ : ∃ x, left = x + 1 := ⟨left - 1, by omega⟩
        obtain ⟨R, g1, g2⟩ := ih n l C (by omega) (by omega) (by omega) (by omega) (by omega)
        refine ⟨R, ?_, Or.inl ⟨C, hnx, g2⟩⟩
        rw [show ((l + 1 : Nat) : Int) + -1 = (l : Nat) by omega]
        exact g1
end
set_option maxHeartbeats 4000000 in
theorem ok_shared : op_shared InvG := by
  intro i1 i2 sg sm hI
  obtain ⟨P, Q, lcz, enz, ovz, ahz, bez, spz, blz, lbz, c1, c2, hRS, d1, d2, d3, d4, d5, d6, d7, d8, d9, d10, d11, d12, hlay, y1, y2, y3, y4, y5, y6, y7, y8, k1, k2⟩ := act_qry hI
  obtain ⟨x, hx1, hx2, rfl⟩ := ii_of i1
  obtain ⟨w, hw1, hw2, rfl⟩ := ii_of i2
  obtain ⟨hs1, hs2⟩ := hRS.1.stp
  have hC := hlay.cl
  have hM := k2.cl hRS
  rcases Classical.em (x < 0 ∨ w < 0 ∨ 1 < w) with hb | hb
  · refine ⟨(-2, sg.2.2.2.2.2.2.2.2.2.2.2.2.2.2.2.1), rawM (-2) sm, ?_, ?_, rfl, hI⟩
    · unfold fX4_shared
      rcases Int.lt_or_le x 0 with h1 | h1
      · rw [if_pos (by rw [q_0, ii_lt (by omega) (by omega) (by omega) (by omega)]; omega)]
      rw [if_neg (by rw [q_0, ii_lt (by omega) (by omega) (by omega) (by omega)]; omega)]
      rcases Int.lt_or_le w 0 with h2 | h2
      · rw [if_pos (by rw [q_0, ii_lt (by omega) (by omega) (by omega) (by omega)]; omega)]
      rw [if_neg (by rw [q_0, ii_lt (by omega) (by omega) (by omega) (by omega)]; omega), if_neg (by rw [q_1, ii_le (by omega) (by omega) (by omega) (by omega)]; omega)]
    · unfold fX5_shared
      rcases Int.lt_or_le x 0 with h1 | h1
      · rw [if_pos (by rw [q_0, ii_lt (by omega) (by omega) (by omega) (by omega)]; omega)]
      rw [if_neg (by rw [q_0, ii_lt (by omega) (by omega) (by omega) (by omega)]; omega), show fX5_in (ii w) 0 1 = some (ii 0) from m_inF (lo := 0) (hi := 1) (by omega) (by omega) (by omega) (by omega) (by omega) (by omega) (by omega), bd_eq, if_pos ii00]
  · obtain ⟨n, rfl⟩ : ∃ n : Nat, x = n := ⟨x.toNat, by omega⟩
    have hn : n < 2147483648 := by omega
    have g1 : ¬ ii (n : Nat) < 0 := by rw [q_0, ii_lt (by omega) (by omega) (by omega) (by omega)]; omega
    have g2 : ¬ ii w < 0 := by rw [q_0, ii_lt (by omega) (by omega) (by omega) (by omega)]; omega
    have g3 : ii w ≤ 1 := by rw [q_1, ii_le (by omega) (by omega) (by omega) (by omega)]; omega
    obtain ⟨R, rz, e1, e2⟩ := e_shared hC hRS.1 hs1 hs2 hn sg.2.2.2.2.2.2.2.2.2.2.2.2.2.2.2.1
    obtain ⟨R2, f1, f2⟩ := m_25s (w := w) (y4 := y4) (y5 := y5) (y6 := y6) (y7 := y7) (y8 := y8) hM hRS.1 hs1 hs2 (by omega) 10001 Fu n (-1) (by omega) (by rw [Fu_s]; omega) hn (by omega) (by omega)
    have hR : R2 = R := f2.one _ _ _ _ e2
    rw [hR] at f1
    refine ⟨(ii (ansS P (P 2) w R), il rz), outY (ii (ansS P (P 2) w R)) y1 y2 y3 y4 y5 y6 y7 y8, ?_, ?_, rfl, hI⟩
    · rw [d5, d11]
      unfold fX4_shared ansS
      rw [if_neg g1, if_neg g2, if_pos g3, e1, bd_eq]
      dsimp only
      rcases ResP.sort hRS.1 hs1 hs2 _ _ _ e2 with v | ⟨v1, v2, v3⟩
      · rw [v, if_pos (by decide), if_pos rfl]
      · rw [if_neg (show ¬ ii R = -5 by rw [q_5, ii_neg, ii_eq (by omega) (by omega) (by omega) (by omega)]; omega), if_neg (show ¬ R = -5 by omega)]
        have w2 : w = 0 ∨ w = 1 := by omega
        rcases w2 with rfl | rfl
        · rw [if_pos (by decide), if_pos rfl]
        · rw [if_neg (by decide), if_neg (by decide), hC.stand hRS.1 hs1 hs2 (by omega) (by omega), bd_eq]
    · rw [c2]
      unfold fX5_shared
      rw [if_neg g1, show fX5_in (ii w) 0 1 = some (ii 1) from m_inT (lo := 0) (hi := 1) (by omega) (by omega) (by omega) (by omega), bd_eq, if_neg ii10, k1, bd_eq]
      dsimp only
      rw [q_1, ii_neg]
      exact f1
