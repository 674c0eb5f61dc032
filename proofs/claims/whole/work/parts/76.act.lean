/-! acts: both systems record, change their pages and go on belonging together -/
def ActC (sg : SG) (o : Int32 × (Nat → Int32) × Int32 × Int32 × Int32 × Int32 × Int32 × (Nat → Int32) × (Nat → Int32) × (Nat → Int32) × (Nat → Int32) × (Nat → Int32) × (Nat → Int32) × (Nat → Int32) × (Nat → Int32) × Int32 × (Nat → Int32)) : SG := (sg.1, o.2.1, o.2.2.1, o.2.2.2.1, o.2.2.2.2.1, o.2.2.2.2.2.1, o.2.2.2.2.2.2.1, o.2.2.2.2.2.2.2.1, o.2.2.2.2.2.2.2.2.1, o.2.2.2.2.2.2.2.2.2.1, o.2.2.2.2.2.2.2.2.2.2.1, o.2.2.2.2.2.2.2.2.2.2.2.1, o.2.2.2.2.2.2.2.2.2.2.2.2.1, o.2.2.2.2.2.2.2.2.2.2.2.2.2.1, o.2.2.2.2.2.2.2.2.2.2.2.2.2.2.1, sg.2.2.2.2.2.2.2.2.2.2.2.2.2.2.2.1, sg.2.2.2.2.2.2.2.2.2.2.2.2.2.2.2.2.1, sg.2.2.2.2.2.2.2.2.2.2.2.2.2.2.2.2.2.1, sg.2.2.2.2.2.2.2.2.2.2.2.2.2.2.2.2.2.2.1, sg.2.2.2.2.2.2.2.2.2.2.2.2.2.2.2.2.2.2.2.1, sg.2.2.2.2.2.2.2.2.2.2.2.2.2.2.2.2.2.2.2.2.1, sg.2.2.2.2.2.2.2.2.2.2.2.2.2.2.2.2.2.2.2.2.2.1, sg.2.2.2.2.2.2.2.2.2.2.2.2.2.2.2.2.2.2.2.2.2.2.1, sg.2.2.2.2.2.2.2.2.2.2.2.2.2.2.2.2.2.2.2.2.2.2.2.1, sg.2.2.2.2.2.2.2.2.2.2.2.2.2.2.2.2.2.2.2.2.2.2.2.2.1, sg.2.2.2.2.2.2.2.2.2.2.2.2.2.2.2.2.2.2.2.2.2.2.2.2.2.1, sg.2.2.2.2.2.2.2.2.2.2.2.2.2.2.2.2.2.2.2.2.2.2.2.2.2.2.1, sg.2.2.2.2.2.2.2.2.2.2.2.2.2.2.2.2.2.2.2.2.2.2.2.2.2.2.2.1, sg.2.2.2.2.2.2.2.2.2.2.2.2.2.2.2.2.2.2.2.2.2.2.2.2.2.2.2.2.1, sg.2.2.2.2.2.2.2.2.2.2.2.2.2.2.2.2.2.2.2.2.2.2.2.2.2.2.2.2.2.1, o.2.2.2.2.2.2.2.2.2.2.2.2.2.2.2.1, o.2.2.2.2.2.2.2.2.2.2.2.2.2.2.2.2, sg.2.2.2.2.2.2.2.2.2.2.2.2.2.2.2.2.2.2.2.2.2.2.2.2.2.2.2.2.2.2.2.2.1, sg.2.2.2.2.2.2.2.2.2.2.2.2.2.2.2.2.2.2.2.2.2.2.2.2.2.2.2.2.2.2.2.2.2.1, sg.2.2.2.2.2.2.2.2.2.2.2.2.2.2.2.2.2.2.2.2.2.2.2.2.2.2.2.2.2.2.2.2.2.2.1, sg.2.2.2.2.2.2.2.2.2.2.2.2.2.2.2.2.2.2.2.2.2.2.2.2.2.2.2.2.2.2.2.2.2.2.2.1, sg.2.2.2.2.2.2.2.2.2.2.2.2.2.2.2.2.2.2.2.2.2.2.2.2.2.2.2.2.2.2.2.2.2.2.2.2.1, sg.2.2.2.2.2.2.2.2.2.2.2.2.2.2.2.2.2.2.2.2.2.2.2.2.2.2.2.2.2.2.2.2.2.2.2.2.2.1, sg.2.2.2.2.2.2.2.2.2.2.2.2.2.2.2.2.2.2.2.2.2.2.2.2.2.2.2.2.2.2.2.2.2.2.2.2.2.2.1, sg.2.2.2.2.2.2.2.2.2.2.2.2.2.2.2.2.2.2.2.2.2.2.2.2.2.2.2.2.2.2.2.2.2.2.2.2.2.2.2)
def ActM (sm : SM) (o : Int32 × Int32 × (Nat → Int32) × (Nat → Int32)) : SM := (o.2.1, sm.2.1, sm.2.2.1, sm.2.2.2.1, o.2.2.1, sm.2.2.2.2.2.1, o.2.2.2, sm.2.2.2.2.2.2.2.1, sm.2.2.2.2.2.2.2.2.1, sm.2.2.2.2.2.2.2.2.2.1, sm.2.2.2.2.2.2.2.2.2.2.1, sm.2.2.2.2.2.2.2.2.2.2.2.1, sm.2.2.2.2.2.2.2.2.2.2.2.2.1, sm.2.2.2.2.2.2.2.2.2.2.2.2.2.1, sm.2.2.2.2.2.2.2.2.2.2.2.2.2.2.1, sm.2.2.2.2.2.2.2.2.2.2.2.2.2.2.2)
def sameC (v : Int32) (sg : SG) : Int32 × (Nat → Int32) × Int32 × Int32 × Int32 × Int32 × Int32 × (Nat → Int32) × (Nat → Int32) × (Nat → Int32) × (Nat → Int32) × (Nat → Int32) × (Nat → Int32) × (Nat → Int32) × (Nat → Int32) × Int32 × (Nat → Int32) := (v, sg.2.1, sg.2.2.1, sg.2.2.2.1, sg.2.2.2.2.1, sg.2.2.2.2.2.1, sg.2.2.2.2.2.2.1, sg.2.2.2.2.2.2.2.1, sg.2.2.2.2.2.2.2.2.1, sg.2.2.2.2.2.2.2.2.2.1, sg.2.2.2.2.2.2.2.2.2.2.1, sg.2.2.2.2.2.2.2.2.2.2.2.1, sg.2.2.2.2.2.2.2.2.2.2.2.2.1, sg.2.2.2.2.2.2.2.2.2.2.2.2.2.1, sg.2.2.2.2.2.2.2.2.2.2.2.2.2.2.1, sg.2.2.2.2.2.2.2.2.2.2.2.2.2.2.2.2.2.2.2.2.2.2.2.2.2.2.2.2.2.2.1, sg.2.2.2.2.2.2.2.2.2.2.2.2.2.2.2.2.2.2.2.2.2.2.2.2.2.2.2.2.2.2.2.1)
def sameM (v : Int32) (sm : SM) : Int32 × Int32 × (Nat → Int32) × (Nat → Int32) := (v, sm.1, sm.2.2.2.2.1, sm.2.2.2.2.2.2.1)
abbrev outC (v : Int32) (Pz : Nat → Int) (cu : Int32) (lcz enz ovz ahz bez spz blz lbz : Nat → Int) (kk : Int32) (Az : Nat → Int) : Int32 × (Nat → Int32) × Int32 × Int32 × Int32 × Int32 × Int32 × (Nat → Int32) × (Nat → Int32) × (Nat → Int32) × (Nat → Int32) × (Nat → Int32) × (Nat → Int32) × (Nat → Int32) × (Nat → Int32) × Int32 × (Nat → Int32) := (v, il Pz, ii (Pz 0), ii (Pz 1), ii (Pz 2), ii (Pz 3), cu, il lcz, il enz, il ovz, il ahz, il bez, il spz, il blz, il lbz, kk, il Az)
abbrev outM (v : Int32) (kk : Int32) (Qz Bz : Nat → Int) : Int32 × Int32 × (Nat → Int32) × (Nat → Int32) := (v, kk, il Qz, il Bz)
theorem act_rec {sg : SG} {sm : SM} (hI : InvG sg sm) : ∃ (P Q Az Bz : Nat → Int) (kk : Int32), sg.2.1 = il P ∧ sm.2.2.2.2.1 = il Q ∧ RS P Q ∧ fX0_record sg.2.2.2.2.2.2.2.2.2.2.2.2.2.2.2.2.2.2.2.2.2.2.2.2.2.2.2.2.2.2.1 sg.2.2.2.2.2.2.2.2.2.2.2.2.2.2.2.2.2.2.2.2.2.2.2.2.2.2.2.2.2.2.2.1 (il P) = some (kk, il Az) ∧ fX5_record sm.1 (il Q) sm.2.2.2.2.2.2.1 = some (kk, il Bz)
    ∧ (∃ (lcz enz ovz ahz bez spz blz lbz : Nat → Int), sg.2.2.1 = ii (P 0) ∧ sg.2.2.2.1 = ii (P 1) ∧ sg.2.2.2.2.1 = ii (P 2) ∧ sg.2.2.2.2.2.1 = ii (P 3) ∧ sg.2.2.2.2.2.2.2.1 = il lcz ∧ sg.2.2.2.2.2.2.2.2.1 = il enz ∧ sg.2.2.2.2.2.2.2.2.2.1 = il ovz ∧ sg.2.2.2.2.2.2.2.2.2.2.1 = il ahz ∧ sg.2.2.2.2.2.2.2.2.2.2.2.1 = il bez ∧ sg.2.2.2.2.2.2.2.2.2.2.2.2.1 = il spz ∧ sg.2.2.2.2.2.2.2.2.2.2.2.2.2.1 = il blz ∧ sg.2.2.2.2.2.2.2.2.2.2.2.2.2.2.1 = il lbz ∧ LayOK P (P 2) lcz enz ovz ahz bez spz blz lbz)
    ∧ ∀ (Pz Qz : Nat → Int), RS Pz Qz → ∃ (cu : Int32) (lcz enz ovz ahz bez spz blz lbz : Nat → Int), fX4_layOutAgain (il Pz) sg.2.2.1 sg.2.2.2.1 sg.2.2.2.2.1 sg.2.2.2.2.2.1 sg.2.2.2.2.2.2.1 sg.2.2.2.2.2.2.2.1 sg.2.2.2.2.2.2.2.2.1 sg.2.2.2.2.2.2.2.2.2.1 sg.2.2.2.2.2.2.2.2.2.2.1 sg.2.2.2.2.2.2.2.2.2.2.2.1 sg.2.2.2.2.2.2.2.2.2.2.2.2.1 sg.2.2.2.2.2.2.2.2.2.2.2.2.2.1 sg.2.2.2.2.2.2.2.2.2.2.2.2.2.2.1 = some (ii (Pz 0), ii (Pz 1), ii (Pz 2), ii (Pz 3), cu, il lcz, il enz, il ovz, il ahz, il bez, il spz, il blz, il lbz)
      ∧ LayOK Pz (Pz 2) lcz enz ovz ahz bez spz blz lbz ∧ ∀ v : Int32, InvG (ActC sg (outC v Pz cu lcz enz ovz ahz bez spz blz lbz kk Az)) (ActM sm (outM v kk Qz Bz)) := by
  obtain ⟨hP, hH, hS, hT⟩ := hI
  obtain ⟨P, Q, l1, l2, l3, l4, l5, l6, l7, l8, c1, c2, hRS, hrest⟩ := hP
  obtain ⟨n, A, B, hn, t1, t2, t3, t4, hr⟩ := hH
  obtain ⟨Az, a1, a2, a3⟩ := e_record (P := P) (A := A) hn
  obtain ⟨Bz, b1, b2, b3⟩ := m_record (Q := Q) (B := B) hn
  refine ⟨P, Q, Az, Bz, ii ((if n = 4 then 4 else n + 1 : Nat) : Int), c1, c2, hRS, by rw [t1, t3]; exact a1, by rw [t2, t4]; exact b1, ⟨l1, l2, l3, l4, l5, l6, l7, l8, hrest⟩, fun Pz Qz hR => ?_⟩
  obtain ⟨cu, lcz, enz, ovz, ahz, bez, spz, blz, lbz, f1, f2⟩ := e_again (P := Pz) (x1 := sg.2.2.1) (x2 := sg.2.2.2.1) (x3 := sg.2.2.2.2.1) (x4 := sg.2.2.2.2.2.1) (x5 := sg.2.2.2.2.2.2.1) (lc := sg.2.2.2.2.2.2.2.1) (en := sg.2.2.2.2.2.2.2.2.1) (ov := sg.2.2.2.2.2.2.2.2.2.1) (ah := sg.2.2.2.2.2.2.2.2.2.2.1) (be := sg.2.2.2.2.2.2.2.2.2.2.2.1) (sp := sg.2.2.2.2.2.2.2.2.2.2.2.2.1) (bl := sg.2.2.2.2.2.2.2.2.2.2.2.2.2.1) (lb := sg.2.2.2.2.2.2.2.2.2.2.2.2.2.2.1) hR.1
  refine ⟨cu, lcz, enz, ovz, ahz, bez, spz, blz, lbz, f1, f2, fun v => ?_⟩
  have hk : (if n = 4 then 4 else n + 1) ≤ 4 := by split <;> omega
  exact ⟨⟨Pz, Qz, lcz, enz, ovz, ahz, bez, spz, blz, lbz, rfl, rfl, hR, rfl, rfl, rfl, rfl, rfl, rfl, rfl, rfl, rfl, rfl, rfl, rfl, f2⟩, ⟨_, Az, Bz, hk, rfl, rfl, rfl, rfl, hRS.recorded hn hr a2 a3 b2 b3⟩, hS, hT⟩
theorem m_inT {a lo hi : Int} (h1 : -2147483648 ≤ lo) (h2 : hi < 2147483648) (h3 : lo ≤ a) (h4 : a ≤ hi) : fX5_in (ii a) (ii lo) (ii hi) = some (ii 1) := by
  unfold fX5_in
  simp (disch := omega) only [ii_lt, if_neg, q_1]
theorem m_inF {a lo hi : Int} (h0 : -2147483648 ≤ a) (h9 : a < 2147483648) (h1 : -2147483648 ≤ lo) (h2 : lo < 2147483648) (h5 : -2147483648 ≤ hi) (h6 : hi < 2147483648) (h3 : a < lo ∨ hi < a) : fX5_in (ii a) (ii lo) (ii hi) = some (ii 0) := by
  unfold fX5_in
  rcases Int.lt_or_le a lo with h | h
  · simp (disch := omega) only [ii_lt, if_pos, q_0]
  · simp (disch := omega) only [ii_lt, if_neg, if_pos, q_0]
theorem m_colT {c : Int} (h0 : 0 ≤ c) (h1 : c < 4) : fX5_isColumn (ii c) = some (ii 1) := by
  unfold fX5_isColumn
  rw [q_0, q_3, m_inT (by omega) (by omega) (by omega) (by omega), bd_eq, bchk_ii (Or.inr rfl)]
theorem m_colF {c : Int} (h0 : -2147483648 ≤ c) (h1 : c < 2147483648) (h : c < 0 ∨ 4 ≤ c) : fX5_isColumn (ii c) = some (ii 0) := by
  unfold fX5_isColumn
  rw [q_0, q_3, m_inF (by omega) (by omega) (by omega) (by omega) (by omega) (by omega) (by omega), bd_eq, bchk_ii (Or.inl rfl)]
theorem ii10 : ¬ ii 1 = 0 := by decide
theorem ii00 : ii 0 = 0 := by decide
/-- a page's change: settings stay, and column for column the blocks belong together -/
theorem RS.change {P Q Pz Qz : Nat → Int} (h : RS P Q) (s1 : ∀ j, j < 5 → Pz j = P j) (s2 : ∀ j, j < 5 → Qz j = Q j) (hc : ∀ c, c < 4 → pn Pz c = mn Qz c ∧ 0 ≤ pn Pz c ∧ pn Pz c ≤ 16 ∧ ∀ b : Nat, (b : Int) < pn Pz c → FlC (pf Pz c b) ∧ RFl (pf Pz c b) (mf Qz c b)) : RS Pz Qz := by
  obtain ⟨⟨h0, h1, h2, h3, h4, h5, h6, h7, h8, h9⟩, e0, e1, e2, e3, e4, hh⟩ := h
  unfold RS PgOK
  rw [s1 0 (by omega), s1 1 (by omega), s1 2 (by omega), s1 3 (by omega), s1 4 (by omega), s2 0 (by omega), s2 1 (by omega), s2 2 (by omega), s2 3 (by omega), s2 4 (by omega)]
  exact ⟨⟨h0, h1, h2, h3, h4, h5, h6, h7, h8, fun c hcc => ⟨(hc c hcc).2.1, (hc c hcc).2.2.1, fun b hb => ((hc c hcc).2.2.2 b hb).1⟩⟩, e0, e1, e2, e3, e4, fun c hcc => ⟨(hc c hcc).1, fun b hb => ((hc c hcc).2.2.2 b hb).2⟩⟩
theorem RS.at {P Q : Nat → Int} (h : RS P Q) {c : Nat} (hc : c < 4) : pn P c = mn Q c ∧ 0 ≤ pn P c ∧ pn P c ≤ 16 ∧ ∀ b : Nat, (b : Int) < pn P c → FlC (pf P c b) ∧ RFl (pf P c b) (mf Q c b) := by
  obtain ⟨hp, e0, e1, e2, e3, e4, hh⟩ := h
  have h9 := hp.2.2.2.2.2.2.2.2.2 c hc
  exact ⟨(hh c hc).1, h9.1, h9.2.1, fun b hb => ⟨h9.2.2 b hb, (hh c hc).2 b hb⟩⟩
theorem BR.ext {f g f1 g1 : Nat → Int} (h : FlC f ∧ RFl f g) (e1 : ∀ k, k < 6 → f1 k = f k) (e2 : ∀ k, k < 6 → g1 k = g k) : FlC f1 ∧ RFl f1 g1 := ⟨h.1.ext e1, h.2.ext e1 e2⟩
