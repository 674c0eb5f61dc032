/-! one block of a text, read by both -/
section
variable {A B : Nat → Int} {L : Nat}
/-- where a block stands in the text, and that the reference puts it when told to -/
def BkOK (B : Nat → Int) (L s e : Nat) (told : Int) (v w : Nat → Int) : Prop := s + 2 ≤ e ∧ e ≤ L ∧ B (e - 1) ≠ 59 ∧ (told = 0 ∨ told = -2) ∧ (told = 0 → FlC v ∧ RFl v w)
  ∧ ∀ (c n : Nat) (Q : Nat → Int), c < 4 → n < 16 → mn Q c = n → ∃ Qz : Nat → Int, fX5_reads (ii c) 1 (ii L) (ii s) (il Q) (il B) = some (ii told, ii e, il Qz) ∧ MPut Q Qz c n w
/-- what both readers make of the text at p -/
def BothR (A B R : Nat → Int) (L k p : Nat) (fit : Int) (num : Int32) : Prop :=
  (∃ (q : Nat) (num2 : Int32), p ≤ q ∧ q ≤ L ∧ fX3_readBlock (ii L) (ii k) (ii fit) (ii p) num (il A) (il R) = some (ii 0, ii k, ii fit, ii q, num2, il R) ∧ ∀ (c : Nat) (Q : Nat → Int), fX5_reads (ii c) 0 (ii L) (ii p) (il Q) (il B) = some (ii (-100), ii q, il Q))
  ∨ ∃ (q : Nat) (num2 : Int32) (told : Int) (v w R2 : Nat → Int), fX3_readBlock (ii L) (ii k) (ii fit) (ii p) num (il A) (il R) = some (ii 1, ii ((k + 1 : Nat) : Int), ii (if told = 0 then fit else 0), ii q, num2, il R2) ∧ Six R R2 (6 * k) v ∧ BkOK B L p q told v w ∧ ∀ (c : Nat) (Q : Nat → Int), fX5_reads (ii c) 0 (ii L) (ii p) (il Q) (il B) = some (ii told, ii q, il Q)
theorem e_rowAt (k : Nat) : ii (k : Nat) * 6 = ii ((6 * k : Nat) : Int) := by
  rw [q_6, ii_mul, show ((k : Int) * 6) = ((6 * k : Nat) : Int) by omega]
theorem linV_mV {kd u : Int} (hk : kd = 1 ∨ kd = 2) (h1 : 1 ≤ u) (h2 : u ≤ 3000) : FlC (linV kd u (-5)) ∧ RFl (linV kd u (-5)) (mV kd 0 0 0 0 u) := linV_ok hk h1 h2
/-- a picture or a space behind its letter -/
theorem j_less (h : TxT A B L) {p k : Nat} {fit kd : Int} (hp : p + 1 ≤ L) (h3 : 3 * k ≤ p) (hk : kd = 1 ∨ kd = 2) (num : Int32) (R : Nat → Int)
    (hcl : ∀ (ok bl q nu : Int32) (R2 : Nat → Int32), (ok = ii 0 ∨ ok = ii 1) → fX3_readLineless (ii kd) (ii L) (ii k) (ii ((p + 1 : Nat) : Int)) num (il A) (il R) = some (ok, bl, q, nu, R2) → fX3_readBlock (ii L) (ii k) (ii fit) (ii p) num (il A) (il R) = some (ok, bl, ii fit, q, nu, R2))
    (hml : ∀ (c : Nat) (i2 : Int32) (Q : Nat → Int), fX5_reads (ii c) i2 (ii L) (ii p) (il Q) (il B) = fX5_reads_20 (ii c) i2 (ii L) (il B) (ii (2 - kd)) (ii ((p + 1 : Nat) : Int)) (il Q)) : BothR A B R L k p fit num := by
  have hL := h.1
  rcases j_number h (most := 3000) (by omega) (by omega) hp num with ⟨e1, e2⟩ | ⟨u, q, e1, e2, u1, u2, q1, q2, b1, b2⟩
  · left
    refine ⟨p + 1, ii 0, by omega, hp, hcl _ _ _ _ _ (Or.inl rfl) ?_, fun c Q => ?_⟩
    · unfold fX3_readLineless
      rw [q_3000, e1, bd_eq]
      dsimp only
      rw [if_pos ii00]
      rfl
    · rw [hml]
      unfold fX5_reads_20 fX5_reads_61 fX5_reads_62
      rw [q_3000, e2, bd_eq]
      dsimp only
      rw [if_pos (by decide), if_neg (by decide)]
      rfl
  · right
    obtain ⟨R2, w1, w2⟩ := e_writeL (N := 120) (P := R) (z := 6 * k) (kd := kd) (h := u) (by omega) (by omega)
    have hpos : ¬ ii u ≤ 0 := by rw [q_0, ii_le (by omega) (by omega) (by omega) (by omega)]; omega
    have hge : 0 ≤ ii u := by rw [q_0, ii_le (by omega) (by omega) (by omega) (by omega)]; omega
    refine ⟨q, ii u, 0, linV kd u (-5), mV kd 0 0 0 0 u, R2, ?_, w2, ⟨by omega, q2, by omega, Or.inl rfl, fun _ => linV_mV hk u1 u2, fun c n Q hc hn hq => ?_⟩, fun c Q => ?_⟩
    · rw [if_pos rfl]
      refine hcl _ _ _ _ _ (Or.inr rfl) ?_
      unfold fX3_readLineless
      rw [q_3000, e1, bd_eq]
      dsimp only
      rw [if_neg ii10, e_rowAt, w1, bd_eq, nm_eq, ii_suc]
      rfl
    · obtain ⟨Qz, f1, f2⟩ := m_puts (v0 := kd) (v1 := 0) (v2 := 0) (v3 := 0) (v4 := 0) (v5 := u) hc hn hq
      refine ⟨Qz, ?_, f2⟩
      rw [hml]
      unfold fX5_reads_20 fX5_reads_49 fX5_reads_62
      rw [q_3000, e2, bd_eq]
      dsimp only
      rw [if_neg hpos, if_neg (by decide)]
      have f1' : fX5_puts (ii c) (ii kd) 0 0 0 0 (ii u) (il Q) = some (ii n, il Qz) := f1
      rcases hk with rfl | rfl
      · rw [if_neg (by decide), show (1 : Int32) = ii 1 from q_1, f1', bd_eq]
        dsimp only
        rw [if_pos hge]
        rfl
      · rw [if_pos (by decide), show (2 : Int32) = ii 2 from q_2, f1', bd_eq]
        dsimp only
        rw [if_pos hge]
        rfl
    · rw [hml]
      unfold fX5_reads_20 fX5_reads_61 fX5_reads_62
      rw [q_3000, e2, bd_eq]
      dsimp only
      rw [if_neg hpos, if_pos rfl, if_pos hge]
      rfl
/-- the reference's last word on a paragraph -/
def tdV (s l : Int) : Int := if 40 ≤ s ∧ s ≤ l then 0 else -2
theorem m_196 {s l : Int} {x : Int32} {at1 : Int32} {now : Nat → Int32} (hs : 1 ≤ s) (hs2 : s ≤ 400) (hl : 1 ≤ l) (hl2 : l ≤ 600) : fX5_reads_196 (ii s) (ii l) x at1 now = some (ii (tdV s l), at1, now) := by
  unfold fX5_reads_196 tdV
  rcases Int.lt_or_le s 40 with g | g
  · rw [if_pos (by rw [q_40, ii_lt (by omega) (by omega) (by omega) (by omega)]; exact g), if_neg (by omega)]
    rfl
  · rw [if_neg (by rw [q_40, ii_lt (by omega) (by omega) (by omega) (by omega)]; omega)]
    rcases Int.lt_or_le l s with g2 | g2
    · rw [if_neg (by rw [ii_le (by omega) (by omega) (by omega) (by omega)]; omega), if_neg (by omega)]
      rfl
    · rw [if_pos (by rw [ii_le (by omega) (by omega) (by omega) (by omega)]; exact g2), if_pos ⟨g, g2⟩]
      rfl
theorem e_fitting {s l : Int} (hs : 1 ≤ s) (hs2 : s ≤ 400) (hl : 1 ≤ l) (hl2 : l ≤ 600) : fX4_isFitting (ii s) (ii l) = some (ii (if tdV s l = 0 then 1 else 0)) := by
  unfold fX4_isFitting tdV
  rcases Int.lt_or_le s 40 with g | g
  · rw [if_pos (by rw [q_40, ii_lt (by omega) (by omega) (by omega) (by omega)]; exact g), if_neg (show ¬ (40 ≤ s ∧ s ≤ l) by omega), if_neg (by decide)]
    rfl
  · rw [if_neg (by rw [q_40, ii_lt (by omega) (by omega) (by omega) (by omega)]; omega)]
    rcases Int.lt_or_le l s with g2 | g2
    · rw [if_pos (by rw [ii_lt (by omega) (by omega) (by omega) (by omega)]; exact g2), if_neg (show ¬ (40 ≤ s ∧ s ≤ l) by omega), if_neg (by decide)]
      rfl
    · rw [if_neg (by rw [ii_lt (by omega) (by omega) (by omega) (by omega)]; omega), if_pos (show 40 ≤ s ∧ s ≤ l from ⟨g, g2⟩), if_pos rfl]
      rfl
/-- a paragraph behind its letter -/
theorem j_par (h : TxT A B L) {p k : Nat} {fit : Int} (hfit : fit = 0 ∨ fit = 1) (hp : p + 1 ≤ L) (h3 : 3 * k ≤ p) (num : Int32) (R : Nat → Int)
    (hcl : ∀ (ok bl fi q nu : Int32) (R2 : Nat → Int32), (ok = ii 0 ∨ ok = ii 1) → fX3_readParagraph (ii L) (ii k) (ii fit) (ii ((p + 1 : Nat) : Int)) num (il A) (il R) = some (ok, bl, fi, q, nu, R2) → fX3_readBlock (ii L) (ii k) (ii fit) (ii p) num (il A) (il R) = some (ok, bl, fi, q, nu, R2))
    (hml : ∀ (c : Nat) (i2 : Int32) (Q : Nat → Int), fX5_reads (ii c) i2 (ii L) (ii p) (il Q) (il B) = (bd (fX5_number 40 (ii L) (ii ((p + 1 : Nat) : Int)) (il B)) fun qo12 => fX5_reads_95 (ii c) i2 (ii L) (il B) qo12.1 qo12.2 (il Q))) : BothR A B R L k p fit num := by
  have hL := h.1
  -- the ends without a block
  have fail : ∀ (q : Nat) (num2 : Int32), p ≤ q → q ≤ L → fX3_readParagraph (ii L) (ii k) (ii fit) (ii ((p + 1 : Nat) : Int)) num (il A) (il R) = some (ii 0, ii k, ii fit, ii q, num2, il R) → (∀ (c : Nat) (Q : Nat → Int), (bd (fX5_number 40 (ii L) (ii ((p + 1 : Nat) : Int)) (il B)) fun qo12 => fX5_reads_95 (ii c) 0 (ii L) (il B) qo12.1 qo12.2 (il Q)) = some (ii (-100), ii q, il Q)) → BothR A B R L k p fit num := by
    intro q num2 g1 g2 g3 g4
    exact Or.inl ⟨q, num2, g1, g2, hcl _ _ _ _ _ _ (Or.inl rfl) g3, fun c Q => by rw [hml]; exact g4 c Q⟩
  rcases j_number h (most := 40) (by omega) (by omega) hp num with ⟨e1, e2⟩ | ⟨u, q, e1, e2, u1, u2, q1, q2, b1, b2⟩
  · refine fail (p + 1) (ii 0) (by omega) hp ?_ (fun c Q => ?_)
    · unfold fX3_readParagraph
      rw [q_40, e1, bd_eq]
      dsimp only
      rw [if_pos ii00]
      rfl
    · unfold fX5_reads_95
      rw [q_40, e2, bd_eq]
      dsimp only
      rw [if_pos (by decide)]
      rfl
  have hu : ¬ ii u < 0 := by rw [q_0, ii_lt (by omega) (by omega) (by omega) (by omega)]; omega
  rcases Classical.em (q < L ∧ B q = 42) with hst | hst
  · have s1 := e_psT h hst.1 hst.2
    have s2 := m_stT h hst.1 hst.2
    rcases j_number h (most := 400) (by omega) (by omega) (show q + 1 ≤ L by omega) (ii u) with ⟨x1, x2⟩ | ⟨z, r, x1, x2, z1, z2, r1, r2, r3, r4⟩
    · refine fail (q + 1) (ii 0) (by omega) (by omega) ?_ (fun c Q => ?_)
      · unfold fX3_readParagraph
        rw [q_40, e1, bd_eq]
        dsimp only
        rw [if_neg ii10, q_42, s1, bd_eq]
        dsimp only
        rw [if_neg ii10, q_400, x1, bd_eq]
        dsimp only
        rw [if_pos ii00]
        rfl
      · unfold fX5_reads_95
        rw [q_40, e2, bd_eq]
        dsimp only
        rw [if_neg hu, q_42, s2, bd_eq]
        dsimp only
        rw [if_neg ii10, q_400, x2, bd_eq]
        dsimp only
        rw [if_pos (by decide)]
        rfl
    have hz : ¬ ii z < 0 := by rw [q_0, ii_lt (by omega) (by omega) (by omega) (by omega)]; omega
    rcases Classical.em (r < L ∧ B r = 47) with hsl | hsl
    · have s3 := e_psT h hsl.1 hsl.2
      have s4 := m_stT h hsl.1 hsl.2
      rcases j_number h (most := 600) (by omega) (by omega) (show r + 1 ≤ L by omega) (ii z) with ⟨x3, x4⟩ | ⟨l, t, x3, x4, l1, l2, t1, t2, t3, t4⟩
      · refine fail (r + 1) (ii 0) (by omega) (by omega) ?_ (fun c Q => ?_)
        · unfold fX3_readParagraph
          rw [q_40, e1, bd_eq]
          dsimp only
          rw [if_neg ii10, q_42, s1, bd_eq]
          dsimp only
          rw [if_neg ii10, q_400, x1, bd_eq]
          dsimp only
          rw [if_neg ii10, q_47, s3, bd_eq]
          dsimp only
          rw [if_neg ii10, q_600, x3, bd_eq]
          dsimp only
          rw [if_pos ii00]
          rfl
        · unfold fX5_reads_95
          rw [q_40, e2, bd_eq]
          dsimp only
          rw [if_neg hu, q_42, s2, bd_eq]
          dsimp only
          rw [if_neg ii10, q_400, x2, bd_eq]
          dsimp only
          rw [if_neg hz, q_47, s4, bd_eq]
          dsimp only
          rw [if_neg ii10, q_600, x4, bd_eq]
          dsimp only
          rw [if_neg (by decide)]
          rfl
      · have hl0 : 0 ≤ ii l := by rw [q_0, ii_le (by omega) (by omega) (by omega) (by omega)]; omega
        -- the sign behind it, or none
        obtain ⟨sn, f, hsn, y1, y2, f1, f2, f3⟩ : ∃ (sn : Int) (f : Nat), (sn = 0 ∨ sn = 1) ∧ fX3_passes (ii 33) (ii L) (ii t) (il A) = some (ii sn, ii f) ∧ fX5_stands (ii 33) (ii L) (ii t) (il B) = some (ii sn, ii f) ∧ t ≤ f ∧ f ≤ L ∧ B (f - 1) ≠ 59 := by
          rcases Classical.em (t < L ∧ B t = 33) with w | w
          · refine ⟨1, t + 1, Or.inr rfl, e_psT h w.1 w.2, m_stT h w.1 w.2, by omega, by omega, ?_⟩
            rw [Nat.add_sub_cancel, w.2]
            decide
          · exact ⟨0, t, Or.inl rfl, e_psF h (by omega) (by omega) (by omega) w, m_stF h (by omega) (by omega) (by omega) w, Nat.le_refl _, t2, by omega⟩
        obtain ⟨R2, w1, w2⟩ := e_writeP (N := 120) (P := R) (z := 6 * k) (a1 := u) (a2 := z) (a3 := l) (s := sn) (by omega) (by omega) hsn
        have h95 : ∀ (c : Nat) (i2 : Int32) (Q : Nat → Int), (bd (fX5_number 40 (ii L) (ii ((p + 1 : Nat) : Int)) (il B)) fun qo12 => fX5_reads_95 (ii c) i2 (ii L) (il B) qo12.1 qo12.2 (il Q)) = fX5_reads_171 (ii c) i2 (ii u) (ii z) (ii l) (ii sn) (ii f) (il Q) := by
          intro c i2 Q
          unfold fX5_reads_95
          rw [q_40, e2, bd_eq]
          dsimp only
          rw [if_neg hu, q_42, s2, bd_eq]
          dsimp only
          rw [if_neg ii10, q_400, x2, bd_eq]
          dsimp only
          rw [if_neg hz, q_47, s4, bd_eq]
          dsimp only
          rw [if_neg ii10, q_600, x4, bd_eq]
          dsimp only
          rw [if_pos hl0, q_33, y2, bd_eq]
          dsimp only
          rcases hsn with g | g
          · rw [g, if_pos ii00]
            rfl
          · rw [g, if_neg ii10]
            rfl
        right
        refine ⟨f, ii l, tdV z l, parV u z l sn (-5), mV 0 u z l sn 0, R2, ?_, w2, ⟨by omega, f2, f3, ?_, fun g => ?_, fun c n Q hc hn hq => ?_⟩, fun c Q => ?_⟩
        · refine hcl _ _ _ _ _ _ (Or.inr rfl) ?_
          unfold fX3_readParagraph
          rw [q_40, e1, bd_eq]
          dsimp only
          rw [if_neg ii10, q_42, s1, bd_eq]
          dsimp only
          rw [if_neg ii10, q_400, x1, bd_eq]
          dsimp only
          rw [if_neg ii10, q_47, s3, bd_eq]
          dsimp only
          rw [if_neg ii10, q_600, x3, bd_eq]
          dsimp only
          rw [if_neg ii10, q_33, y1, bd_eq]
          dsimp only
          rw [e_rowAt, w1, bd_eq, nm_eq, ii_suc]
          unfold fX3_readParagraph_125 fX3_readParagraph_126
          rw [q_0, q_1, bchk_ii (Or.inl rfl), bchk_ii (Or.inr rfl)]
          rcases hfit with g | g
          · rw [g, if_pos rfl]
            rcases Classical.em (tdV z l = 0) with v | v
            · rw [if_pos v]
            · rw [if_neg v]
          · rw [g, if_neg (by decide), e_fitting z1 z2 l1 l2, bd_eq]
            rcases Classical.em (tdV z l = 0) with v | v
            · rw [if_pos v, if_neg (by decide)]
            · rw [if_neg v, if_pos rfl]
        · unfold tdV
          split
          · exact Or.inl rfl
          · exact Or.inr rfl
        · unfold tdV at g
          split at g
          · rename_i w
            exact parV_ok u1 u2 w.1 z2 w.2 l2 hsn
          · exact absurd g (by decide)
        · obtain ⟨Qz, m1, m2⟩ := m_puts (v0 := 0) (v1 := u) (v2 := z) (v3 := l) (v4 := sn) (v5 := 0) hc hn hq
          refine ⟨Qz, ?_, m2⟩
          have m1' : fX5_puts (ii c) 0 (ii u) (ii z) (ii l) (ii sn) 0 (il Q) = some (ii n, il Qz) := m1
          rw [hml, h95]
          unfold fX5_reads_171
          rw [if_neg (by decide), m1', bd_eq]
          dsimp only
          exact m_196 z1 z2 l1 l2
        · rw [hml, h95]
          unfold fX5_reads_171
          rw [if_pos rfl]
          exact m_196 z1 z2 l1 l2
    · have s3 := e_psF h (show r ≤ 60 by omega) (by omega) (by omega) hsl
      have s4 := m_stF h (show r ≤ 60 by omega) (by omega) (by omega) hsl
      refine fail r (ii z) (by omega) (by omega) ?_ (fun c Q => ?_)
      · unfold fX3_readParagraph
        rw [q_40, e1, bd_eq]
        dsimp only
        rw [if_neg ii10, q_42, s1, bd_eq]
        dsimp only
        rw [if_neg ii10, q_400, x1, bd_eq]
        dsimp only
        rw [if_neg ii10, q_47, s3, bd_eq]
        dsimp only
        rw [if_pos ii00]
        rfl
      · unfold fX5_reads_95
        rw [q_40, e2, bd_eq]
        dsimp only
        rw [if_neg hu, q_42, s2, bd_eq]
        dsimp only
        rw [if_neg ii10, q_400, x2, bd_eq]
        dsimp only
        rw [if_neg hz, q_47, s4, bd_eq]
        dsimp only
        rw [if_pos ii00]
        rfl
  · have s1 := e_psF h (show q ≤ 60 by omega) (by omega) (by omega) hst
    have s2 := m_stF h (show q ≤ 60 by omega) (by omega) (by omega) hst
    refine fail q (ii u) (by omega) (by omega) ?_ (fun c Q => ?_)
    · unfold fX3_readParagraph
      rw [q_40, e1, bd_eq]
      dsimp only
      rw [if_neg ii10, q_42, s1, bd_eq]
      dsimp only
      rw [if_pos ii00]
      rfl
    · unfold fX5_reads_95
      rw [q_40, e2, bd_eq]
      dsimp only
      rw [if_neg hu, q_42, s2, bd_eq]
      dsimp only
      rw [if_pos ii00]
      rfl
theorem j_block (h : TxT A B L) {p k : Nat} {fit : Int} (hfit : fit = 0 ∨ fit = 1) (hp : p ≤ L) (h3 : 3 * k ≤ p) (num : Int32) (R : Nat → Int) : BothR A B R L k p fit num := by
  have hL := h.1
  have b60 : p ≤ 60 := by omega
  rcases Classical.em (p < L ∧ B p = 112) with g | g
  · have a1 := e_psT h g.1 g.2
    have m1 := m_stF h b60 (ch := 105) (by omega) (by omega) (by omega)
    have m2 := m_stF h b60 (ch := 115) (by omega) (by omega) (by omega)
    have m3 := m_stT h g.1 g.2
    refine j_par h hfit (by omega) h3 num R (fun ok bl fi q nu R2 hok e => ?_) (fun c i2 Q => ?_)
    · unfold fX3_readBlock
      rw [q_112, a1, bd_eq]
      dsimp only
      rw [if_neg ii10, e, bd_eq]
      dsimp only
      rcases hok with w | w
      · rw [w, bchk_ii (Or.inl rfl)]
      · rw [w, bchk_ii (Or.inr rfl)]
    · unfold fX5_reads
      rw [q_105, m1, bd_eq]
      dsimp only
      rw [if_pos ii00, q_115, m2, bd_eq]
      dsimp only
      rw [if_pos ii00, q_112, m3, bd_eq]
      dsimp only
      rw [if_neg ii10]
  have a1 := e_psF h b60 (ch := 112) (by omega) (by omega) g
  rcases Classical.em (p < L ∧ B p = 105) with g2 | g2
  · have a2 := e_psT h g2.1 g2.2
    have m1 := m_stT h g2.1 g2.2
    refine j_less (kd := 1) h (by omega) h3 (Or.inl rfl) num R (fun ok bl q nu R2 hok e => ?_) (fun c i2 Q => ?_)
    · unfold fX3_readBlock
      rw [q_112, a1, bd_eq]
      dsimp only
      rw [if_pos ii00, q_105, a2, bd_eq]
      dsimp only
      rw [if_neg ii10, show (1 : Int32) = ii 1 from q_1, e, bd_eq]
      dsimp only
      rcases hok with w | w
      · rw [w, bchk_ii (Or.inl rfl)]
      · rw [w, bchk_ii (Or.inr rfl)]
    · unfold fX5_reads
      rw [q_105, m1, bd_eq]
      dsimp only
      rw [if_neg ii10]
      rfl
  have a2 := e_psF h b60 (ch := 105) (by omega) (by omega) g2
  have m1 := m_stF h b60 (ch := 105) (by omega) (by omega) g2
  rcases Classical.em (p < L ∧ B p = 115) with g3 | g3
  · have a3 := e_psT h g3.1 g3.2
    have m2 := m_stT h g3.1 g3.2
    refine j_less (kd := 2) h (by omega) h3 (Or.inr rfl) num R (fun ok bl q nu R2 hok e => ?_) (fun c i2 Q => ?_)
    · unfold fX3_readBlock
      rw [q_112, a1, bd_eq]
      dsimp only
      rw [if_pos ii00, q_105, a2, bd_eq]
      dsimp only
      rw [if_pos ii00, q_115, a3, bd_eq]
      dsimp only
      rw [if_neg ii10, show (2 : Int32) = ii 2 from q_2, e, bd_eq]
      dsimp only
      rcases hok with w | w
      · rw [w, if_pos ii00]
        rfl
      · rw [w, if_neg ii10]
        rfl
    · unfold fX5_reads
      rw [q_105, m1, bd_eq]
      dsimp only
      rw [if_pos ii00, q_115, m2, bd_eq]
      dsimp only
      rw [if_neg ii10]
      rfl
  have a3 := e_psF h b60 (ch := 115) (by omega) (by omega) g3
  have m2 := m_stF h b60 (ch := 115) (by omega) (by omega) g3
  have m3 := m_stF h b60 (ch := 112) (by omega) (by omega) g
  refine Or.inl ⟨p, num, Nat.le_refl _, hp, ?_, fun c Q => ?_⟩
  · unfold fX3_readBlock
    rw [q_112, a1, bd_eq]
    dsimp only
    rw [if_pos ii00, q_105, a2, bd_eq]
    dsimp only
    rw [if_pos ii00, q_115, a3, bd_eq]
    dsimp only
    rw [if_pos ii00]
    rfl
  · unfold fX5_reads fX5_reads_95
    rw [q_105, m1, bd_eq]
    dsimp only
    rw [if_pos ii00, q_115, m2, bd_eq]
    dsimp only
    rw [if_pos ii00, q_112, m3, bd_eq]
    dsimp only
    rw [if_pos ii00, if_pos (by decide)]
    rfl
end
