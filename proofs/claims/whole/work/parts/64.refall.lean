/-! the reference sets all columns -/
def mP (Q : Nat → Int) (S : Int) (c : Nat) : Nat → CS := csS (Q 0) (Q 1) S (Q 3) (mf Q c)
def mD (Q : Nat → Int) (S : Int) (c : Nat) : Nat → Nat := dnS (Q 0) (Q 1) S (Q 3) (mf Q c)
def mN (Q : Nat → Int) (c : Nat) : Nat := (mn Q c).toNat
/-- the reference's page is as the document has it -/
def RgOK (Q : Nat → Int) : Prop := 200 ≤ Q 0 ∧ Q 0 ≤ 9999 ∧ 0 ≤ Q 1 ∧ Q 1 ≤ 500 ∧ 20 ≤ Q 2 ∧ Q 2 ≤ 500 ∧ (Q 3 = 0 ∨ Q 3 = 1) ∧ 1 ≤ Q 4 ∧ Q 4 ≤ 3 ∧ (∀ c, c < 4 → 0 ≤ mn Q c ∧ mn Q c ≤ 16 ∧ ∀ b : Nat, (b : Int) < mn Q c → FlOK (mf Q c b))
def MLayOK (Q : Nat → Int) (S : Int) (my en ov ah be dn li ow : Nat → Int) : Prop := ∀ c, c < 4 → MColOK (mP Q S c) (mD Q S c) c (mN Q c) my ov ah be dn li ow ∧ en c = (mP Q S c (mN Q c)).1
theorem mP_bound {Q : Nat → Int} {S : Int} {c : Nat} (hQ : RgOK Q) (hS : 20 ≤ S) (hS2 : S ≤ 500) (hc : c < 4) : ∀ b, b ≤ mN Q c → 0 ≤ (mP Q S c b).1 ∧ (mP Q S c b).1 ≤ 11000 + 3000 * b ∧ (mP Q S c b).2.1.length ≤ 40 * b := by
  obtain ⟨h0, h1, h2, h3, h4, h5, h6, h7, h8, h9⟩ := hQ
  have h10 := h9 c hc
  exact csS_bound (n := mN Q c) (by omega) hS2 h2 h3 h1 (fun b hb => h10.2.2 b (by unfold mN at hb; omega))
theorem MColOK.fr {cs : Nat → CS} {dn : Nat → Nat} {c c1 n : Nat} {my ov ah be dA li ow my' ov' ah' be' dA' li' ow' : Nat → Int} (h : MColOK cs dn c n my ov ah be dA li ow) (hf : MColFr c1 my ov ah be dA li ow my' ov' ah' be' dA' li' ow') (hc : c ≠ c1) (hn : n ≤ 16) (hl : (cs n).2.1.length ≤ 640) : MColOK cs dn c n my' ov' ah' be' dA' li' ow' := by
  obtain ⟨h1, h2, h3, h4⟩ := h
  refine ⟨by rw [(hf.1 c hc).1]; exact h1, by rw [(hf.1 c hc).2]; exact h2, fun i p hp => ?_, fun j hj => ?_⟩
  · have hi := (List.getElem?_eq_some_iff.mp hp).1
    have h5 := hf.2.2 (640 * c + i) (by omega)
    rw [h5.1, h5.2]
    exact h3 i p hp
  · have h5 := hf.2.1 (16 * c + j) (by omega)
    rw [h5.1, h5.2.1, h5.2.2]
    exact h4 j hj
theorem m_setsColumn {Q : Nat → Int} {S : Int} {c : Nat} {li ow my en ov ah be dn : Nat → Int} (hQ : RgOK Q) (hS : 20 ≤ S) (hS2 : S ≤ 500) (hc : c < 4) :
    ∃ (my' ov' ah' be' dn' li' ow' : Nat → Int), fX5_setsColumn (ii c) (ii S) (il Q) (il li) (il ow) (il my) (il en) (il ov) (il ah) (il be) (il dn)
        = some (il li', il ow', il my', il (zu en c (mP Q S c (mN Q c)).1), il ov', il ah', il be', il dn')
      ∧ MColOK (mP Q S c) (mD Q S c) c (mN Q c) my' ov' ah' be' dn' li' ow' ∧ MColFr c my ov ah be dn li ow my' ov' ah' be' dn' li' ow' := by
  obtain ⟨h0, h1, h2, h3, h4, h5, h6, h7, h8, h9⟩ := id hQ
  obtain ⟨h10, h11, h12⟩ := h9 c hc
  obtain ⟨my', ov', ah', be', dn', li', ow', e1, e2, e3⟩ := m_20 (Q := Q) (c := c) (n := mN Q c) (S := S) (en := en) hc (by unfold mN; omega) (by unfold mN; omega) (by omega) hS2 h2 h3 h1 (by omega) h6 (fun b hb => h12 b (by unfold mN at hb; omega)) (mN Q c) 0 Fu (zu my c 0) (zu ov c 16) ah be dn li ow (by omega) (by rw [Fu_s]; unfold mN; omega) ⟨by rw [zu_eq]; rfl, by rw [zu_eq]; rfl, fun i p hp => (by cases hp), fun j hj => absurd hj (Nat.not_lt_zero j)⟩
  refine ⟨my', ov', ah', be', dn', li', ow', ?_, e2, MColFr.trans ⟨fun j hj => ⟨zu_ne hj, zu_ne hj⟩, fun j _ => ⟨rfl, rfl, rfl⟩, fun j _ => ⟨rfl, rfl⟩⟩ e3⟩
  unfold fX5_setsColumn
  simp (disch := omega) only [q_0, q_16, aset_ii, Int.toNat_natCast]
  exact e1
theorem m_2 {Q : Nat → Int} {S : Int} (hQ : RgOK Q) (hS : 20 ≤ S) (hS2 : S ≤ 500) :
    ∀ (r c fu : Nat) (li ow my en ov ah be dn : Nat → Int), c + r = 4 → r < fu → (∀ d, d < c → MColOK (mP Q S d) (mD Q S d) d (mN Q d) my ov ah be dn li ow ∧ en d = (mP Q S d (mN Q d)).1) →
    ∃ (li' ow' my' en' ov' ah' be' dn' : Nat → Int), fX5_setsAll_2 (ii S) (il Q) fu (ii c) (il li) (il ow) (il my) (il en) (il ov) (il ah) (il be) (il dn) = some (il li', il ow', il my', il en', il ov', il ah', il be', il dn') ∧ MLayOK Q S my' en' ov' ah' be' dn' li' ow' := by
  intro r
  induction r with
  | zero =>
    intro c fu li ow my en ov ah be dn hr hf h
    obtain ⟨fu', rfl⟩ : ∃ q, fu = q + 1 := ⟨fu - 1, by omega⟩
    have ec : c = 4 := by omega
    subst ec
    refine ⟨li, ow, my, en, ov, ah, be, dn, ?_, h⟩
    rw [fX5_setsAll_2]
    dsimp only
    rw [if_pos (show (4 : Int32) ≤ ii ((4 : Nat) : Int) by decide)]
  | succ r ih =>
    intro c fu li ow my en ov ah be dn hr hf h
    obtain ⟨fu', rfl⟩ : ∃ q, fu = q + 1 := ⟨fu - 1, by omega⟩
    obtain ⟨my', ov', ah', be', dn', li', ow', e1, e2, e3⟩ := m_setsColumn (li := li) (ow := ow) (my := my) (en := en) (ov := ov) (ah := ah) (be := be) (dn := dn) hQ hS hS2 (show c < 4 by omega)
    rw [fX5_setsAll_2]
    simp (disch := omega) only [q_4, ii_le, if_neg]
    rw [e1]
    simp only [bd_eq, nm_eq, q_1, ii_add]
    rw [show ((c : Int) + 1) = ((c + 1 : Nat) : Int) by omega]
    refine ih (c + 1) fu' li' ow' my' (zu en c (mP Q S c (mN Q c)).1) ov' ah' be' dn' (by omega) (by omega) (fun d hd => ?_)
    rcases Nat.lt_or_ge d c with h1 | h1
    · have h2 := h d h1
      have hb := mP_bound hQ hS hS2 (show d < 4 by omega) (mN Q d) (Nat.le_refl _)
      have hn : mN Q d ≤ 16 := by
        have := (hQ.2.2.2.2.2.2.2.2.2 d (by omega)).2.1
        unfold mN
        omega
      exact ⟨h2.1.fr e3 (by omega) hn (by omega), by rw [zu_ne (by omega)]; exact h2.2⟩
    · have : d = c := by omega
      subst this
      exact ⟨e2, zu_eq _ _ _⟩
theorem m_setsAll {Q : Nat → Int} {S : Int} {li ow my en ov ah be dn : Nat → Int} (hQ : RgOK Q) (hS : 20 ≤ S) (hS2 : S ≤ 500) :
    ∃ (li' ow' my' en' ov' ah' be' dn' : Nat → Int), fX5_setsAll (ii S) (il Q) (il li) (il ow) (il my) (il en) (il ov) (il ah) (il be) (il dn) = some (il li', il ow', il my', il en', il ov', il ah', il be', il dn') ∧ MLayOK Q S my' en' ov' ah' be' dn' li' ow' := by
  unfold fX5_setsAll
  exact m_2 hQ hS hS2 4 0 Fu li ow my en ov ah be dn (by omega) (by rw [Fu_s]; omega) (fun d hd => absurd hd (Nat.not_lt_zero d))
theorem m_sets {Q : Nat → Int} {li ow my en ov ah be dn : Nat → Int} (hQ : RgOK Q) :
    ∃ (li' ow' my' en' ov' ah' be' dn' : Nat → Int), fX5_sets (il Q) (il li) (il ow) (il my) (il en) (il ov) (il ah) (il be) (il dn) = some (il li', il ow', il my', il en', il ov', il ah', il be', il dn') ∧ MLayOK Q (Q 2) my' en' ov' ah' be' dn' li' ow' := by
  obtain ⟨li', ow', my', en', ov', ah', be', dn', e1, e2⟩ := m_setsAll (li := li) (ow := ow) (my := my) (en := en) (ov := ov) (ah := ah) (be := be) (dn := dn) hQ hQ.2.2.2.2.1 hQ.2.2.2.2.2.1
  refine ⟨li', ow', my', en', ov', ah', be', dn', ?_, e2⟩
  have f2 : ∀ {α : Type} (g : Int32 → Option α), aget 393 (il Q) 2 g = g (ii (Q 2)) := fun g => aget_ii (z := 2) (by omega) (by omega) (by omega)
  unfold fX5_sets
  rw [f2, e1]
  rfl
/-! the two pages that belong together, and that both are set alike -/
def RFl (f g : Nat → Int) : Prop := f 0 = g 0 ∧ (f 0 = 0 → f 1 = g 1 ∧ f 2 = g 2 ∧ f 3 = g 3 ∧ f 4 = g 4) ∧ (f 0 ≠ 0 → f 5 = g 5)
def RS (P Q : Nat → Int) : Prop := PgOK P ∧ P 0 = Q 0 ∧ P 1 = Q 1 ∧ P 2 = Q 2 ∧ P 3 = Q 3 ∧ P 4 = Q 4 ∧ ∀ c, c < 4 → pn P c = mn Q c ∧ ∀ b : Nat, (b : Int) < pn P c → RFl (pf P c b) (mf Q c b)
theorem RFl.ok {f g : Nat → Int} (h : RFl f g) (hf : FlOK f) : FlOK g := by
  obtain ⟨h0, h1, h2⟩ := h
  rcases hf with ⟨a0, a1, a2, a3, a4, a5, a6, a7⟩ | ⟨a0, a1, a2⟩
  · obtain ⟨b1, b2, b3, b4⟩ := h1 a0
    left
    rw [← h0, ← b1, ← b2, ← b3, ← b4]
    exact ⟨a0, a1, a2, a3, a4, a5, a6, a7⟩
  · have b5 := h2 (by omega)
    right
    rw [← h0, ← b5]
    exact ⟨a0, a1, a2⟩
theorem RS.rg {P Q : Nat → Int} (h : RS P Q) : RgOK Q := by
  obtain ⟨⟨h0, h1, h2, h3, h4, h5, h6, h7, h8, h9⟩, e0, e1, e2, e3, e4, hc⟩ := h
  rw [e0] at h0 h1
  rw [e1] at h2 h3
  rw [e2] at h4 h5
  rw [e3] at h6
  rw [e4] at h7 h8
  refine ⟨h0, h1, h2, h3, h4, h5, h6, h7, h8, fun c hcc => ?_⟩
  obtain ⟨a1, a2, a3⟩ := h9 c hcc
  obtain ⟨b1, b2⟩ := hc c hcc
  rw [← b1]
  exact ⟨a1, a2, fun b hb => (b2 b hb).ok (a3 b hb).1⟩
theorem blkS_congr {H F S R : Int} {f g : Nat → Int} {b : Nat} {q : CS} (h : RFl f g) : blkS H F S R f b q = blkS H F S R g b q := by
  obtain ⟨h0, h1, h2⟩ := h
  unfold blkS
  rw [← h0]
  rcases Classical.em (f 0 = 0) with a | a
  · obtain ⟨b1, b2, b3, b4⟩ := h1 a
    rw [if_pos a, if_pos a, b1, b2, b3, b4]
  · rw [if_neg a, if_neg a, h2 a]
theorem csS_congr {H F S R : Int} {f g : Nat → Nat → Int} {n : Nat} (h : ∀ b, b < n → RFl (f b) (g b)) : ∀ b, b ≤ n → csS H F S R f b = csS H F S R g b := by
  intro b
  induction b with
  | zero => intro _; rfl
  | succ b ih =>
    intro hb
    show (blkS H F S R (f b) b (csS H F S R f b)).1 = (blkS H F S R (g b) b (csS H F S R g b)).1
    rw [ih (by omega), blkS_congr (h b (by omega))]
theorem RS.n {P Q : Nat → Int} (h : RS P Q) {c : Nat} (hc : c < 4) : nP P c = mN Q c := by
  unfold nP mN
  rw [(h.2.2.2.2.2.2 c hc).1]
theorem RS.cs {P Q : Nat → Int} (h : RS P Q) {S : Int} {c : Nat} (hc : c < 4) : ∀ b, b ≤ nP P c → csP P S c b = mP Q S c b := by
  obtain ⟨h9, e0, e1, e2, e3, e4, hcc⟩ := h
  unfold csP mP
  rw [e0, e1, e3]
  exact csS_congr (fun b hb => (hcc c hc).2 b (by unfold nP at hb; omega))
theorem RS.dn {P Q : Nat → Int} (h : RS P Q) {S : Int} {c : Nat} (hc : c < 4) : ∀ b, b < nP P c → dnP P S c b = mD Q S c b := by
  intro b hb
  have h1 := h.cs (S := S) hc b (by omega)
  obtain ⟨h9, e0, e1, e2, e3, e4, hcc⟩ := h
  unfold csP mP at h1
  unfold dnP mD dnS
  rw [h1, e0, e1, e3, blkS_congr ((hcc c hc).2 b (by unfold nP at hb; omega))]
