/-! the class sets a page: every column as csS does -/
def FlC (fl : Nat → Int) : Prop := FlOK fl ∧ (fl 0 = 0 → fl 5 = -5) ∧ (fl 0 ≠ 0 → fl 1 = -5 ∧ fl 2 = -5 ∧ fl 3 = -5 ∧ fl 4 = -5)
def PgOK (P : Nat → Int) : Prop := 200 ≤ P 0 ∧ P 0 ≤ 9999 ∧ 0 ≤ P 1 ∧ P 1 ≤ 500 ∧ 20 ≤ P 2 ∧ P 2 ≤ 500 ∧ (P 3 = 0 ∨ P 3 = 1) ∧ 1 ≤ P 4 ∧ P 4 ≤ 3 ∧ (∀ c, c < 4 → 0 ≤ pn P c ∧ pn P c ≤ 16 ∧ ∀ b : Nat, (b : Int) < pn P c → FlC (pf P c b))
def csP (P : Nat → Int) (S : Int) (c : Nat) : Nat → CS := csS (P 0) (P 1) S (P 3) (pf P c)
def dnP (P : Nat → Int) (S : Int) (c : Nat) : Nat → Nat := dnS (P 0) (P 1) S (P 3) (pf P c)
def nP (P : Nat → Int) (c : Nat) : Nat := (pn P c).toNat
def LayOK (P : Nat → Int) (S : Int) (lc en ov ah be sp bl lb : Nat → Int) : Prop := ∀ c, c < 4 → ColOK (csP P S c) (dnP P S c) c (nP P c) lc ov ah be sp bl lb ∧ en c = (csP P S c (nP P c)).1
theorem csP_bound {P : Nat → Int} {S : Int} {c : Nat} (hP : PgOK P) (hS : 20 ≤ S) (hS2 : S ≤ 500) (hc : c < 4) : ∀ b, b ≤ nP P c → 0 ≤ (csP P S c b).1 ∧ (csP P S c b).1 ≤ 11000 + 3000 * b ∧ (csP P S c b).2.1.length ≤ 40 * b := by
  obtain ⟨h0, h1, h2, h3, h4, h5, h6, h7, h8, h9⟩ := hP
  have h10 := h9 c hc
  exact csS_bound (n := nP P c) (by omega) hS2 h2 h3 h1 (fun b hb => (h10.2.2 b (by unfold nP at hb; omega)).1)
theorem ColOK.fr {cs : Nat → CS} {dn : Nat → Nat} {c c1 n : Nat} {lc ov ah be sp bl lb lc' ov' ah' be' sp' bl' lb' : Nat → Int} (h : ColOK cs dn c n lc ov ah be sp bl lb) (hf : ColFr c1 lc ov ah be sp bl lb lc' ov' ah' be' sp' bl' lb') (hc : c ≠ c1) (hn : n ≤ 16) (hl : (cs n).2.1.length ≤ 640) : ColOK cs dn c n lc' ov' ah' be' sp' bl' lb' := by
  obtain ⟨h1, h2, h3, h4⟩ := h
  refine ⟨by rw [(hf.1 c hc).1]; exact h1, by rw [(hf.1 c hc).2]; exact h2, fun i p hp => ?_, fun j hj => ?_⟩
  · have hi := (List.getElem?_eq_some_iff.mp hp).1
    have h5 := hf.2.2 (640 * c + i) (by omega)
    rw [h5.1, h5.2]
    exact h3 i p hp
  · have h5 := hf.2.1 (16 * c + j) (by omega)
    rw [h5.1, h5.2.1, h5.2.2]
    exact h4 j hj
theorem e_layColumn {kk : Int32 → Int32 → (Nat → Int32) → (Nat → Int32) → (Nat → Int32) → (Nat → Int32) → (Nat → Int32) → (Nat → Int32) → (Nat → Int32) → (Nat → Int32) → Option (Int32 × Int32 × Int32 × Int32 × Int32 × (Nat → Int32) × (Nat → Int32) × (Nat → Int32) × (Nat → Int32) × (Nat → Int32) × (Nat → Int32) × (Nat → Int32) × (Nat → Int32))} {P : Nat → Int} {S : Int} {c : Nat} {lc en ov ah be sp bl lb : Nat → Int} (hP : PgOK P) (hS : 20 ≤ S) (hS2 : S ≤ 500) (hc : c < 4) :
    ∃ (lc' ov' ah' be' sp' bl' lb' : Nat → Int), fX1_layOut_71 kk (il P) (ii c) (ii (P 0)) (ii (P 1)) (ii S) (ii (P 3)) (il en) Fu (ii 0) (ii 0) (il (zu lc c 0)) (il (zu ov c (-5))) (il ah) (il be) (il sp) (il bl) (il lb)
        = kk (ii ((c + 1 : Nat) : Int)) (ii (csP P S c (nP P c)).1) (il lc') (il (zu en c (csP P S c (nP P c)).1)) (il ov') (il ah') (il be') (il sp') (il bl') (il lb')
      ∧ ColOK (csP P S c) (dnP P S c) c (nP P c) lc' ov' ah' be' sp' bl' lb' ∧ ColFr c lc ov ah be sp bl lb lc' ov' ah' be' sp' bl' lb' := by
  obtain ⟨h0, h1, h2, h3, h4, h5, h6, h7, h8, h9⟩ := id hP
  obtain ⟨h10, h11, h12⟩ := h9 c hc
  obtain ⟨lc', ov', ah', be', sp', bl', lb', e1, e2, e3⟩ := e_loop71 (kk := kk) (P := P) (c := c) (n := nP P c) (H := P 0) (F := P 1) (S := S) (R := P 3) (en := en) hc (by unfold nP; omega) (by unfold nP; omega) (by omega) hS2 h2 h3 h1 (by omega) h6 (fun b hb => (h12 b (by unfold nP at hb; omega)).1) (nP P c) 0 Fu (zu lc c 0) (zu ov c (-5)) ah be sp bl lb (by omega) (by rw [Fu_s]; unfold nP; omega) ⟨by rw [zu_eq]; rfl, by rw [zu_eq]; rfl, fun i p hp => (by cases hp), fun j hj => absurd hj (Nat.not_lt_zero j)⟩
  exact ⟨lc', ov', ah', be', sp', bl', lb', e1, e2, ColFr.trans ⟨fun j hj => ⟨zu_ne hj, zu_ne hj⟩, fun j _ => ⟨rfl, rfl, rfl⟩, fun j _ => ⟨rfl, rfl⟩⟩ e3⟩
theorem e_43 {P : Nat → Int} {S : Int} (hP : PgOK P) (hS : 20 ≤ S) (hS2 : S ≤ 500) :
    ∀ (r c fu : Nat) (cu : Int) (lc en ov ah be sp bl lb : Nat → Int), c + r = 4 → r < fu → (∀ d, d < c → ColOK (csP P S d) (dnP P S d) d (nP P d) lc ov ah be sp bl lb ∧ en d = (csP P S d (nP P d)).1) →
    ∃ (cu' : Int) (lc' en' ov' ah' be' sp' bl' lb' : Nat → Int), fX1_layOut_43 (il P) (ii (P 0)) (ii (P 1)) (ii S) (ii (P 3)) fu (ii c) (ii cu) (il lc) (il en) (il ov) (il ah) (il be) (il sp) (il bl) (il lb)
        = some (ii (P 0), ii (P 1), ii S, ii (P 3), ii cu', il lc', il en', il ov', il ah', il be', il sp', il bl', il lb') ∧ LayOK P S lc' en' ov' ah' be' sp' bl' lb' := by
  intro r
  induction r with
  | zero =>
    intro c fu cu lc en ov ah be sp bl lb hr hf h
    obtain ⟨fu', rfl⟩ : ∃ q, fu = q + 1 := ⟨fu - 1, by omega⟩
    have ec : c = 4 := by omega
    subst ec
    refine ⟨cu, lc, en, ov, ah, be, sp, bl, lb, ?_, h⟩
    rw [fX1_layOut_43]
    dsimp only
    rw [if_pos (show (4 : Int32) ≤ ii ((4 : Nat) : Int) by decide)]
  | succ r ih =>
    intro c fu cu lc en ov ah be sp bl lb hr hf h
    obtain ⟨fu', rfl⟩ : ∃ q, fu = q + 1 := ⟨fu - 1, by omega⟩
    obtain ⟨lc', ov', ah', be', sp', bl', lb', e1, e2, e3⟩ := e_layColumn (kk := fX1_layOut_43 (il P) (ii (P 0)) (ii (P 1)) (ii S) (ii (P 3)) fu') (lc := lc) (en := en) (ov := ov) (ah := ah) (be := be) (sp := sp) (bl := bl) (lb := lb) hP hS hS2 (show c < 4 by omega)
    obtain ⟨cu'', lc'', en'', ov'', ah'', be'', sp'', bl'', lb'', g1, g2⟩ := ih (c + 1) fu' (csP P S c (nP P c)).1 lc' (zu en c (csP P S c (nP P c)).1) ov' ah' be' sp' bl' lb' (by omega) (by omega) (fun d hd => by
      rcases Nat.lt_or_ge d c with h1 | h1
      · have h2 := h d h1
        have hb := csP_bound hP hS hS2 (show d < 4 by omega) (nP P d) (Nat.le_refl _)
        have hn : nP P d ≤ 16 := by
          have := (hP.2.2.2.2.2.2.2.2.2 d (by omega)).2.1
          unfold nP
          omega
        exact ⟨h2.1.fr e3 (by omega) hn (by omega), by rw [zu_ne (by omega)]; exact h2.2⟩
      · have : d = c := by omega
        subst this
        exact ⟨e2, zu_eq _ _ _⟩)
    refine ⟨cu'', lc'', en'', ov'', ah'', be'', sp'', bl'', lb'', ?_, g2⟩
    rw [fX1_layOut_43]
    simp (disch := omega) only [q_0, q_4, q_5, ii_neg, ii_le, if_neg, aset_ii, Int.toNat_natCast]
    exact e1.trans g1
theorem e_layOut {P : Nat → Int} {S cu : Int} {x1 x2 x3 x4 : Int32} {lc en ov ah be sp bl lb : Nat → Int} (hP : PgOK P) (hS : 20 ≤ S) (hS2 : S ≤ 500) :
    ∃ (cu' : Int) (lc' en' ov' ah' be' sp' bl' lb' : Nat → Int), fX1_layOut (ii S) x1 x2 x3 x4 (ii cu) (il lc) (il en) (il ov) (il ah) (il be) (il sp) (il bl) (il lb) (il P)
        = some (ii (P 0), ii (P 1), ii S, ii (P 3), ii cu', il lc', il en', il ov', il ah', il be', il sp', il bl', il lb') ∧ LayOK P S lc' en' ov' ah' be' sp' bl' lb' := by
  obtain ⟨cu', lc', en', ov', ah', be', sp', bl', lb', e1, e2⟩ := e_43 hP hS hS2 4 0 Fu cu lc en ov ah be sp bl lb (by omega) (by rw [Fu_s]; omega) (fun d hd => absurd hd (Nat.not_lt_zero d))
  refine ⟨cu', lc', en', ov', ah', be', sp', bl', lb', ?_, e2⟩
  have key : fX1_layOut_33 (ii S) (il P) (ii (P 3)) (ii (P 0)) (ii (P 1)) x3 x4 (ii cu) (il lc) (il en) (il ov) (il ah) (il be) (il sp) (il bl) (il lb) = some (ii (P 0), ii (P 1), ii S, ii (P 3), ii cu', il lc', il en', il ov', il ah', il be', il sp', il bl', il lb') := by
    unfold fX1_layOut_33
    rw [bchk_ii hP.2.2.2.2.2.2.1]
    exact e1
  unfold fX1_layOut
  have f0 : fX2_settingOf 0 (il P) = some (ii (P 0)) := e_setting (k := 0) (by omega)
  have f1 : fX2_settingOf 1 (il P) = some (ii (P 1)) := e_setting (k := 1) (by omega)
  have f3 : fX2_settingOf 3 (il P) = some (ii (P 3)) := e_setting (k := 3) (by omega)
  rw [f0, f1, f3]
  simp only [bd_eq]
  rcases hP.2.2.2.2.2.2.1 with h | h
  · rw [h] at key ⊢
    rw [if_neg (by decide)]
    exact key
  · rw [h] at key ⊢
    rw [if_pos (by decide)]
    exact key
