/-! the class sets a column as csS does -/
def dnS (H F S R : Int) (fl : Nat → Nat → Int) (b : Nat) : Nat := (blkS H F S R (fl b) b (csS H F S R fl b)).2
def ColOK (cs : Nat → CS) (dn : Nat → Nat) (c b : Nat) (lc ov ah be sp bl lb : Nat → Int) : Prop :=
  lc c = ((cs b).2.1.length : Nat) ∧ ov c = ovC (cs b).2.2 ∧ LinesOK bl lb c (cs b).2.1 ∧ ∀ j, j < b → ah (16 * c + j) = (cs j).1 ∧ be (16 * c + j) = (cs (j + 1)).1 ∧ sp (16 * c + j) = dn j
def ColFr (c : Nat) (lc ov ah be sp bl lb lc' ov' ah' be' sp' bl' lb' : Nat → Int) : Prop :=
  (∀ j, j ≠ c → lc' j = lc j ∧ ov' j = ov j) ∧ (∀ j, j < 16 * c ∨ 16 * c + 16 ≤ j → ah' j = ah j ∧ be' j = be j ∧ sp' j = sp j) ∧ (∀ j, j < 640 * c ∨ 640 * c + 640 ≤ j → bl' j = bl j ∧ lb' j = lb j)
theorem ColFr.refl {c : Nat} {lc ov ah be sp bl lb : Nat → Int} : ColFr c lc ov ah be sp bl lb lc ov ah be sp bl lb := ⟨fun _ _ => ⟨rfl, rfl⟩, fun _ _ => ⟨rfl, rfl, rfl⟩, fun _ _ => ⟨rfl, rfl⟩⟩
theorem ColFr.trans {c : Nat} {lc ov ah be sp bl lb lc1 ov1 ah1 be1 sp1 bl1 lb1 lc2 ov2 ah2 be2 sp2 bl2 lb2 : Nat → Int} (h1 : ColFr c lc ov ah be sp bl lb lc1 ov1 ah1 be1 sp1 bl1 lb1) (h2 : ColFr c lc1 ov1 ah1 be1 sp1 bl1 lb1 lc2 ov2 ah2 be2 sp2 bl2 lb2) : ColFr c lc ov ah be sp bl lb lc2 ov2 ah2 be2 sp2 bl2 lb2 :=
  ⟨fun j hj => ⟨(h2.1 j hj).1.trans (h1.1 j hj).1, (h2.1 j hj).2.trans (h1.1 j hj).2⟩, fun j hj => ⟨(h2.2.1 j hj).1.trans (h1.2.1 j hj).1, (h2.2.1 j hj).2.1.trans (h1.2.1 j hj).2.1, (h2.2.1 j hj).2.2.trans (h1.2.1 j hj).2.2⟩, fun j hj => ⟨(h2.2.2 j hj).1.trans (h1.2.2 j hj).1, (h2.2.2 j hj).2.trans (h1.2.2 j hj).2⟩⟩
theorem blkS_over {H F S R : Int} {fl : Nat → Int} {b : Nat} {q : CS} : (blkS H F S R fl b q).1.2.2 = q.2.2 ∨ (blkS H F S R fl b q).1.2.2 = 16 ∨ (blkS H F S R fl b q).1.2.2 = b := by
  unfold blkS
  split
  · exact Or.inl rfl
  · split
    · show (if _ then b else 16) = _ ∨ (if _ then b else 16) = 16 ∨ (if _ then b else 16) = b
      split
      · exact Or.inr (Or.inr rfl)
      · exact Or.inr (Or.inl rfl)
    · split
      · split
        · exact Or.inr (Or.inr rfl)
        · exact Or.inr (Or.inl rfl)
      · exact Or.inr (Or.inl rfl)
theorem csS_over {H F S R : Int} {fl : Nat → Nat → Int} : ∀ b, (csS H F S R fl b).2.2 = 16 ∨ (csS H F S R fl b).2.2 < b := by
  intro b
  induction b with
  | zero => exact Or.inl rfl
  | succ b ih =>
    have h := blkS_over (H := H) (F := F) (S := S) (R := R) (fl := fl b) (b := b) (q := csS H F S R fl b)
    show (blkS H F S R (fl b) b (csS H F S R fl b)).1.2.2 = 16 ∨ (blkS H F S R (fl b) b (csS H F S R fl b)).1.2.2 < b + 1
    omega
theorem e_loop71 {kk : Int32 → Int32 → (Nat → Int32) → (Nat → Int32) → (Nat → Int32) → (Nat → Int32) → (Nat → Int32) → (Nat → Int32) → (Nat → Int32) → (Nat → Int32) → Option (Int32 × Int32 × Int32 × Int32 × Int32 × (Nat → Int32) × (Nat → Int32) × (Nat → Int32) × (Nat → Int32) × (Nat → Int32) × (Nat → Int32) × (Nat → Int32) × (Nat → Int32))} {P : Nat → Int} {c n : Nat} (hc : c < 4) (hn : n ≤ 16) (hpn : pn P c = n) {H F S R : Int} {en : Nat → Int} (hS : 0 < S) (hS2 : S ≤ 500) (hF : 0 ≤ F) (hF2 : F ≤ 500) (hH : H ≤ 9999) (hH0 : 0 ≤ H) (hR : R = 0 ∨ R = 1) (hfl : ∀ b, b < n → FlOK (pf P c b)) :
    ∀ (r b fu : Nat) (lc ov ah be sp bl lb : Nat → Int), b + r = n → r < fu → ColOK (csS H F S R (pf P c)) (dnS H F S R (pf P c)) c b lc ov ah be sp bl lb →
    ∃ (lc' ov' ah' be' sp' bl' lb' : Nat → Int), fX1_layOut_71 kk (il P) (ii c) (ii H) (ii F) (ii S) (ii R) (il en) fu (ii b) (ii (csS H F S R (pf P c) b).1) (il lc) (il ov) (il ah) (il be) (il sp) (il bl) (il lb)
        = kk (ii ((c + 1 : Nat) : Int)) (ii (csS H F S R (pf P c) n).1) (il lc') (il (zu en c (csS H F S R (pf P c) n).1)) (il ov') (il ah') (il be') (il sp') (il bl') (il lb')
      ∧ ColOK (csS H F S R (pf P c)) (dnS H F S R (pf P c)) c n lc' ov' ah' be' sp' bl' lb' ∧ ColFr c lc ov ah be sp bl lb lc' ov' ah' be' sp' bl' lb' := by
  intro r
  induction r with
  | zero =>
    intro b fu lc ov ah be sp bl lb hb hf h
    obtain ⟨fu', rfl⟩ : ∃ q, fu = q + 1 := ⟨fu - 1, by omega⟩
    have eb : b = n := by omega
    subst eb
    refine ⟨lc, ov, ah, be, sp, bl, lb, ?_, h, ColFr.refl⟩
    rw [fX1_layOut_71, e_blocks hc, hpn]
    simp (disch := omega) only [bd_eq, ii_le, if_pos, Int.le_refl, if_true, aset_ii, Int.toNat_natCast, nm_eq, q_1, ii_add]
    rw [show ((c : Int) + 1) = ((c + 1 : Nat) : Int) by omega]
  | succ r ih =>
    intro b fu lc ov ah be sp bl lb hb hf h
    obtain ⟨fu', rfl⟩ : ∃ q, fu = q + 1 := ⟨fu - 1, by omega⟩
    obtain ⟨hlc, hov, hL, ho⟩ := h
    have hbd := csS_bound (R := R) (fl := pf P c) (n := n) hS hS2 hF hF2 hH hfl b (by omega)
    have hoo := csS_over (H := H) (F := F) (S := S) (R := R) (fl := pf P c) b
    have ecs : csS H F S R (pf P c) (b + 1) = (blkS H F S R (pf P c b) b (csS H F S R (pf P c) b)).1 := rfl
    obtain ⟨lc1, ov1, sp1, bl1, lb1, e1, e2, e3, e4, e5, e6, e7, e8, e9⟩ := e_layBlock (P := P) (R := R) (q := csS H F S R (pf P c) b) (lc := lc) (ov := ov) (ah := ah) (be := be) (sp := sp) (bl := bl) (lb := lb) hc (show b < 16 by omega) hS hS2 hF hF2 hH hH0 hR (by omega) hbd.1 (by omega) (hfl b (by omega)) hlc (by omega) hov hL
    rw [← ecs] at e1 e2 e4 e6
    obtain ⟨lc', ov', ah', be', sp', bl', lb', g1, g2, g3⟩ := ih (b + 1) fu' lc1 ov1 (zu ah (16 * c + b) (csS H F S R (pf P c) b).1) (zu be (16 * c + b) (csS H F S R (pf P c) (b + 1)).1) sp1 bl1 lb1 (by omega) (by omega) ⟨e2, e4, e6, fun j hj => by
        rcases Nat.lt_or_ge j b with hjb | hjb
        · have h9 := ho j hjb
          rw [zu_ne (by omega), zu_ne (by omega), e9 _ (by omega)]
          exact h9
        · have : j = b := by omega
          subst this
          rw [zu_eq, zu_eq, e8]
          exact ⟨rfl, rfl, rfl⟩⟩
    refine ⟨lc', ov', ah', be', sp', bl', lb', ?_, g2, ColFr.trans ⟨fun j hj => ⟨e3 j hj, e5 j hj⟩, fun j hj => ?_, e7⟩ g3⟩
    · rw [fX1_layOut_71, e_blocks hc, hpn]
      simp (disch := omega) only [bd_eq, ii_le, if_neg]
      rw [e1]
      simp only [bd_eq, nm_eq, q_1, ii_add]
      rw [show ((b : Int) + 1) = ((b + 1 : Nat) : Int) by omega]
      exact g1
    · rw [zu_ne (by omega), zu_ne (by omega), e9 j (by omega)]
      exact ⟨rfl, rfl, rfl⟩
