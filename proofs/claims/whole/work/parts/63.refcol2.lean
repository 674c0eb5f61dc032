def MColFr (c : Nat) (my ov ah be dA li ow my' ov' ah' be' dA' li' ow' : Nat → Int) : Prop :=
  (∀ j, j ≠ c → my' j = my j ∧ ov' j = ov j) ∧ (∀ j, j < 16 * c ∨ 16 * c + 16 ≤ j → ah' j = ah j ∧ be' j = be j ∧ dA' j = dA j) ∧ (∀ j, j < 640 * c ∨ 640 * c + 640 ≤ j → li' j = li j ∧ ow' j = ow j)
theorem MColFr.refl {c : Nat} {my ov ah be dA li ow : Nat → Int} : MColFr c my ov ah be dA li ow my ov ah be dA li ow := ⟨fun _ _ => ⟨rfl, rfl⟩, fun _ _ => ⟨rfl, rfl, rfl⟩, fun _ _ => ⟨rfl, rfl⟩⟩
theorem MColFr.trans {c : Nat} {my ov ah be dA li ow my1 ov1 ah1 be1 dA1 li1 ow1 my2 ov2 ah2 be2 dA2 li2 ow2 : Nat → Int} (h1 : MColFr c my ov ah be dA li ow my1 ov1 ah1 be1 dA1 li1 ow1) (h2 : MColFr c my1 ov1 ah1 be1 dA1 li1 ow1 my2 ov2 ah2 be2 dA2 li2 ow2) : MColFr c my ov ah be dA li ow my2 ov2 ah2 be2 dA2 li2 ow2 :=
  ⟨fun j hj => ⟨(h2.1 j hj).1.trans (h1.1 j hj).1, (h2.1 j hj).2.trans (h1.1 j hj).2⟩, fun j hj => ⟨(h2.2.1 j hj).1.trans (h1.2.1 j hj).1, (h2.2.1 j hj).2.1.trans (h1.2.1 j hj).2.1, (h2.2.1 j hj).2.2.trans (h1.2.1 j hj).2.2⟩, fun j hj => ⟨(h2.2.2 j hj).1.trans (h1.2.2 j hj).1, (h2.2.2 j hj).2.trans (h1.2.2 j hj).2⟩⟩
/-- behind the blocks of a column nothing is set -/
theorem m_skip {Q : Nat → Int} {c n : Nat} {S cu : Int} {en : Nat → Int} {li ow my ov ah be : Nat → Int} (hc : c < 4) (hpn : mn Q c = n) :
    ∀ (r b fu : Nat) (dn : Nat → Int), b + r = 16 → r < fu → n ≤ b → ∃ dn' : Nat → Int, fX5_setsColumn_20 (ii c) (ii S) (il Q) (il en) fu (ii cu) (ii b) (il li) (il ow) (il my) (il ov) (il ah) (il be) (il dn) = some (il li, il ow, il my, il (zu en c cu), il ov, il ah, il be, il dn')
      ∧ (∀ j, j < 16 * c + b ∨ 16 * c + 16 ≤ j → dn' j = dn j) := by
  intro r
  induction r with
  | zero =>
    intro b fu dn hb hf hn
    obtain ⟨fu', rfl⟩ : ∃ q, fu = q + 1 := ⟨fu - 1, by omega⟩
    refine ⟨dn, ?_, fun _ _ => rfl⟩
    rw [fX5_setsColumn_20]
    simp (disch := omega) only [q_16, ii_le, if_pos, aset_ii, Int.toNat_natCast]
  | succ r ih =>
    intro b fu dn hb hf hn
    obtain ⟨fu', rfl⟩ : ∃ q, fu = q + 1 := ⟨fu - 1, by omega⟩
    obtain ⟨dn', e1, e2⟩ := ih (b + 1) fu' (zu dn (16 * c + b) 0) (by omega) (by omega) (by omega)
    refine ⟨dn', ?_, fun j hj => by rw [e2 j (by omega), zu_ne (by omega)]⟩
    rw [fX5_setsColumn_20]
    dsimp only
    rw [m_blocks hc, hpn]
    simp (disch := omega) only [q_16, q_0, ii_le, if_pos, if_neg, ii_mul, ii_add, nm_eq, aset_ii, bd_eq, m_206]
    rw [show (16 * (c : Int) + b).toNat = 16 * c + b by omega]
    exact e1
theorem m_20 {Q : Nat → Int} {c n : Nat} (hc : c < 4) (hn : n ≤ 16) (hpn : mn Q c = n) {S : Int} {en : Nat → Int} (hS : 0 < S) (hS2 : S ≤ 500) (hF : 0 ≤ Q 1) (hF2 : Q 1 ≤ 500) (hH : Q 0 ≤ 9999) (hH0 : 0 ≤ Q 0) (hR : Q 3 = 0 ∨ Q 3 = 1) (hfl : ∀ b, b < n → FlOK (mf Q c b)) :
    ∀ (r b fu : Nat) (my ov ah be dn li ow : Nat → Int), b + r = n → r + 16 < fu → MColOK (csS (Q 0) (Q 1) S (Q 3) (mf Q c)) (dnS (Q 0) (Q 1) S (Q 3) (mf Q c)) c b my ov ah be dn li ow →
    ∃ (my' ov' ah' be' dn' li' ow' : Nat → Int), fX5_setsColumn_20 (ii c) (ii S) (il Q) (il en) fu (ii (csS (Q 0) (Q 1) S (Q 3) (mf Q c) b).1) (ii b) (il li) (il ow) (il my) (il ov) (il ah) (il be) (il dn)
        = some (il li', il ow', il my', il (zu en c (csS (Q 0) (Q 1) S (Q 3) (mf Q c) n).1), il ov', il ah', il be', il dn')
      ∧ MColOK (csS (Q 0) (Q 1) S (Q 3) (mf Q c)) (dnS (Q 0) (Q 1) S (Q 3) (mf Q c)) c n my' ov' ah' be' dn' li' ow' ∧ MColFr c my ov ah be dn li ow my' ov' ah' be' dn' li' ow' := by
  intro r
  induction r with
  | zero =>
    intro b fu my ov ah be dn li ow hb hf h
    have eb : b = n := by omega
    subst eb
    obtain ⟨dn', e1, e2⟩ := m_skip (S := S) (cu := (csS (Q 0) (Q 1) S (Q 3) (mf Q c) b).1) (en := en) (li := li) (ow := ow) (my := my) (ov := ov) (ah := ah) (be := be) hc hpn (16 - b) b fu dn (by omega) (by omega) (Nat.le_refl _)
    refine ⟨my, ov, ah, be, dn', li, ow, e1, ⟨h.1, h.2.1, h.2.2.1, fun j hj => ?_⟩, fun _ _ => ⟨rfl, rfl⟩, fun j hj => ⟨rfl, rfl, e2 j (by omega)⟩, fun _ _ => ⟨rfl, rfl⟩⟩
    rw [e2 (16 * c + j) (by omega)]
    exact h.2.2.2 j hj
  | succ r ih =>
    intro b fu my ov ah be dn li ow hb hf h
    obtain ⟨fu', rfl⟩ : ∃ q, fu = q + 1 := ⟨fu - 1, by omega⟩
    obtain ⟨hmy, hov, hL, ho⟩ := h
    have hbd := csS_bound (R := Q 3) (fl := mf Q c) (n := n) hS hS2 hF hF2 hH hfl b (by omega)
    have hoo := csS_over (H := Q 0) (F := Q 1) (S := S) (R := Q 3) (fl := mf Q c) b
    -- the rest, once the block's own cells are as blkS has them
    have key : ∀ (my1 ov1 ah1 be1 dn1 li1 ow1 : Nat → Int), my1 c = ((csS (Q 0) (Q 1) S (Q 3) (mf Q c) (b + 1)).2.1.length : Nat) → ov1 c = ((csS (Q 0) (Q 1) S (Q 3) (mf Q c) (b + 1)).2.2 : Nat) → LinesOK li1 ow1 c (csS (Q 0) (Q 1) S (Q 3) (mf Q c) (b + 1)).2.1 →
        (dn1 (16 * c + b) = dnS (Q 0) (Q 1) S (Q 3) (mf Q c) b ∧ (dnS (Q 0) (Q 1) S (Q 3) (mf Q c) b ≠ 0 → ah1 (16 * c + b) = (csS (Q 0) (Q 1) S (Q 3) (mf Q c) b).1 ∧ be1 (16 * c + b) = (csS (Q 0) (Q 1) S (Q 3) (mf Q c) (b + 1)).1)) →
        (∀ j, j ≠ c → my1 j = my j ∧ ov1 j = ov j) → (∀ j, j ≠ 16 * c + b → ah1 j = ah j ∧ be1 j = be j ∧ dn1 j = dn j) → (∀ j, j < 640 * c ∨ 640 * c + 640 ≤ j → li1 j = li j ∧ ow1 j = ow j) →
        ∃ (my' ov' ah' be' dn' li' ow' : Nat → Int), fX5_setsColumn_20 (ii c) (ii S) (il Q) (il en) fu' (ii (csS (Q 0) (Q 1) S (Q 3) (mf Q c) (b + 1)).1) (ii ((b + 1 : Nat) : Int)) (il li1) (il ow1) (il my1) (il ov1) (il ah1) (il be1) (il dn1)
          = some (il li', il ow', il my', il (zu en c (csS (Q 0) (Q 1) S (Q 3) (mf Q c) n).1), il ov', il ah', il be', il dn')
        ∧ MColOK (csS (Q 0) (Q 1) S (Q 3) (mf Q c)) (dnS (Q 0) (Q 1) S (Q 3) (mf Q c)) c n my' ov' ah' be' dn' li' ow' ∧ MColFr c my ov ah be dn li ow my' ov' ah' be' dn' li' ow' := by
      intro my1 ov1 ah1 be1 dn1 li1 ow1 e1 e2 e3 e4 e5 e6 e7
      obtain ⟨my', ov', ah', be', dn', li', ow', g1, g2, g3⟩ := ih (b + 1) fu' my1 ov1 ah1 be1 dn1 li1 ow1 (by omega) (by omega) ⟨e1, e2, e3, fun j hj => by
        rcases Nat.lt_or_ge j b with hjb | hjb
        · have h9 := e6 (16 * c + j) (by omega)
          rw [h9.1, h9.2.1, h9.2.2]
          exact ho j hjb
        · have : j = b := by omega
          subst this
          exact e4⟩
      exact ⟨my', ov', ah', be', dn', li', ow', g1, g2, MColFr.trans ⟨e5, fun j hj => e6 j (by omega), e7⟩ g3⟩
    have hov1 : ∀ {α : Type} (g : Int32 → Option α), aget 4 (il ov) (ii c) g = g (ii (((csS (Q 0) (Q 1) S (Q 3) (mf Q c) b).2.2 : Nat) : Int)) := fun g => by
      rw [aget_ii (by omega) (by omega) (by omega), Int.toNat_natCast]
      show g (ii (ov c)) = _
      rw [hov]
    rw [fX5_setsColumn_20]
    dsimp only
    rw [m_blocks hc, hpn, m_f0 (b := b) hc (by omega), m_f5 (b := b) hc (by omega)]
    simp (disch := omega) only [q_16, q_0, ii_le, if_neg, ii_mul, ii_add, nm_eq, aset_ii, bd_eq, hov1]
    rw [show (16 * (c : Int) + b).toNat = 16 * c + b by omega]
    rcases Classical.em ((csS (Q 0) (Q 1) S (Q 3) (mf Q c) b).2.2 = 16) with hq | hq
    · have hqn : ¬ (csS (Q 0) (Q 1) S (Q 3) (mf Q c) b).2.2 ≠ 16 := fun w => w hq
      rw [if_pos (show (16 : Int) ≤ ((csS (Q 0) (Q 1) S (Q 3) (mf Q c) b).2.2 : Nat) by omega)]
      have ecs : csS (Q 0) (Q 1) S (Q 3) (mf Q c) (b + 1) = (blkS (Q 0) (Q 1) S (Q 3) (mf Q c b) b (csS (Q 0) (Q 1) S (Q 3) (mf Q c) b)).1 := rfl
      have edn : dnS (Q 0) (Q 1) S (Q 3) (mf Q c) b = (blkS (Q 0) (Q 1) S (Q 3) (mf Q c b) b (csS (Q 0) (Q 1) S (Q 3) (mf Q c) b)).2 := rfl
      rcases hfl b (by omega) with ⟨h0, h1, h2, h3, h4, h5, h6, h7⟩ | ⟨h0, h1, h2⟩
      · obtain ⟨f, ef⟩ : ∃ f, f = blS (Q 1) S (csS (Q 0) (Q 1) S (Q 3) (mf Q c) b).1 (7 * mf Q c b 2 / 10) (mf Q c b 3) (mf Q c b 4) := ⟨_, rfl⟩
        obtain ⟨m, em⟩ : ∃ m, m = cntS (Q 0) (3 * mf Q c b 2 / 10) f (mf Q c b 1).toNat := ⟨_, rfl⟩
        have hblk : blkS (Q 0) (Q 1) S (Q 3) (mf Q c b) b (csS (Q 0) (Q 1) S (Q 3) (mf Q c) b) = ((if m = 0 then (csS (Q 0) (Q 1) S (Q 3) (mf Q c) b).1 else f (m - 1) + 3 * mf Q c b 2 / 10, (csS (Q 0) (Q 1) S (Q 3) (mf Q c) b).2.1 ++ (List.range m).map (fun k => (f k, b)), if m < (mf Q c b 1).toNat then b else 16), m) := by
          subst em
          subst ef
          unfold blkS
          rw [if_neg hqn, if_pos h0]
        have hm := cntS_le (Q 0) (3 * mf Q c b 2 / 10) f (mf Q c b 1).toNat
        rw [← em] at hm
        obtain ⟨li', ow', my', dn', e1, e2, e3, e4, e5, e6, e7⟩ := m_setsLines (T0 := (csS (Q 0) (Q 1) S (Q 3) (mf Q c) b).2.1.length) (li := li) (ow := ow) (my := my) (ov := ov) (dn := zu dn (16 * c + b) 0) hc (show b < 16 by omega) hS hS2 hF hF2 hH hH0 hbd.1 (by omega) h1 h2 h3 h4 h5 h6 h7 (by omega) hmy (zu_eq _ _ _) ef em
        rw [h0, if_pos (by decide), e1]
        simp only [bd_eq]
        rw [m_198 hc (by omega)]
        rw [hblk] at ecs edn
        have ecu : (if m = 0 then (csS (Q 0) (Q 1) S (Q 3) (mf Q c) b).1 else f (m - 1) + 3 * mf Q c b 2 / 10) = (csS (Q 0) (Q 1) S (Q 3) (mf Q c) (b + 1)).1 := by rw [ecs]
        rw [ecu]
        refine key my' (if m < (mf Q c b 1).toNat then zu ov c b else ov) (zu ah (16 * c + b) (csS (Q 0) (Q 1) S (Q 3) (mf Q c) b).1) (zu be (16 * c + b) (csS (Q 0) (Q 1) S (Q 3) (mf Q c) (b + 1)).1) dn' li' ow' ?_ ?_ ?_ ⟨by rw [edn]; exact e4, fun _ => ⟨zu_eq _ _ _, zu_eq _ _ _⟩⟩ (fun j hj => ⟨e3 j hj, ?_⟩) (fun j hj => ⟨zu_ne hj, zu_ne hj, by rw [e5 j hj, zu_ne hj]⟩) (fun j hj => e7 j (by omega))
        · rw [e2, ecs]
          simp only [List.length_append, List.length_map, List.length_range]
        · rw [ecs]
          show _ = ((if m < (mf Q c b 1).toNat then b else 16 : Nat) : Int)
          split
          · exact zu_eq _ _ _
          · rw [hov, hq]
        · rw [ecs]
          exact LinesOK.app hL e6 (fun j hj => e7 j (Or.inl hj))
        · split
          · exact zu_ne hj
          · rfl
      · have f0 : ∀ {α : Type} (g : Int32 → Option α), aget 393 (il Q) (ii 0) g = g (ii (Q 0)) := fun g => aget_ii (z := 0) (by omega) (by omega) (by omega)
        have hkd : ¬ ii (mf Q c b 0) = ii 0 := by
          rw [ii_eq (by omega) (by omega) (by omega) (by omega)]
          omega
        rw [if_neg hkd]
        have h144 := m_144 (kk := fX5_setsColumn_20 (ii c) (ii S) (il Q) (il en) fu') (li := il li) (ow := il ow) (my := il my) (en := il en) (ov := il ov) (ah := il (zu ah (16 * c + b) (csS (Q 0) (Q 1) S (Q 3) (mf Q c) b).1)) (be := be) (dn := zu dn (16 * c + b) 0) (kd := mf Q c b 0) (hg := mf Q c b 5) hc (show b < 16 by omega) hS hS2 hF hF2 hR hbd.1 (by omega) h1 h2 h0
        have fin : ∀ cu1 : Int, (csS (Q 0) (Q 1) S (Q 3) (mf Q c) (b + 1)) = (cu1, (csS (Q 0) (Q 1) S (Q 3) (mf Q c) b).2.1, 16) → dnS (Q 0) (Q 1) S (Q 3) (mf Q c) b = 1 → ∃ (my' ov' ah' be' dn' li' ow' : Nat → Int), fX5_setsColumn_20 (ii c) (ii S) (il Q) (il en) fu' (ii cu1) (ii ((b + 1 : Nat) : Int)) (il li) (il ow) (il my) (il ov) (il (zu ah (16 * c + b) (csS (Q 0) (Q 1) S (Q 3) (mf Q c) b).1)) (il (zu be (16 * c + b) cu1)) (il (zu (zu dn (16 * c + b) 0) (16 * c + b) 1))
            = some (il li', il ow', il my', il (zu en c (csS (Q 0) (Q 1) S (Q 3) (mf Q c) n).1), il ov', il ah', il be', il dn')
          ∧ MColOK (csS (Q 0) (Q 1) S (Q 3) (mf Q c)) (dnS (Q 0) (Q 1) S (Q 3) (mf Q c)) c n my' ov' ah' be' dn' li' ow' ∧ MColFr c my ov ah be dn li ow my' ov' ah' be' dn' li' ow' := by
          intro cu1 hcs hdn
          have hk := key my ov (zu ah (16 * c + b) (csS (Q 0) (Q 1) S (Q 3) (mf Q c) b).1) (zu be (16 * c + b) cu1) (zu (zu dn (16 * c + b) 0) (16 * c + b) 1) li ow (by rw [hcs]; exact hmy) (by rw [hcs, hov, hq]) (by rw [hcs]; exact hL) ⟨by rw [zu_eq, hdn]; rfl, fun _ => ⟨zu_eq _ _ _, by rw [zu_eq, hcs]⟩⟩ (fun _ _ => ⟨rfl, rfl⟩) (fun j hj => ⟨zu_ne hj, zu_ne hj, by rw [zu_ne hj, zu_ne hj]⟩) (fun _ _ => ⟨rfl, rfl⟩)
          rw [hcs] at hk
          exact hk
        rcases h0 with h0 | h0
        · have hblk : blkS (Q 0) (Q 1) S (Q 3) (mf Q c b) b (csS (Q 0) (Q 1) S (Q 3) (mf Q c) b) = (if Q 0 < (csS (Q 0) (Q 1) S (Q 3) (mf Q c) b).1 + mf Q c b 5 then (((csS (Q 0) (Q 1) S (Q 3) (mf Q c) b).1, (csS (Q 0) (Q 1) S (Q 3) (mf Q c) b).2.1, b), 0) else ((if Q 3 = 1 then nxS (Q 1) S ((csS (Q 0) (Q 1) S (Q 3) (mf Q c) b).1 + mf Q c b 5) else (csS (Q 0) (Q 1) S (Q 3) (mf Q c) b).1 + mf Q c b 5, (csS (Q 0) (Q 1) S (Q 3) (mf Q c) b).2.1, 16), 1)) := by
            unfold blkS
            rw [if_neg hqn, if_neg (by omega), if_pos h0]
          rw [h0] at h144 ⊢
          rw [if_pos (show ii 1 = 1 by decide), f0]
          rcases Classical.em (Q 0 < (csS (Q 0) (Q 1) S (Q 3) (mf Q c) b).1 + mf Q c b 5) with h | h
          · rw [if_pos h] at hblk
            rw [hblk] at ecs edn
            simp (disch := omega) only [ii_le, if_neg, aset_ii, Int.toNat_natCast]
            rw [m_198 hc (by omega)]
            have hk := key my (zu ov c b) (zu ah (16 * c + b) (csS (Q 0) (Q 1) S (Q 3) (mf Q c) b).1) (zu be (16 * c + b) (csS (Q 0) (Q 1) S (Q 3) (mf Q c) b).1) (zu dn (16 * c + b) 0) li ow (by rw [ecs]; exact hmy) (by rw [ecs]; exact zu_eq _ _ _) (by rw [ecs]; exact hL) ⟨by rw [zu_eq, edn]; rfl, fun w => absurd edn w⟩ (fun j hj => ⟨rfl, zu_ne hj⟩) (fun j hj => ⟨zu_ne hj, zu_ne hj, zu_ne hj⟩) (fun _ _ => ⟨rfl, rfl⟩)
            rw [ecs] at hk
            exact hk
          · rw [if_neg h] at hblk
            rw [hblk] at ecs edn
            simp (disch := omega) only [ii_le, if_pos]
            rw [h144, if_pos rfl]
            exact fin _ ecs edn
        · have hblk : blkS (Q 0) (Q 1) S (Q 3) (mf Q c b) b (csS (Q 0) (Q 1) S (Q 3) (mf Q c) b) = ((if (csS (Q 0) (Q 1) S (Q 3) (mf Q c) b).1 = 0 then 0 else (csS (Q 0) (Q 1) S (Q 3) (mf Q c) b).1 + mf Q c b 5, (csS (Q 0) (Q 1) S (Q 3) (mf Q c) b).2.1, 16), 1) := by
            unfold blkS
            rw [if_neg hqn, if_neg (by omega), if_neg (by omega)]
          rw [h0] at h144 ⊢
          rw [if_neg (show ¬ ii 2 = 1 by decide), h144, if_neg (show ¬ (2 : Int) = 1 by omega)]
          rw [hblk] at ecs edn
          exact fin _ ecs edn
    · have ec : csS (Q 0) (Q 1) S (Q 3) (mf Q c) (b + 1) = csS (Q 0) (Q 1) S (Q 3) (mf Q c) b := by
        show (blkS (Q 0) (Q 1) S (Q 3) (mf Q c b) b (csS (Q 0) (Q 1) S (Q 3) (mf Q c) b)).1 = _
        unfold blkS
        rw [if_pos hq]
      have ed : dnS (Q 0) (Q 1) S (Q 3) (mf Q c) b = 0 := by
        unfold dnS blkS
        rw [if_pos hq]
      rw [if_neg (show ¬ (16 : Int) ≤ ((csS (Q 0) (Q 1) S (Q 3) (mf Q c) b).2.2 : Nat) by omega), m_206]
      have hk := key my ov ah be (zu dn (16 * c + b) 0) li ow (by rw [ec]; exact hmy) (by rw [ec]; exact hov) (by rw [ec]; exact hL) ⟨by rw [zu_eq, ed]; rfl, fun w => absurd ed w⟩ (fun _ _ => ⟨rfl, rfl⟩) (fun j hj => ⟨rfl, rfl, zu_ne hj⟩) (fun _ _ => ⟨rfl, rfl⟩)
      rw [ec] at hk
      exact hk
