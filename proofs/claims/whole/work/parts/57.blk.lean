theorem e_f0 {P : Nat → Int} {c b : Nat} (hc : c < 4) (hb : b < 16) : fX2_fieldOf (ii c) (ii b) 0 (il P) = some (ii (pf P c b 0)) := by
  have h := e_field (P := P) (k := 0) hc hb (by omega)
  rw [show (0 : Int32) = ii ((0 : Nat) : Int) by decide]
  exact h
theorem e_f5 {P : Nat → Int} {c b : Nat} (hc : c < 4) (hb : b < 16) : fX2_fieldOf (ii c) (ii b) 5 (il P) = some (ii (pf P c b 5)) := by
  have h := e_field (P := P) (k := 5) hc hb (by omega)
  rw [show (5 : Int32) = ii ((5 : Nat) : Int) by decide]
  exact h
theorem e_isPlace {c b : Nat} (hc : c < 4) (hb : b < 16) : fX1_isBlockPlace (ii c) (ii b) = some (ii 1) := by
  unfold fX1_isBlockPlace
  rw [e_col (by omega) (by omega), bd_eq, if_neg (by decide), if_neg (by rw [q_0, ii_lt (by omega) (by omega) (by omega) (by omega)]; omega), if_neg (by rw [q_16, ii_le (by omega) (by omega) (by omega) (by omega)]; omega)]
  rfl
theorem ii_natne {a b : Nat} (ha : a < 2147483648) (hb : b < 2147483648) (h : a ≠ b) : ¬ ii a = ii b := by
  rw [ii_eq (by omega) (by omega) (by omega) (by omega)]
  omega
theorem e_layPicture {c b : Nat} (hc : c < 4) (hb : b < 16) {H F S R cu : Int} {ov P : Nat → Int} (hS : 0 < S) (hS2 : S ≤ 500) (hF : 0 ≤ F) (hF2 : F ≤ 500) (hH : H ≤ 9999) (hH0 : 0 ≤ H) (hcu : 0 ≤ cu) (hcu2 : cu ≤ 100000) (hR : R = 0 ∨ R = 1) (h1 : 1 ≤ pf P c b 5) (h2 : pf P c b 5 ≤ 3000) :
    fX1_layPicture (ii c) (ii b) (ii H) (ii F) (ii S) (ii R) (ii cu) (il ov) (il P) = (if H < cu + pf P c b 5 then some (ii 0, ii cu, il (zu ov c b)) else some (ii 1, ii (if R = 1 then nxS F S (cu + pf P c b 5) else cu + pf P c b 5), il ov)) := by
  unfold fX1_layPicture fX1_layPicture_50
  rw [e_f5 hc hb]
  simp only [bd_eq, nm_eq, ii_add]
  rcases Int.lt_or_le H (cu + pf P c b 5) with h | h
  · rw [if_pos h]
    simp (disch := omega) only [ii_le, if_neg, e_mark, bd_eq, q_0]
  · rw [if_neg (show ¬ H < cu + pf P c b 5 by omega)]
    simp (disch := omega) only [ii_le, if_pos]
    rcases hR with rfl | rfl
    · rw [if_pos (by decide), if_neg (by decide), q_1]
    · rw [if_neg (by decide), if_pos rfl, e_next hS hS2 hF hF2 (by omega) (by omega), q_1]
      rfl
theorem e_laySpace {c b : Nat} (hc : c < 4) (hb : b < 16) {cu : Int} {P : Nat → Int} (hcu : 0 ≤ cu) (hcu2 : cu ≤ 100000) :
    fX1_laySpace (ii c) (ii b) (ii cu) (il P) = some (ii 1, ii (if cu = 0 then 0 else cu + pf P c b 5)) := by
  unfold fX1_laySpace
  rcases Classical.em (cu = 0) with h | h
  · rw [h, if_pos (by decide), if_pos rfl, q_1]
  · rw [if_neg (fun w => by
      rw [q_0, ii_eq (by omega) (by omega) (by omega) (by omega)] at w
      exact h w), if_neg h, e_f5 hc hb]
    simp only [bd_eq, nm_eq, ii_add, q_1]
theorem e_128 {lc ov ah sp bl lb : Nat → Int32} {be : Nat → Int} {c b : Nat} {cu : Int} (hc : c < 4) (hb : b < 16) :
    fX1_layBlock_128 (ii ((c : Int) * 16 + b)) (ii cu) lc ov ah (il be) sp bl lb = some (ii cu, lc, ov, ah, il (zu be (16 * c + b) cu), sp, bl, lb) := by
  unfold fX1_layBlock_128
  simp (disch := omega) only [aset_ii]
  rw [show ((c : Int) * 16 + b).toNat = 16 * c + b by omega]
theorem LinesOK.app {bl lb bl' lb' : Nat → Int} {c b m : Nat} {L : List (Int × Nat)} {f : Nat → Int} (h : LinesOK bl lb c L) (h1 : ∀ i, i < m → bl' (640 * c + L.length + i) = f i ∧ lb' (640 * c + L.length + i) = b) (h2 : ∀ j, j < 640 * c + L.length → bl' j = bl j ∧ lb' j = lb j) : LinesOK bl' lb' c (L ++ (List.range m).map (fun k => (f k, b))) := by
  intro i p hp
  rcases Nat.lt_or_ge i L.length with hi | hi
  · rw [List.getElem?_append_left hi] at hp
    have h3 := h2 (640 * c + i) (by omega)
    rw [h3.1, h3.2]
    exact h i p hp
  · rw [List.getElem?_append_right hi, List.getElem?_map] at hp
    rcases Nat.lt_or_ge (i - L.length) m with hm | hm
    · rw [List.getElem?_range hm] at hp
      cases hp
      have h3 := h1 (i - L.length) hm
      rw [show 640 * c + L.length + (i - L.length) = 640 * c + i by omega] at h3
      exact h3
    · rw [List.getElem?_eq_none (by rw [List.length_range]; exact hm)] at hp
      cases hp
theorem e_layBlock {P : Nat → Int} {c b : Nat} (hc : c < 4) (hb : b < 16) {H F S R : Int} {q : CS} {lc ov ah be sp bl lb : Nat → Int} (hS : 0 < S) (hS2 : S ≤ 500) (hF : 0 ≤ F) (hF2 : F ≤ 500) (hH : H ≤ 9999) (hH0 : 0 ≤ H) (hR : R = 0 ∨ R = 1) (hq : q.2.2 = 16 ∨ q.2.2 < 16) (hq0 : 0 ≤ q.1) (hq1 : q.1 ≤ 100000) (hfl : FlOK (pf P c b)) (hlc : lc c = q.2.1.length) (hlen : q.2.1.length + 40 ≤ 640) (hov : ov c = ovC q.2.2) (hL : LinesOK bl lb c q.2.1) :
    ∃ (lc' ov' sp' bl' lb' : Nat → Int), fX1_layBlock (ii c) (ii b) (ii H) (ii F) (ii S) (ii R) (ii q.1) (il lc) (il ov) (il ah) (il be) (il sp) (il bl) (il lb) (il P) = some (ii (blkS H F S R (pf P c b) b q).1.1, il lc', il ov', il (zu ah (16 * c + b) q.1), il (zu be (16 * c + b) (blkS H F S R (pf P c b) b q).1.1), il sp', il bl', il lb')
      ∧ lc' c = ((blkS H F S R (pf P c b) b q).1.2.1.length : Nat) ∧ (∀ j, j ≠ c → lc' j = lc j) ∧ ov' c = ovC (blkS H F S R (pf P c b) b q).1.2.2 ∧ (∀ j, j ≠ c → ov' j = ov j)
      ∧ LinesOK bl' lb' c (blkS H F S R (pf P c b) b q).1.2.1 ∧ (∀ j, j < 640 * c ∨ 640 * c + 640 ≤ j → bl' j = bl j ∧ lb' j = lb j)
      ∧ sp' (16 * c + b) = (blkS H F S R (pf P c b) b q).2 ∧ (∀ j, j ≠ 16 * c + b → sp' j = sp j) := by
  have hzu : ∀ n : Nat, n < 16 → zu ov c n c = ovC n := fun n hn => by
    rw [zu_eq]
    unfold ovC
    rw [if_neg (by omega)]
  have hsp : ∀ (d : Int) (j : Nat), j ≠ 16 * c + b → zu (zu sp (16 * c + b) 0) (16 * c + b) d j = sp j := fun d j hj => by
    rw [zu_ne hj, zu_ne hj]
  have hv : il ov ((c : Int)).toNat = ii (ovC q.2.2) := by
    rw [Int.toNat_natCast]
    show ii (ov c) = _
    rw [hov]
  have ht : ((c : Int) * 16 + b).toNat = 16 * c + b := by omega
  have hs : ∀ (x : Nat → Int) (v : Int) (k : (Nat → Int32) → Option (Int32 × (Nat → Int32) × (Nat → Int32) × (Nat → Int32) × (Nat → Int32) × (Nat → Int32) × (Nat → Int32) × (Nat → Int32))), aset 64 (il x) (ii ((c : Int) * 16 + b)) (ii v) k = k (il (zu x (16 * c + b) v)) := fun x v k => by
    rw [aset_ii (by omega) (by omega) (by omega), ht]
  have hs0 : ∀ (x : Nat → Int) (k : (Nat → Int32) → Option (Int32 × (Nat → Int32) × (Nat → Int32) × (Nat → Int32) × (Nat → Int32) × (Nat → Int32) × (Nat → Int32) × (Nat → Int32))), aset 64 (il x) (ii ((c : Int) * 16 + b)) 0 k = k (il (zu x (16 * c + b) 0)) := fun x k => by
    have h := hs x 0 k
    rw [← q_0] at h
    exact h
  unfold fX1_layBlock
  rw [e_isPlace hc hb, bd_eq, if_neg (by decide), q_16, ii_mul, ii_add, nm_eq, hs, hs0, aget_ii (by omega) (by omega) (by omega), hv]
  rcases hq with hq | hq
  · have hqn : ¬ q.2.2 ≠ 16 := fun h => h hq
    rw [if_pos (show ii (ovC q.2.2) = -5 by unfold ovC; rw [if_pos hq, show (-5 : Int32) = ii (-5) by rw [q_5, ii_neg]]), e_f0 hc hb]
    simp only [bd_eq]
    rcases hfl with ⟨h0, h1, h2, h3, h4, h5, h6, h7⟩ | ⟨h0, h1, h2⟩
    · obtain ⟨f, ef⟩ : ∃ f, f = blS F S q.1 (7 * pf P c b 2 / 10) (pf P c b 3) (pf P c b 4) := ⟨_, rfl⟩
      obtain ⟨m, em⟩ : ∃ m, m = cntS H (3 * pf P c b 2 / 10) f (pf P c b 1).toNat := ⟨_, rfl⟩
      have hblk : blkS H F S R (pf P c b) b q = ((if m = 0 then q.1 else f (m - 1) + 3 * pf P c b 2 / 10, q.2.1 ++ (List.range m).map (fun k => (f k, b)), if m < (pf P c b 1).toNat then b else 16), m) := by
        subst em
        subst ef
        unfold blkS
        rw [if_neg hqn, if_pos h0]
      have hm := cntS_le H (3 * pf P c b 2 / 10) f (pf P c b 1).toNat
      rw [← em] at hm
      obtain ⟨lc', bl', lb', e1, e2, e3, e4, e5⟩ := e_layLines (T0 := q.2.1.length) (ov := ov) (lc := lc) (bl := bl) (lb := lb) hc hb hS hS2 hF hF2 hH hH0 hq0 hq1 h1 h2 h3 h4 h5 h6 h7 hlen hlc ef em
      rw [hblk, h0, if_pos (by decide), e1]
      simp only [bd_eq]
      rw [hs, e_128 hc hb]
      refine ⟨lc', (if m < (pf P c b 1).toNat then zu ov c b else ov), zu (zu sp (16 * c + b) 0) (16 * c + b) m, bl', lb', rfl, ?_, e3, ?_, ?_, ?_, ?_, zu_eq _ _ _, hsp _⟩
      · rw [e2]
        simp only [List.length_append, List.length_map, List.length_range]
      · split
        · exact hzu b hb
        · exact hov.trans (congrArg ovC hq)
      · intro j hj
        split
        · exact zu_ne hj
        · rfl
      · exact LinesOK.app hL e4 (fun j hj => e5 j (Or.inl hj))
      · intro j hj
        exact e5 j (by omega)
    · rcases h0 with h0 | h0
      · have hblk : blkS H F S R (pf P c b) b q = (if H < q.1 + pf P c b 5 then ((q.1, q.2.1, b), 0) else ((if R = 1 then nxS F S (q.1 + pf P c b 5) else q.1 + pf P c b 5, q.2.1, 16), 1)) := by
          unfold blkS
          rw [if_neg hqn, if_neg (by omega), if_pos h0]
        rw [hblk, h0, if_neg (by decide), if_pos (by decide), e_layPicture hc hb hS hS2 hF hF2 hH hH0 hq0 hq1 hR h1 h2]
        rcases Classical.em (H < q.1 + pf P c b 5) with h | h
        · rw [if_pos h, if_pos h]
          simp only [bd_eq]
          rw [hs, e_128 hc hb]
          exact ⟨lc, zu ov c b, _, bl, lb, rfl, hlc, fun _ _ => rfl, hzu b hb, fun j hj => zu_ne hj, hL, fun _ _ => ⟨rfl, rfl⟩, zu_eq _ _ _, hsp _⟩
        · rw [if_neg h, if_neg h]
          simp only [bd_eq]
          rw [hs, e_128 hc hb]
          exact ⟨lc, ov, _, bl, lb, rfl, hlc, fun _ _ => rfl, hov.trans (congrArg ovC hq), fun j hj => rfl, hL, fun _ _ => ⟨rfl, rfl⟩, zu_eq _ _ _, hsp _⟩
      · have hblk : blkS H F S R (pf P c b) b q = ((if q.1 = 0 then 0 else q.1 + pf P c b 5, q.2.1, 16), 1) := by
          unfold blkS
          rw [if_neg hqn, if_neg (by omega), if_neg (by omega)]
        rw [hblk, h0, if_neg (by decide), if_neg (by decide), e_laySpace hc hb hq0 hq1]
        simp only [bd_eq]
        rw [hs, e_128 hc hb]
        exact ⟨lc, ov, _, bl, lb, rfl, hlc, fun _ _ => rfl, hov.trans (congrArg ovC hq), fun j hj => rfl, hL, fun _ _ => ⟨rfl, rfl⟩, zu_eq _ _ _, hsp _⟩
  · have hblk : blkS H F S R (pf P c b) b q = (q, 0) := by
      unfold blkS
      rw [if_pos (by omega)]
    rw [hblk, if_neg (show ¬ ii (ovC q.2.2) = -5 by
      unfold ovC
      rw [if_neg (by omega), show (-5 : Int32) = ii (-5) by rw [q_5, ii_neg], ii_eq (by omega) (by omega) (by omega) (by omega)]
      omega), e_128 hc hb]
    exact ⟨lc, ov, _, bl, lb, rfl, hlc, fun _ _ => rfl, hov, fun j hj => rfl, hL, fun _ _ => ⟨rfl, rfl⟩, zu_eq _ _ _, fun j hj => zu_ne hj⟩
