/-! the lines of a column stand deeper and deeper, on the page -/
theorem blS_lt {F S cu asc lead sn : Int} (hS : 0 < S) (hF : 0 ≤ F) (hl : 0 < lead) {i j : Nat} (h : i < j) : blS F S cu asc lead sn i < blS F S cu asc lead sn j := by
  induction j with
  | zero => exact absurd h (Nat.not_lt_zero i)
  | succ j ih =>
    have h1 := blS_mono (F := F) (S := S) (cu := cu) (asc := asc) (lead := lead) (sn := sn) hS hF hl j
    rcases Nat.lt_or_ge i j with h2 | h2
    · have := ih h2
      omega
    · have e : i = j := by omega
      rw [e]
      exact h1
def LSt (q : CS) : Prop := (∀ x, x ∈ q.2.1 → 0 ≤ x.1 ∧ x.1 ≤ q.1 ∧ x.1 ≤ 9999) ∧ q.2.1.Pairwise (fun a b => a.1 < b.1)
theorem LSt.cur {q : CS} {cu : Int} {o : Nat} (h : LSt q) (hc : q.1 ≤ cu) : LSt (cu, q.2.1, o) := ⟨fun x hx => by
  have h1 := h.1 x hx
  exact ⟨h1.1, by show x.1 ≤ cu; omega, h1.2.2⟩, h.2⟩
theorem blkS_st {H F S R : Int} {fl : Nat → Int} {b : Nat} {q : CS} (hS : 0 < S) (hS2 : S ≤ 500) (hF : 0 ≤ F) (hF2 : F ≤ 500) (hH : H ≤ 9999) (hfl : FlOK fl) (hq : 0 ≤ q.1) (hst : LSt q) : LSt (blkS H F S R fl b q).1 := by
  unfold blkS
  split
  · exact hst
  · split
    · rename_i h0
      have hf : 1 ≤ fl 1 ∧ fl 1 ≤ 40 ∧ 40 ≤ fl 2 ∧ fl 2 ≤ 400 ∧ fl 2 ≤ fl 3 := by
        rcases hfl with h | h
        · exact ⟨h.2.1, h.2.2.1, h.2.2.2.1, h.2.2.2.2.1, h.2.2.2.2.2.1⟩
        · omega
      have ho := cntS_ok H (3 * fl 2 / 10) (blS F S q.1 (7 * fl 2 / 10) (fl 3) (fl 4)) (fl 1).toNat
      have hb := blS_bound (F := F) (S := S) (cu := q.1) (asc := 7 * fl 2 / 10) (lead := fl 3) (sn := fl 4) hS hS2 hF hF2 hq (by omega) (by omega)
      have hlt := fun (i j : Nat) (h : i < j) => blS_lt (F := F) (S := S) (cu := q.1) (asc := 7 * fl 2 / 10) (lead := fl 3) (sn := fl 4) hS hF (by omega) h
      generalize cntS H (3 * fl 2 / 10) (blS F S q.1 (7 * fl 2 / 10) (fl 3) (fl 4)) (fl 1).toNat = m at ho ⊢
      generalize blS F S q.1 (7 * fl 2 / 10) (fl 3) (fl 4) = f at ho hb hlt ⊢
      have hge : ∀ i, q.1 + 7 * fl 2 / 10 ≤ f i := fun i => by
        have h1 := (hb i).1
        have h2 : 0 ≤ (i : Int) * fl 3 := Int.mul_nonneg (by omega) (by omega)
        omega
      have hcur : ∀ i, i < m → f i ≤ (if m = 0 then q.1 else f (m - 1) + 3 * fl 2 / 10) := fun i hi => by
        rw [if_neg (by omega)]
        rcases Nat.lt_or_ge i (m - 1) with h | h
        · have := hlt i (m - 1) h
          omega
        · have e : i = m - 1 := by omega
          rw [e]
          omega
      have hcq : q.1 ≤ (if m = 0 then q.1 else f (m - 1) + 3 * fl 2 / 10) := by
        split
        · exact Int.le_refl _
        · have := hge (m - 1)
          omega
      refine ⟨fun x hx => ?_, ?_⟩
      · rcases List.mem_append.mp hx with hx | hx
        · have h1 := hst.1 x hx
          refine ⟨h1.1, ?_, h1.2.2⟩
          show x.1 ≤ (if m = 0 then q.1 else f (m - 1) + 3 * fl 2 / 10)
          omega
        · obtain ⟨i, hi, rfl⟩ := List.mem_map.mp hx
          have him := List.mem_range.mp hi
          have h1 := hge i
          have h2 := ho i him
          refine ⟨by show 0 ≤ f i; omega, hcur i him, by show f i ≤ 9999; omega⟩
      · show List.Pairwise _ (q.2.1 ++ _)
        rw [List.pairwise_append]
        refine ⟨hst.2, ?_, fun x hx y hy => ?_⟩
        · rw [List.pairwise_map]
          exact List.pairwise_lt_range.imp (fun {i j} h => hlt i j h)
        · obtain ⟨i, hi, rfl⟩ := List.mem_map.mp hy
          have h1 := hst.1 x hx
          have h2 := hge i
          show x.1 < f i
          omega
    · split
      · rename_i h0 h1
        have hf : 1 ≤ fl 5 ∧ fl 5 ≤ 3000 := by
          rcases hfl with h | h
          · omega
          · exact h.2
        split
        · exact hst.cur (Int.le_refl _)
        · have hn := nxS_ge (F := F) (S := S) (p := q.1 + fl 5) hS hF
          refine hst.cur ?_
          split <;> omega
      · rename_i h0 h1
        have hf : 1 ≤ fl 5 ∧ fl 5 ≤ 3000 := by
          rcases hfl with h | h
          · omega
          · exact h.2
        refine hst.cur ?_
        split <;> omega
theorem csS_st {H F S R : Int} {fl : Nat → Nat → Int} {n : Nat} (hS : 0 < S) (hS2 : S ≤ 500) (hF : 0 ≤ F) (hF2 : F ≤ 500) (hH : H ≤ 9999) (hfl : ∀ b, b < n → FlOK (fl b)) : ∀ b, b ≤ n → LSt (csS H F S R fl b) := by
  intro b
  induction b with
  | zero =>
    intro _
    exact ⟨fun x hx => absurd hx List.not_mem_nil, List.Pairwise.nil⟩
  | succ b ih =>
    intro hb
    exact blkS_st hS hS2 hF hF2 hH (hfl b (by omega)) (csS_bound hS hS2 hF hF2 hH hfl b (by omega)).1 (ih (by omega))
theorem dnS_le {H F S R : Int} {fl : Nat → Int} {b : Nat} {q : CS} (hfl : FlOK fl) : (blkS H F S R fl b q).2 ≤ 40 := by
  unfold blkS
  split
  · exact Nat.zero_le _
  · split
    · rename_i h0
      have hm := cntS_le H (3 * fl 2 / 10) (blS F S q.1 (7 * fl 2 / 10) (fl 3) (fl 4)) (fl 1).toNat
      have hf : fl 1 ≤ 40 := by
        unfold FlOK at hfl
        omega
      show cntS H (3 * fl 2 / 10) (blS F S q.1 (7 * fl 2 / 10) (fl 3) (fl 4)) (fl 1).toNat ≤ 40
      omega
    · split
      · split
        · exact Nat.zero_le _
        · exact (by decide : 1 ≤ 40)
      · exact (by decide : 1 ≤ 40)
/-! what both systems have set, side by side -/
def nnP (P : Nat → Int) (S : Int) (c : Nat) : Nat := (csP P S c (nP P c)).2.1.length
def ffP (P : Nat → Int) (S : Int) (c i : Nat) : Int := ((csP P S c (nP P c)).2.1.getD i (0, 0)).1
def ggP (P : Nat → Int) (S : Int) (c i : Nat) : Int := ((csP P S c (nP P c)).2.1.getD i (0, 0)).2
/-- the lines of the class -/
def CL (P : Nat → Int) (S : Int) (lc bl lb : Nat → Int) : Prop := ∀ c, c < 4 → lc c = (nnP P S c : Nat) ∧ ∀ i, i < nnP P S c → bl (640 * c + i) = ffP P S c i ∧ lb (640 * c + i) = ggP P S c i
theorem getD_some {L : List (Int × Nat)} {i : Nat} (h : i < L.length) : L[i]? = some (L.getD i (0, 0)) := by
  rw [List.getElem?_eq_getElem h, List.getD_eq_getElem?_getD, List.getElem?_eq_getElem h]
  rfl
theorem LayOK.cl {P : Nat → Int} {S : Int} {lc en ov ah be sp bl lb : Nat → Int} (h : LayOK P S lc en ov ah be sp bl lb) : CL P S lc bl lb := by
  intro c hc
  obtain ⟨⟨h1, h2, h3, h4⟩, h5⟩ := h c hc
  refine ⟨h1, fun i hi => ?_⟩
  exact h3 i _ (getD_some hi)
theorem MLayOK.cl {P Q : Nat → Int} (hRS : RS P Q) {S : Int} {my en ov ah be dn li ow : Nat → Int} (h : MLayOK Q S my en ov ah be dn li ow) : CL P S my li ow := by
  intro c hc
  obtain ⟨⟨h1, h2, h3, h4⟩, h5⟩ := h c hc
  have e : mP Q S c (mN Q c) = csP P S c (nP P c) := by rw [← hRS.n hc, hRS.cs hc _ (Nat.le_refl _)]
  rw [e] at h1 h3
  refine ⟨h1, fun i hi => ?_⟩
  exact h3 i _ (getD_some hi)
theorem ffP_b {P : Nat → Int} {S : Int} (hP : PgOK P) (hS : 20 ≤ S) (hS2 : S ≤ 500) {c : Nat} (hc : c < 4) : nnP P S c ≤ 640 ∧ (∀ i, i < nnP P S c → 0 ≤ ffP P S c i ∧ ffP P S c i ≤ 9999) ∧ ∀ i j, i < j → j < nnP P S c → ffP P S c i < ffP P S c j := by
  obtain ⟨h0, h1, h2, h3, h4, h5, h6, h7, h8, h9⟩ := id hP
  have h10 := h9 c hc
  have hst : LSt (csP P S c (nP P c)) := csS_st (n := nP P c) (by omega) hS2 h2 h3 h1 (fun b hb => (h10.2.2 b (by unfold nP at hb; omega)).1) _ (Nat.le_refl _)
  have hb := csP_bound hP hS hS2 hc (nP P c) (Nat.le_refl _)
  have hn : nP P c ≤ 16 := by unfold nP; omega
  refine ⟨by unfold nnP; omega, fun i hi => ?_, fun i j hij hj => ?_⟩
  · have hm : (csP P S c (nP P c)).2.1.getD i (0, 0) ∈ (csP P S c (nP P c)).2.1 := List.mem_of_getElem? (getD_some hi)
    have := hst.1 _ hm
    exact ⟨this.1, this.2.2⟩
  · have hi : i < nnP P S c := by omega
    have h := List.pairwise_iff_getElem.mp hst.2 i j hi hj hij
    have e1 : (csP P S c (nP P c)).2.1.getD i (0, 0) = (csP P S c (nP P c)).2.1[i] := by
      rw [List.getD_eq_getElem?_getD, List.getElem?_eq_getElem hi]
      rfl
    have e2 : (csP P S c (nP P c)).2.1.getD j (0, 0) = (csP P S c (nP P c)).2.1[j] := by
      rw [List.getD_eq_getElem?_getD, List.getElem?_eq_getElem hj]
      rfl
    unfold ffP
    rw [e1, e2]
    exact h
theorem RS.over {P Q : Nat → Int} (h : RS P Q) {S : Int} {lc en ov ah be sp bl lb my enz ovz ahz bez dn li ow : Nat → Int} (h1 : LayOK P S lc en ov ah be sp bl lb) (h2 : MLayOK Q S my enz ovz ahz bez dn li ow) {c : Nat} (hc : c < 4) : (ov c = -5 ∧ ovz c = 16) ∨ ∃ o : Nat, (o : Int) < pn P c ∧ ov c = o ∧ ovz c = o := by
  obtain ⟨⟨a1, a2, a3, a4⟩, a5⟩ := h1 c hc
  obtain ⟨⟨b1, b2, b3, b4⟩, b5⟩ := h2 c hc
  have e : mP Q S c (mN Q c) = csP P S c (nP P c) := by rw [← h.n hc, h.cs hc _ (Nat.le_refl _)]
  rw [e] at b2
  have ho := csS_over (H := P 0) (F := P 1) (S := S) (R := P 3) (fl := pf P c) (nP P c)
  have ho2 : (csP P S c (nP P c)).2.2 = 16 ∨ (csP P S c (nP P c)).2.2 < nP P c := ho
  have hp := (h.at hc).2
  unfold ovC at a2
  rcases Classical.em ((csP P S c (nP P c)).2.2 = 16) with q | q
  · left
    rw [if_pos q] at a2
    rw [q] at b2
    exact ⟨a2, b2⟩
  · right
    rw [if_neg q] at a2
    have hnP : (nP P c : Int) = pn P c := by unfold nP; omega
    refine ⟨_, ?_, a2, b2⟩
    omega
theorem RS.parts {P Q : Nat → Int} (h : RS P Q) {S : Int} {lc en ov ah be sp bl lb my enz ovz ahz bez dn li ow : Nat → Int} (h1 : LayOK P S lc en ov ah be sp bl lb) (h2 : MLayOK Q S my enz ovz ahz bez dn li ow) {c b : Nat} (hc : c < 4) (hb : (b : Int) < pn P c) : ∃ m : Nat, m ≤ 40 ∧ sp (16 * c + b) = m ∧ dn (16 * c + b) = m ∧ (m ≠ 0 → ah (16 * c + b) = ahz (16 * c + b) ∧ be (16 * c + b) = bez (16 * c + b)) := by
  obtain ⟨⟨a1, a2, a3, a4⟩, a5⟩ := h1 c hc
  obtain ⟨⟨b1, b2, b3, b4⟩, b5⟩ := h2 c hc
  have hbn : b < nP P c := by unfold nP; omega
  have hbm : b < mN Q c := by rw [← h.n hc]; exact hbn
  have f1 := a4 b hbn
  have f2 := b4 b hbm
  have e := h.dn (S := S) hc b hbn
  have g1 := h.cs (S := S) hc b (by omega)
  have g2 := h.cs (S := S) hc (b + 1) (by omega)
  refine ⟨dnP P S c b, ?_, f1.2.2, by rw [f2.1, ← e], fun hm => ?_⟩
  · exact dnS_le ((h.at hc).2.2.2 b hb).1.1
  · rw [f1.1, f1.2.1]
    have f3 := f2.2 (by rw [← e]; exact hm)
    rw [f3.1, f3.2, g1, g2]
    exact ⟨rfl, rfl⟩
