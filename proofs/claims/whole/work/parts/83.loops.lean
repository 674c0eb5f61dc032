/-! loops that count up: what they hold after k turns -/
theorem loop2 {β : Type} {F : Nat → Int32 → Int32 → Option β} {t : Nat → Int} {N : Nat} {R : Option β} (hs : ∀ n k, k < N → F (n + 1) (ii (t k)) (ii (k : Nat)) = F n (ii (t (k + 1))) (ii ((k + 1 : Nat) : Int))) (he : ∀ n, F (n + 1) (ii (t N)) (ii (N : Nat)) = R) :
    ∀ (r k fu : Nat), k + r = N → r < fu → F fu (ii (t k)) (ii (k : Nat)) = R := by
  intro r
  induction r with
  | zero =>
    intro k fu hk hf
    obtain ⟨n, rfl⟩ : ∃ n, fu = n + 1 := ⟨fu - 1, by omega⟩
    have e : k = N := by omega
    rw [e]
    exact he n
  | succ r ih =>
    intro k fu hk hf
    obtain ⟨n, rfl⟩ : ∃ n, fu = n + 1 := ⟨fu - 1, by omega⟩
    rw [hs n k (by omega)]
    exact ih (k + 1) n (by omega) (by omega)
theorem loopFu {β : Type} {F : Nat → Int32 → Int32 → Option β} {t : Nat → Int} {N : Nat} {R : Option β} (hN : N < 100000) (hs : ∀ n k, k < N → F (n + 1) (ii (t k)) (ii (k : Nat)) = F n (ii (t (k + 1))) (ii ((k + 1 : Nat) : Int))) (he : ∀ n, F (n + 1) (ii (t N)) (ii (N : Nat)) = R) (h0 : t 0 = 0) : F Fu 0 0 = R := by
  have h := loop2 hs he N 0 Fu (by omega) hN
  rw [h0] at h
  exact h
def sumF (f : Nat → Int) : Nat → Int
  | 0 => 0
  | n + 1 => sumF f n + f n
def maxF (f : Nat → Int) : Nat → Int
  | 0 => 0
  | n + 1 => if maxF f n < f n then f n else maxF f n
def hsF (f : Nat → Int) (p : Int) : Nat → Int
  | 0 => 0
  | n + 1 => if f n = p then 1 else hsF f p n
theorem sumF_s (f : Nat → Int) (k : Nat) : sumF f (k + 1) = sumF f k + f k := rfl
theorem maxF_s (f : Nat → Int) (k : Nat) : maxF f (k + 1) = if maxF f k < f k then f k else maxF f k := rfl
theorem hsF_s (f : Nat → Int) (p : Int) (k : Nat) : hsF f p (k + 1) = if f k = p then 1 else hsF f p k := rfl
theorem hsF_01 (f : Nat → Int) (p : Int) (n : Nat) : hsF f p n = 0 ∨ hsF f p n = 1 := by
  induction n with
  | zero => exact Or.inl rfl
  | succ n ih =>
    unfold hsF
    split
    · exact Or.inr rfl
    · exact ih
theorem hsF_one {f : Nat → Int} {p : Int} {n k : Nat} (hk : k < n) (h : f k = p) : hsF f p n = 1 := by
  induction n with
  | zero => exact absurd hk (Nat.not_lt_zero k)
  | succ n ih =>
    unfold hsF
    rcases Classical.em (f n = p) with q | q
    · rw [if_pos q]
    · rw [if_neg q]
      refine ih ?_
      rcases Nat.lt_or_ge k n with h1 | h1
      · exact h1
      · have e : k = n := by omega
        rw [e] at h
        exact absurd h q
theorem hsF_zero {f : Nat → Int} {p : Int} {n : Nat} (h : ∀ i, i < n → f i ≠ p) : hsF f p n = 0 := by
  induction n with
  | zero => rfl
  | succ n ih =>
    unfold hsF
    rw [if_neg (h n (by omega))]
    exact ih (fun i hi => h i (by omega))
theorem hsF_iff {f : Nat → Int} {p : Int} {n : Nat} : hsF f p n = 1 ↔ ∃ k, k < n ∧ f k = p := by
  constructor
  · intro h
    rcases Classical.em (∃ k, k < n ∧ f k = p) with q | q
    · exact q
    · rw [hsF_zero (fun i hi e => q ⟨i, hi, e⟩)] at h
      omega
  · rintro ⟨k, h1, h2⟩
    exact hsF_one h1 h2
theorem sumF_congr {f g : Nat → Int} {n : Nat} (h : ∀ i, i < n → f i = g i) : sumF f n = sumF g n := by
  induction n with
  | zero => rfl
  | succ n ih =>
    unfold sumF
    rw [ih (fun i hi => h i (by omega)), h n (by omega)]
theorem sumF_b {f : Nat → Int} {n : Nat} {B : Int} (h : ∀ i, i < n → 0 ≤ f i ∧ f i ≤ B) : 0 ≤ sumF f n ∧ sumF f n ≤ n * B := by
  induction n with
  | zero =>
    unfold sumF
    omega
  | succ n ih =>
    have h1 := ih (fun i hi => h i (by omega))
    have h2 := h n (by omega)
    unfold sumF
    rw [show ((n + 1 : Nat) : Int) * B = n * B + B by rw [Int.natCast_add, Int.add_mul]; omega]
    omega
theorem maxF_b {f : Nat → Int} {n : Nat} {B : Int} (hB : 0 ≤ B) (h : ∀ i, i < n → 0 ≤ f i ∧ f i ≤ B) : 0 ≤ maxF f n ∧ maxF f n ≤ B := by
  induction n with
  | zero =>
    unfold maxF
    omega
  | succ n ih =>
    have h1 := ih (fun i hi => h i (by omega))
    have h2 := h n (by omega)
    unfold maxF
    split <;> omega
/-! the class's lines -/
section
variable {P : Nat → Int} {S : Int} {lc bl lb : Nat → Int}
theorem CL.count (h : CL P S lc bl lb) {c : Nat} (hc : c < 4) : fX1_linesOf (ii c) (il lc) = some (ii (nnP P S c : Nat)) := by
  rw [e_linesOf hc, (h c hc).1]
theorem CL.base (h : CL P S lc bl lb) {c i : Nat} (hc : c < 4) (hn : nnP P S c ≤ 640) (hi : i < nnP P S c) : fX1_baselineOf (ii c) (ii i) (il bl) = some (ii (ffP P S c i)) := by
  unfold fX1_baselineOf fX1_isLinePlace
  rw [e_col (by omega) (by omega), bd_eq, if_neg ii10, if_neg (by rw [q_0, ii_lt (by omega) (by omega) (by omega) (by omega)]; omega), if_neg (by rw [q_640, ii_le (by omega) (by omega) (by omega) (by omega)]; omega), bd_eq, if_neg (by decide), q_640, ii_mul, ii_add, aget_ii (by omega) (by omega) (by omega), il_app, show ((c : Int) * 640 + i).toNat = 640 * c + i by omega, ((h c hc).2 i hi).1]
theorem CL.owner (h : CL P S lc bl lb) {c i : Nat} (hc : c < 4) (hn : nnP P S c ≤ 640) (hi : i < nnP P S c) : fX1_blockOfLine (ii c) (ii i) (il lb) = some (ii (ggP P S c i)) := by
  unfold fX1_blockOfLine fX1_isLinePlace
  rw [e_col (by omega) (by omega), bd_eq, if_neg ii10, if_neg (by rw [q_0, ii_lt (by omega) (by omega) (by omega) (by omega)]; omega), if_neg (by rw [q_640, ii_le (by omega) (by omega) (by omega) (by omega)]; omega), bd_eq, if_neg (by decide), q_640, ii_mul, ii_add, aget_ii (by omega) (by omega) (by omega), il_app, show ((c : Int) * 640 + i).toNat = 640 * c + i by omega, ((h c hc).2 i hi).2]
theorem le_iiT {a b : Nat} (ha : a < 100000) (hb : b < 100000) (h : a ≤ b) : ii a ≤ ii b := by
  rw [ii_le (by omega) (by omega) (by omega) (by omega)]
  omega
theorem le_iiF {a b : Nat} (ha : a < 100000) (hb : b < 100000) (h : b < a) : ¬ ii a ≤ ii b := by
  rw [ii_le (by omega) (by omega) (by omega) (by omega)]
  omega
theorem n4 {k : Nat} (h : k < 4) : ¬ (4 : Int32) ≤ ii (k : Nat) := by
  rw [q_4, ii_le (by omega) (by omega) (by omega) (by omega)]
  omega
theorem ii_suc (k : Nat) : ii (k : Nat) + 1 = ii ((k + 1 : Nat) : Int) := by
  rw [q_1, ii_add]
  rfl
/-- the drift of a line -/
def drP (P : Nat → Int) (S : Int) (c i : Nat) : Int := (ffP P S c i - P 1) % S
/-- whether a line is on the grid -/
def onP (P : Nat → Int) (S : Int) (c i : Nat) : Int := if P 1 ≤ ffP P S c i ∧ drP P S c i = 0 then 1 else 0
theorem drP_b (hP : PgOK P) (hS : 20 ≤ S) (hS2 : S ≤ 500) (c i : Nat) : 0 ≤ drP P S c i ∧ drP P S c i ≤ 500 := by
  have h1 := Int.emod_nonneg (ffP P S c i - P 1) (show S ≠ 0 by omega)
  have h2 := Int.emod_lt_of_pos (ffP P S c i - P 1) (show 0 < S by omega)
  unfold drP
  omega
theorem CL.sumD (h : CL P S lc bl lb) (hP : PgOK P) (hS : 20 ≤ S) (hS2 : S ≤ 500) {c : Nat} (hc : c < 4) : fX1_sumOfDrifts (ii c) (ii (P 1)) (ii S) (il lc) (il bl) = some (ii (sumF (drP P S c) (nnP P S c))) := by
  obtain ⟨b1, b2, b3⟩ := ffP_b hP hS hS2 hc
  unfold fX1_sumOfDrifts
  refine loopFu (t := fun k => sumF (drP P S c) k) (N := nnP P S c) (by omega) (fun n k hk => ?_) (fun n => ?_) rfl
  · rw [fX1_sumOfDrifts_4]
    dsimp only
    have hb := b2 k hk
    rw [h.count hc, bd_eq, if_neg (le_iiF (by omega) (by omega) hk), h.base hc b1 hk, bd_eq, e_drift (by omega) hS2 hP.2.2.1 hP.2.2.2.1 (by omega) (by omega), bd_eq, nm_eq, nm_eq, ii_add, ii_suc]
    rfl
  · rw [fX1_sumOfDrifts_4]
    dsimp only
    rw [h.count hc, bd_eq, if_pos (le_iiT (by omega) (by omega) (Nat.le_refl _))]
theorem CL.maxD (h : CL P S lc bl lb) (hP : PgOK P) (hS : 20 ≤ S) (hS2 : S ≤ 500) {c : Nat} (hc : c < 4) : fX1_greatestDrift (ii c) (ii (P 1)) (ii S) (il lc) (il bl) = some (ii (maxF (drP P S c) (nnP P S c))) := by
  obtain ⟨b1, b2, b3⟩ := ffP_b hP hS hS2 hc
  unfold fX1_greatestDrift
  refine loopFu (t := fun k => maxF (drP P S c) k) (N := nnP P S c) (by omega) (fun n k hk => ?_) (fun n => ?_) rfl
  · rw [fX1_greatestDrift_4]
    dsimp only
    have hb := b2 k hk
    have hm := maxF_b (f := drP P S c) (n := k) (B := 500) (by omega) (fun i hi => drP_b hP hS hS2 c i)
    have hd := drP_b hP hS hS2 c k
    rw [h.count hc, bd_eq, if_neg (le_iiF (by omega) (by omega) hk), h.base hc b1 hk, bd_eq, e_drift (by omega) hS2 hP.2.2.1 hP.2.2.2.1 (by omega) (by omega), bd_eq, nm_eq, nm_eq, ii_suc]
    show fX1_greatestDrift_4 _ _ _ _ _ n (if ii (maxF (drP P S c) k) < ii (drP P S c k) then ii (drP P S c k) else ii (maxF (drP P S c) k)) _ = _
    rw [maxF_s]
    rcases Int.lt_or_le (maxF (drP P S c) k) (drP P S c k) with q | q
    · rw [if_pos (by rw [ii_lt (by omega) (by omega) (by omega) (by omega)]; exact q), if_pos q]
    · rw [if_neg (by rw [ii_lt (by omega) (by omega) (by omega) (by omega)]; omega), if_neg (by omega)]
  · rw [fX1_greatestDrift_4]
    dsimp only
    rw [h.count hc, bd_eq, if_pos (le_iiT (by omega) (by omega) (Nat.le_refl _))]
theorem CL.onG (h : CL P S lc bl lb) (hP : PgOK P) (hS : 20 ≤ S) (hS2 : S ≤ 500) {c i : Nat} (hc : c < 4) (hi : i < nnP P S c) : fX1_isOnGrid (ii (ffP P S c i)) (ii (P 1)) (ii S) = some (ii (onP P S c i)) := by
  obtain ⟨b1, b2, b3⟩ := ffP_b hP hS hS2 hc
  have hb := b2 i hi
  have hd := drP_b hP hS hS2 c i
  obtain ⟨h0, h1, h2, h3, h4⟩ := id hP
  unfold fX1_isOnGrid onP
  rcases Int.lt_or_le (ffP P S c i) (P 1) with q | q
  · rw [if_pos (by rw [ii_lt (by omega) (by omega) (by omega) (by omega)]; exact q), if_neg (by omega)]
    rfl
  · rw [if_neg (by rw [ii_lt (by omega) (by omega) (by omega) (by omega)]; omega), e_drift (by omega) hS2 h2 h3 (by omega) (by omega), bd_eq]
    show (if ii (drP P S c i) = 0 then _ else _) = _
    rcases Classical.em (drP P S c i = 0) with w | w
    · rw [w, if_pos ii00, if_pos ⟨q, rfl⟩]
      rfl
    · rw [if_neg (by rw [q_0, ii_eq (by omega) (by omega) (by omega) (by omega)]; exact w), if_neg (fun v => w v.2)]
      rfl
theorem onP_01 (P : Nat → Int) (S : Int) (c i : Nat) : onP P S c i = 0 ∨ onP P S c i = 1 := by
  unfold onP
  split
  · exact Or.inr rfl
  · exact Or.inl rfl
theorem CL.cntG (h : CL P S lc bl lb) (hP : PgOK P) (hS : 20 ≤ S) (hS2 : S ≤ 500) {c : Nat} (hc : c < 4) : fX1_linesOnGrid (ii c) (ii (P 1)) (ii S) (il lc) (il bl) = some (ii (sumF (onP P S c) (nnP P S c))) := by
  obtain ⟨b1, b2, b3⟩ := ffP_b hP hS hS2 hc
  unfold fX1_linesOnGrid
  refine loopFu (t := fun k => sumF (onP P S c) k) (N := nnP P S c) (by omega) (fun n k hk => ?_) (fun n => ?_) rfl
  · rw [fX1_linesOnGrid_4]
    dsimp only
    rw [h.count hc, bd_eq, if_neg (le_iiF (by omega) (by omega) hk), h.base hc b1 hk, bd_eq, h.onG hP hS hS2 hc hk, bd_eq]
    unfold fX1_linesOnGrid_29
    rw [sumF_s]
    rcases onP_01 P S c k with w | w
    · rw [w, if_pos ii00, nm_eq, ii_suc, Int.add_zero]
    · rw [w, if_neg ii10, nm_eq, nm_eq, ii_suc, q_1, ii_add]
  · rw [fX1_linesOnGrid_4]
    dsimp only
    rw [h.count hc, bd_eq, if_pos (le_iiT (by omega) (by omega) (Nat.le_refl _))]
/-- whether a column has a line at a place; no column has none -/
def htP (P : Nat → Int) (S : Int) (c : Nat) (p : Int) : Int := hsF (ffP P S c) p (nnP P S c)
theorem CL.has (h : CL P S lc bl lb) (hP : PgOK P) (hS : 20 ≤ S) (hS2 : S ≤ 500) {c : Nat} (hc : c < 4) {p : Int} (hp1 : -2147483648 ≤ p) (hp2 : p < 2147483648) : fX1_hasLineAt (ii c) (ii p) (il lc) (il bl) = some (ii (htP P S c p)) := by
  obtain ⟨b1, b2, b3⟩ := ffP_b hP hS hS2 hc
  have key : ∀ (r k fu : Nat), k + r = nnP P S c → r < fu → (∀ i, i < k → ffP P S c i ≠ p) → fX1_hasLineAt_2 (ii c) (ii p) (il lc) (il bl) fu (ii (k : Nat)) = some (ii (htP P S c p)) := by
    intro r
    induction r with
    | zero =>
      intro k fu hk hf hno
      obtain ⟨n, rfl⟩ : ∃ n, fu = n + 1 := ⟨fu - 1, by omega⟩
      have e : k = nnP P S c := by omega
      rw [fX1_hasLineAt_2]
      dsimp only
      rw [h.count hc, bd_eq, if_pos (le_iiT (by omega) (by omega) (by omega))]
      rw [e] at hno
      unfold htP
      rw [hsF_zero hno]
      rfl
    | succ r ih =>
      intro k fu hk hf hno
      obtain ⟨n, rfl⟩ : ∃ n, fu = n + 1 := ⟨fu - 1, by omega⟩
      have hb := b2 k (by omega)
      rw [fX1_hasLineAt_2]
      dsimp only
      rw [h.count hc, bd_eq, if_neg (le_iiF (by omega) (by omega) (by omega)), h.base hc b1 (by omega), bd_eq]
      rcases Classical.em (ffP P S c k = p) with q | q
      · rw [if_pos (by rw [q])]
        unfold htP
        rw [hsF_one (show k < nnP P S c by omega) q]
        rfl
      · rw [if_neg (by rw [ii_eq (by omega) (by omega) (by omega) (by omega)]; exact q), nm_eq, ii_suc]
        refine ih (k + 1) n (by omega) (by omega) (fun i hi => ?_)
        rcases Nat.lt_or_ge i k with h1 | h1
        · exact hno i h1
        · have e : i = k := by omega
          rw [e]
          exact q
  unfold fX1_hasLineAt
  exact key (nnP P S c) 0 Fu (by omega) (by rw [Fu_s]; omega) (fun i hi => absurd hi (Nat.not_lt_zero i))
theorem CL.hasF {c : Int} (hc1 : -2147483648 ≤ c) (hc2 : c < 2147483648) (hc : c < 0 ∨ 4 ≤ c) {p : Int32} : fX1_hasLineAt (ii c) p (il lc) (il bl) = some (ii 0) := by
  unfold fX1_hasLineAt
  rw [Fu_s, fX1_hasLineAt_2]
  dsimp only
  unfold fX1_linesOf
  rw [e_colF hc1 hc2 hc, bd_eq, if_pos ii00, bd_eq, if_pos (by decide)]
  rfl
/-- whether a line is met by a column beside its own -/
def beP (P : Nat → Int) (S : Int) (c : Nat) (p : Int) : Int := if c = 0 then 0 else htP P S (c - 1) p
def afP (P : Nat → Int) (S : Int) (c : Nat) (p : Int) : Int := if 3 ≤ c then 0 else htP P S (c + 1) p
def meP (P : Nat → Int) (S : Int) (c i : Nat) : Int := if beP P S c (ffP P S c i) = 1 ∨ afP P S c (ffP P S c i) = 1 then 1 else 0
theorem htP_01 (P : Nat → Int) (S : Int) (c : Nat) (p : Int) : htP P S c p = 0 ∨ htP P S c p = 1 := hsF_01 _ _ _
theorem beP_01 (P : Nat → Int) (S : Int) (c : Nat) (p : Int) : beP P S c p = 0 ∨ beP P S c p = 1 := by
  unfold beP
  split
  · exact Or.inl rfl
  · exact htP_01 _ _ _ _
theorem afP_01 (P : Nat → Int) (S : Int) (c : Nat) (p : Int) : afP P S c p = 0 ∨ afP P S c p = 1 := by
  unfold afP
  split
  · exact Or.inl rfl
  · exact htP_01 _ _ _ _
theorem CL.before (h : CL P S lc bl lb) (hP : PgOK P) (hS : 20 ≤ S) (hS2 : S ≤ 500) {c : Nat} (hc : c < 4) {p : Int} (hp1 : -2147483648 ≤ p) (hp2 : p < 2147483648) : fX1_hasLineAt (ii ((c : Int) - 1)) (ii p) (il lc) (il bl) = some (ii (beP P S c p)) := by
  unfold beP
  rcases Nat.eq_zero_or_pos c with q | q
  · rw [if_pos q]
    exact CL.hasF (by omega) (by omega) (by omega)
  · rw [if_neg (by omega), show ((c : Int) - 1) = ((c - 1 : Nat) : Int) by omega]
    exact h.has hP hS hS2 (by omega) hp1 hp2
theorem CL.after (h : CL P S lc bl lb) (hP : PgOK P) (hS : 20 ≤ S) (hS2 : S ≤ 500) {c : Nat} (hc : c < 4) {p : Int} (hp1 : -2147483648 ≤ p) (hp2 : p < 2147483648) : fX1_hasLineAt (ii ((c : Int) + 1)) (ii p) (il lc) (il bl) = some (ii (afP P S c p)) := by
  unfold afP
  rcases Nat.lt_or_ge c 3 with q | q
  · rw [if_neg (by omega), show ((c : Int) + 1) = ((c + 1 : Nat) : Int) by omega]
    exact h.has hP hS hS2 (by omega) hp1 hp2
  · rw [if_pos q]
    exact CL.hasF (by omega) (by omega) (by omega)
theorem CL.met (h : CL P S lc bl lb) (hP : PgOK P) (hS : 20 ≤ S) (hS2 : S ≤ 500) {c : Nat} (hc : c < 4) : fX1_metLines (ii c) (il lc) (il bl) = some (ii (sumF (meP P S c) (nnP P S c))) := by
  obtain ⟨b1, b2, b3⟩ := ffP_b hP hS hS2 hc
  unfold fX1_metLines
  refine loopFu (t := fun k => sumF (meP P S c) k) (N := nnP P S c) (by omega) (fun n k hk => ?_) (fun n => ?_) rfl
  · have hb := b2 k hk
    rw [fX1_metLines_4]
    dsimp only
    rw [h.count hc, bd_eq, if_neg (le_iiF (by omega) (by omega) hk), h.base hc b1 hk, bd_eq, q_1, ii_sub, ii_add, h.before hP hS hS2 hc (by omega) (by omega), bd_eq]
    unfold fX1_metLines_45 fX1_metLines_48
    rw [sumF_s]
    rcases beP_01 P S c (ffP P S c k) with w | w
    · rw [w, if_pos ii00, h.after hP hS hS2 hc (by omega) (by omega), bd_eq]
      rcases afP_01 P S c (ffP P S c k) with v | v
      · have e : meP P S c k = 0 := by
          unfold meP
          rw [if_neg (by omega)]
        rw [v, if_pos ii00, nm_eq, ii_suc, e, Int.add_zero]
      · have e : meP P S c k = 1 := by
          unfold meP
          rw [if_pos (Or.inr v)]
        rw [v, if_neg ii10, nm_eq, nm_eq, ii_suc, e, q_1, ii_add]
    · have e : meP P S c k = 1 := by
        unfold meP
        rw [if_pos (Or.inl w)]
      rw [w, if_neg ii10, nm_eq, nm_eq, ii_suc, e, q_1, ii_add]
  · rw [fX1_metLines_4]
    dsimp only
    rw [h.count hc, bd_eq, if_pos (le_iiT (by omega) (by omega) (Nat.le_refl _))]
theorem CL.four {β : Type} {F : Nat → Int32 → Int32 → Option β} {t : Nat → Int} {R : Option β} (hs : ∀ n k, k < 4 → F (n + 1) (ii (t k)) (ii (k : Nat)) = F n (ii (t (k + 1))) (ii ((k + 1 : Nat) : Int))) (he : ∀ n, F (n + 1) (ii (t 4)) (ii ((4 : Nat) : Int)) = R) (h0 : t 0 = 0) : F Fu 0 0 = R := loopFu (N := 4) (by omega) hs he h0
theorem CL.allN (h : CL P S lc bl lb) : fX1_allLines (il lc) = some (ii (sumF (fun c => (nnP P S c : Nat)) 4)) := by
  unfold fX1_allLines
  refine CL.four (t := sumF (fun c => (nnP P S c : Nat))) (fun n k hk => ?_) (fun n => ?_) rfl
  · rw [fX1_allLines_4]
    dsimp only
    rw [if_neg (n4 hk), h.count hk, bd_eq, nm_eq, nm_eq, ii_add, ii_suc]
    rfl
  · rw [fX1_allLines_4]
    dsimp only
    rw [if_pos (by decide)]
theorem CL.allD (h : CL P S lc bl lb) (hP : PgOK P) (hS : 20 ≤ S) (hS2 : S ≤ 500) : fX1_sumOfAllDrifts (ii (P 1)) (ii S) (il lc) (il bl) = some (ii (sumF (fun c => sumF (drP P S c) (nnP P S c)) 4)) := by
  unfold fX1_sumOfAllDrifts
  refine CL.four (t := sumF (fun c => sumF (drP P S c) (nnP P S c))) (fun n k hk => ?_) (fun n => ?_) rfl
  · rw [fX1_sumOfAllDrifts_4]
    dsimp only
    rw [if_neg (n4 hk), h.sumD hP hS hS2 hk, bd_eq, nm_eq, nm_eq, ii_add, ii_suc]
    rfl
  · rw [fX1_sumOfAllDrifts_4]
    dsimp only
    rw [if_pos (by decide)]
theorem CL.allG (h : CL P S lc bl lb) (hP : PgOK P) (hS : 20 ≤ S) (hS2 : S ≤ 500) : fX1_allLinesOnGrid (ii (P 1)) (ii S) (il lc) (il bl) = some (ii (sumF (fun c => sumF (onP P S c) (nnP P S c)) 4)) := by
  unfold fX1_allLinesOnGrid
  refine CL.four (t := sumF (fun c => sumF (onP P S c) (nnP P S c))) (fun n k hk => ?_) (fun n => ?_) rfl
  · rw [fX1_allLinesOnGrid_4]
    dsimp only
    rw [if_neg (n4 hk), h.cntG hP hS hS2 hk, bd_eq, nm_eq, nm_eq, ii_add, ii_suc]
    rfl
  · rw [fX1_allLinesOnGrid_4]
    dsimp only
    rw [if_pos (by decide)]
theorem CL.stand (h : CL P S lc bl lb) (hP : PgOK P) (hS : 20 ≤ S) (hS2 : S ≤ 500) {p : Int} (hp1 : -2147483648 ≤ p) (hp2 : p < 2147483648) : fX1_columnsAt (ii p) (il lc) (il bl) = some (ii (sumF (fun c => htP P S c p) 4)) := by
  unfold fX1_columnsAt
  refine CL.four (t := sumF (fun c => htP P S c p)) (fun n k hk => ?_) (fun n => ?_) rfl
  · rw [fX1_columnsAt_4]
    dsimp only
    rw [if_neg (n4 hk), h.has hP hS hS2 hk hp1 hp2, bd_eq]
    unfold fX1_columnsAt_21
    show _ = fX1_columnsAt_4 _ _ _ n (ii (sumF (fun c => htP P S c p) k + htP P S k p)) _
    rcases htP_01 P S k p with w | w
    · rw [w, if_pos ii00, nm_eq, ii_suc, Int.add_zero]
    · rw [w, if_neg ii10, nm_eq, nm_eq, ii_suc, q_1, ii_add]
  · rw [fX1_columnsAt_4]
    dsimp only
    rw [if_pos (by decide)]
end
