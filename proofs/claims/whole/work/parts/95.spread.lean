/-! spreading: the spaces between set blocks, and what they become -/
/-- a set block that is no space -/
def soI (f : Nat → Nat → Int) (d : Nat → Int) (b : Nat) : Int := if f b 0 = 2 then 0 else if 0 < d b then 1 else 0
def abI (f : Nat → Nat → Int) (d : Nat → Int) (n b : Nat) : Int := hsF (fun i => if i < b then soI f d i else 0) 1 n
def beI (f : Nat → Nat → Int) (d : Nat → Int) (n b : Nat) : Int := hsF (fun i => if b < i then soI f d i else 0) 1 n
def btI (f : Nat → Nat → Int) (d : Nat → Int) (n b : Nat) : Int := if f b 0 = 2 ∧ abI f d n b = 1 ∧ beI f d n b = 1 then 1 else 0
/-- by how much a space becomes higher, and its height then -/
def byI (f : Nat → Nat → Int) (d : Nat → Int) (n : Nat) (more : Int) (b : Nat) : Int := more / sumF (btI f d n) n + (if 0 < more % sumF (btI f d n) n - sumF (btI f d n) b then 1 else 0)
def hnI (f : Nat → Nat → Int) (d : Nat → Int) (n : Nat) (more : Int) (b : Nat) : Int := if 3000 < f b 5 + byI f d n more b then 3000 else f b 5 + byI f d n more b
/-- whether a space becomes higher -/
def riI (f : Nat → Nat → Int) (d : Nat → Int) (n : Nat) (more : Int) (b : Nat) : Int := if btI f d n b = 1 ∧ f b 5 < hnI f d n more b then 1 else 0
theorem btI_01 (f : Nat → Nat → Int) (d : Nat → Int) (n b : Nat) : btI f d n b = 0 ∨ btI f d n b = 1 := by
  unfold btI
  split
  · exact Or.inr rfl
  · exact Or.inl rfl
theorem soI_01 (f : Nat → Nat → Int) (d : Nat → Int) (b : Nat) : soI f d b = 0 ∨ soI f d b = 1 := by
  unfold soI
  split
  · exact Or.inl rfl
  · split
    · exact Or.inr rfl
    · exact Or.inl rfl
theorem btI_iff {f : Nat → Nat → Int} {d : Nat → Int} {n b : Nat} : btI f d n b = 1 ↔ f b 0 = 2 ∧ (∃ a, a < b ∧ a < n ∧ soI f d a = 1) ∧ ∃ a, b < a ∧ a < n ∧ soI f d a = 1 := by
  have h1 : abI f d n b = 1 ↔ ∃ a, a < b ∧ a < n ∧ soI f d a = 1 := by
    unfold abI
    rw [hsF_iff]
    constructor
    · rintro ⟨k, h1, h2⟩
      rcases Nat.lt_or_ge k b with g | g
      · have h3 : (if k < b then soI f d k else 0) = 1 := h2
        rw [if_pos g] at h3
        exact ⟨k, g, h1, h3⟩
      · have h3 : (if k < b then soI f d k else 0) = 1 := h2
        rw [if_neg (by omega)] at h3
        omega
    · rintro ⟨k, h1, h2, h3⟩
      refine ⟨k, h2, ?_⟩
      show (if k < b then soI f d k else 0) = 1
      rw [if_pos h1]
      exact h3
  have h2 : beI f d n b = 1 ↔ ∃ a, b < a ∧ a < n ∧ soI f d a = 1 := by
    unfold beI
    rw [hsF_iff]
    constructor
    · rintro ⟨k, h1, h2⟩
      rcases Nat.lt_or_ge b k with g | g
      · have h3 : (if b < k then soI f d k else 0) = 1 := h2
        rw [if_pos g] at h3
        exact ⟨k, g, h1, h3⟩
      · have h3 : (if b < k then soI f d k else 0) = 1 := h2
        rw [if_neg (by omega)] at h3
        omega
    · rintro ⟨k, h1, h2, h3⟩
      refine ⟨k, h2, ?_⟩
      show (if b < k then soI f d k else 0) = 1
      rw [if_pos h1]
      exact h3
  unfold btI
  rw [← h1, ← h2]
  constructor
  · intro h
    split at h
    · assumption
    · omega
  · intro h
    rw [if_pos h]
theorem sumF_zero {g : Nat → Int} {a b : Nat} (hab : a ≤ b) (h : ∀ i, a ≤ i → i < b → g i = 0) : sumF g b = sumF g a := by
  induction b with
  | zero =>
    have e : a = 0 := by omega
    rw [e]
  | succ b ih =>
    rcases Nat.lt_or_ge b a with q | q
    · have e : a = b + 1 := by omega
      rw [e]
    · rw [sumF_s, h b q (by omega), ih q (fun i h1 h2 => h i h1 (by omega)), Int.add_zero]
theorem sumF_mono {g : Nat → Int} {a b : Nat} (hab : a ≤ b) (h : ∀ i, 0 ≤ g i) : sumF g a ≤ sumF g b := by
  induction b with
  | zero =>
    have e : a = 0 := by omega
    rw [e]
    exact Int.le_refl _
  | succ b ih =>
    rcases Nat.lt_or_ge b a with q | q
    · have e : a = b + 1 := by omega
      rw [e]
      exact Int.le_refl _
    · have := ih q
      have := h b
      rw [sumF_s]
      omega
/-! the class's bounds of the spaces -/
section
variable {P sp : Nat → Int} {c n : Nat}
theorem e_solid (hP : PgOK P) (hc : c < 4) {b : Nat} (hb : (b : Int) < pn P c) (hs : 0 ≤ sp (16 * c + b) ∧ sp (16 * c + b) ≤ 40) : fX4_isSetSolid (ii c) (ii b) (il P) (il sp) = some (ii (soI (pf P c) (fun i => sp (16 * c + i)) b)) := by
  obtain ⟨p1, p2, p3⟩ := hP.2.2.2.2.2.2.2.2.2 c hc
  have hf := (p3 b hb).1
  have hb16 : b < 16 := by omega
  unfold fX4_isSetSolid soI
  rw [e_f0 hc hb16, bd_eq]
  rcases Classical.em (pf P c b 0 = 2) with q | q
  · rw [q, if_pos (by decide), if_pos rfl]
    rfl
  · rw [if_neg (show ¬ ii (pf P c b 0) = 2 by rw [q_2, ii_eq (by unfold FlOK at hf; omega) (by unfold FlOK at hf; omega) (by omega) (by omega)]; exact q), if_neg q, e_parts hc hb16, bd_eq]
    rcases Int.lt_or_le 0 (sp (16 * c + b)) with w | w
    · rw [if_neg (by rw [q_0, ii_le (by omega) (by omega) (by omega) (by omega)]; omega), if_pos w]
      rfl
    · rw [if_pos (by rw [q_0, ii_le (by omega) (by omega) (by omega) (by omega)]; omega), if_neg (show ¬ 0 < sp (16 * c + b) by omega)]
      rfl
theorem e_first (hP : PgOK P) (hc : c < 4) (hn : pn P c = (n : Nat)) (hs : ∀ b : Nat, (b : Int) < pn P c → 0 ≤ sp (16 * c + b) ∧ sp (16 * c + b) ≤ 40) :
    ∃ t : Nat, fX4_firstSolid (ii c) (il P) (il sp) = some (ii t) ∧ t ≤ n ∧ (∀ a, a < t → soI (pf P c) (fun i => sp (16 * c + i)) a = 0) ∧ (t < n → soI (pf P c) (fun i => sp (16 * c + i)) t = 1) := by
  have hn16 := (hP.2.2.2.2.2.2.2.2.2 c hc).2.1
  have key : ∀ (r k fu : Nat), k + r = n → r < fu → (∀ a, a < k → soI (pf P c) (fun i => sp (16 * c + i)) a = 0) → ∃ t : Nat, fX4_firstSolid_11 (ii c) (il P) (il sp) (ii n) fu (ii k) = some (ii t) ∧ t ≤ n ∧ (∀ a, a < t → soI (pf P c) (fun i => sp (16 * c + i)) a = 0) ∧ (t < n → soI (pf P c) (fun i => sp (16 * c + i)) t = 1) := by
    intro r
    induction r with
    | zero =>
      intro k fu hk hf h
      obtain ⟨m, rfl⟩ : ∃ m, fu = m + 1 := ⟨fu - 1, by omega⟩
      have e : k = n := by omega
      subst e
      refine ⟨k, ?_, Nat.le_refl _, h, fun q => absurd q (Nat.lt_irrefl k)⟩
      rw [fX4_firstSolid_11]
      dsimp only
      rw [if_pos (le_iiT (by omega) (by omega) (Nat.le_refl _))]
    | succ r ih =>
      intro k fu hk hf h
      obtain ⟨m, rfl⟩ : ∃ m, fu = m + 1 := ⟨fu - 1, by omega⟩
      rw [fX4_firstSolid_11]
      dsimp only
      rw [if_neg (le_iiF (by omega) (by omega) (by omega)), e_solid hP hc (by omega) (hs k (by omega)), bd_eq]
      rcases soI_01 (pf P c) (fun i => sp (16 * c + i)) k with q | q
      · rw [q, if_pos ii00, nm_eq, ii_suc]
        exact ih (k + 1) m (by omega) (by omega) (fun a ha => by
          rcases Nat.lt_or_ge a k with g | g
          · exact h a g
          · have e : a = k := by omega
            rw [e]
            exact q)
      · rw [q, if_neg ii10]
        exact ⟨k, rfl, by omega, h, fun _ => q⟩
  obtain ⟨t, e1, e2⟩ := key n 0 Fu (by omega) (by rw [Fu_s]; omega) (fun a ha => absurd ha (Nat.not_lt_zero a))
  refine ⟨t, ?_, e2⟩
  unfold fX4_firstSolid
  rw [e_blocks hc, bd_eq, hn]
  exact e1
theorem e_last (hP : PgOK P) (hc : c < 4) (hn : pn P c = (n : Nat)) (hs : ∀ b : Nat, (b : Int) < pn P c → 0 ≤ sp (16 * c + b) ∧ sp (16 * c + b) ≤ 40) :
    ∃ z : Nat, z ≤ n ∧ fX4_lastSolid (ii c) (il P) (il sp) = some (ii ((z : Int) - 1)) ∧ (∀ a, z ≤ a → a < n → soI (pf P c) (fun i => sp (16 * c + i)) a = 0) ∧ (0 < z → soI (pf P c) (fun i => sp (16 * c + i)) (z - 1) = 1) := by
  have hn16 := (hP.2.2.2.2.2.2.2.2.2 c hc).2.1
  have key : ∀ (k fu : Nat), k ≤ n → k < fu → (∀ a, k ≤ a → a < n → soI (pf P c) (fun i => sp (16 * c + i)) a = 0) → ∃ z : Nat, z ≤ n ∧ fX4_lastSolid_11 (ii c) (il P) (il sp) fu (ii ((k : Int) - 1)) = some (ii ((z : Int) - 1)) ∧ (∀ a, z ≤ a → a < n → soI (pf P c) (fun i => sp (16 * c + i)) a = 0) ∧ (0 < z → soI (pf P c) (fun i => sp (16 * c + i)) (z - 1) = 1) := by
    intro k
    induction k with
    | zero =>
      intro fu hk hf h
      obtain ⟨m, rfl⟩ : ∃ m, fu = m + 1 := ⟨fu - 1, by omega⟩
      refine ⟨0, hk, ?_, h, fun q => absurd q (Nat.lt_irrefl 0)⟩
      rw [fX4_lastSolid_11]
      dsimp only
      rw [if_pos (by decide)]
      rfl
    | succ k ih =>
      intro fu hk hf h
      obtain ⟨m, rfl⟩ : ∃ m, fu = m + 1 := ⟨fu - 1, by omega⟩
      rw [fX4_lastSolid_11]
      dsimp only
      rw [show (((k + 1 : Nat) : Int) - 1) = (k : Nat) by omega, if_neg (by rw [q_0, ii_lt (by omega) (by omega) (by omega) (by omega)]; omega), e_solid hP hc (by omega) (hs k (by omega)), bd_eq]
      rcases soI_01 (pf P c) (fun i => sp (16 * c + i)) k with q | q
      · rw [q, if_pos ii00, nm_eq, q_1, ii_neg, ii_add, show ((k : Int) + -1) = (k : Int) - 1 by omega]
        exact ih m (by omega) (by omega) (fun a h1 h2 => by
          rcases Nat.lt_or_ge k a with g | g
          · exact h a (by omega) h2
          · have e : a = k := by omega
            rw [e]
            exact q)
      · rw [q, if_neg ii10]
        refine ⟨k + 1, hk, ?_, h, fun _ => q⟩
        rw [show (((k + 1 : Nat) : Int) - 1) = (k : Nat) by omega]
  obtain ⟨z, e0, e1, e2⟩ := key n Fu (Nat.le_refl _) (by rw [Fu_s]; omega) (fun a h1 h2 => by omega)
  refine ⟨z, e0, ?_, e2⟩
  unfold fX4_lastSolid
  rw [e_blocks hc, bd_eq, hn, q_1, ii_sub, nm_eq]
  exact e1
/-- between the bounds, and only there, are the spaces that count -/
theorem bt_in {f : Nat → Nat → Int} {d : Nat → Int} {t z b : Nat} (h1 : ∀ a, a < t → soI f d a = 0) (h2 : t < n → soI f d t = 1) (h3 : ∀ a, z ≤ a → a < n → soI f d a = 0) (h4 : 0 < z → soI f d (z - 1) = 1) (htn : t ≤ n) (hzn : z ≤ n) : btI f d n b = 1 ↔ f b 0 = 2 ∧ t < b ∧ b + 1 < z := by
  rw [btI_iff]
  constructor
  · rintro ⟨e, ⟨a, g1, g2, g3⟩, ⟨a2, g4, g5, g6⟩⟩
    refine ⟨e, ?_, ?_⟩
    · rcases Nat.lt_or_ge a t with q | q
      · have := h1 a q
        omega
      · omega
    · rcases Nat.lt_or_ge a2 z with q | q
      · omega
      · have := h3 a2 q g5
        omega
  · rintro ⟨e, g1, g2⟩
    exact ⟨e, ⟨t, g1, by omega, h2 (by omega)⟩, ⟨z - 1, by omega, by omega, h4 (by omega)⟩⟩
theorem e_spaces (hP : PgOK P) (hc : c < 4) (hn : pn P c = (n : Nat)) {d : Nat → Int} {t z : Nat} (htn : t ≤ n) (hzn : z ≤ n) (hbt : ∀ b, btI (pf P c) d n b = 1 ↔ pf P c b 0 = 2 ∧ t < b ∧ b + 1 < z) : fX4_spacesBetween (ii c) (ii t) (ii ((z : Int) - 1)) (il P) = some (ii (sumF (btI (pf P c) d n) n)) := by
  have h9 := hP.2.2.2.2.2.2.2.2.2 c hc
  have hn16 := h9.2.1
  have hz : ∀ i, i ≤ t ∨ z ≤ i + 1 → btI (pf P c) d n i = 0 := fun i hi => by
    rcases btI_01 (pf P c) d n i with q | q
    · exact q
    · have := (hbt i).mp q
      omega
  have key : ∀ (r k fu : Nat), k + r = z - 1 ∨ (z - 1 ≤ k ∧ r = 0) → r < fu → t < k → k ≤ n + 1 → fX4_spacesBetween_8 (ii c) (ii ((z : Int) - 1)) (il P) fu (ii (sumF (btI (pf P c) d n) k)) (ii k) = some (ii (sumF (btI (pf P c) d n) n)) := by
    intro r
    induction r with
    | zero =>
      intro k fu hk hf htk hkn
      obtain ⟨m, rfl⟩ : ∃ m, fu = m + 1 := ⟨fu - 1, by omega⟩
      rw [fX4_spacesBetween_8]
      dsimp only
      rw [if_pos (by rw [ii_le (by omega) (by omega) (by omega) (by omega)]; omega)]
      rcases Nat.lt_or_ge n k with q | q
      · rw [sumF_zero (show n ≤ k by omega) (fun i g1 g2 => hz i (by omega))]
      · rw [sumF_zero q (fun i g1 g2 => hz i (by omega))]
    | succ r ih =>
      intro k fu hk hf htk hkn
      obtain ⟨m, rfl⟩ : ∃ m, fu = m + 1 := ⟨fu - 1, by omega⟩
      have hf2 := (h9.2.2 k (by omega)).1
      have hi := ih (k + 1) m (by omega) (by omega) (by omega) (by omega)
      rw [sumF_s] at hi
      rw [fX4_spacesBetween_8]
      dsimp only
      unfold fX4_spacesBetween_32
      rw [if_neg (by rw [ii_le (by omega) (by omega) (by omega) (by omega)]; omega), e_f0 hc (by omega), bd_eq]
      rcases Classical.em (pf P c k 0 = 2) with q | q
      · have e := (hbt k).mpr ⟨q, htk, by omega⟩
        rw [e] at hi
        rw [q, if_pos (by decide), nm_eq, nm_eq, ii_suc, q_1, ii_add]
        exact hi
      · have e : btI (pf P c) d n k = 0 := by
          rcases btI_01 (pf P c) d n k with w | w
          · exact w
          · exact absurd ((hbt k).mp w).1 q
        rw [e, Int.add_zero] at hi
        rw [if_neg (show ¬ ii (pf P c k 0) = 2 by rw [q_2, ii_eq (by unfold FlOK at hf2; omega) (by unfold FlOK at hf2; omega) (by omega) (by omega)]; exact q), nm_eq, ii_suc]
        exact hi
  have h0 := key (z - 1 - (t + 1)) (t + 1) Fu (by omega) (by rw [Fu_s]; omega) (by omega) (by omega)
  rw [sumF_zero (show 0 ≤ t + 1 by omega) (fun i g1 g2 => hz i (by omega))] at h0
  unfold fX4_spacesBetween
  rw [ii_suc, nm_eq]
  exact h0
end
