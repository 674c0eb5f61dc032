/-! the reference spreads -/
def MSpS (Q Z : Nat → Int) (c : Nat) (g bt : Nat → Int) (b : Nat) : Prop := (∀ a, a < b → bt a = 1 → Z (6 + 97 * c + 6 * a + 5) = g a) ∧ ∀ j, (∀ a, a < b → bt a = 1 → j ≠ 6 + 97 * c + 6 * a + 5) → Z j = Q j
theorem MSpS.put {Q Z g bt : Nat → Int} {c b : Nat} (h : MSpS Q Z c g bt b) (q : bt b = 1) : MSpS Q (zu Z (6 + 97 * c + 6 * b + 5) (g b)) c g bt (b + 1) := by
  refine ⟨fun a ha hb => ?_, fun j hj => ?_⟩
  · rcases Nat.lt_or_ge a b with g1 | g1
    · rw [zu_ne (by omega)]
      exact h.1 a g1 hb
    · have e : a = b := by omega
      rw [e, zu_eq]
  · rw [zu_ne (hj b (by omega) q)]
    exact h.2 j (fun a ha hb => hj a (by omega) hb)
theorem MSpS.skip {Q Z g bt : Nat → Int} {c b : Nat} (h : MSpS Q Z c g bt b) (q : bt b = 0) : MSpS Q Z c g bt (b + 1) := by
  refine ⟨fun a ha hb => ?_, fun j hj => h.2 j (fun a ha hb => hj a (by omega) hb)⟩
  rcases Nat.lt_or_ge a b with g1 | g1
  · exact h.1 a g1 hb
  · have e : a = b := by omega
    rw [e] at hb
    omega
theorem MSpS.start (Q : Nat → Int) (c : Nat) (g bt : Nat → Int) : MSpS Q Q c g bt 0 := ⟨fun a ha => absurd ha (Nat.not_lt_zero a), fun _ _ => rfl⟩
theorem RS.spr {P Q Z Y : Nat → Int} {c n : Nat} {g bt : Nat → Int} (h : RS P Q) (hc : c < 4) (hn : pn P c = (n : Nat)) (h1 : SpS P Z c g bt n) (h2 : MSpS Q Y c g bt n) (h01 : ∀ b, bt b = 0 ∨ bt b = 1) (hb : ∀ b, b < n → bt b = 1 → pf P c b 0 = 2 ∧ 1 ≤ g b ∧ g b ≤ 3000) : RS Z Y := by
  have hn16 := (h.at hc).2.2.1
  have e1 : ∀ j, j < 9 → Z j = P j := fun j hj => h1.2 j (fun a ha _ => by omega)
  refine h.change (fun j hj => e1 j (by omega)) (fun j hj => h2.2 j (fun a ha _ => by omega)) (fun d hd => ?_)
  obtain ⟨g1, g2, g3, g4⟩ := h.at hd
  have ep : pn Z d = pn P d := e1 (5 + d) (by omega)
  have hcd : d < c ∨ d = c ∨ c < d := by omega
  have em : mn Y d = mn Q d := h2.2 (5 + 97 * d) (fun a ha _ => by rcases hcd with q | q | q <;> omega)
  rw [ep, em]
  refine ⟨g1, g2, g3, fun x hx => ?_⟩
  rcases Classical.em (d = c) with e | e
  · subst e
    rcases h01 x with q | q
    · refine BR.ext (g4 x hx) (fun k hk => h1.2 _ (fun a ha hba w => ?_)) (fun k hk => h2.2 _ (fun a ha hba w => ?_))
      · have ea : a = x := by omega
        rw [ea] at hba
        omega
      · have ea : a = x := by omega
        rw [ea] at hba
        omega
    · obtain ⟨s1, s2, s3⟩ := hb x (by omega) q
      obtain ⟨hF, hR⟩ := g4 x hx
      obtain ⟨f1, f2, f3⟩ := hF
      obtain ⟨r1, r2, r3⟩ := hR
      have hk : FlC (fldV (pf P d x) 5 (g x)) ∧ RFl (fldV (pf P d x) 5 (g x)) (fldV (mf Q d x) 5 (g x)) := by
        refine ⟨⟨Or.inr ⟨Or.inr s1, s2, s3⟩, fun w => ?_, fun w => ?_⟩, r1, fun w => ?_, fun _ => rfl⟩
        · have w2 : pf P d x 0 = 0 := w
          omega
        · exact f3 (by omega)
        · have w2 : pf P d x 0 = 0 := w
          omega
      refine BR.ext hk (fun k hk2 => ?_) (fun k hk2 => ?_)
      · unfold fldV
        rcases Classical.em (k = 5) with w | w
        · rw [if_pos w, w]
          exact h1.1 x (by omega) q
        · rw [if_neg w]
          exact h1.2 _ (fun a ha _ => by omega)
      · unfold fldV
        rcases Classical.em (k = 5) with w | w
        · rw [if_pos w, w]
          exact h2.1 x (by omega) q
        · rw [if_neg w]
          exact h2.2 _ (fun a ha _ => by omega)
  · exact BR.ext (g4 x hx) (fun k hk => h1.2 _ (fun a ha _ => by omega)) (fun k hk => h2.2 _ (fun a ha _ => by rcases hcd with q | q | q <;> omega))
/-! the reference's row of bits -/
def mkB (bt : Nat → Int) : Nat → Nat
  | 0 => 0
  | k + 1 => if bt k = 1 then mkB bt k ||| 2 ^ k else mkB bt k
theorem mkB_s (bt : Nat → Int) (k : Nat) : mkB bt (k + 1) = if bt k = 1 then mkB bt k ||| 2 ^ k else mkB bt k := rfl
theorem mkB_bit (bt : Nat → Int) (b : Nat) : ∀ k, (mkB bt k).testBit b = true ↔ b < k ∧ bt b = 1 := by
  intro k
  induction k with
  | zero =>
    constructor
    · intro h
      have h2 : (0 : Nat).testBit b = true := h
      rw [Nat.zero_testBit] at h2
      exact absurd h2 (by decide)
    · intro h
      exact absurd h.1 (Nat.not_lt_zero b)
  | succ k ih =>
    rw [mkB_s]
    rcases Classical.em (bt k = 1) with q | q
    · rw [if_pos q, Nat.testBit_or, Bool.or_eq_true, ih, Nat.testBit_two_pow, decide_eq_true_iff]
      constructor
      · rintro (h | h)
        · exact ⟨by omega, h.2⟩
        · rw [← h]
          exact ⟨by omega, q⟩
      · rintro ⟨h1, h2⟩
        rcases Nat.lt_or_ge b k with g | g
        · exact Or.inl ⟨g, h2⟩
        · exact Or.inr (by omega)
    · rw [if_neg q, ih]
      constructor
      · intro h
        exact ⟨by omega, h.2⟩
      · rintro ⟨h1, h2⟩
        rcases Nat.lt_or_ge b k with g | g
        · exact ⟨g, h2⟩
        · have e : b = k := by omega
          rw [e] at h2
          exact absurd h2 q
theorem mkB_lt (bt : Nat → Int) : ∀ k, mkB bt k < 2 ^ k := by
  intro k
  induction k with
  | zero => exact Nat.one_pos
  | succ k ih =>
    have h2 : 2 ^ k < 2 ^ (k + 1) := Nat.pow_lt_pow_right (by omega) (by omega)
    rw [mkB_s]
    split
    · exact Nat.or_lt_two_pow (by omega) h2
    · omega
theorem nI_orN (a b : Nat) : nI a ||| nI b = nI (a ||| b) := by
  apply Int32.toBitVec_inj.1
  show BitVec.ofNat 32 a ||| BitVec.ofNat 32 b = BitVec.ofNat 32 (a ||| b)
  apply BitVec.eq_of_getLsbD_eq
  intro i hi
  simp [hi]
theorem one_shN : ∀ k, k < 16 → (1 : Int32) <<< (ii (k : Nat) &&& 31) = nI (2 ^ k) := by decide
theorem sh_modN : ∀ k, k < 16 → ((ii (k : Nat) &&& 31).toBitVec.smod 32).toNat = k := by decide
theorem bit_set {M k : Nat} (hk : k < 16) : nI M ||| ((1 : Int32) <<< (ii (k : Nat) &&& 31)) = nI (M ||| 2 ^ k) := by
  rw [one_shN k hk, nI_orN]
theorem bit_get {M k : Nat} (hM : M < 65536) (hk : k < 16) : ((nI M >>> (ii (k : Nat) &&& 31)) &&& 1 = 1) ↔ M.testBit k = true := by
  have h1 : M / 2 ^ k ≤ M := Nat.div_le_self _ _
  rw [pk_shrN (by omega) _ k (sh_modN k hk), pk_andN (by omega) 1 (by decide), ii_nI, q_1, ii_eq (by omega) (by omega) (by omega) (by omega), Nat.testBit_eq_decide_div_mod_eq, decide_eq_true_iff]
  omega
section
variable {P Q dA : Nat → Int} {c n : Nat} {d : Nat → Int}
/-- what the reference has of a column, told in the class's words -/
def Sp0 (P Q dA : Nat → Int) (c n : Nat) (d : Nat → Int) : Prop := RS P Q ∧ c < 4 ∧ pn P c = (n : Nat) ∧ ∀ b, b < n → dA (16 * c + b) = d b ∧ 0 ≤ d b ∧ d b ≤ 40
theorem Sp0.kind (h : Sp0 P Q dA c n d) {b : Nat} (hb : b < n) : mf Q c b 0 = pf P c b 0 ∧ n ≤ 16 ∧ b < 16 ∧ FlOK (pf P c b) ∧ (pf P c b 0 ≠ 0 → mf Q c b 5 = pf P c b 5) := by
  obtain ⟨hR, hc, hn, hd⟩ := h
  obtain ⟨p1, p2, p3, p4⟩ := hR.at hc
  obtain ⟨hF, r0, r1, r2⟩ := p4 b (by omega)
  exact ⟨r0.symm, by omega, by omega, hF.1, fun q => (r2 q).symm⟩
theorem m_firm (h : Sp0 P Q dA c n d) {b : Nat} (hb : b < n) : fX5_isFirm (ii c) (ii b) (il Q) (il dA) = some (ii (soI (pf P c) d b)) := by
  obtain ⟨k1, k2, k3, k4, k5⟩ := h.kind hb
  obtain ⟨hR, hc, hn, hd⟩ := h
  obtain ⟨d1, d2, d3⟩ := hd b hb
  unfold fX5_isFirm soI
  rw [m_f0 hc k3, bd_eq, k1]
  rcases Classical.em (pf P c b 0 = 2) with q | q
  · rw [q, if_pos (by decide), if_pos rfl]
    rfl
  · rw [if_neg (show ¬ ii (pf P c b 0) = 2 by rw [q_2, ii_eq (by unfold FlOK at k4; omega) (by unfold FlOK at k4; omega) (by omega) (by omega)]; exact q), if_neg q, m_place hc k3, d1]
    rcases Int.lt_or_le 0 (d b) with w | w
    · rw [if_neg (by rw [q_0, ii_le (by omega) (by omega) (by omega) (by omega)]; omega), if_pos w]
      rfl
    · rw [if_pos (by rw [q_0, ii_le (by omega) (by omega) (by omega) (by omega)]; omega), if_neg (by omega)]
      rfl
theorem m_b40 (h : Sp0 P Q dA c n d) {k8 : Int32 → Int32 → Int32 → Option Int32} {x k : Nat} (hx : x < n) (hk : k < n) {u s0 s1 : Int} (hu : u = 0 ∨ u = 1) : fX5_isBetween_40 k8 (ii c) (ii x) (il Q) (il dA) (ii u) (ii k) (ii s0) (ii s1) = k8 (ii s0 ||| ii s1) (ii (if (if x < k then soI (pf P c) d k else 0) = 1 then 1 else u)) (ii ((k + 1 : Nat) : Int)) := by
  have hn16 := (h.kind hk).2.1
  have ho := or_01 hu
  unfold fX5_isBetween_40 fX5_isBetween_64 fX5_isBetween_65
  rcases Nat.lt_or_ge x k with g | g
  · rw [nm_eq, if_neg (le_iiF (by omega) (by omega) g), m_firm h hk, bd_eq, if_pos g]
    rcases soI_01 (pf P c) d k with w | w
    · rw [w, if_pos ii00, nm_eq, nm_eq, ii_suc, ho.2]
      rfl
    · rw [w, if_neg ii10, nm_eq, nm_eq, ii_suc, ho.1]
      rfl
  · rw [nm_eq, if_pos (le_iiT (by omega) (by omega) g), nm_eq, nm_eq, ii_suc, ho.2, if_neg (show ¬ x < k by omega)]
    rfl
theorem m_between (h : Sp0 P Q dA c n d) {x : Nat} (hx : x < n) : fX5_isBetween (ii c) (ii x) (il Q) (il dA) = some (ii (btI (pf P c) d n x)) := by
  have hn16 := (h.kind hx).2.1
  have hkx := h.kind hx
  have h0 := h
  obtain ⟨hR, hc, hn, hd⟩ := h0
  have hmn : mn Q c = (n : Nat) := by rw [← (hR.at hc).1, hn]
  have key : ∀ (r k fu : Nat), k + r = n → r < fu → fX5_isBetween_8 (ii c) (ii x) (il Q) (il dA) fu (ii (hsF (fun i => if i < x then soI (pf P c) d i else 0) 1 k)) (ii (hsF (fun i => if x < i then soI (pf P c) d i else 0) 1 k)) (ii k) = some (ii (btI (pf P c) d n x)) := by
    intro r
    induction r with
    | zero =>
      intro k fu hk hf
      obtain ⟨m, rfl⟩ : ∃ m, fu = m + 1 := ⟨fu - 1, by omega⟩
      have e : k = n := by omega
      subst e
      rw [fX5_isBetween_8]
      dsimp only
      rw [m_blocks hc, bd_eq, hmn, if_pos (le_iiT (by omega) (by omega) (Nat.le_refl _)), m_f0 hc hkx.2.2.1, bd_eq, hkx.1]
      unfold btI abI beI
      rcases Classical.em (pf P c x 0 = 2) with q | q
      · rw [q, if_pos (by decide)]
        rcases hsF_01 (fun i => if i < x then soI (pf P c) d i else 0) 1 k with u | u
        · rw [u, if_pos ii00, if_neg (fun w => absurd w.2.1 (by decide))]
          rfl
        · rw [u, if_neg ii10]
          rcases hsF_01 (fun i => if x < i then soI (pf P c) d i else 0) 1 k with v | v
          · rw [v, if_pos ii00, if_neg (fun w => absurd w.2.2 (by decide))]
            rfl
          · rw [v, if_neg ii10, if_pos ⟨rfl, rfl, rfl⟩]
            rfl
      · have hf2 := hkx.2.2.2.1
        rw [if_neg (show ¬ ii (pf P c x 0) = 2 by rw [q_2, ii_eq (by unfold FlOK at hf2; omega) (by unfold FlOK at hf2; omega) (by omega) (by omega)]; exact q), if_neg (fun w => q w.1)]
        rfl
    | succ r ih =>
      intro k fu hk hf
      obtain ⟨m, rfl⟩ : ∃ m, fu = m + 1 := ⟨fu - 1, by omega⟩
      have hkn : k < n := by omega
      have hi := ih (k + 1) m (by omega) (by omega)
      rw [hsF_s, hsF_s] at hi
      have ho := or_01 (hsF_01 (fun i => if i < x then soI (pf P c) d i else 0) 1 k)
      rw [fX5_isBetween_8]
      dsimp only
      unfold fX5_isBetween_39
      rw [m_blocks hc, bd_eq, hmn, if_neg (le_iiF (by omega) (by omega) hkn), q_0, q_1, m_b40 h hx hkn (hsF_01 _ _ _), m_b40 h hx hkn (hsF_01 _ _ _), ← q_0, ← q_1]
      rcases Nat.lt_or_ge k x with g | g
      · rw [if_neg (le_iiF (by omega) (by omega) g), m_firm h hkn, bd_eq]
        have hg : (if k < x then soI (pf P c) d k else 0) = soI (pf P c) d k := if_pos g
        rw [hg] at hi
        rcases soI_01 (pf P c) d k with w | w
        · rw [w, if_pos ii00, ho.2]
          rw [w, if_neg (by decide)] at hi
          exact hi
        · rw [w, if_neg ii10, ho.1]
          rw [w, if_pos rfl] at hi
          exact hi
      · rw [if_pos (le_iiT (by omega) (by omega) g), ho.2]
        have hg : (if k < x then soI (pf P c) d k else 0) = 0 := if_neg (by omega)
        rw [hg, if_neg (by decide)] at hi
        exact hi
  have hk0 := key n 0 Fu (by omega) (by rw [Fu_s]; omega)
  unfold fX5_isBetween
  exact hk0
end
