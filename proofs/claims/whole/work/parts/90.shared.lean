/-! the baselines that columns share -/
def ShP (P : Nat → Int) (S p : Int) : Prop := 2 ≤ sumF (fun c => htP P S c p) 4
def NoP (P : Nat → Int) (S last : Int) : Prop := ∀ p, ShP P S p → ¬ last < p
def NxP (P : Nat → Int) (S last b : Int) : Prop := ShP P S b ∧ last < b ∧ ∀ p, ShP P S p → last < p → b ≤ p
def ResP (P : Nat → Int) (S : Int) : Nat → Int → Int → Prop
  | 0, last, R => NxP P S last R ∨ (R = -5 ∧ NoP P S last)
  | k + 1, last, R => (∃ b, NxP P S last b ∧ ResP P S k b R) ∨ (R = -5 ∧ NoP P S last)
theorem NxP.one {P : Nat → Int} {S last b c : Int} (h1 : NxP P S last b) (h2 : NxP P S last c) : b = c := by
  have a1 := h1.2.2 c h2.1 h2.2.1
  have a2 := h2.2.2 b h1.1 h1.2.1
  omega
theorem ResP.one {P : Nat → Int} {S : Int} : ∀ (k : Nat) (last R T : Int), ResP P S k last R → ResP P S k last T → R = T := by
  intro k
  induction k with
  | zero =>
    intro last R T h1 h2
    rcases h1 with h1 | ⟨e1, h1⟩ <;> rcases h2 with h2 | ⟨e2, h2⟩
    · exact h1.one h2
    · exact absurd h1.2.1 (h2 R h1.1)
    · exact absurd h2.2.1 (h1 T h2.1)
    · rw [e1, e2]
  | succ k ih =>
    intro last R T h1 h2
    rcases h1 with ⟨b, h1, g1⟩ | ⟨e1, h1⟩ <;> rcases h2 with ⟨c, h2, g2⟩ | ⟨e2, h2⟩
    · have e := h1.one h2
      rw [← e] at g2
      exact ih b R T g1 g2
    · exact absurd h1.2.1 (h2 b h1.1)
    · exact absurd h2.2.1 (h1 c h2.1)
    · rw [e1, e2]
theorem sum4 (g : Nat → Int) : sumF g 4 = g 0 + g 1 + g 2 + g 3 := by
  rw [sumF_s, sumF_s, sumF_s, sumF_s]
  show 0 + g 0 + g 1 + g 2 + g 3 = _
  omega
theorem ShP.line {P : Nat → Int} {S p : Int} (h : ShP P S p) : ∃ c, c < 4 ∧ ∃ i, i < nnP P S c ∧ ffP P S c i = p := by
  unfold ShP at h
  rw [sum4] at h
  have key : ∀ c, c < 4 → htP P S c p = 1 → ∃ c, c < 4 ∧ ∃ i, i < nnP P S c ∧ ffP P S c i = p := fun c hc e => ⟨c, hc, hsF_iff.mp e⟩
  rcases htP_01 P S 0 p with e0 | e0
  · rcases htP_01 P S 1 p with e1 | e1
    · rcases htP_01 P S 2 p with e2 | e2
      · rcases htP_01 P S 3 p with e3 | e3
        · omega
        · exact key 3 (by omega) e3
      · exact key 2 (by omega) e2
    · exact key 1 (by omega) e1
  · exact key 0 (by omega) e0
theorem sum4_b {g : Nat → Int} (h : ∀ c, c < 4 → g c = 0 ∨ g c = 1) : 0 ≤ sumF g 4 ∧ sumF g 4 ≤ 4 := by
  rw [sum4]
  have h0 := h 0 (by omega)
  have h1 := h 1 (by omega)
  have h2 := h 2 (by omega)
  have h3 := h 3 (by omega)
  omega
section
variable {P : Nat → Int} {S : Int} {lc bl lb : Nat → Int}
def inP (P : Nat → Int) (S : Int) (r : Nat → Nat) (p : Int) (c : Nat) : Int := if r c < nnP P S c ∧ ffP P S c (r c) = p then 1 else 0
theorem inP_01 (P : Nat → Int) (S : Int) (r : Nat → Nat) (p : Int) (c : Nat) : inP P S r p c = 0 ∨ inP P S r p c = 1 := by
  unfold inP
  split
  · exact Or.inr rfl
  · exact Or.inl rfl
theorem e_reach {rc : Nat → Int} {r : Nat → Nat} {c : Nat} (hc : c < 4) (h : rc c = (r c : Nat)) {α : Type} (k : Int32 → Option α) : aget 4 (il rc) (ii c) k = k (ii (r c : Nat)) := by
  rw [aget_ii (by omega) (by omega) (by omega), il_app, Int.toNat_natCast, h]
theorem e_pass (h : CL P S lc bl lb) (hP : PgOK P) (hS : 20 ≤ S) (hS2 : S ≤ 500) {r : Nat → Nat} {p : Int} (hp1 : -2147483648 ≤ p) (hp2 : p < 2147483648) (hr : ∀ c, c < 4 → r c ≤ nnP P S c) :
    ∀ (q k fu : Nat) (rc : Nat → Int), k + q = 4 → q < fu → (∀ c, c < k → rc c = (r c : Nat) + inP P S r p c) → (∀ c, k ≤ c → c < 4 → rc c = (r c : Nat)) →
      ∃ rz : Nat → Int, fX1_passLinesAt_4 (ii p) (il lc) (il bl) fu (ii (sumF (inP P S r p) k)) (ii (k : Nat)) (il rc) = some (ii (sumF (inP P S r p) 4), il rz) ∧ ∀ c, c < 4 → rz c = (r c : Nat) + inP P S r p c := by
  intro q
  induction q with
  | zero =>
    intro k fu rc hk hf h1 h2
    obtain ⟨n, rfl⟩ : ∃ n, fu = n + 1 := ⟨fu - 1, by omega⟩
    have e : k = 4 := by omega
    subst e
    refine ⟨rc, ?_, h1⟩
    rw [fX1_passLinesAt_4]
    dsimp only
    rw [if_pos (by decide)]
  | succ q ih =>
    intro k fu rc hk hf h1 h2
    obtain ⟨n, rfl⟩ : ∃ n, fu = n + 1 := ⟨fu - 1, by omega⟩
    have hk4 : k < 4 := by omega
    have hrk := h2 k (Nat.le_refl _) hk4
    have hrn := hr k hk4
    obtain ⟨b1, b2, b3⟩ := ffP_b hP hS hS2 hk4
    have hstay : inP P S r p k = 0 → ∃ rz : Nat → Int, fX1_passLinesAt_51 (fX1_passLinesAt_4 (ii p) (il lc) (il bl) n) (ii p) (il lc) (il bl) (ii (sumF (inP P S r p) k)) (ii (k : Nat)) (il rc) = some (ii (sumF (inP P S r p) 4), il rz) ∧ ∀ c, c < 4 → rz c = (r c : Nat) + inP P S r p c := by
      intro hz
      have hi := ih (k + 1) n rc (by omega) (by omega) (fun c hc => by
        rcases Nat.lt_or_ge c k with g | g
        · exact h1 c g
        · have e : c = k := by omega
          rw [e, hrk, hz, Int.add_zero]) (fun c g1 g2 => h2 c (by omega) g2)
      rw [sumF_s, hz, Int.add_zero] at hi
      unfold fX1_passLinesAt_51
      rw [nm_eq, ii_suc]
      exact hi
    rw [fX1_passLinesAt_4]
    dsimp only
    rw [if_neg (n4 hk4), e_reach hk4 hrk, h.count hk4, bd_eq]
    rcases Nat.lt_or_ge (r k) (nnP P S k) with g | g
    · have hb := b2 (r k) g
      rw [if_neg (le_iiF (by omega) (by omega) g), e_reach hk4 hrk, h.base hk4 b1 g, bd_eq]
      rcases Classical.em (ffP P S k (r k) = p) with w | w
      · have hz : inP P S r p k = 1 := by
          unfold inP
          rw [if_pos ⟨g, w⟩]
        have hi := ih (k + 1) n (zu rc k ((r k : Nat) + 1)) (by omega) (by omega) (fun c hc => by
          rcases Nat.lt_or_ge c k with g9 | g9
          · rw [zu_ne (by omega)]
            exact h1 c g9
          · have e : c = k := by omega
            rw [e, zu_eq, hz]) (fun c g1 g2 => by
          rw [zu_ne (by omega)]
          exact h2 c (by omega) g2)
        rw [sumF_s, hz] at hi
        unfold fX1_passLinesAt_51
        rw [if_pos (by rw [w]), e_reach hk4 hrk, q_1, ii_add, aset_ii (by omega) (by omega) (by omega), nm_eq, nm_eq, ii_add, ← q_1, ii_suc, Int.toNat_natCast]
        exact hi
      · rw [if_neg (by rw [ii_eq (by omega) (by omega) (by omega) (by omega)]; exact w)]
        exact hstay (by unfold inP; rw [if_neg (fun v => w v.2)])
    · rw [if_pos (le_iiT (by omega) (by omega) g)]
      exact hstay (by unfold inP; rw [if_neg (fun v => by omega)])
def UpP (P : Nat → Int) (S : Int) (r : Nat → Nat) (k : Nat) (U : Int) : Prop := (U = -5 ∧ ∀ c, c < k → nnP P S c ≤ r c) ∨ (0 ≤ U ∧ U ≤ 9999 ∧ (∃ c, c < k ∧ r c < nnP P S c ∧ U = ffP P S c (r c)) ∧ ∀ c, c < k → r c < nnP P S c → U ≤ ffP P S c (r c))
theorem e_upper (h : CL P S lc bl lb) (hP : PgOK P) (hS : 20 ≤ S) (hS2 : S ≤ 500) {r : Nat → Nat} {rc : Nat → Int} (hr : ∀ c, c < 4 → r c ≤ nnP P S c) (hrc : ∀ c, c < 4 → rc c = (r c : Nat)) :
    ∀ (q k fu : Nat) (U : Int), k + q = 4 → q < fu → UpP P S r k U → ∃ V, fX1_uppermostReached_5 (il lc) (il bl) (il rc) fu (ii U) (ii (k : Nat)) = some (ii V) ∧ UpP P S r 4 V := by
  intro q
  induction q with
  | zero =>
    intro k fu U hk hf hU
    obtain ⟨n, rfl⟩ : ∃ n, fu = n + 1 := ⟨fu - 1, by omega⟩
    have e : k = 4 := by omega
    subst e
    refine ⟨U, ?_, hU⟩
    rw [fX1_uppermostReached_5]
    dsimp only
    rw [if_pos (by decide)]
  | succ q ih =>
    intro k fu U hk hf hU
    obtain ⟨n, rfl⟩ : ∃ n, fu = n + 1 := ⟨fu - 1, by omega⟩
    have hk4 : k < 4 := by omega
    have hrk := hrc k hk4
    have hrn := hr k hk4
    obtain ⟨b1, b2, b3⟩ := ffP_b hP hS hS2 hk4
    rw [fX1_uppermostReached_5]
    dsimp only
    unfold fX1_uppermostReached_51 fX1_uppermostReached_52
    rw [if_neg (n4 hk4), e_reach hk4 hrk, h.count hk4, bd_eq]
    simp only [nm_eq, ii_suc]
    rcases Nat.lt_or_ge (r k) (nnP P S k) with g | g
    · have hb := b2 (r k) g
      rw [if_neg (le_iiF (by omega) (by omega) g), e_reach hk4 hrk, h.base hk4 b1 g, bd_eq, q_5, ii_neg]
      rcases hU with ⟨u1, u2⟩ | ⟨u1, u0, ⟨d, u2, u3, u4⟩, u5⟩
      · rw [u1, if_pos rfl]
        refine ih (k + 1) n _ (by omega) (by omega) (Or.inr ⟨hb.1, hb.2, ⟨k, by omega, g, rfl⟩, fun c hc hc2 => ?_⟩)
        rcases Nat.lt_or_ge c k with g9 | g9
        · have := u2 c g9
          omega
        · have e : c = k := by omega
          rw [e]
          exact Int.le_refl _
      · rw [if_neg (show ¬ ii U = ii (-5) by rw [ii_eq (by omega) (by omega) (by omega) (by omega)]; omega)]
        rcases Int.lt_or_le (ffP P S k (r k)) U with w | w
        · rw [if_pos (by rw [ii_lt (by omega) (by omega) (by omega) (by omega)]; exact w)]
          refine ih (k + 1) n _ (by omega) (by omega) (Or.inr ⟨hb.1, hb.2, ⟨k, by omega, g, rfl⟩, fun c hc hc2 => ?_⟩)
          rcases Nat.lt_or_ge c k with g9 | g9
          · have := u5 c g9 hc2
            omega
          · have e : c = k := by omega
            rw [e]
            exact Int.le_refl _
        · rw [if_neg (by rw [ii_lt (by omega) (by omega) (by omega) (by omega)]; omega)]
          refine ih (k + 1) n _ (by omega) (by omega) (Or.inr ⟨u1, u0, ⟨d, by omega, u3, u4⟩, fun c hc hc2 => ?_⟩)
          rcases Nat.lt_or_ge c k with g9 | g9
          · exact u5 c g9 hc2
          · have e : c = k := by omega
            rw [e]
            exact w
    · rw [if_pos (le_iiT (by omega) (by omega) g)]
      refine ih (k + 1) n _ (by omega) (by omega) ?_
      rcases hU with ⟨u1, u2⟩ | ⟨u1, u0, ⟨d, u2, u3, u4⟩, u5⟩
      · left
        refine ⟨u1, fun c hc => ?_⟩
        rcases Nat.lt_or_ge c k with g9 | g9
        · exact u2 c g9
        · have e : c = k := by omega
          rw [e]
          exact g
      · right
        refine ⟨u1, u0, ⟨d, by omega, u3, u4⟩, fun c hc hc2 => ?_⟩
        rcases Nat.lt_or_ge c k with g9 | g9
        · exact u5 c g9 hc2
        · have e : c = k := by omega
          rw [e] at hc2
          omega
/-- where the way down the lines stands: behind all lines down to T -/
def WayP (P : Nat → Int) (S : Int) (r : Nat → Nat) (T : Int) : Prop := ∀ c, c < 4 → r c ≤ nnP P S c ∧ ∀ i, i < nnP P S c → (i < r c ↔ ffP P S c i ≤ T)
theorem WayP.inEq {r : Nat → Nat} {T : Int} (h : WayP P S r T) (hP : PgOK P) (hS : 20 ≤ S) (hS2 : S ≤ 500) {b : Int} (hTb : T < b) (hmin : ∀ c, c < 4 → r c < nnP P S c → b ≤ ffP P S c (r c)) {c : Nat} (hc : c < 4) : inP P S r b c = htP P S c b := by
  obtain ⟨b1, b2, b3⟩ := ffP_b hP hS hS2 hc
  obtain ⟨h1, h2⟩ := h c hc
  unfold inP htP
  rcases Classical.em (r c < nnP P S c ∧ ffP P S c (r c) = b) with q | q
  · rw [if_pos q, hsF_one q.1 q.2]
  · rw [if_neg q, hsF_zero]
    intro i hi e
    have h3 := h2 i hi
    rcases Nat.lt_or_ge i (r c) with g | g
    · have := h3.mp g
      omega
    · have hrc : r c < nnP P S c := by omega
      have h4 := hmin c hc hrc
      rcases Nat.lt_or_ge (r c) i with g2 | g2
      · have := b3 (r c) i g2 hi
        omega
      · have e2 : i = r c := by omega
        rw [e2] at e
        exact q ⟨hrc, e⟩
theorem WayP.next {r rz : Nat → Nat} {T b : Int} (h : WayP P S r T) (hP : PgOK P) (hS : 20 ≤ S) (hS2 : S ≤ 500) (hTb : T < b) (hmin : ∀ c, c < 4 → r c < nnP P S c → b ≤ ffP P S c (r c)) (hrz : ∀ c, c < 4 → (rz c : Int) = (r c : Nat) + inP P S r b c) : WayP P S rz b := by
  intro c hc
  obtain ⟨b1, b2, b3⟩ := ffP_b hP hS hS2 hc
  obtain ⟨h1, h2⟩ := h c hc
  have hz := hrz c hc
  unfold inP at hz
  rcases Classical.em (r c < nnP P S c ∧ ffP P S c (r c) = b) with q | q
  · rw [if_pos q] at hz
    have ez : rz c = r c + 1 := by omega
    rw [ez]
    refine ⟨by omega, fun i hi => ⟨fun g => ?_, fun g => ?_⟩⟩
    · rcases Nat.lt_or_ge i (r c) with g2 | g2
      · have := (h2 i hi).mp g2
        omega
      · have e : i = r c := by omega
        rw [e]
        omega
    · rcases Nat.lt_or_ge (r c) i with g2 | g2
      · have := b3 (r c) i g2 hi
        omega
      · omega
  · rw [if_neg q] at hz
    have ez : rz c = r c := by omega
    rw [ez]
    refine ⟨h1, fun i hi => ⟨fun g => ?_, fun g => ?_⟩⟩
    · have := (h2 i hi).mp g
      omega
    · rcases Nat.lt_or_ge i (r c) with g2 | g2
      · exact g2
      · have hrc : r c < nnP P S c := by omega
        have h4 := hmin c hc hrc
        have h5 : ffP P S c (r c) ≠ b := fun e => q ⟨hrc, e⟩
        rcases Nat.lt_or_ge (r c) i with g3 | g3
        · have := b3 (r c) i g3 hi
          omega
        · have e : i = r c := by omega
          rw [e] at g
          omega
theorem WayP.above {r : Nat → Nat} {T b : Int} (h : WayP P S r T) (hP : PgOK P) (hS : 20 ≤ S) (hS2 : S ≤ 500) (hmin : ∀ c, c < 4 → r c < nnP P S c → b ≤ ffP P S c (r c)) {p : Int} (hp : ShP P S p) (hT : T < p) : b ≤ p := by
  obtain ⟨c, hc, i, hi, e⟩ := hp.line
  obtain ⟨b1, b2, b3⟩ := ffP_b hP hS hS2 hc
  obtain ⟨h1, h2⟩ := h c hc
  have h3 := h2 i hi
  rcases Nat.lt_or_ge i (r c) with g | g
  · have := h3.mp g
    omega
  · have hrc : r c < nnP P S c := by omega
    have h4 := hmin c hc hrc
    rcases Nat.lt_or_ge (r c) i with g2 | g2
    · have := b3 (r c) i g2 hi
      omega
    · have e2 : i = r c := by omega
      rw [e2] at e
      omega
end
