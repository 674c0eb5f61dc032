/-! the class's way down the lines -/
section
variable {P : Nat → Int} {S : Int} {lc bl lb : Nat → Int}
theorem ResP.skip {b last : Int} (hlb : last ≤ b) (hno : ∀ p, ShP P S p → last < p → p ≤ b → False) : ∀ (k : Nat) (R : Int), ResP P S k b R → ResP P S k last R := by
  have h1 : ∀ R, NxP P S b R → NxP P S last R := fun R h => ⟨h.1, by have := h.2.1; omega, fun p hp hl => by
    rcases Int.lt_or_le b p with g | g
    · exact h.2.2 p hp g
    · exact absurd (hno p hp hl g) id⟩
  have h2 : NoP P S b → NoP P S last := fun h p hp hl => by
    rcases Int.lt_or_le b p with g | g
    · exact h p hp g
    · exact hno p hp hl g
  intro k R
  cases k with
  | zero =>
    intro h
    rcases h with h | ⟨e, h⟩
    · exact Or.inl (h1 R h)
    · exact Or.inr ⟨e, h2 h⟩
  | succ k =>
    intro h
    rcases h with ⟨x, h, g⟩ | ⟨e, h⟩
    · exact Or.inl ⟨x, h1 x h, g⟩
    · exact Or.inr ⟨e, h2 h⟩
theorem ResP.none {last : Int} (h : NoP P S last) (k : Nat) : ResP P S k last (-5) := by
  cases k with
  | zero => exact Or.inr ⟨rfl, h⟩
  | succ k => exact Or.inr ⟨rfl, h⟩
theorem ShP.b {p : Int} (h : ShP P S p) (hP : PgOK P) (hS : 20 ≤ S) (hS2 : S ≤ 500) : 0 ≤ p ∧ p ≤ 9999 := by
  obtain ⟨c, hc, i, hi, e⟩ := h.line
  have := (ffP_b hP hS hS2 hc).2.1 i hi
  omega
theorem ResP.sort (hP : PgOK P) (hS : 20 ≤ S) (hS2 : S ≤ 500) : ∀ (k : Nat) (last R : Int), ResP P S k last R → R = -5 ∨ (ShP P S R ∧ 0 ≤ R ∧ R ≤ 9999) := by
  intro k
  induction k with
  | zero =>
    intro last R h
    rcases h with h | h
    · exact Or.inr ⟨h.1, h.1.b hP hS hS2⟩
    · exact Or.inl h.1
  | succ k ih =>
    intro last R h
    rcases h with ⟨x, h, g⟩ | h
    · exact ih x R g
    · exact Or.inl h.1
theorem WayP.no {r : Nat → Nat} {T last : Int} (h : WayP P S r T) (hno : ∀ p, ShP P S p → last < p → p ≤ T → False) (hall : ∀ c, c < 4 → nnP P S c ≤ r c) : NoP P S last := by
  intro p hp hl
  obtain ⟨c, hc, i, hi, e⟩ := hp.line
  have h1 := ((h c hc).2 i hi).mp (by have := hall c hc; omega)
  exact hno p hp hl (by omega)
theorem e_24s (h : CL P S lc bl lb) (hP : PgOK P) (hS : 20 ≤ S) (hS2 : S ≤ 500) {rank : Nat} (hrank : rank < 2147483648) :
    ∀ (q w fu : Nat) (r : Nat → Nat) (rc : Nat → Int) (T last : Int) (found rem : Nat), w + q = 2561 → q < fu → rank = found + rem → (∀ c, c < 4 → rc c = (r c : Nat)) → WayP P S r T → last ≤ T → -1 ≤ T → (∀ p, ShP P S p → last < p → p ≤ T → False) → (w : Int) ≤ sumF (fun c => (r c : Nat)) 4 →
      ∃ (R : Int) (rz : Nat → Int), fX1_sharedBaseline_24 (ii rank) (il lc) (il bl) fu (ii found) (ii w) (il rc) = some (ii R, il rz) ∧ ResP P S rem last R := by
  have n0 := (ffP_b hP hS hS2 (show 0 < 4 by omega)).1
  have n1 := (ffP_b hP hS hS2 (show 1 < 4 by omega)).1
  have n2 := (ffP_b hP hS hS2 (show 2 < 4 by omega)).1
  have n3 := (ffP_b hP hS hS2 (show 3 < 4 by omega)).1
  intro q
  induction q with
  | zero =>
    intro w fu r rc T last found rem hw hf hrk hrc hway hlT hT1 hno hsum
    rw [sum4] at hsum
    have r0 := (hway 0 (by omega)).1
    have r1 := (hway 1 (by omega)).1
    have r2 := (hway 2 (by omega)).1
    have r3 := (hway 3 (by omega)).1
    omega
  | succ q ih =>
    intro w fu r rc T last found rem hw hf hrk hrc hway hlT hT1 hno hsum
    obtain ⟨n, rfl⟩ : ∃ n, fu = n + 1 := ⟨fu - 1, by omega⟩
    have hsum2 := hsum
    rw [sum4] at hsum2
    have r0 := (hway 0 (by omega)).1
    have r1 := (hway 1 (by omega)).1
    have r2 := (hway 2 (by omega)).1
    have r3 := (hway 3 (by omega)).1
    rw [fX1_sharedBaseline_24]
    dsimp only
    rcases Nat.lt_or_ge w 2560 with hw2 | hw2
    · obtain ⟨U, u1, u2⟩ := e_upper h hP hS hS2 (fun c hc => (hway c hc).1) hrc 4 0 Fu (-5) (by omega) (by rw [Fu_s]; omega) (Or.inl ⟨rfl, fun c hc => absurd hc (Nat.not_lt_zero c)⟩)
      have u3 : fX1_uppermostReached (il lc) (il bl) (il rc) = some (ii U) := by
        unfold fX1_uppermostReached
        rw [q_5, ii_neg]
        exact u1
      rw [if_neg (by rw [q_2560, ii_le (by omega) (by omega) (by omega) (by omega)]; omega), u3, bd_eq]
      rcases u2 with ⟨v1, v2⟩ | ⟨v1, v0, ⟨d, hd, v3, v4⟩, v5⟩
      · rw [v1, if_pos (by decide)]
        exact ⟨-5, rc, rfl, ResP.none (hway.no hno (fun c hc => v2 c hc)) rem⟩
      · have hTU : T < U := by
          have h1 := (hway d hd).2 (r d) v3
          rcases Int.lt_or_le T U with g | g
          · exact g
          · have := h1.mpr (by omega)
            omega
        rw [if_neg (show ¬ ii U = -5 by rw [q_5, ii_neg, ii_eq (by omega) (by omega) (by omega) (by omega)]; omega)]
        obtain ⟨rz, p1, p2⟩ := e_pass h hP hS hS2 (p := U) (by omega) (by omega) (fun c hc => (hway c hc).1) 4 0 Fu rc (by omega) (by rw [Fu_s]; omega) (fun c hc => absurd hc (Nat.not_lt_zero c)) (fun c _ hc => hrc c hc)
        have p3 : fX1_passLinesAt (ii U) (il lc) (il bl) (il rc) = some (ii (sumF (inP P S r U) 4), il rz) := p1
        have hin : sumF (inP P S r U) 4 = sumF (fun c => htP P S c U) 4 := sumF_congr (fun c hc => hway.inEq hP hS hS2 hTU (fun c hc => v5 c hc) hc)
        obtain ⟨rn, hrn⟩ : ∃ rn : Nat → Nat, rn = fun c => (rz c).toNat := ⟨_, rfl⟩
        have hrn2 : ∀ c, c < 4 → rz c = (rn c : Nat) := fun c hc => by
          have := p2 c hc
          have g := inP_01 P S r U c
          rw [hrn]
          show rz c = ((rz c).toNat : Int)
          omega
        have hway2 : WayP P S rn U := hway.next hP hS hS2 hTU (fun c hc => v5 c hc) (fun c hc => by rw [← hrn2 c hc]; exact p2 c hc)
        have hcnt := sum4_b (g := inP P S r U) (fun c _ => inP_01 P S r U c)
        have hd1 : inP P S r U d = 1 := by
          unfold inP
          rw [if_pos ⟨v3, v4.symm⟩]
        have hsum3 : ((w + 1 : Nat) : Int) ≤ sumF (fun c => (rn c : Nat)) 4 := by
          rw [sum4]
          have g0 := p2 0 (by omega)
          have g1 := p2 1 (by omega)
          have g2 := p2 2 (by omega)
          have g3 := p2 3 (by omega)
          have k0 := hrn2 0 (by omega)
          have k1 := hrn2 1 (by omega)
          have k2 := hrn2 2 (by omega)
          have k3 := hrn2 3 (by omega)
          have j0 := inP_01 P S r U 0
          have j1 := inP_01 P S r U 1
          have j2 := inP_01 P S r U 2
          have j3 := inP_01 P S r U 3
          have hd4 : d = 0 ∨ d = 1 ∨ d = 2 ∨ d = 3 := by omega
          rcases hd4 with rfl | rfl | rfl | rfl <;> omega
        rw [p3, bd_eq]
        dsimp only
        unfold fX1_sharedBaseline_68
        simp only [nm_eq, ii_suc]
        rcases Int.lt_or_le (sumF (inP P S r U) 4) 2 with hc2 | hc2
        · rw [if_pos (by rw [q_2, ii_lt (by omega) (by omega) (by omega) (by omega)]; exact hc2)]
          have hno2 : ∀ p, ShP P S p → last < p → p ≤ U → False := fun p hp hl hU => by
            rcases Int.lt_or_le T p with g | g
            · have g2 := hway.above hP hS hS2 (fun c hc => v5 c hc) hp g
              have e : p = U := by omega
              unfold ShP at hp
              rw [e, ← hin] at hp
              omega
            · exact hno p hp hl g
          exact ih (w + 1) n rn rz U last found rem (by omega) (by omega) hrk hrn2 hway2 (by omega) (by omega) hno2 hsum3
        · have hsh : ShP P S U := by
            unfold ShP
            rw [← hin]
            exact hc2
          have hnx : NxP P S last U := ⟨hsh, by omega, fun p hp hl => by
            rcases Int.lt_or_le T p with g | g
            · exact hway.above hP hS hS2 (fun c hc => v5 c hc) hp g
            · exact absurd (hno p hp hl g) id⟩
          rw [if_neg (by rw [q_2, ii_lt (by omega) (by omega) (by omega) (by omega)]; omega)]
          rcases Nat.eq_zero_or_pos rem with hz | hz
          · subst hz
            rw [if_pos (by rw [hrk]; rfl)]
            exact ⟨U, rz, rfl, Or.inl hnx⟩
          · obtain ⟨rem', rfl⟩ : ∃ x, rem = x + 1 := ⟨rem - 1, by omega⟩
            rw [if_neg (by rw [ii_eq (by omega) (by omega) (by omega) (by omega)]; omega)]
            obtain ⟨R, rzz, e1, e2⟩ := ih (w + 1) n rn rz U U (found + 1) rem' (by omega) (by omega) (by omega) hrn2 hway2 (Int.le_refl _) (by omega) (fun p hp hl hU => by omega) hsum3
            exact ⟨R, rzz, e1, Or.inl ⟨U, hnx, e2⟩⟩
    · rw [if_pos (by rw [q_2560, ii_le (by omega) (by omega) (by omega) (by omega)]; omega)]
      refine ⟨-5, rc, rfl, ResP.none (hway.no hno (fun c hc => ?_)) rem⟩
      have hc4 : c = 0 ∨ c = 1 ∨ c = 2 ∨ c = 3 := by omega
      rcases hc4 with rfl | rfl | rfl | rfl <;> omega
theorem e_4s {i1 w2 : Int32} {lcx blx : Nat → Int32} : ∀ (q k fu : Nat) (rc : Nat → Int), k + q = 4 → q < fu → (∀ c, c < k → rc c = 0) → ∃ rz : Nat → Int, fX1_sharedBaseline_4 i1 lcx blx w2 fu (ii (k : Nat)) (il rc) = fX1_sharedBaseline_24 i1 lcx blx Fu w2 0 (il rz) ∧ ∀ c, c < 4 → rz c = 0 := by
  intro q
  induction q with
  | zero =>
    intro k fu rc hk hf h
    obtain ⟨n, rfl⟩ : ∃ n, fu = n + 1 := ⟨fu - 1, by omega⟩
    have e : k = 4 := by omega
    subst e
    refine ⟨rc, ?_, h⟩
    rw [fX1_sharedBaseline_4]
    dsimp only
    rw [if_pos (by decide)]
  | succ q ih =>
    intro k fu rc hk hf h
    obtain ⟨n, rfl⟩ : ∃ n, fu = n + 1 := ⟨fu - 1, by omega⟩
    obtain ⟨rz, e1, e2⟩ := ih (k + 1) n (zu rc k 0) (by omega) (by omega) (fun c hc => by
      rcases Nat.lt_or_ge c k with g | g
      · rw [zu_ne (by omega)]
        exact h c g
      · have e : c = k := by omega
        rw [e, zu_eq])
    refine ⟨rz, ?_, e2⟩
    rw [fX1_sharedBaseline_4]
    dsimp only
    rw [if_neg (n4 (by omega)), q_0, aset_ii (by omega) (by omega) (by omega), nm_eq, ii_suc, Int.toNat_natCast, ← q_0]
    exact e1
theorem e_shared (h : CL P S lc bl lb) (hP : PgOK P) (hS : 20 ≤ S) (hS2 : S ≤ 500) {rank : Nat} (hrank : rank < 2147483648) (rx : Nat → Int32) : ∃ (R : Int) (rz : Nat → Int), fX1_sharedBaseline (ii rank) (il lc) (il bl) rx = some (ii R, il rz) ∧ ResP P S rank (-1) R := by
  obtain ⟨rc, rfl⟩ := il_of rx
  obtain ⟨rz, e1, e2⟩ := e_4s (i1 := ii rank) (w2 := 0) (lcx := il lc) (blx := il bl) 4 0 Fu rc (by omega) (by rw [Fu_s]; omega) (fun c hc => absurd hc (Nat.not_lt_zero c))
  obtain ⟨R, ry, g1, g2⟩ := e_24s h hP hS hS2 hrank 2561 0 Fu (fun _ => 0) rz (-1) (-1) 0 rank (by omega) (by rw [Fu_s]; omega) (by omega) (fun c hc => by rw [e2 c hc]; rfl) (fun c hc => ⟨Nat.zero_le _, fun i hi => ⟨fun g => absurd g (Nat.not_lt_zero i), fun g => by
    have := (ffP_b hP hS hS2 hc).2.1 i hi
    omega⟩⟩) (Int.le_refl _) (Int.le_refl _) (fun p hp hl hU => by omega) (by rw [sum4]; decide)
  refine ⟨R, ry, ?_, g2⟩
  unfold fX1_sharedBaseline
  exact e1.trans g1
end
