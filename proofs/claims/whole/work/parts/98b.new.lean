/-! a new object -/
def sFi (z : Int) : Int := if z = 0 then 6000 else if z = 1 then 100 else if z = 2 then 120 else if z = 3 then 1 else 2
theorem e_cF {α : Type} {z : Int} {k : Int32 → Option α} (h0 : 0 ≤ z) (h5 : z < 5) : aget 5 cstF (ii z) k = k (ii (sFi z)) := by
  rw [aget_ii h0 (by omega) (by omega)]
  rcases five_z h0 h5 with rfl | rfl | rfl | rfl | rfl <;> exact congrArg k (by decide)
theorem zero_il : (fun _ : Nat => (0 : Int32)) = il (fun _ => 0) := funext fun _ => q_0
def NewP (Z : Nat → Int) : Prop := (∀ j : Nat, j < 5 → Z j = sFi j) ∧ ∀ j, 5 ≤ j → Z j = 0
theorem e_init2 : ∃ Y : Nat → Int, fX2_init = some (il Y) ∧ NewP Y := by
  have key : ∀ (r k fu : Nat) (Z : Nat → Int), k + r = 5 → r < fu → (∀ j : Nat, j < k → Z j = sFi j) → (∀ j, 5 ≤ j → Z j = 0) → ∃ Y : Nat → Int, fX2_init_15 fu (ii (k : Nat)) (il Z) = some (il Y) ∧ NewP Y := by
    intro r
    induction r with
    | zero =>
      intro k fu Z hk hf h1 h2
      obtain ⟨n, rfl⟩ : ∃ n, fu = n + 1 := ⟨fu - 1, by omega⟩
      have e : k = 5 := by omega
      subst e
      refine ⟨Z, ?_, h1, h2⟩
      rw [fX2_init_15]
      dsimp only
      rw [if_pos (by decide)]
    | succ r ih =>
      intro k fu Z hk hf h1 h2
      obtain ⟨n, rfl⟩ : ∃ n, fu = n + 1 := ⟨fu - 1, by omega⟩
      have hi := ih (k + 1) n (zu Z k (sFi k)) (by omega) (by omega) (fun j hj => by
        rcases Nat.lt_or_ge j k with g | g
        · rw [zu_ne (by omega)]
          exact h1 j g
        · have e : j = k := by omega
          rw [e, zu_eq]) (fun j hj => by rw [zu_ne (by omega)]; exact h2 j hj)
      rw [fX2_init_15]
      dsimp only
      rw [if_neg (by rw [q_5, ii_le (by omega) (by omega) (by omega) (by omega)]; omega), e_cF (by omega) (by omega), aset_ii (by omega) (by omega) (by omega), nm_eq, ii_suc, Int.toNat_natCast]
      exact hi
  unfold fX2_init
  rw [zero_il]
  exact key 5 0 Fu (fun _ => 0) (by omega) (by rw [Fu_s]; omega) (fun j hj => absurd hj (Nat.not_lt_zero j)) (fun _ _ => rfl)
theorem m_init5 : ∃ Y : Nat → Int, fX5_init = some (0, 0, 0, 0, il Y, (fun _ => 0), (fun _ => 0), (fun _ => 0), (fun _ => 0), (fun _ => 0), (fun _ => 0), (fun _ => 0), (fun _ => 0), (fun _ => 0), (fun _ => 0), (fun _ => 0)) ∧ NewP Y := by
  refine ⟨zu (zu (zu (zu (zu (fun _ => 0) 0 6000) 1 100) 2 120) 3 1) 4 2, ?_, fun j hj => ?_, fun j hj => ?_⟩
  · have s : ∀ {α : Type} (Z : Nat → Int) (k : Nat) (v : Int) (q : (Nat → Int32) → Option α), k < 5 → aset 393 (il Z) (ii (k : Nat)) (ii v) q = q (il (zu Z k v)) := fun Z k v q hk => by
      rw [aset_ii (by omega) (by omega) (by omega), Int.toNat_natCast]
    unfold fX5_init
    have h0 : ∀ {α : Type} (q : (Nat → Int32) → Option α), aset 393 (fun _ => 0) 0 6000 q = q (il (zu (fun _ => 0) 0 6000)) := fun q => by
      rw [zero_il]
      exact s _ 0 6000 q (by omega)
    have h1 : ∀ {α : Type} (Z : Nat → Int) (q : (Nat → Int32) → Option α), aset 393 (il Z) 1 100 q = q (il (zu Z 1 100)) := fun Z q => s Z 1 100 q (by omega)
    have h2 : ∀ {α : Type} (Z : Nat → Int) (q : (Nat → Int32) → Option α), aset 393 (il Z) 2 120 q = q (il (zu Z 2 120)) := fun Z q => s Z 2 120 q (by omega)
    have h3 : ∀ {α : Type} (Z : Nat → Int) (q : (Nat → Int32) → Option α), aset 393 (il Z) 3 1 q = q (il (zu Z 3 1)) := fun Z q => s Z 3 1 q (by omega)
    have h4 : ∀ {α : Type} (Z : Nat → Int) (q : (Nat → Int32) → Option α), aset 393 (il Z) 4 2 q = q (il (zu Z 4 2)) := fun Z q => s Z 4 2 q (by omega)
    rw [h0, h1, h2, h3, h4]
  · have k5 : j = 0 ∨ j = 1 ∨ j = 2 ∨ j = 3 ∨ j = 4 := by omega
    rcases k5 with rfl | rfl | rfl | rfl | rfl <;> rfl
  · rw [zu_ne (by omega), zu_ne (by omega), zu_ne (by omega), zu_ne (by omega), zu_ne (by omega)]
theorem new_rs {P Q : Nat → Int} (h1 : NewP P) (h2 : NewP Q) : RS P Q := by
  obtain ⟨a1, a2⟩ := h1
  obtain ⟨b1, b2⟩ := h2
  have a10 : P 0 = 6000 := a1 0 (by omega)
  have a11 : P 1 = 100 := a1 1 (by omega)
  have a12 : P 2 = 120 := a1 2 (by omega)
  have a13 : P 3 = 1 := a1 3 (by omega)
  have a14 : P 4 = 2 := a1 4 (by omega)
  have b10 : Q 0 = 6000 := b1 0 (by omega)
  have b11 : Q 1 = 100 := b1 1 (by omega)
  have b12 : Q 2 = 120 := b1 2 (by omega)
  have b13 : Q 3 = 1 := b1 3 (by omega)
  have b14 : Q 4 = 2 := b1 4 (by omega)
  have hp : ∀ c, pn P c = 0 := fun c => a2 (5 + c) (by omega)
  have hq : ∀ c, mn Q c = 0 := fun c => b2 (5 + 97 * c) (by omega)
  refine ⟨⟨by omega, by omega, by omega, by omega, by omega, by omega, by omega, by omega, by omega, fun c hc => ⟨by rw [hp]; omega, by rw [hp]; omega, fun b hb => ?_⟩⟩, by omega, by omega, by omega, by omega, by omega, fun c hc => ⟨by rw [hp, hq], fun b hb => ?_⟩⟩
  · rw [hp] at hb
    omega
  · rw [hp] at hb
    omega
set_option maxHeartbeats 4000000 in
theorem ok_new : op_new InvG := by
  obtain ⟨P, e1, e2⟩ := e_init2
  obtain ⟨Q, f1, f2⟩ := m_init5
  have hRS := new_rs e2 f2
  obtain ⟨hs1, hs2⟩ := hRS.1.stp
  obtain ⟨cu, t1, t2, t3, t4, t5, t6, t7, t8, l1, l2⟩ := e_layOutR (P := P) (S := P 2) (x1 := 0) (x2 := 0) (x3 := 0) (x4 := 0) (x5 := 0) (lc := fun _ => 0) (en := fun _ => 0) (ov := fun _ => 0) (ah := fun _ => 0) (be := fun _ => 0) (sp := fun _ => 0) (bl := fun _ => 0) (lb := fun _ => 0) hRS.1 hs1 hs2
  have h4 : fX4_init = some (0, il P, ii (P 0), ii (P 1), ii (P 2), ii (P 3), cu, il t1, il t2, il t3, il t4, il t5, il t6, il t7, il t8, (fun _ => 0), 0, 0, 0, 0, 0, (fun _ => 0), (fun _ => 0), (fun _ => 0), (fun _ => 0), (fun _ => 0), (fun _ => 0), (fun _ => 0), (fun _ => 0), (fun _ => 0), 0, (fun _ => 0), (fun _ => 0), 0, 0, 1, 0, 0, (fun _ => 0), (fun _ => 0)) := by
    unfold fX4_init fX1_init fX0_init fX3_init
    rw [e1]
    simp only [bd_eq]
    rw [show fX2_settingOf 2 (il P) = some (ii (P 2)) from e_setting (k := 2) (by omega)]
    simp only [bd_eq]
    rw [l1, bd_eq]
  refine ⟨_, _, h4, f1, ⟨P, Q, t1, t2, t3, t4, t5, t6, t7, t8, rfl, rfl, hRS, rfl, rfl, rfl, rfl, rfl, rfl, rfl, rfl, rfl, rfl, rfl, rfl, l2⟩, ⟨0, (fun _ => 0), (fun _ => 0), Nat.zero_le _, q_0, q_0, zero_il, zero_il, fun k hk => absurd hk (Nat.not_lt_zero k)⟩, ⟨rfl, (fun _ => 0), (fun _ => 0), zero_il, zero_il, Or.inl rfl⟩, ⟨0, (fun _ => 0), (fun _ => 0), Nat.zero_le _, q_0, q_0, zero_il, zero_il, fun i hi => absurd hi (Nat.not_lt_zero i)⟩⟩
