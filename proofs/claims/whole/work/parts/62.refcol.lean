/-! the reference sets a column as csS does -/
theorem m_setsLines {Q : Nat → Int} {c b : Nat} (hc : c < 4) (hb : b < 16) {S cu : Int} {T0 : Nat} {li ow my ov dn : Nat → Int} (hS : 0 < S) (hS2 : S ≤ 500) (hF : 0 ≤ Q 1) (hF2 : Q 1 ≤ 500) (hH : Q 0 ≤ 9999) (hH0 : 0 ≤ Q 0) (hcu : 0 ≤ cu) (hcu2 : cu ≤ 100000)
    (h1 : 1 ≤ mf Q c b 1) (h2 : mf Q c b 1 ≤ 40) (h3 : 40 ≤ mf Q c b 2) (h4 : mf Q c b 2 ≤ 400) (h5 : mf Q c b 2 ≤ mf Q c b 3) (h6 : mf Q c b 3 ≤ 600) (h7 : mf Q c b 4 = 0 ∨ mf Q c b 4 = 1) (hT0 : T0 + 40 ≤ 640) (hmy : my c = T0) (hdn : dn (16 * c + b) = 0)
    {f : Nat → Int} (ef : f = blS (Q 1) S cu (7 * mf Q c b 2 / 10) (mf Q c b 3) (mf Q c b 4)) {m : Nat} (em : m = cntS (Q 0) (3 * mf Q c b 2 / 10) f (mf Q c b 1).toNat) :
    ∃ (li' ow' my' dn' : Nat → Int), fX5_setsLines (ii c) (ii b) (ii cu) (ii S) (il Q) (il li) (il ow) (il my) (il ov) (il dn)
        = some (ii (if m = 0 then cu else f (m - 1) + 3 * mf Q c b 2 / 10), il li', il ow', il my', il (if m < (mf Q c b 1).toNat then zu ov c b else ov), il dn')
      ∧ my' c = ((T0 + m : Nat) : Int) ∧ (∀ j, j ≠ c → my' j = my j) ∧ dn' (16 * c + b) = m ∧ (∀ j, j ≠ 16 * c + b → dn' j = dn j)
      ∧ (∀ i, i < m → li' (640 * c + T0 + i) = f i ∧ ow' (640 * c + T0 + i) = b)
      ∧ (∀ j, j < 640 * c + T0 ∨ 640 * c + T0 + m ≤ j → li' j = li j ∧ ow' j = ow j) := by
  obtain ⟨ln, hln⟩ : ∃ ln : Nat, mf Q c b 1 = ln := ⟨(mf Q c b 1).toNat, by omega⟩
  have e9 : (mf Q c b 1).toNat = ln := by omega
  rw [e9] at em ⊢
  obtain ⟨li', ow', my', dn', e1, e2, e3, e4, e5, e6, e7, e8⟩ := m_44 (ov := ov) (T0 := T0) (below := 3 * mf Q c b 2 / 10) hc hb hS hS2 hF hF2 hH hH0 hcu hcu2 (show 0 ≤ 7 * mf Q c b 2 / 10 by omega) (by omega) (by omega) h6 h7 (by omega) (by omega) (show ln ≤ 40 by omega) hln hT0 ef em ln 0 Fu (cu + 7 * mf Q c b 2 / 10 - mf Q c b 3) cu li ow my dn (by omega) (by rw [Fu_s]; omega) (fun _ => rfl) (fun j q => by omega) (fun i hi => absurd hi (Nat.not_lt_zero i)) (by rw [hmy]; omega) (by rw [hdn]; omega)
  refine ⟨li', ow', my', dn', ?_, e2, e3, e4, e5, fun i hi => e6 i (Nat.zero_le i) hi, fun j hj => e7 j (by omega)⟩
  unfold fX5_setsLines
  rw [m_f2 hc hb, m_f3 hc hb]
  simp (disch := omega) only [bd_eq, nm_eq, q_3, q_7, q_10, ii_mul, ii_div, ii_add, ii_sub]
  exact e1
theorem m_206 {kk : Int32 → Int32 → (Nat → Int32) → (Nat → Int32) → (Nat → Int32) → (Nat → Int32) → (Nat → Int32) → (Nat → Int32) → (Nat → Int32) → Option ((Nat → Int32) × (Nat → Int32) × (Nat → Int32) × (Nat → Int32) × (Nat → Int32) × (Nat → Int32) × (Nat → Int32) × (Nat → Int32))} {i1 i2 w3 : Int32} {ce li ow my en ov ah be dn : Nat → Int32} {b : Nat} : fX5_setsColumn_206 kk i1 i2 ce w3 (ii b) li ow my en ov ah be dn = kk w3 (ii ((b + 1 : Nat) : Int)) li ow my ov ah be dn := by
  unfold fX5_setsColumn_206
  simp only [nm_eq, q_1, ii_add]
  rfl
theorem m_198 {kk : Int32 → Int32 → (Nat → Int32) → (Nat → Int32) → (Nat → Int32) → (Nat → Int32) → (Nat → Int32) → (Nat → Int32) → (Nat → Int32) → Option ((Nat → Int32) × (Nat → Int32) × (Nat → Int32) × (Nat → Int32) × (Nat → Int32) × (Nat → Int32) × (Nat → Int32) × (Nat → Int32))} {i1 i2 : Int32} {ce li ow my en ov ah dn : Nat → Int32} {be : Nat → Int} {c b : Nat} {cu : Int} (hc : c < 4) (hb : b < 16) : fX5_setsColumn_198 kk i1 i2 ce (ii cu) (ii b) (ii (16 * (c : Int) + b)) li ow my en ov ah (il be) dn = kk (ii cu) (ii ((b + 1 : Nat) : Int)) li ow my ov ah (il (zu be (16 * c + b) cu)) dn := by
  unfold fX5_setsColumn_198
  rw [aset_ii (by omega) (by omega) (by omega), m_206, show (16 * (c : Int) + b).toNat = 16 * c + b by omega]
theorem m_144 {kk : Int32 → Int32 → (Nat → Int32) → (Nat → Int32) → (Nat → Int32) → (Nat → Int32) → (Nat → Int32) → (Nat → Int32) → (Nat → Int32) → Option ((Nat → Int32) × (Nat → Int32) × (Nat → Int32) × (Nat → Int32) × (Nat → Int32) × (Nat → Int32) × (Nat → Int32) × (Nat → Int32))} {li ow my en ov ah : Nat → Int32} {Q be dn : Nat → Int} {c b : Nat} {S cu kd hg : Int} (hc : c < 4) (hb : b < 16) (hS : 0 < S) (hS2 : S ≤ 500) (hF : 0 ≤ Q 1) (hF2 : Q 1 ≤ 500) (hR : Q 3 = 0 ∨ Q 3 = 1) (hcu : 0 ≤ cu) (hcu2 : cu ≤ 100000) (h1 : 1 ≤ hg) (h2 : hg ≤ 3000) (hk : kd = 1 ∨ kd = 2) :
    fX5_setsColumn_144 kk (ii c) (ii S) (il Q) (ii cu) (ii b) (ii (16 * (c : Int) + b)) (ii kd) (ii hg) li ow my en ov ah (il be) (il dn)
      = kk (ii (if kd = 1 then (if Q 3 = 1 then nxS (Q 1) S (cu + hg) else cu + hg) else (if cu = 0 then 0 else cu + hg))) (ii ((b + 1 : Nat) : Int)) li ow my ov ah (il (zu be (16 * c + b) (if kd = 1 then (if Q 3 = 1 then nxS (Q 1) S (cu + hg) else cu + hg) else (if cu = 0 then 0 else cu + hg)))) (il (zu dn (16 * c + b) 1)) := by
  have f3 : ∀ {α : Type} (g : Int32 → Option α), aget 393 (il Q) 3 g = g (ii (Q 3)) := fun g => aget_ii (z := 3) (by omega) (by omega) (by omega)
  unfold fX5_setsColumn_144 fX5_setsColumn_167 fX5_setsColumn_169 fX5_setsColumn_196 fX5_setsColumn_197
  simp (disch := omega) only [q_1, aset_ii]
  rw [show (16 * (c : Int) + b).toNat = 16 * c + b by omega]
  rcases hk with rfl | rfl
  · rw [if_neg (by decide), if_pos (rfl : (1 : Int) = 1), ii_add]
    simp only [nm_eq, f3]
    rw [if_pos trivial]
    rcases hR with h | h
    · rw [h, if_neg (by decide), if_neg (by decide), m_198 hc hb]
    · rw [h, if_pos rfl, if_pos rfl, m_next hS hS2 hF hF2 (by omega) (by omega)]
      simp only [bd_eq]
      rw [m_198 hc hb]
  · rw [if_pos (by decide), if_neg (show ¬ (2 : Int) = 1 by omega)]
    rcases Classical.em (cu = 0) with h | h
    · rw [h, if_pos (by decide), if_pos rfl, q_0, ii_add]
      simp only [nm_eq]
      rw [if_neg (by decide), m_198 hc hb]
      rfl
    · rw [if_neg (show ¬ ii cu = 0 by
        rw [q_0, ii_eq (by omega) (by omega) (by omega) (by omega)]
        exact h), if_neg h, ii_add]
      simp only [nm_eq]
      rw [if_neg (by decide), m_198 hc hb]
def MColOK (cs : Nat → CS) (dn : Nat → Nat) (c b : Nat) (my ov ah be dA li ow : Nat → Int) : Prop :=
  my c = ((cs b).2.1.length : Nat) ∧ ov c = ((cs b).2.2 : Nat) ∧ LinesOK li ow c (cs b).2.1 ∧ ∀ j, j < b → dA (16 * c + j) = dn j ∧ (dn j ≠ 0 → ah (16 * c + j) = (cs j).1 ∧ be (16 * c + j) = (cs (j + 1)).1)
