theorem e_undo0 {ce : Nat → Int32} {x1 x2 x3 x4 x5 : Int32} {lc en ov ah be sp bl lb rows : Nat → Int32} : fX4_undo ce x1 x2 x3 x4 x5 lc en ov ah be sp bl lb 0 rows = some (-5, ce, x1, x2, x3, x4, x5, lc, en, ov, ah, be, sp, bl, lb, 0) := by
  unfold fX4_undo fX0_states
  simp only [bd_eq]
  rw [if_pos trivial]
theorem e_undoS {k : Nat} {A P : Nat → Int} {x1 x2 x3 x4 x5 : Int32} {lc en ov ah be sp bl lb : Nat → Int32} (hk : k < 4) (hA : PgOK (fun j => A (393 * k + j))) :
    ∃ (P' : Nat → Int) (cu : Int32) (lcz enz ovz ahz bez spz blz lbz : Nat → Int), fX4_undo (il P) x1 x2 x3 x4 x5 lc en ov ah be sp bl lb (ii ((k + 1 : Nat) : Int)) (il A)
        = some (ii k, il P', ii (P' 0), ii (P' 1), ii (P' 2), ii (P' 3), cu, il lcz, il enz, il ovz, il ahz, il bez, il spz, il blz, il lbz, ii k) ∧ LayOK P' (P' 2) lcz enz ovz ahz bez spz blz lbz ∧ ∀ j, j < 393 → P' j = A (393 * k + j) := by
  obtain ⟨P', e1, e2⟩ := e_giveBack (A := A) (P := P) hk
  have hP' : PgOK P' := hA.ext e2
  obtain ⟨cu, lcz, enz, ovz, ahz, bez, spz, blz, lbz, f1, f2⟩ := e_again (x1 := x1) (x2 := x2) (x3 := x3) (x4 := x4) (x5 := x5) (lc := lc) (en := en) (ov := ov) (ah := ah) (be := be) (sp := sp) (bl := bl) (lb := lb) hP'
  refine ⟨P', cu, lcz, enz, ovz, ahz, bez, spz, blz, lbz, ?_, f2, e2⟩
  unfold fX4_undo fX0_states
  simp only [bd_eq]
  rw [if_neg (by
    rw [q_0, ii_eq (by omega) (by omega) (by omega) (by omega)]
    omega), e1]
  simp only [bd_eq]
  rw [f1]
  rfl
theorem ok_undo : op_undo InvG := by
  intro sg sm hI
  obtain ⟨hP, hH, hS, hT⟩ := hI
  obtain ⟨n, A, B, hn, s1, s2, s3, s4, hr⟩ := hH
  rcases Nat.eq_zero_or_pos n with hz | hz
  · subst hz
    have z0 : ii ((0 : Nat) : Int) = 0 := by decide
    rw [z0] at s1 s2
    refine ⟨_, _, by rw [s1]; exact e_undo0, by rw [s2]; rfl, rfl, hP, ⟨0, A, B, hn, ?_, ?_, s3, s4, hr⟩, hS, hT⟩
    · exact z0.symm
    · exact z0.symm
  · obtain ⟨k, rfl⟩ : ∃ k, n = k + 1 := ⟨n - 1, by omega⟩
    obtain ⟨P, Q, l1, l2, l3, l4, l5, l6, l7, l8, c1, c2, hRS, hrest⟩ := hP
    have hk := hr k (by omega)
    obtain ⟨P', cu, lcz, enz, ovz, ahz, bez, spz, blz, lbz, e1, e2, e3⟩ := e_undoS (P := P) (A := A) (k := k) (by omega) hk.1
    obtain ⟨Q', g1, g2⟩ := m_undo (B := B) (Q := Q) (n := k) (by omega)
    refine ⟨_, _, by rw [c1, s1, s3]; exact e1, by rw [c2, s2, s4]; exact g1, rfl, ⟨P', Q', lcz, enz, ovz, ahz, bez, spz, blz, lbz, rfl, rfl, hk.ext e3 g2, rfl, rfl, rfl, rfl, rfl, rfl, rfl, rfl, rfl, rfl, rfl, rfl, e2⟩, ⟨k, A, B, by omega, rfl, rfl, s3, s4, fun i hi => hr i (by omega)⟩, hS, hT⟩
