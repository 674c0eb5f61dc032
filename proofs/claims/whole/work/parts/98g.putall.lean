/-! putAll: the pair, over names alone (the states' parts are put in at the end) -/
theorem putAll_core {x1 x2 x3 x4 x5 st tl tb tf ta tn kept at0 len kk : Int32} {ce lc en ov ah be sp bl lb rows tc tr hist tx now : Nat → Int32} {P Q Az Bz A B : Nat → Int} {L : Nat} {G : (Nat → Int) → (Nat → Int) → Int32 → (Nat → Int) → (Nat → Int) → (Nat → Int) → (Nat → Int) → (Nat → Int) → (Nat → Int) → (Nat → Int) → (Nat → Int) → Prop}
    (hRS : RS P Q) (c1 : ce = il P) (c2 : now = il Q) (r1 : fX0_record st rows (il P) = some (kk, il Az)) (r2 : fX5_record kept (il Q) hist = some (kk, il Bz)) (hT : TxT A B L) (t2 : tl = ii L) (t3 : len = ii L) (t4 : tc = il A) (t5 : tx = il B)
    (hnew : ∀ Pz Qz : Nat → Int, RS Pz Qz → ∃ (cu : Int32) (w1 w2 w3 w4 w5 w6 w7 w8 : Nat → Int), fX4_layOutAgain (il Pz) x1 x2 x3 x4 x5 lc en ov ah be sp bl lb = some (ii (Pz 0), ii (Pz 1), ii (Pz 2), ii (Pz 3), cu, il w1, il w2, il w3, il w4, il w5, il w6, il w7, il w8) ∧ G Pz Qz cu w1 w2 w3 w4 w5 w6 w7 w8) (i1 : Int32) :
    (∃ (v b2 f2 a2 n2 at2 : Int32) (r3 : Nat → Int32), fX4_putAll i1 ce x1 x2 x3 x4 x5 lc en ov ah be sp bl lb st rows tl tb tf ta tn tc tr = some (v, ce, x1, x2, x3, x4, x5, lc, en, ov, ah, be, sp, bl, lb, st, rows, b2, f2, a2, n2, r3) ∧ fX5_putAll i1 kept len at0 now hist tx = some (v, kept, at2, now, hist))
    ∨ ∃ (v b2 f2 a2 n2 at2 cu : Int32) (r3 : Nat → Int32) (Pz Qz w1 w2 w3 w4 w5 w6 w7 w8 : Nat → Int), fX4_putAll i1 ce x1 x2 x3 x4 x5 lc en ov ah be sp bl lb st rows tl tb tf ta tn tc tr = some (v, il Pz, ii (Pz 0), ii (Pz 1), ii (Pz 2), ii (Pz 3), cu, il w1, il w2, il w3, il w4, il w5, il w6, il w7, il w8, kk, il Az, b2, f2, a2, n2, r3) ∧ fX5_putAll i1 kept len at0 now hist tx = some (v, kk, at2, il Qz, il Bz) ∧ G Pz Qz cu w1 w2 w3 w4 w5 w6 w7 w8 := by
  subst c1
  subst c2
  subst t2
  subst t3
  subst t4
  subst t5
  obtain ⟨c, hc1, hc2, rfl⟩ := ii_of i1
  rcases Classical.em (c < 0 ∨ 4 ≤ c) with hc | hc
  · exact Or.inl ⟨-1, tb, tf, ta, tn, at0, tr, cp_col hc1 hc2 hc, mp_col hc1 hc2 hc⟩
  obtain ⟨d, rfl⟩ : ∃ d : Nat, c = d := ⟨c.toNat, by omega⟩
  have hd : d < 4 := by omega
  obtain ⟨p1, p2, p3, p4⟩ := hRS.at hd
  obtain ⟨n0, hn0⟩ := sixteen p2
  have hmn : mn Q d = (n0 : Nat) := by rw [← p1, hn0]
  obtain ⟨R, rfl⟩ := il_of tr
  have hms : fX5_putAll (ii d) kept (ii L) at0 (il Q) hist (il B) = fX5_putAll_21 (ii d) (ii L) (il B) kept hist Fu (ii ((0 : Nat) : Int)) (ii 1) 1 (ii ((0 : Nat) : Int)) (il Q) := mp_start hd
  rcases j_start (Q := Q) (R := R) (d := d) (kept := kept) (hist := hist) (num := tn) hT with ⟨f, b2, f2, nu, R2, f60, e1, e2⟩ | ⟨n, m, p9, fit, at1, nu, at2, s2, e9, told, v, w, R2, n20, n1, e1, e2, hS, hF⟩
  · exact Or.inl ⟨ii (-100 - (f : Int)), b2, f2, ii f, nu, ii f, R2, cp_fault hd f60 (cp_read e1), hms.trans e2⟩
  · have g0 := hms.trans e2
    rcases hF.1 with g | g
    · subst g
      exact Or.inl ⟨-2, ii n, ii 0, at1, nu, at2, il R2, cp_bad hd (cp_read e1), g0.trans mp_bad⟩
    · subst g
      have htold := hF.2.mp rfl
      rcases Nat.lt_or_ge 16 (n0 + n) with hf | hf
      · exact Or.inl ⟨-3, ii n, ii 1, at1, nu, at2, il R2, cp_full hd hn0 (by omega) n20 hf (cp_read e1), g0.trans (mp_full hd hmn (by omega) n20 hf)⟩
      · obtain ⟨Pz, y1, y2⟩ := e_appendRows (v := v) hd hn0 hf (fun a ha j hj => (hS.1 a ha).2 j hj)
        obtain ⟨Qz, at3, z1, z2⟩ := m_156 (Q := Q) hT (kept := kk) (hist := il Bz) hd hf hS n 0 Fu 0 Q (by omega) (by rw [Fu_s]; omega) (fun g9 => (hS.2.1 g9).symm) ⟨hmn, fun a ha => absurd ha (Nat.not_lt_zero a), fun _ _ _ => rfl⟩
        obtain ⟨cu, w1, w2, w3, w4, w5, w6, w7, w8, l1, hG⟩ := hnew Pz Qz (hRS.putN hd hn0 hf y2 z2 (fun a ha => (hS.1 a ha).1.2.2.2.2.1 (htold a ha)))
        exact Or.inr ⟨ii ((n0 + n : Nat) : Int), ii n, ii 1, at1, nu, at3, cu, il R2, Pz, Qz, w1, w2, w3, w4, w5, w6, w7, w8, cp_done hd hn0 hf (cp_read e1) r1 y1 y2.1 l1, (g0.trans (mp_done hd hmn hf r2)).trans z1, hG⟩
