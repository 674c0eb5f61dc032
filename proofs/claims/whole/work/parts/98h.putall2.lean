/-! putAll: the pair, the states taken apart into names -/
section
variable {a0 a2 a3 a4 a5 a6 a16 a17 a18 a19 a20 a30 a33 a34 a35 a36 a37 b0 b1 b2 b3 : Int32} {a1 a7 a8 a9 a10 a11 a12 a13 a14 a15 a21 a22 a23 a24 a25 a26 a27 a28 a29 a31 a32 a38 a39 b4 b5 b6 b7 b8 b9 b10 b11 b12 b13 b14 b15 : Nat → Int32}
theorem inv_of (h1 : IPg a1 a2 a3 a4 a5 a7 a8 a9 a10 a11 a12 a13 a14 b4) (h2 : IHi a30 a31 b0 b6) (h3 : ISn a0 a32 b2 b5) (h4 : ITx a33 a38 b1 b7) : InvG (a0, a1, a2, a3, a4, a5, a6, a7, a8, a9, a10, a11, a12, a13, a14, a15, a16, a17, a18, a19, a20, a21, a22, a23, a24, a25, a26, a27, a28, a29, a30, a31, a32, a33, a34, a35, a36, a37, a38, a39) (b0, b1, b2, b3, b4, b5, b6, b7, b8, b9, b10, b11, b12, b13, b14, b15) := ⟨h1, h2, h3, h4⟩
theorem inv_to (h : InvG (a0, a1, a2, a3, a4, a5, a6, a7, a8, a9, a10, a11, a12, a13, a14, a15, a16, a17, a18, a19, a20, a21, a22, a23, a24, a25, a26, a27, a28, a29, a30, a31, a32, a33, a34, a35, a36, a37, a38, a39) (b0, b1, b2, b3, b4, b5, b6, b7, b8, b9, b10, b11, b12, b13, b14, b15)) : IPg a1 a2 a3 a4 a5 a7 a8 a9 a10 a11 a12 a13 a14 b4 ∧ IHi a30 a31 b0 b6 ∧ ISn a0 a32 b2 b5 ∧ ITx a33 a38 b1 b7 := h
end
theorem act_hist {st kept kk : Int32} {rows hist : Nat → Int32} {P Q Az Bz : Nat → Int} (hRS : RS P Q) (hH : IHi st rows kept hist) (r1 : fX0_record st rows (il P) = some (kk, il Az)) (r2 : fX5_record kept (il Q) hist = some (kk, il Bz)) : IHi kk (il Az) kk (il Bz) := by
  obtain ⟨n, A, B, hn, t1, t2, t3, t4, hr⟩ := hH
  subst t1
  subst t2
  subst t3
  subst t4
  obtain ⟨A2, p1, p2, p3⟩ := e_record (P := P) (A := A) hn
  obtain ⟨B2, q1, q2, q3⟩ := m_record (Q := Q) (B := B) hn
  rw [p1] at r1
  rw [q1] at r2
  have e1 := Option.some.inj r1
  have e2 := Option.some.inj r2
  have k1 : ii ((if n = 4 then 4 else n + 1 : Nat) : Int) = kk := congrArg Prod.fst e1
  have k2 : il A2 = il Az := congrArg Prod.snd e1
  have k3 : il B2 = il Bz := congrArg Prod.snd e2
  have hk : (if n = 4 then 4 else n + 1) ≤ 4 := by split <;> omega
  exact ⟨_, A2, B2, hk, k1.symm, k1.symm, k2.symm, k3.symm, hRS.recorded hn hr p2 p3 q2 q3⟩
set_option maxHeartbeats 400000 in
theorem ok_putAll : op_putAll InvG := by
  intro i1 sg sm hI
  obtain ⟨a0, a1, a2, a3, a4, a5, a6, a7, a8, a9, a10, a11, a12, a13, a14, a15, a16, a17, a18, a19, a20, a21, a22, a23, a24, a25, a26, a27, a28, a29, a30, a31, a32, a33, a34, a35, a36, a37, a38, a39⟩ := sg
  obtain ⟨b0, b1, b2, b3, b4, b5, b6, b7, b8, b9, b10, b11, b12, b13, b14, b15⟩ := sm
  obtain ⟨hP0, hH0, hS0, hT0⟩ := inv_to hI
  obtain ⟨P, Q, Az, Bz, kk, c1, c2, hRS, r1, r2, -, hnew⟩ := act_rec hI
  dsimp only at c1 c2 r1 r2 hnew
  have hH2 := act_hist hRS hH0 r1 r2
  obtain ⟨L, A, B, t1, t2, t3, t4, t5, t6⟩ := id hT0
  have hcore := putAll_core (x1 := a2) (x2 := a3) (x3 := a4) (x4 := a5) (x5 := a6) (lc := a7) (en := a8) (ov := a9) (ah := a10) (be := a11) (sp := a12) (bl := a13) (lb := a14) (st := a30) (rows := a31) (tl := a33) (tb := a34) (tf := a35) (ta := a36) (tn := a37) (tc := a38) (tr := a39) (kept := b0) (at0 := b3) (len := b1) (hist := b6) (tx := b7) (now := b4) (ce := a1)
    (G := fun Pz Qz cu w1 w2 w3 w4 w5 w6 w7 w8 => RS Pz Qz ∧ LayOK Pz (Pz 2) w1 w2 w3 w4 w5 w6 w7 w8)
    hRS c1 c2 r1 r2 ⟨t1, t6⟩ t2 t3 t4 t5 (fun Pz Qz h => by
      obtain ⟨cu, w1, w2, w3, w4, w5, w6, w7, w8, f1, f2, f3⟩ := hnew Pz Qz h
      exact ⟨cu, w1, w2, w3, w4, w5, w6, w7, w8, f1, h, f2⟩) i1
  rcases hcore with ⟨v, b2x, f2x, a2x, n2x, at2, r3, e1, e2⟩ | ⟨v, b2x, f2x, a2x, n2x, at2, cu, r3, Pz, Qz, w1, w2, w3, w4, w5, w6, w7, w8, e1, e2, hR2, hL2⟩
  · refine ⟨(v, a1, a2, a3, a4, a5, a6, a7, a8, a9, a10, a11, a12, a13, a14, a30, a31, b2x, f2x, a2x, n2x, r3), (v, b0, at2, b4, b6), e1, e2, rfl, ?_⟩
    dsimp only
    exact inv_of hP0 hH0 hS0 hT0
  · refine ⟨(v, il Pz, ii (Pz 0), ii (Pz 1), ii (Pz 2), ii (Pz 3), cu, il w1, il w2, il w3, il w4, il w5, il w6, il w7, il w8, kk, il Az, b2x, f2x, a2x, n2x, r3), (v, kk, at2, il Qz, il Bz), e1, e2, rfl, ?_⟩
    dsimp only
    exact inv_of ⟨Pz, Qz, w1, w2, w3, w4, w5, w6, w7, w8, rfl, rfl, hR2, rfl, rfl, rfl, rfl, rfl, rfl, rfl, rfl, rfl, rfl, rfl, rfl, hL2⟩ hH2 hS0 hT0
