/-! putAll: the pair, the states taken apart into names -/
set_option maxHeartbeats 400000 in
theorem ok_putAll : op_putAll InvG := by
  intro i1 sg sm hI
  obtain ⟨a0, a1, a2, a3, a4, a5, a6, a7, a8, a9, a10, a11, a12, a13, a14, a15, a16, a17, a18, a19, a20, a21, a22, a23, a24, a25, a26, a27, a28, a29, a30, a31, a32, a33, a34, a35, a36, a37, a38, a39⟩ := sg
  obtain ⟨b0, b1, b2, b3, b4, b5, b6, b7, b8, b9, b10, b11, b12, b13, b14, b15⟩ := sm
  obtain ⟨P, Q, Az, Bz, kk, c1, c2, hRS, r1, r2, -, hnew⟩ := act_rec hI
  have hI2 := hI
  unfold InvG at hI2
  dsimp only at hI2 c1 c2 r1 r2 hnew
  obtain ⟨hP0, hH0, hS0, hT0⟩ := id hI2
  obtain ⟨L, A, B, t1, t2, t3, t4, t5, t6⟩ := hT0
  have hcore := putAll_core (x1 := a2) (x2 := a3) (x3 := a4) (x4 := a5) (x5 := a6) (lc := a7) (en := a8) (ov := a9) (ah := a10) (be := a11) (sp := a12) (bl := a13) (lb := a14) (st := a30) (rows := a31) (tl := a33) (tb := a34) (tf := a35) (ta := a36) (tn := a37) (tc := a38) (tr := a39) (kept := b0) (at0 := b3) (len := b1) (hist := b6) (tx := b7) (now := b4) (ce := a1)
    (G := fun Pz Qz cu w1 w2 w3 w4 w5 w6 w7 w8 => ∀ v : Int32, InvG (ActC (a0, a1, a2, a3, a4, a5, a6, a7, a8, a9, a10, a11, a12, a13, a14, a15, a16, a17, a18, a19, a20, a21, a22, a23, a24, a25, a26, a27, a28, a29, a30, a31, a32, a33, a34, a35, a36, a37, a38, a39) (outC v Pz cu w1 w2 w3 w4 w5 w6 w7 w8 kk Az)) (ActM (b0, b1, b2, b3, b4, b5, b6, b7, b8, b9, b10, b11, b12, b13, b14, b15) (outM v kk Qz Bz)))
    hRS c1 c2 r1 r2 ⟨t1, t6⟩ t2 t3 t4 t5 (fun Pz Qz h => by
      obtain ⟨cu, w1, w2, w3, w4, w5, w6, w7, w8, f1, f2, f3⟩ := hnew Pz Qz h
      exact ⟨cu, w1, w2, w3, w4, w5, w6, w7, w8, f1, f3⟩) i1
  rcases hcore with ⟨v, b2x, f2x, a2x, n2x, at2, r3, e1, e2⟩ | ⟨v, b2x, f2x, a2x, n2x, at2, cu, r3, Pz, Qz, w1, w2, w3, w4, w5, w6, w7, w8, e1, e2, hG⟩
  · refine ⟨(v, a1, a2, a3, a4, a5, a6, a7, a8, a9, a10, a11, a12, a13, a14, a30, a31, b2x, f2x, a2x, n2x, r3), (v, b0, at2, b4, b6), e1, e2, rfl, ?_⟩
    unfold InvG
    dsimp only
    exact hI2
  · have hG2 := hG v
    unfold InvG ActC ActM at hG2
    dsimp only at hG2
    refine ⟨(v, il Pz, ii (Pz 0), ii (Pz 1), ii (Pz 2), ii (Pz 3), cu, il w1, il w2, il w3, il w4, il w5, il w6, il w7, il w8, kk, il Az, b2x, f2x, a2x, n2x, r3), (v, kk, at2, il Qz, il Bz), e1, e2, rfl, ?_⟩
    unfold InvG
    dsimp only
    exact hG2
