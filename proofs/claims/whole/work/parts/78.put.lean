/-! a block behind the others -/
def parV (a1 a2 a3 s h : Int) (k : Nat) : Int := if k = 0 then 0 else if k = 1 then a1 else if k = 2 then a2 else if k = 3 then a3 else if k = 4 then s else h
def linV (kd h x : Int) (k : Nat) : Int := if k = 0 then kd else if k = 5 then h else x
/-- six cells of a row written -/
def Six (P Pz : Nat → Int) (z : Nat) (v : Nat → Int) : Prop := (∀ k, k < 6 → Pz (z + k) = v k) ∧ ∀ j, j < z ∨ z + 6 ≤ j → Pz j = P j
theorem six_zu (P : Nat → Int) (z : Nat) (v : Nat → Int) : Six P (zu (zu (zu (zu (zu (zu P z (v 0)) (z + 1) (v 1)) (z + 2) (v 2)) (z + 3) (v 3)) (z + 4) (v 4)) (z + 5) (v 5)) z v := by
  refine ⟨fun k hk => ?_, fun j hj => ?_⟩
  · have k6 : k = 0 ∨ k = 1 ∨ k = 2 ∨ k = 3 ∨ k = 4 ∨ k = 5 := by omega
    rcases k6 with rfl | rfl | rfl | rfl | rfl | rfl
    · rw [zu_ne (by omega), zu_ne (by omega), zu_ne (by omega), zu_ne (by omega), zu_ne (by omega)]
      exact zu_eq P z (v 0)
    · rw [zu_ne (by omega), zu_ne (by omega), zu_ne (by omega), zu_ne (by omega), zu_eq]
    · rw [zu_ne (by omega), zu_ne (by omega), zu_ne (by omega), zu_eq]
    · rw [zu_ne (by omega), zu_ne (by omega), zu_eq]
    · rw [zu_ne (by omega), zu_eq]
    · rw [zu_eq]
  · rw [zu_ne (by omega), zu_ne (by omega), zu_ne (by omega), zu_ne (by omega), zu_ne (by omega), zu_ne (by omega)]
theorem e_writeP {N : Nat} {P : Nat → Int} {z : Nat} {a1 a2 a3 s : Int} (hz : z + 6 ≤ N) (hN : N ≤ 100000) (hs : s = 0 ∨ s = 1) : ∃ Pz : Nat → Int, fX4_writeParagraph N (ii z) (ii a1) (ii a2) (ii a3) (ii s) (il P) = some (il Pz) ∧ Six P Pz z (parV a1 a2 a3 s (-5)) := by
  refine ⟨_, ?_, six_zu P z (parV a1 a2 a3 s (-5))⟩
  have t0 : ((z : Int) + 0).toNat = z := by omega
  have t1 : ((z : Int) + 1).toNat = z + 1 := by omega
  have t2 : ((z : Int) + 2).toNat = z + 2 := by omega
  have t3 : ((z : Int) + 3).toNat = z + 3 := by omega
  have t4 : ((z : Int) + 4).toNat = z + 4 := by omega
  have t5 : ((z : Int) + 5).toNat = z + 5 := by omega
  have g : ∀ x : Int, fX4_writeParagraph_53 N (ii z) (ii ((z : Int) + 4)) (ii x) (il (zu (zu (zu (zu P z 0) (z + 1) a1) (z + 2) a2) (z + 3) a3)) = some (il (zu (zu (zu (zu (zu (zu P z 0) (z + 1) a1) (z + 2) a2) (z + 3) a3) (z + 4) x) (z + 5) (-5))) := by
    intro x
    unfold fX4_writeParagraph_53
    rw [aset_ii (by omega) (by omega) (by omega), t4, q_5, ii_neg, ii_add, aset_ii (by omega) (by omega) (by omega), t5]
  unfold fX4_writeParagraph
  rw [if_neg (by rw [q_0, ii_lt (by omega) (by omega) (by omega) (by omega)]; omega), if_pos (by rw [ofNat_ii, q_6, ii_sub, ii_le (by omega) (by omega) (by omega) (by omega)]; omega)]
  rw [q_0, q_1, q_2, q_3, q_4, ii_add, ii_add, ii_add, ii_add, ii_add, aset_ii (by omega) (by omega) (by omega), t0, aset_ii (by omega) (by omega) (by omega), t1, aset_ii (by omega) (by omega) (by omega), t2, aset_ii (by omega) (by omega) (by omega), t3]
  rcases hs with rfl | rfl
  · rw [if_pos rfl]
    exact g 0
  · rw [if_neg (by decide)]
    exact g 1
theorem e_writeL {N : Nat} {P : Nat → Int} {z : Nat} {kd h : Int} (hz : z + 6 ≤ N) (hN : N ≤ 100000) : ∃ Pz : Nat → Int, fX4_writeLineless N (ii z) (ii kd) (ii h) (il P) = some (il Pz) ∧ Six P Pz z (linV kd h (-5)) := by
  refine ⟨_, ?_, six_zu P z (linV kd h (-5))⟩
  have t0 : ((z : Int) + 0).toNat = z := by omega
  have t1 : ((z : Int) + 1).toNat = z + 1 := by omega
  have t2 : ((z : Int) + 2).toNat = z + 2 := by omega
  have t3 : ((z : Int) + 3).toNat = z + 3 := by omega
  have t4 : ((z : Int) + 4).toNat = z + 4 := by omega
  have t5 : ((z : Int) + 5).toNat = z + 5 := by omega
  unfold fX4_writeLineless
  rw [if_neg (by rw [q_0, ii_lt (by omega) (by omega) (by omega) (by omega)]; omega), if_pos (by rw [ofNat_ii, q_6, ii_sub, ii_le (by omega) (by omega) (by omega) (by omega)]; omega)]
  rw [q_0, q_1, q_2, q_3, q_4, q_5, ii_neg, ii_add, ii_add, ii_add, ii_add, ii_add, ii_add, aset_ii (by omega) (by omega) (by omega), t0, aset_ii (by omega) (by omega) (by omega), t1, aset_ii (by omega) (by omega) (by omega), t2, aset_ii (by omega) (by omega) (by omega), t3, aset_ii (by omega) (by omega) (by omega), t4, aset_ii (by omega) (by omega) (by omega), t5]
  rfl
theorem e_changeBlocks {P : Nat → Int} {c : Nat} {v : Int} (hc : c < 4) (h0 : 0 ≤ v) (h1 : v ≤ 16) : fX2_changeBlocks (ii c) (ii v) (il P) = some (il (zu P (5 + c) v)) := by
  unfold fX2_changeBlocks
  rw [e_col (by omega) (by omega), bd_eq, if_neg ii10, if_neg (by rw [q_0, ii_lt (by omega) (by omega) (by omega) (by omega)]; omega), if_neg (by rw [q_16, ii_lt (by omega) (by omega) (by omega) (by omega)]; omega), q_5, ii_add, aset_ii (by omega) (by omega) (by omega), show (5 + (c : Int)).toNat = 5 + c by omega]
/-- the block number n of the column c written, and the count raised -/
def Put (P Pz : Nat → Int) (c n : Nat) (v : Nat → Int) : Prop := pn Pz c = ((n + 1 : Nat) : Int) ∧ (∀ k, k < 6 → pf Pz c n k = v k) ∧ ∀ j, j ≠ 5 + c → (j < 9 + (c * 16 + n) * 6 ∨ 9 + (c * 16 + n) * 6 + 6 ≤ j) → Pz j = P j
theorem put_six {P P1 : Nat → Int} {c n : Nat} {v : Nat → Int} (hc : c < 4) (h : Six P P1 (9 + (c * 16 + n) * 6) v) : Put P (zu P1 (5 + c) ((n + 1 : Nat) : Int)) c n v := by
  refine ⟨zu_eq _ _ _, fun k hk => ?_, fun j hj hj2 => ?_⟩
  · show zu P1 (5 + c) _ (9 + (c * 16 + n) * 6 + k) = v k
    rw [zu_ne (by omega)]
    exact h.1 k hk
  · rw [zu_ne hj]
    exact h.2 j hj2
theorem e_cellAtN (c b : Nat) : fX2_cellAt (ii c) (ii b) = some (ii ((9 + (c * 16 + b) * 6 : Nat) : Int)) := by
  rw [e_cellAt, show (9 + ((c : Int) * 16 + b) * 6) = ((9 + (c * 16 + b) * 6 : Nat) : Int) by omega]
theorem e_hasRoom {P : Nat → Int} {c n : Nat} (hc : c < 4) (hn : n < 16) (hp : pn P c = n) : fX2_hasRoom (ii c) (il P) = some (ii 1) := by
  unfold fX2_hasRoom
  rw [e_col (by omega) (by omega), bd_eq, if_neg ii10, e_blocks hc, hp, bd_eq, if_neg (by rw [q_16, ii_le (by omega) (by omega) (by omega) (by omega)]; omega)]
  rfl
theorem e_appendParagraph {P : Nat → Int} {c n : Nat} {a1 a2 a3 s : Int} (hc : c < 4) (hn : n < 16) (hp : pn P c = n) (hs : s = 0 ∨ s = 1) : ∃ Pz : Nat → Int, fX2_appendParagraph (ii c) (ii a1) (ii a2) (ii a3) (ii s) (il P) = some (il Pz) ∧ Put P Pz c n (parV a1 a2 a3 s (-5)) := by
  obtain ⟨P1, e1, e2⟩ := e_writeP (N := 393) (P := P) (z := 9 + (c * 16 + n) * 6) (a1 := a1) (a2 := a2) (a3 := a3) (by omega) (by omega) hs
  refine ⟨_, ?_, put_six hc e2⟩
  have hp1 : pn P1 c = n := (e2.2 (5 + c) (by omega)).trans hp
  unfold fX2_appendParagraph
  rw [e_hasRoom hc hn hp, bd_eq, if_neg ii10, e_blocks hc, bd_eq, hp, e_cellAtN, bd_eq, e1, bd_eq, e_blocks hc, bd_eq, hp1, q_1, ii_add, show ((n : Int) + 1) = ((n + 1 : Nat) : Int) by omega, e_changeBlocks hc (by omega) (by omega), bd_eq]
theorem e_appendLineless {P : Nat → Int} {c n : Nat} {kd h : Int} (hc : c < 4) (hn : n < 16) (hp : pn P c = n) : ∃ Pz : Nat → Int, fX2_appendLineless (ii c) (ii kd) (ii h) (il P) = some (il Pz) ∧ Put P Pz c n (linV kd h (-5)) := by
  obtain ⟨P1, e1, e2⟩ := e_writeL (N := 393) (P := P) (z := 9 + (c * 16 + n) * 6) (kd := kd) (h := h) (by omega) (by omega)
  refine ⟨_, ?_, put_six hc e2⟩
  have hp1 : pn P1 c = n := (e2.2 (5 + c) (by omega)).trans hp
  unfold fX2_appendLineless
  rw [e_hasRoom hc hn hp, bd_eq, if_neg ii10, e_blocks hc, bd_eq, hp, e_cellAtN, bd_eq, e1, bd_eq, e_blocks hc, bd_eq, hp1, q_1, ii_add, show ((n : Int) + 1) = ((n + 1 : Nat) : Int) by omega, e_changeBlocks hc (by omega) (by omega), bd_eq]
def MPut (Q Qz : Nat → Int) (c n : Nat) (v : Nat → Int) : Prop := mn Qz c = ((n + 1 : Nat) : Int) ∧ (∀ k, k < 6 → mf Qz c n k = v k) ∧ ∀ j, j ≠ 5 + 97 * c → (j < 6 + 97 * c + 6 * n ∨ 6 + 97 * c + 6 * n + 6 ≤ j) → Qz j = Q j
def mV (v0 v1 v2 v3 v4 v5 : Int) (k : Nat) : Int := if k = 0 then v0 else if k = 1 then v1 else if k = 2 then v2 else if k = 3 then v3 else if k = 4 then v4 else v5
theorem m_puts {Q : Nat → Int} {c n : Nat} {v0 v1 v2 v3 v4 v5 : Int} (hc : c < 4) (hn : n < 16) (hq : mn Q c = n) : ∃ Qz : Nat → Int, fX5_puts (ii c) (ii v0) (ii v1) (ii v2) (ii v3) (ii v4) (ii v5) (il Q) = some (ii n, il Qz) ∧ MPut Q Qz c n (mV v0 v1 v2 v3 v4 v5) := by
  have h6 := six_zu (zu Q (5 + 97 * c) ((n + 1 : Nat) : Int)) (6 + 97 * c + 6 * n) (mV v0 v1 v2 v3 v4 v5)
  refine ⟨zu (zu (zu (zu (zu (zu (zu Q (5 + 97 * c) ((n + 1 : Nat) : Int)) (6 + 97 * c + 6 * n) (mV v0 v1 v2 v3 v4 v5 0)) (6 + 97 * c + 6 * n + 1) (mV v0 v1 v2 v3 v4 v5 1)) (6 + 97 * c + 6 * n + 2) (mV v0 v1 v2 v3 v4 v5 2)) (6 + 97 * c + 6 * n + 3) (mV v0 v1 v2 v3 v4 v5 3)) (6 + 97 * c + 6 * n + 4) (mV v0 v1 v2 v3 v4 v5 4)) (6 + 97 * c + 6 * n + 5) (mV v0 v1 v2 v3 v4 v5 5), ?_, ?_, fun k hk => h6.1 k hk, fun j hj hj2 => (h6.2 j hj2).trans (zu_ne hj)⟩
  · have t0 : (5 + 97 * (c : Int) + 1 + 6 * n + 0).toNat = 6 + 97 * c + 6 * n := by omega
    have t1 : (5 + 97 * (c : Int) + 1 + 6 * n + 1).toNat = 6 + 97 * c + 6 * n + 1 := by omega
    have t2 : (5 + 97 * (c : Int) + 1 + 6 * n + 2).toNat = 6 + 97 * c + 6 * n + 2 := by omega
    have t3 : (5 + 97 * (c : Int) + 1 + 6 * n + 3).toNat = 6 + 97 * c + 6 * n + 3 := by omega
    have t4 : (5 + 97 * (c : Int) + 1 + 6 * n + 4).toNat = 6 + 97 * c + 6 * n + 4 := by omega
    have t5 : (5 + 97 * (c : Int) + 1 + 6 * n + 5).toNat = 6 + 97 * c + 6 * n + 5 := by omega
    unfold fX5_puts
    rw [m_blocks hc, bd_eq, hq, q_1, ii_add, q_5, q_97, ii_mul, ii_add, aset_ii (by omega) (by omega) (by omega), q_0, m_cell, bd_eq, aset_ii (by omega) (by omega) (by omega), m_cell, bd_eq, aset_ii (by omega) (by omega) (by omega), q_2, m_cell, bd_eq, aset_ii (by omega) (by omega) (by omega), q_3, m_cell, bd_eq, aset_ii (by omega) (by omega) (by omega), q_4, m_cell, bd_eq, aset_ii (by omega) (by omega) (by omega), m_cell, bd_eq, aset_ii (by omega) (by omega) (by omega)]
    rw [show (5 + 97 * (c : Int)).toNat = 5 + 97 * c by omega, show ((n : Int) + 1) = ((n + 1 : Nat) : Int) by omega, t0, t1, t2, t3, t4, t5]
    rfl
  · exact (h6.2 (5 + 97 * c) (by omega)).trans (zu_eq _ _ _)
/-- a block put on both sides -/
theorem RS.put {P Q Pz Qz : Nat → Int} {c n : Nat} {v w : Nat → Int} (h : RS P Q) (hc : c < 4) (hn : n < 16) (hp : pn P c = n) (h1 : Put P Pz c n v) (h2 : MPut Q Qz c n w) (h3 : FlC v ∧ RFl v w) : RS Pz Qz := by
  refine h.change (fun j hj => h1.2.2 j (by omega) (by omega)) (fun j hj => h2.2.2 j (by omega) (by omega)) (fun d hd => ?_)
  obtain ⟨g1, g2, g3, g4⟩ := h.at hd
  rcases Classical.em (d = c) with e | e
  · subst e
    rw [h1.1, h2.1]
    refine ⟨rfl, by omega, by omega, fun b hb => ?_⟩
    rcases Nat.lt_or_ge b n with hbn | hbn
    · exact BR.ext (g4 b (by omega)) (fun k hk => h1.2.2 _ (by omega) (by omega)) (fun k hk => h2.2.2 _ (by omega) (by omega))
    · have eb : b = n := by omega
      subst eb
      exact BR.ext h3 (fun k hk => h1.2.1 k hk) (fun k hk => h2.2.1 k hk)
  · have ep : pn Pz d = pn P d := h1.2.2 (5 + d) (by omega) (by omega)
    have em : mn Qz d = mn Q d := h2.2.2 (5 + 97 * d) (by omega) (by omega)
    rw [ep, em]
    refine ⟨g1, g2, g3, fun b hb => BR.ext (g4 b hb) (fun k hk => h1.2.2 _ (by omega) (by omega)) (fun k hk => h2.2.2 _ (by omega) (by omega))⟩
theorem parV_ok {a1 a2 a3 s : Int} (h1 : 1 ≤ a1) (h2 : a1 ≤ 40) (h3 : 40 ≤ a2) (h4 : a2 ≤ 400) (h5 : a2 ≤ a3) (h6 : a3 ≤ 600) (hs : s = 0 ∨ s = 1) : FlC (parV a1 a2 a3 s (-5)) ∧ RFl (parV a1 a2 a3 s (-5)) (mV 0 a1 a2 a3 s 0) :=
  ⟨⟨Or.inl ⟨rfl, h1, h2, h3, h4, h5, h6, hs⟩, fun _ => rfl, fun q => absurd rfl q⟩, rfl, fun _ => ⟨rfl, rfl, rfl, rfl⟩, fun q => absurd rfl q⟩
theorem linV_ok {kd hg : Int} (hk : kd = 1 ∨ kd = 2) (h1 : 1 ≤ hg) (h2 : hg ≤ 3000) : FlC (linV kd hg (-5)) ∧ RFl (linV kd hg (-5)) (mV kd 0 0 0 0 hg) := by
  refine ⟨⟨Or.inr ⟨hk, h1, h2⟩, fun q => ?_, fun _ => ⟨rfl, rfl, rfl, rfl⟩⟩, rfl, fun q => ?_, fun _ => rfl⟩
  · have q1 : kd = 0 := q
    omega
  · have q1 : kd = 0 := q
    omega
