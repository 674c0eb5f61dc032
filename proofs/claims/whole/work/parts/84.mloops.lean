/-! the reference's lines -/
theorem loopEnd {β : Type} {F : Nat → Int32 → Int32 → Option β} {t : Nat → Int} {N : Nat} (hs : ∀ n k, k < N → F (n + 1) (ii (t k)) (ii (k : Nat)) = F n (ii (t (k + 1))) (ii ((k + 1 : Nat) : Int))) :
    ∀ (r k fu : Nat), k + r = N → r < fu → ∃ n, F fu (ii (t k)) (ii (k : Nat)) = F (n + 1) (ii (t N)) (ii (N : Nat)) := by
  intro r
  induction r with
  | zero =>
    intro k fu hk hf
    obtain ⟨n, rfl⟩ : ∃ n, fu = n + 1 := ⟨fu - 1, by omega⟩
    have e : k = N := by omega
    rw [e]
    exact ⟨n, rfl⟩
  | succ r ih =>
    intro k fu hk hf
    obtain ⟨n, rfl⟩ : ∃ n, fu = n + 1 := ⟨fu - 1, by omega⟩
    rw [hs n k (by omega)]
    exact ih (k + 1) n (by omega) (by omega)
section
variable {P Q : Nat → Int} {S : Int} {my li ow : Nat → Int}
theorem CL.many (h : CL P S my li ow) {c : Nat} (hc : c < 4) {α : Type} (k : Int32 → Option α) : aget 4 (il my) (ii c) k = k (ii (nnP P S c : Nat)) := by
  rw [aget_ii (by omega) (by omega) (by omega), il_app, Int.toNat_natCast, (h c hc).1]
theorem CL.lin (h : CL P S my li ow) {c i : Nat} (hc : c < 4) (hn : nnP P S c ≤ 640) (hi : i < nnP P S c) {α : Type} (k : Int32 → Option α) : aget 2560 (il li) ((640 * ii c) + ii i) k = k (ii (ffP P S c i)) := by
  rw [q_640, ii_mul, ii_add, aget_ii (by omega) (by omega) (by omega), il_app, show (640 * (c : Int) + i).toNat = 640 * c + i by omega, ((h c hc).2 i hi).1]
theorem CL.own (h : CL P S my li ow) {c i : Nat} (hc : c < 4) (hn : nnP P S c ≤ 640) (hi : i < nnP P S c) {α : Type} (k : Int32 → Option α) : aget 2560 (il ow) ((640 * ii c) + ii i) k = k (ii (ggP P S c i)) := by
  rw [q_640, ii_mul, ii_add, aget_ii (by omega) (by omega) (by omega), il_app, show (640 * (c : Int) + i).toNat = 640 * c + i by omega, ((h c hc).2 i hi).2]
theorem CL.mdr (h : CL P S my li ow) (hR : RS P Q) (hS : 20 ≤ S) (hS2 : S ≤ 500) {c i : Nat} (hc : c < 4) (hi : i < nnP P S c) : fX5_drift (ii (ffP P S c i)) (ii S) (il Q) = some (ii (drP P S c i)) := by
  obtain ⟨b1, b2, b3⟩ := ffP_b hR.1 hS hS2 hc
  have hb := b2 i hi
  have e1 := hR.2.2.1
  have hp := hR.1
  obtain ⟨h0, h1, h2, h3, h4⟩ := hp
  rw [m_drift (by omega) hS2 (by omega) (by omega) (by omega) (by omega), ← e1]
  rfl
theorem CL.msumD (h : CL P S my li ow) (hR : RS P Q) (hS : 20 ≤ S) (hS2 : S ≤ 500) {c : Nat} (hc : c < 4) : fX5_drifts (ii c) (ii S) (il Q) (il li) (il my) = some (ii (sumF (drP P S c) (nnP P S c))) := by
  obtain ⟨b1, b2, b3⟩ := ffP_b hR.1 hS hS2 hc
  unfold fX5_drifts
  refine loopFu (t := fun k => sumF (drP P S c) k) (N := nnP P S c) (by omega) (fun n k hk => ?_) (fun n => ?_) rfl
  · rw [fX5_drifts_5]
    dsimp only
    rw [h.many hc, if_neg (le_iiF (by omega) (by omega) hk), h.lin hc b1 hk, h.mdr hR hS hS2 hc hk, bd_eq, nm_eq, nm_eq, ii_add, ii_suc]
    rfl
  · rw [fX5_drifts_5]
    dsimp only
    rw [h.many hc, if_pos (le_iiT (by omega) (by omega) (Nat.le_refl _))]
theorem or_01 {x : Int} (h : x = 0 ∨ x = 1) : ii x ||| 1 = ii 1 ∧ ii x ||| 0 = ii x := by
  rcases h with rfl | rfl
  · exact ⟨by decide, by decide⟩
  · exact ⟨by decide, by decide⟩
theorem CL.mhas (h : CL P S my li ow) (hP : PgOK P) (hS : 20 ≤ S) (hS2 : S ≤ 500) {c : Nat} (hc : c < 4) {p : Int} (hp1 : -2147483648 ≤ p) (hp2 : p < 2147483648) : fX5_has (ii c) (ii p) (il li) (il my) = some (ii (htP P S c p)) := by
  obtain ⟨b1, b2, b3⟩ := ffP_b hP hS hS2 hc
  unfold fX5_has
  refine loopFu (t := fun k => hsF (ffP P S c) p k) (N := nnP P S c) (by omega) (fun n k hk => ?_) (fun n => ?_) rfl
  · have hb := b2 k hk
    rw [fX5_has_5]
    dsimp only
    rw [m_colT (by omega) (by omega), bd_eq, if_neg ii10, h.many hc, if_neg (le_iiF (by omega) (by omega) hk), h.lin hc b1 hk]
    unfold fX5_has_46
    have ho := or_01 (hsF_01 (ffP P S c) p k)
    rw [hsF_s]
    rcases Classical.em (ffP P S c k = p) with q | q
    · rw [if_pos (by rw [q]), if_pos q, nm_eq, nm_eq, ho.1, ii_suc]
    · rw [if_neg (by rw [ii_eq (by omega) (by omega) (by omega) (by omega)]; exact q), if_neg q, nm_eq, nm_eq, ho.2, ii_suc]
  · rw [fX5_has_5]
    dsimp only
    rw [m_colT (by omega) (by omega), bd_eq, if_neg ii10, h.many hc, if_pos (le_iiT (by omega) (by omega) (Nat.le_refl _)), bchk_ii (hsF_01 _ _ _)]
    rfl
theorem CL.mhasF {c : Int} (hc1 : -2147483648 ≤ c) (hc2 : c < 2147483648) (hc : c < 0 ∨ 4 ≤ c) {p : Int32} : fX5_has (ii c) p (il li) (il my) = some (ii 0) := by
  unfold fX5_has
  rw [Fu_s, fX5_has_5]
  dsimp only
  rw [m_colF hc1 hc2 hc, bd_eq, if_pos ii00, q_0, bchk_ii (Or.inl rfl)]
theorem CL.mbefore (h : CL P S my li ow) (hP : PgOK P) (hS : 20 ≤ S) (hS2 : S ≤ 500) {c : Nat} (hc : c < 4) {p : Int} (hp1 : -2147483648 ≤ p) (hp2 : p < 2147483648) : fX5_has (ii c - 1) (ii p) (il li) (il my) = some (ii (beP P S c p)) := by
  rw [q_1, ii_sub]
  unfold beP
  rcases Nat.eq_zero_or_pos c with q | q
  · rw [if_pos q]
    exact CL.mhasF (by omega) (by omega) (by omega)
  · rw [if_neg (by omega), show ((c : Int) - 1) = ((c - 1 : Nat) : Int) by omega]
    exact h.mhas hP hS hS2 (by omega) hp1 hp2
theorem CL.mafter (h : CL P S my li ow) (hP : PgOK P) (hS : 20 ≤ S) (hS2 : S ≤ 500) {c : Nat} (hc : c < 4) {p : Int} (hp1 : -2147483648 ≤ p) (hp2 : p < 2147483648) : fX5_has (ii c + 1) (ii p) (il li) (il my) = some (ii (afP P S c p)) := by
  rw [q_1, ii_add]
  unfold afP
  rcases Nat.lt_or_ge c 3 with q | q
  · rw [if_neg (by omega), show ((c : Int) + 1) = ((c + 1 : Nat) : Int) by omega]
    exact h.mhas hP hS hS2 (by omega) hp1 hp2
  · rw [if_pos q]
    exact CL.mhasF (by omega) (by omega) (by omega)
theorem CL.mstand (h : CL P S my li ow) (hP : PgOK P) (hS : 20 ≤ S) (hS2 : S ≤ 500) {p : Int} (hp1 : -2147483648 ≤ p) (hp2 : p < 2147483648) : fX5_standing (ii p) (il li) (il my) = some (ii (sumF (fun c => htP P S c p) 4)) := by
  unfold fX5_standing
  refine CL.four (t := sumF (fun c => htP P S c p)) (fun n k hk => ?_) (fun n => ?_) rfl
  · rw [fX5_standing_4]
    dsimp only
    rw [if_neg (n4 hk), h.mhas hP hS hS2 hk hp1 hp2, bd_eq]
    unfold fX5_standing_24
    show _ = fX5_standing_4 _ _ _ n (ii (sumF (fun c => htP P S c p) k + htP P S k p)) _
    rcases htP_01 P S k p with w | w
    · rw [w, if_pos ii00, nm_eq, nm_eq, ii_suc, q_0, ii_add]
    · rw [w, if_neg ii10, nm_eq, nm_eq, ii_suc, q_1, ii_add]
  · rw [fX5_standing_4]
    dsimp only
    rw [if_pos (by decide)]
/-- what whole adds for a line -/
def whP (P : Nat → Int) (S w : Int) (c i : Nat) : Int := if w = 0 then drP P S c i else if w = 1 then 1 else onP P S c i
theorem CL.mwhole (h : CL P S my li ow) (hR : RS P Q) (hS : 20 ≤ S) (hS2 : S ≤ 500) {w : Int} (hw0 : 0 ≤ w) (hw2 : w ≤ 2) : fX5_whole (ii S) (ii w) (il Q) (il li) (il my) = some (ii (sumF (fun c => sumF (whP P S w c) (nnP P S c)) 4)) := by
  obtain ⟨h0, h1, h2, h3, h4⟩ := id hR.1
  have e1 := hR.2.2.1
  have f1 : ∀ {α : Type} (g : Int32 → Option α), aget 393 (il Q) 1 g = g (ii (Q 1)) := fun g => aget_ii (z := 1) (by omega) (by omega) (by omega)
  unfold fX5_whole
  refine CL.four (t := sumF (fun c => sumF (whP P S w c) (nnP P S c))) (fun n c hc => ?_) (fun n => ?_) rfl
  · obtain ⟨b1, b2, b3⟩ := ffP_b hR.1 hS hS2 hc
    rw [fX5_whole_5]
    dsimp only
    rw [if_neg (n4 hc)]
    obtain ⟨A, hA⟩ : ∃ A, A = sumF (fun c => sumF (whP P S w c) (nnP P S c)) c := ⟨_, rfl⟩
    have hl := loop2 (F := fX5_whole_14 (fX5_whole_5 (ii S) (ii w) (il Q) (il li) (il my) n) (ii S) (ii w) (il Q) (il li) (il my) (ii c)) (t := fun k => A + sumF (whP P S w c) k) (N := nnP P S c) (R := fX5_whole_5 (ii S) (ii w) (il Q) (il li) (il my) n (ii (A + sumF (whP P S w c) (nnP P S c))) (ii ((c + 1 : Nat) : Int))) (fun m k hk => ?_) (fun m => ?_) (nnP P S c) 0 Fu (by omega) (by rw [Fu_s]; omega)
    · rw [sumF_s, ← hA]
      rw [show sumF (whP P S w c) 0 = 0 from rfl, Int.add_zero] at hl
      exact hl
    · have hb := b2 k hk
      have hd := drP_b hR.1 hS hS2 c k
      rw [fX5_whole_14]
      dsimp only
      rw [h.many hc, if_neg (le_iiF (by omega) (by omega) hk), h.lin hc b1 hk, h.mdr hR hS hS2 hc hk, bd_eq, sumF_s]
      unfold fX5_whole_90 fX5_whole_91 whP
      rcases Classical.em (w = 0) with w0 | w0
      · rw [w0, if_pos ii00, if_pos rfl, nm_eq, nm_eq, ii_add, ii_suc, Int.add_assoc]
      · rw [if_neg (show ¬ ii w = 0 by rw [q_0, ii_eq (by omega) (by omega) (by omega) (by omega)]; exact w0), if_neg w0]
        rcases Classical.em (w = 1) with w1 | w1
        · rw [w1, if_pos (by decide), if_pos rfl, nm_eq, nm_eq, q_1, ii_add, ← q_1, ii_suc, Int.add_assoc]
        · rw [if_neg (show ¬ ii w = 1 by rw [q_1, ii_eq (by omega) (by omega) (by omega) (by omega)]; exact w1), if_neg w1]
          unfold onP
          rcases Classical.em (drP P S c k = 0) with d0 | d0
          · rw [d0, if_pos ii00, f1, ← e1]
            rcases Int.lt_or_le (ffP P S c k) (P 1) with q | q
            · rw [if_pos (by rw [ii_lt (by omega) (by omega) (by omega) (by omega)]; exact q), if_neg (by omega), nm_eq, nm_eq, q_0, ii_add, ii_suc, Int.add_assoc]
            · rw [if_neg (by rw [ii_lt (by omega) (by omega) (by omega) (by omega)]; omega), if_pos ⟨q, rfl⟩, nm_eq, nm_eq, q_1, ii_add, ← q_1, ii_suc, Int.add_assoc]
          · rw [if_neg (show ¬ ii (drP P S c k) = 0 by rw [q_0, ii_eq (by omega) (by omega) (by omega) (by omega)]; exact d0), if_neg (fun v => d0 v.2), nm_eq, nm_eq, q_0, ii_add, ii_suc, Int.add_assoc]
    · rw [fX5_whole_14]
      dsimp only
      rw [h.many hc, if_pos (le_iiT (by omega) (by omega) (Nat.le_refl _)), nm_eq, ii_suc]
  · rw [fX5_whole_5]
    dsimp only
    rw [if_pos (by decide)]
/-- the lines of the paragraphs of a column -/
def plP (P : Nat → Int) (c b : Nat) : Int := if pf P c b 0 = 0 then pf P c b 1 else 0
theorem e_plines {P : Nat → Int} (hP : PgOK P) {c : Nat} (hc : c < 4) : fX2_paragraphLinesOf (ii c) (il P) = some (ii (sumF (plP P c) (nP P c))) := by
  have h9 := hP.2.2.2.2.2.2.2.2.2 c hc
  have hn : pn P c = (nP P c : Nat) := by unfold nP; omega
  unfold fX2_paragraphLinesOf
  refine loopFu (t := sumF (plP P c)) (N := nP P c) (by unfold nP; omega) (fun n k hk => ?_) (fun n => ?_) rfl
  · have hk16 : k < 16 := by omega
    have hf := (h9.2.2 k (by omega)).1
    rw [fX2_paragraphLinesOf_4]
    dsimp only
    rw [e_blocks hc, bd_eq, hn, if_neg (le_iiF (by omega) (by omega) hk), e_f0 hc hk16, bd_eq, sumF_s]
    unfold fX2_paragraphLinesOf_33 plP
    rcases Classical.em (pf P c k 0 = 0) with q | q
    · rw [q, if_pos ii00, if_pos rfl, show fX2_fieldOf (ii c) (ii k) 1 (il P) = some (ii (pf P c k 1)) from e_field (k := 1) hc hk16 (by omega), bd_eq, nm_eq, nm_eq, ii_add, ii_suc]
    · rw [if_neg (show ¬ ii (pf P c k 0) = 0 by rw [q_0, ii_eq (by unfold FlOK at hf; omega) (by unfold FlOK at hf; omega) (by omega) (by omega)]; exact q), if_neg q, nm_eq, ii_suc, Int.add_zero]
  · rw [fX2_paragraphLinesOf_4]
    dsimp only
    rw [e_blocks hc, bd_eq, hn, if_pos (le_iiT (by omega) (by omega) (Nat.le_refl _))]
theorem m_plines {P Q : Nat → Int} (hR : RS P Q) {c : Nat} (hc : c < 4) : fX5_allLines (ii c) (il Q) = some (ii (sumF (plP P c) (nP P c))) := by
  obtain ⟨p1, p2, p3, p4⟩ := hR.at hc
  have hn : mn Q c = (nP P c : Nat) := by unfold nP; omega
  have hn2 : pn P c = (nP P c : Nat) := by unfold nP; omega
  unfold fX5_allLines
  refine loopFu (t := sumF (plP P c)) (N := nP P c) (by omega) (fun n k hk => ?_) (fun n => ?_) rfl
  · have hk16 : k < 16 := by omega
    have hf := (p4 k (by omega)).1.1
    obtain ⟨r0, r1, r2⟩ := (p4 k (by omega)).2
    rw [fX5_allLines_4]
    dsimp only
    rw [m_blocks hc, bd_eq, hn, if_neg (le_iiF (by omega) (by omega) hk), m_f0 hc hk16, bd_eq, sumF_s, ← r0]
    unfold fX5_allLines_35 plP
    rcases Classical.em (pf P c k 0 = 0) with q | q
    · have r3 := (r1 q).1
      rw [q, if_pos ii00, if_pos rfl, m_f1 hc hk16, bd_eq, ← r3, nm_eq, nm_eq, ii_add, ii_suc]
    · rw [if_neg (show ¬ ii (pf P c k 0) = 0 by rw [q_0, ii_eq (by unfold FlOK at hf; omega) (by unfold FlOK at hf; omega) (by omega) (by omega)]; exact q), if_neg q, nm_eq, nm_eq, q_0, ii_add, ii_suc]
  · rw [fX5_allLines_4]
    dsimp only
    rw [m_blocks hc, bd_eq, hn, if_pos (le_iiT (by omega) (by omega) (Nat.le_refl _))]
end
