/-! the class spreads -/
/-- a page with the spaces before b raised -/
def SpS (P Z : Nat → Int) (c : Nat) (g bt : Nat → Int) (b : Nat) : Prop := (∀ a, a < b → bt a = 1 → Z (9 + (c * 16 + a) * 6 + 5) = g a) ∧ ∀ j, (∀ a, a < b → bt a = 1 → j ≠ 9 + (c * 16 + a) * 6 + 5) → Z j = P j
theorem SpS.put {P Z g bt : Nat → Int} {c b : Nat} (h : SpS P Z c g bt b) : SpS P (zu Z (9 + (c * 16 + b) * 6 + 5) (g b)) c g bt (b + 1) ∨ bt b ≠ 1 := by
  rcases Classical.em (bt b = 1) with q | q
  · left
    refine ⟨fun a ha hb => ?_, fun j hj => ?_⟩
    · rcases Nat.lt_or_ge a b with g1 | g1
      · rw [zu_ne (by omega)]
        exact h.1 a g1 hb
      · have e : a = b := by omega
        rw [e, zu_eq]
    · rw [zu_ne (hj b (by omega) q)]
      exact h.2 j (fun a ha hb => hj a (by omega) hb)
  · exact Or.inr q
theorem SpS.skip {P Z g bt : Nat → Int} {c b k : Nat} (h : SpS P Z c g bt b) (hbk : b ≤ k) (hz : ∀ a, b ≤ a → a < k → bt a = 0) : SpS P Z c g bt k := by
  refine ⟨fun a ha hb => ?_, fun j hj => h.2 j (fun a ha hb => hj a (by omega) hb)⟩
  rcases Nat.lt_or_ge a b with g1 | g1
  · exact h.1 a g1 hb
  · have := hz a g1 ha
    omega
theorem SpS.start (P : Nat → Int) (c : Nat) (g bt : Nat → Int) : SpS P P c g bt 0 := ⟨fun a ha => absurd ha (Nat.not_lt_zero a), fun _ _ => rfl⟩
theorem SpS.read {P Z g bt : Nat → Int} {c b : Nat} (h : SpS P Z c g bt b) (k : Nat) (hk : k < 6) : pf Z c b k = pf P c b k := h.2 _ (fun a ha _ => by omega)
theorem hsF_ext {f : Nat → Int} {p : Int} {a b : Nat} (hab : a ≤ b) (h : ∀ i, a ≤ i → i < b → f i ≠ p) : hsF f p b = hsF f p a := by
  induction b with
  | zero =>
    have e : a = 0 := by omega
    rw [e]
  | succ b ih =>
    rcases Nat.lt_or_ge b a with q | q
    · have e : a = b + 1 := by omega
      rw [e]
    · rw [hsF_s, if_neg (h b q (by omega))]
      exact ih q (fun i h1 h2 => h i h1 (by omega))
theorem riI_01 (f : Nat → Nat → Int) (d : Nat → Int) (n : Nat) (more : Int) (b : Nat) : riI f d n more b = 0 ∨ riI f d n more b = 1 := by
  unfold riI
  split
  · exact Or.inr rfl
  · exact Or.inl rfl
theorem btI_sum (f : Nat → Nat → Int) (d : Nat → Int) (n k : Nat) : 0 ≤ sumF (btI f d n) k ∧ sumF (btI f d n) k ≤ k := by
  have h := sumF_b (f := btI f d n) (n := k) (B := 1) (fun i _ => by have := btI_01 f d n i; omega)
  omega
section
variable {P sp : Nat → Int} {c n : Nat}
theorem e_r54 (hP : PgOK P) (hc : c < 4) (hn : pn P c = (n : Nat)) {d : Nat → Int} {t z : Nat} {more : Int} {st0 kk : Int32} {rows0 : Nat → Int32} {Az : Nat → Int} (hrec : fX0_record st0 rows0 (il P) = some (kk, il Az))
    (htz : t + 1 < z) (hzn : z ≤ n) (hbt : ∀ b, btI (pf P c) d n b = 1 ↔ pf P c b 0 = 2 ∧ t < b ∧ b + 1 < z) (hm0 : 0 < more) (hm1 : more ≤ 9999) (hN : 0 < sumF (btI (pf P c) d n) n) :
    ∀ (r k fu : Nat) (Z : Nat → Int) (st : Int32) (rows : Nat → Int32), k + r = z - 1 → r < fu → t < k → SpS P Z c (hnI (pf P c) d n more) (btI (pf P c) d n) k → (hsF (riI (pf P c) d n more) 1 k = 0 → Z = P ∧ st = st0 ∧ rows = rows0) → (hsF (riI (pf P c) d n more) 1 k = 1 → st = kk ∧ rows = il Az) →
      ∃ (Zz : Nat → Int) (st' : Int32) (rows' : Nat → Int32), fX4_raiseSpaces_54 (ii c) (ii ((z : Int) - 1)) (ii (more / sumF (btI (pf P c) d n) n)) fu (ii (more % sumF (btI (pf P c) d n) n - sumF (btI (pf P c) d n) k)) (ii (hsF (riI (pf P c) d n more) 1 k)) (ii k) (il Z) st rows = some (ii (hsF (riI (pf P c) d n more) 1 n), il Zz, st', rows')
        ∧ SpS P Zz c (hnI (pf P c) d n more) (btI (pf P c) d n) n ∧ (hsF (riI (pf P c) d n more) 1 n = 0 → Zz = P ∧ st' = st0 ∧ rows' = rows0) ∧ (hsF (riI (pf P c) d n more) 1 n = 1 → st' = kk ∧ rows' = il Az) := by
  have h9 := hP.2.2.2.2.2.2.2.2.2 c hc
  have hn16 := h9.2.1
  have hzero : ∀ i, z ≤ i + 1 → btI (pf P c) d n i = 0 := fun i hi => by
    rcases btI_01 (pf P c) d n i with q | q
    · exact q
    · have := (hbt i).mp q
      omega
  have hrzero : ∀ i, btI (pf P c) d n i = 0 → riI (pf P c) d n more i = 0 := fun i hi => by
    unfold riI
    rw [if_neg (fun q => by omega)]
  have hNs := btI_sum (pf P c) d n n
  have hmod1 := Int.emod_nonneg more (show sumF (btI (pf P c) d n) n ≠ 0 by omega)
  have hmod2 := Int.emod_lt_of_pos more hN
  have hdiv1 : 0 ≤ more / sumF (btI (pf P c) d n) n := Int.ediv_nonneg (by omega) (by omega)
  have hdiv2 : more / sumF (btI (pf P c) d n) n ≤ more := Int.ediv_le_self _ (by omega)
  intro r
  induction r with
  | zero =>
    intro k fu Z st rows hk hf htk hZ h0 h1
    obtain ⟨m, rfl⟩ : ∃ m, fu = m + 1 := ⟨fu - 1, by omega⟩
    have he : hsF (riI (pf P c) d n more) 1 n = hsF (riI (pf P c) d n more) 1 k := hsF_ext (by omega) (fun i g1 g2 => by
      have := hrzero i (hzero i (by omega))
      omega)
    refine ⟨Z, st, rows, ?_, hZ.skip (by omega) (fun a g1 g2 => hzero a (by omega)), fun q => h0 (by omega), fun q => h1 (by omega)⟩
    rw [fX4_raiseSpaces_54]
    dsimp only
    rw [if_pos (by rw [ii_le (by omega) (by omega) (by omega) (by omega)]; omega), bchk_ii (hsF_01 _ _ _), he]
  | succ r ih =>
    intro k fu Z st rows hk hf htk hZ h0 h1
    obtain ⟨m, rfl⟩ : ∃ m, fu = m + 1 := ⟨fu - 1, by omega⟩
    have hkn : (k : Int) < pn P c := by omega
    have hk16 : k < 16 := by omega
    have hf2 := (h9.2.2 k hkn).1
    have hks := btI_sum (pf P c) d n k
    have r0 := hZ.read 0 (by omega)
    have r5 := hZ.read 5 (by omega)
    rw [fX4_raiseSpaces_54]
    dsimp only
    rw [if_neg (by rw [ii_le (by omega) (by omega) (by omega) (by omega)]; omega), e_f0 hc hk16, bd_eq, r0]
    rcases Classical.em (pf P c k 0 = 2) with q | q
    · have hb1 := (hbt k).mpr ⟨q, htk, by omega⟩
      have h5 : 1 ≤ pf P c k 5 ∧ pf P c k 5 ≤ 3000 := by
        unfold FlOK at hf2
        omega
      have hput := (hZ.put).resolve_right (fun w => w hb1)
      obtain ⟨x, hx⟩ : ∃ x : Int, x = (if 0 < more % sumF (btI (pf P c) d n) n - sumF (btI (pf P c) d n) k then 1 else 0) := ⟨_, rfl⟩
      have hx01 : x = 0 ∨ x = 1 := by
        rw [hx]
        split
        · exact Or.inr rfl
        · exact Or.inl rfl
      have hhn : hnI (pf P c) d n more k = (if 3000 < pf P c k 5 + more / sumF (btI (pf P c) d n) n + x then 3000 else pf P c k 5 + more / sumF (btI (pf P c) d n) n + x) := by
        unfold hnI byI
        rw [← hx, Int.add_assoc]
      have hge : pf P c k 5 ≤ hnI (pf P c) d n more k ∧ hnI (pf P c) d n more k ≤ 3000 := by
        rw [hhn]
        split <;> omega
      -- one turn, whatever was recorded
      have h145 : ∀ (v : Int) (st1 : Int32) (rows1 : Nat → Int32), hsF (riI (pf P c) d n more) 1 (k + 1) = v → (v = 0 → Z = P ∧ hnI (pf P c) d n more k = pf P c k 5 ∧ st1 = st0 ∧ rows1 = rows0) → (v = 1 → st1 = kk ∧ rows1 = il Az) →
          ∃ (Zz : Nat → Int) (st' : Int32) (rows' : Nat → Int32), fX4_raiseSpaces_145 (fX4_raiseSpaces_54 (ii c) (ii ((z : Int) - 1)) (ii (more / sumF (btI (pf P c) d n) n)) m) (ii c) (ii ((z : Int) - 1)) (ii (more / sumF (btI (pf P c) d n) n)) (ii (more % sumF (btI (pf P c) d n) n - sumF (btI (pf P c) d n) k - 1)) (ii v) (ii k) (ii (hnI (pf P c) d n more k)) (il Z) st1 rows1 = some (ii (hsF (riI (pf P c) d n more) 1 n), il Zz, st', rows')
            ∧ SpS P Zz c (hnI (pf P c) d n more) (btI (pf P c) d n) n ∧ (hsF (riI (pf P c) d n more) 1 n = 0 → Zz = P ∧ st' = st0 ∧ rows' = rows0) ∧ (hsF (riI (pf P c) d n more) 1 n = 1 → st' = kk ∧ rows' = il Az) := by
        intro v st1 rows1 hv g0 g1
        have hi := ih (k + 1) m (zu Z (9 + (c * 16 + k) * 6 + 5) (hnI (pf P c) d n more k)) st1 rows1 (by omega) (by omega) (by omega) hput (fun w => by
          obtain ⟨u1, u2, u3, u4⟩ := g0 (by omega)
          refine ⟨?_, u3, u4⟩
          rw [u1]
          funext j
          rcases Classical.em (j = 9 + (c * 16 + k) * 6 + 5) with w2 | w2
          · rw [w2, zu_eq, u2]
            rfl
          · exact zu_ne w2) (fun w => g1 (by omega))
        rw [sumF_s, hb1, hv, show more % sumF (btI (pf P c) d n) n - (sumF (btI (pf P c) d n) k + 1) = more % sumF (btI (pf P c) d n) n - sumF (btI (pf P c) d n) k - 1 by omega] at hi
        unfold fX4_raiseSpaces_145 fX4_raiseSpaces_158
        rw [show fX2_changeField (ii c) (ii k) 5 (ii (hnI (pf P c) d n more k)) (il Z) = some (il (zu Z (9 + (c * 16 + k) * 6 + 5) (hnI (pf P c) d n more k))) from e_changeField (k := 5) hc hk16 (by omega), bd_eq, nm_eq, ii_suc]
        exact hi
      have h107 : ∃ (Zz : Nat → Int) (st' : Int32) (rows' : Nat → Int32), fX4_raiseSpaces_107 (fX4_raiseSpaces_54 (ii c) (ii ((z : Int) - 1)) (ii (more / sumF (btI (pf P c) d n) n)) m) (ii c) (ii ((z : Int) - 1)) (ii (more / sumF (btI (pf P c) d n) n)) (ii (more % sumF (btI (pf P c) d n) n - sumF (btI (pf P c) d n) k)) (ii (hsF (riI (pf P c) d n more) 1 k)) (ii k) (ii (pf P c k 5)) (ii (pf P c k 5 + more / sumF (btI (pf P c) d n) n)) (ii x) (il Z) st rows = some (ii (hsF (riI (pf P c) d n more) 1 n), il Zz, st', rows')
            ∧ SpS P Zz c (hnI (pf P c) d n more) (btI (pf P c) d n) n ∧ (hsF (riI (pf P c) d n more) 1 n = 0 → Zz = P ∧ st' = st0 ∧ rows' = rows0) ∧ (hsF (riI (pf P c) d n more) 1 n = 1 → st' = kk ∧ rows' = il Az) := by
        have hw : (if 3000 < ii (pf P c k 5 + more / sumF (btI (pf P c) d n) n) + ii x then 3000 else ii (pf P c k 5 + more / sumF (btI (pf P c) d n) n) + ii x) = ii (hnI (pf P c) d n more k) := by
          rw [hhn, ii_add, q_3000]
          rcases Int.lt_or_le 3000 (pf P c k 5 + more / sumF (btI (pf P c) d n) n + x) with w | w
          · rw [if_pos (by rw [ii_lt (by omega) (by omega) (by omega) (by omega)]; exact w), if_pos w]
          · rw [if_neg (by rw [ii_lt (by omega) (by omega) (by omega) (by omega)]; omega), if_neg (by omega)]
        unfold fX4_raiseSpaces_107
        rw [hw, nm_eq, q_1, ii_neg, ii_add, nm_eq, ← q_1, show more % sumF (btI (pf P c) d n) n - sumF (btI (pf P c) d n) k + -1 = more % sumF (btI (pf P c) d n) n - sumF (btI (pf P c) d n) k - 1 by omega]
        have hri : riI (pf P c) d n more k = (if pf P c k 5 < hnI (pf P c) d n more k then 1 else 0) := by
          unfold riI
          rcases Int.lt_or_le (pf P c k 5) (hnI (pf P c) d n more k) with w | w
          · rw [if_pos ⟨hb1, w⟩, if_pos w]
          · rw [if_neg (fun v => by omega), if_neg (by omega)]
        rcases Int.lt_or_le (pf P c k 5) (hnI (pf P c) d n more k) with w | w
        · have hv : hsF (riI (pf P c) d n more) 1 (k + 1) = 1 := by
            rw [hsF_s, hri, if_pos w, if_pos rfl]
          rw [if_neg (by rw [ii_le (by omega) (by omega) (by omega) (by omega)]; omega)]
          rcases hsF_01 (riI (pf P c) d n more) 1 k with u | u
          · obtain ⟨u1, u2, u3⟩ := h0 u
            have hrec2 : fX0_record st rows (il Z) = some (kk, il Az) := by
              rw [u1, u2, u3]
              exact hrec
            rw [u, if_pos ii00, hrec2, bd_eq]
            exact h145 1 kk (il Az) hv (fun v => absurd v (by decide)) (fun _ => ⟨rfl, rfl⟩)
          · rw [u, if_neg ii10]
            exact h145 1 st rows hv (fun v => absurd v (by decide)) (fun _ => h1 u)
        · have hv : hsF (riI (pf P c) d n more) 1 (k + 1) = hsF (riI (pf P c) d n more) 1 k := by
            rw [hsF_s, hri, if_neg (show ¬ pf P c k 5 < hnI (pf P c) d n more k by omega), if_neg (by decide)]
          rw [if_pos (by rw [ii_le (by omega) (by omega) (by omega) (by omega)]; exact w)]
          exact h145 _ st rows hv (fun v => by
            obtain ⟨u1, u2, u3⟩ := h0 v
            exact ⟨u1, by omega, u2, u3⟩) (fun v => h1 v)
      rw [q, if_pos (by decide), show fX2_fieldOf (ii c) (ii k) 5 (il Z) = some (ii (pf Z c k 5)) from e_field (k := 5) hc hk16 (by omega), bd_eq, r5, ii_add, q_0, q_1]
      rcases Int.lt_or_le 0 (more % sumF (btI (pf P c) d n) n - sumF (btI (pf P c) d n) k) with w | w
      · rw [if_pos w] at hx
        rw [hx] at h107
        rw [if_neg (by rw [ii_le (by omega) (by omega) (by omega) (by omega)]; omega)]
        exact h107
      · rw [if_neg (by omega)] at hx
        rw [hx] at h107
        rw [if_pos (by rw [ii_le (by omega) (by omega) (by omega) (by omega)]; exact w)]
        exact h107
    · have hb0 : btI (pf P c) d n k = 0 := by
        rcases btI_01 (pf P c) d n k with w | w
        · exact w
        · exact absurd ((hbt k).mp w).1 q
      have hri := hrzero k hb0
      have hv : hsF (riI (pf P c) d n more) 1 (k + 1) = hsF (riI (pf P c) d n more) 1 k := by
        rw [hsF_s, hri, if_neg (by decide)]
      have hi := ih (k + 1) m Z st rows (by omega) (by omega) (by omega) (hZ.skip (by omega) (fun a g1 g2 => by
        have e : a = k := by omega
        rw [e]
        exact hb0)) (fun w => h0 (by omega)) (fun w => h1 (by omega))
      rw [sumF_s, hb0, Int.add_zero, hv] at hi
      unfold fX4_raiseSpaces_158
      rw [if_neg (show ¬ ii (pf P c k 0) = 2 by rw [q_2, ii_eq (by unfold FlOK at hf2; omega) (by unfold FlOK at hf2; omega) (by omega) (by omega)]; exact q), nm_eq, ii_suc]
      exact hi
theorem e_raise (hP : PgOK P) (hc : c < 4) (hn : pn P c = (n : Nat)) (hs : ∀ b : Nat, (b : Int) < pn P c → 0 ≤ sp (16 * c + b) ∧ sp (16 * c + b) ≤ 40) {d : Nat → Int} (hd : d = fun i => sp (16 * c + i)) {more : Int} (hm1 : -100000 ≤ more) (hm2 : more ≤ 9999) {st kk : Int32} {rows : Nat → Int32} {Az : Nat → Int} (hrec : fX0_record st rows (il P) = some (kk, il Az)) :
    ∃ (v : Int) (Z : Nat → Int) (st' : Int32) (rows' : Nat → Int32), fX4_raiseSpaces (ii c) (ii more) (il P) (il sp) st rows = some (ii v, il Z, st', rows')
      ∧ ((v = 0 ∧ Z = P ∧ st' = st ∧ rows' = rows ∧ (more ≤ 0 ∨ sumF (btI (pf P c) d n) n = 0 ∨ hsF (riI (pf P c) d n more) 1 n = 0)) ∨ (v = 1 ∧ 0 < more ∧ 0 < sumF (btI (pf P c) d n) n ∧ hsF (riI (pf P c) d n more) 1 n = 1 ∧ SpS P Z c (hnI (pf P c) d n more) (btI (pf P c) d n) n ∧ st' = kk ∧ rows' = il Az)) := by
  have hn16 := (hP.2.2.2.2.2.2.2.2.2 c hc).2.1
  obtain ⟨t, t1, t2, t3, t4⟩ := e_first hP hc hn hs
  obtain ⟨z, z0, z1, z2, z3⟩ := e_last hP hc hn hs
  rw [← hd] at t3 t4 z2 z3
  have hbt : ∀ b, btI (pf P c) d n b = 1 ↔ pf P c b 0 = 2 ∧ t < b ∧ b + 1 < z := fun b => bt_in t3 t4 z2 z3 t2 z0
  have hsum := e_spaces hP hc hn t2 z0 hbt
  have hNs := btI_sum (pf P c) d n n
  unfold fX4_raiseSpaces
  rw [t1, bd_eq, z1, bd_eq, hsum, bd_eq]
  rcases Int.lt_or_le 0 more with g | g
  · rw [if_neg (by rw [q_0, ii_le (by omega) (by omega) (by omega) (by omega)]; omega)]
    rcases Int.lt_or_le 0 (sumF (btI (pf P c) d n) n) with g2 | g2
    · have hex : ∃ b, btI (pf P c) d n b = 1 := by
        rcases Classical.em (∃ b, btI (pf P c) d n b = 1) with w | w
        · exact w
        · have := sumF_zero (g := btI (pf P c) d n) (show 0 ≤ n by omega) (fun i _ _ => by
            rcases btI_01 (pf P c) d n i with u | u
            · exact u
            · exact absurd ⟨i, u⟩ w)
          rw [this] at g2
          exact absurd g2 (Int.lt_irrefl 0)
      obtain ⟨b, hb⟩ := hex
      have hbb := (hbt b).mp hb
      have hz0 : ∀ i, i ≤ t → btI (pf P c) d n i = 0 := fun i hi => by
        rcases btI_01 (pf P c) d n i with u | u
        · exact u
        · have := (hbt i).mp u
          omega
      have hr0 : ∀ i, i ≤ t → riI (pf P c) d n more i = 0 := fun i hi => by
        have := hz0 i hi
        unfold riI
        rw [if_neg (fun q => by omega)]
      have hh0 : hsF (riI (pf P c) d n more) 1 (t + 1) = 0 := hsF_zero (fun i hi => by
        have := hr0 i (by omega)
        omega)
      have hs0 : sumF (btI (pf P c) d n) (t + 1) = 0 := sumF_zero (g := btI (pf P c) d n) (show 0 ≤ t + 1 by omega) (fun i _ hi => hz0 i (by omega))
      obtain ⟨Zz, st', rows', e1, e2, e3, e4⟩ := e_r54 hP hc hn (d := d) (t := t) (z := z) (more := more) hrec (by omega) z0 hbt g hm2 g2 (z - 1 - (t + 1)) (t + 1) Fu P st rows (by omega) (by rw [Fu_s]; omega) (by omega) ((SpS.start P c _ _).skip (by omega) (fun a _ ha => hz0 a (by omega))) (fun _ => ⟨rfl, rfl, rfl⟩) (fun w => by omega)
      rw [hh0, hs0, Int.sub_zero] at e1
      rw [if_pos (by rw [q_0, ii_lt (by omega) (by omega) (by omega) (by omega)]; exact g2), adiv_ii (by omega) (by omega) (by omega) (by omega), arem_ii (by omega) (by omega) (by omega) (by omega), nm_eq, ii_suc, Int.tdiv_eq_ediv_of_nonneg (by omega), Int.tmod_eq_emod_of_nonneg (by omega)]
      refine ⟨hsF (riI (pf P c) d n more) 1 n, Zz, st', rows', e1, ?_⟩
      rcases hsF_01 (riI (pf P c) d n more) 1 n with u | u
      · obtain ⟨v1, v2, v3⟩ := e3 u
        exact Or.inl ⟨u, v1, v2, v3, Or.inr (Or.inr u)⟩
      · obtain ⟨v1, v2⟩ := e4 u
        exact Or.inr ⟨u, g, g2, u, e2, v1, v2⟩
    · rw [if_neg (by rw [q_0, ii_lt (by omega) (by omega) (by omega) (by omega)]; omega)]
      exact ⟨0, P, st, rows, rfl, Or.inl ⟨rfl, rfl, rfl, rfl, Or.inr (Or.inl (by omega))⟩⟩
  · rw [if_pos (by rw [q_0, ii_le (by omega) (by omega) (by omega) (by omega)]; omega)]
    exact ⟨0, P, st, rows, rfl, Or.inl ⟨rfl, rfl, rfl, rfl, Or.inl g⟩⟩
end
