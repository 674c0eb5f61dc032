/-! whole numbers of 32 bits as integers: 'ii z' is the one that stands for z; rows of them: 'il P' -/
def ii (z : Int) : Int32 := Int32.ofInt z
def il (P : Nat → Int) : Nat → Int32 := fun k => ii (P k)
def zu (P : Nat → Int) (k : Nat) (v : Int) : Nat → Int := fun j => if j = k then v else P j
theorem ii_of (x : Int32) : ∃ z : Int, -2147483648 ≤ z ∧ z < 2147483648 ∧ x = ii z := ⟨x.toInt, Int32.le_toInt x, Int32.toInt_lt x, (Int32.ofInt_toInt x).symm⟩
theorem il_of (f : Nat → Int32) : ∃ P : Nat → Int, f = il P := ⟨fun k => (f k).toInt, funext fun k => (Int32.ofInt_toInt (f k)).symm⟩
theorem ii_toInt {a : Int} (h1 : -2147483648 ≤ a) (h2 : a < 2147483648) : (ii a).toInt = a := Int32.toInt_ofInt_of_le h1 h2
theorem ii_add (a b : Int) : ii a + ii b = ii (a + b) := (Int32.ofInt_add a b).symm
theorem ii_sub (a b : Int) : ii a - ii b = ii (a - b) := (Int32.ofInt_sub a b).symm
theorem ii_mul (a b : Int) : ii a * ii b = ii (a * b) := (Int32.ofInt_mul a b).symm
theorem ii_neg (a : Int) : -ii a = ii (-a) := (Int32.ofInt_neg a).symm
theorem ii_nI (n : Nat) : nI n = ii n := (Int32.ofInt_eq_ofNat (n := n)).symm
theorem ii_lt {a b : Int} (h1 : -2147483648 ≤ a) (h2 : a < 2147483648) (h3 : -2147483648 ≤ b) (h4 : b < 2147483648) : (ii a < ii b) = (a < b) := by
  rw [Int32.lt_iff_toInt_lt, ii_toInt h1 h2, ii_toInt h3 h4]
theorem ii_le {a b : Int} (h1 : -2147483648 ≤ a) (h2 : a < 2147483648) (h3 : -2147483648 ≤ b) (h4 : b < 2147483648) : (ii a ≤ ii b) = (a ≤ b) := by
  rw [Int32.le_iff_toInt_le, ii_toInt h1 h2, ii_toInt h3 h4]
theorem ii_eq {a b : Int} (h1 : -2147483648 ≤ a) (h2 : a < 2147483648) (h3 : -2147483648 ≤ b) (h4 : b < 2147483648) : (ii a = ii b) = (a = b) := by
  rw [← Int32.toInt_inj, ii_toInt h1 h2, ii_toInt h3 h4]
theorem ii_tdiv {a b : Int} (h1 : -2147483648 ≤ a) (h2 : a < 2147483648) (h3 : -2147483648 ≤ b) (h4 : b < 2147483648) : ii a / ii b = ii (a.tdiv b) := (Int32.ofInt_tdiv (by show (-2147483648 : Int) ≤ a; omega) (by show a ≤ 2147483647; omega) (by show (-2147483648 : Int) ≤ b; omega) (by show b ≤ 2147483647; omega)).symm
theorem ii_div {a b : Int} (h1 : 0 ≤ a) (h2 : a < 2147483648) (h3 : 0 < b) (h4 : b < 2147483648) : ii a / ii b = ii (a / b) := by
  rw [ii_tdiv (by omega) h2 (by omega) h4, Int.tdiv_eq_ediv_of_nonneg h1]
theorem ii_clamp {a : Int} (h1 : -2147483648 ≤ a) (h2 : a < 2147483648) : (ii a).toNatClampNeg = a.toNat := Int32.toNatClampNeg_ofInt_of_le h1 h2
theorem il_app (P : Nat → Int) (k : Nat) : il P k = ii (P k) := rfl
theorem il_upd (P : Nat → Int) (k : Nat) (v : Int) : upd (il P) k (ii v) = il (zu P k v) := by
  funext j
  unfold upd il zu
  split <;> rfl
theorem zu_eq (P : Nat → Int) (k : Nat) (v : Int) : zu P k v k = v := if_pos rfl
theorem zu_ne {P : Nat → Int} {k j : Nat} {v : Int} (h : j ≠ k) : zu P k v j = P j := if_neg h
theorem il_cpy (P Q : Nat → Int) (a b n : Nat) : va_cpy (il P) (il Q) a b n = il (va_cpy P Q a b n) := by
  funext j
  show (if b ≤ j ∧ j < b + n then ii (P (a + (j - b))) else ii (Q j)) = ii (if b ≤ j ∧ j < b + n then P (a + (j - b)) else Q j)
  rcases Classical.em (b ≤ j ∧ j < b + n) with h | h
  · rw [if_pos h, if_pos h]
  · rw [if_neg h, if_neg h]
theorem bd_eq {α β : Type} (b : β) (k : β → Option α) : bd (some b) k = k b := rfl
theorem nm_eq {α : Type} (v : Int32) (k : Int32 → Option α) : nm v k = k v := rfl
theorem aget_ii {α : Type} {n : Nat} {f : Nat → Int32} {z : Int} {k : Int32 → Option α} (h1 : 0 ≤ z) (h2 : z < n) (h3 : z < 2147483648) : aget n f (ii z) k = k (f z.toNat) := by
  unfold aget
  rw [ii_clamp (by omega) h3, if_neg]
  intro h
  rcases h with h | h
  · have h4 := Int32.lt_iff_toInt_lt.mp h
    rw [ii_toInt (by omega) h3] at h4
    have h5 : (0 : Int32).toInt = 0 := by decide
    omega
  · omega
theorem aset_ii {α : Type} {n : Nat} {P : Nat → Int} {z v : Int} {k : (Nat → Int32) → Option α} (h1 : 0 ≤ z) (h2 : z < n) (h3 : z < 2147483648) : aset n (il P) (ii z) (ii v) k = k (il (zu P z.toNat v)) := by
  unfold aset
  rw [ii_clamp (by omega) h3, if_neg, il_upd]
  intro h
  rcases h with h | h
  · have h4 := Int32.lt_iff_toInt_lt.mp h
    rw [ii_toInt (by omega) h3] at h4
    have h5 : (0 : Int32).toInt = 0 := by decide
    omega
  · omega
theorem adiv_ii {α : Type} {a b : Int} {k : Int32 → Option α} (h1 : -2147483648 ≤ a) (h2 : a < 2147483648) (h3 : 0 < b) (h4 : b < 2147483648) : adiv (ii a) (ii b) k = k (ii (a.tdiv b)) := by
  unfold adiv
  rw [if_neg, ii_tdiv h1 h2 (by omega) h4]
  intro h
  have h5 : (0 : Int32) = ii 0 := by decide
  rw [h5, ii_eq (by omega) h4 (by omega) (by omega)] at h
  omega
theorem arem_ii {α : Type} {a b : Int} {k : Int32 → Option α} (h1 : -2147483648 ≤ a) (h2 : a < 2147483648) (h3 : 0 < b) (h4 : b < 2147483648) : arem (ii a) (ii b) k = k (ii (a.tmod b)) := by
  unfold arem
  rw [if_neg, ii_tdiv h1 h2 (by omega) h4, ii_mul, ii_sub]
  · rw [show a - a.tdiv b * b = a.tmod b by rw [Int.tmod_def, Int.mul_comm]]
  · intro h
    have h5 : (0 : Int32) = ii 0 := by decide
    rw [h5, ii_eq (by omega) h4 (by omega) (by omega)] at h
    omega
theorem ii_nlt0 {z : Int} (h1 : 0 ≤ z) (h2 : z < 2147483648) : ¬ ii z < 0 := by
  intro h
  have h4 := Int32.lt_iff_toInt_lt.mp h
  rw [ii_toInt (by omega) h2] at h4
  have h5 : (0 : Int32).toInt = 0 := by decide
  omega
theorem acpy_ii {α : Type} {n0 n1 : Nat} {P Q : Nat → Int} {a b n : Int} {k : (Nat → Int32) → Option α} (h1 : 0 ≤ a) (h2 : 0 ≤ b) (h3 : 0 ≤ n) (h4 : a + n ≤ n0) (h5 : b + n ≤ n1) (h6 : a + n < 2147483648) (h7 : b + n < 2147483648) : acpy n0 n1 (il P) (il Q) (ii a) (ii b) (ii n) k = k (il (va_cpy P Q a.toNat b.toNat n.toNat)) := by
  unfold acpy
  rw [ii_clamp (by omega) (by omega), ii_clamp (by omega) (by omega), ii_clamp (by omega) (by omega), if_pos, il_cpy]
  exact ⟨ii_nlt0 h1 (by omega), ii_nlt0 h2 (by omega), ii_nlt0 h3 (by omega), by omega, by omega⟩
theorem bchk_ii {α : Type} {z : Int} {k : Option α} (h : z = 0 ∨ z = 1) : bchk (ii z) k = k := by
  unfold bchk
  rw [if_pos]
  rcases h with rfl | rfl
  · exact Or.inl (by decide)
  · exact Or.inr (by decide)
theorem ofNat_ii (n : Nat) : Int32.ofNat n = ii n := (Int32.ofInt_eq_ofNat (n := n)).symm
theorem Fu_s : Fu = 99999 + 1 := rfl
theorem q_0 : (0 : Int32) = ii 0 := by decide
theorem q_1 : (1 : Int32) = ii 1 := by decide
theorem q_2 : (2 : Int32) = ii 2 := by decide
theorem q_3 : (3 : Int32) = ii 3 := by decide
theorem q_4 : (4 : Int32) = ii 4 := by decide
theorem q_5 : (5 : Int32) = ii 5 := by decide
theorem q_6 : (6 : Int32) = ii 6 := by decide
theorem q_7 : (7 : Int32) = ii 7 := by decide
theorem q_8 : (8 : Int32) = ii 8 := by decide
theorem q_9 : (9 : Int32) = ii 9 := by decide
theorem q_10 : (10 : Int32) = ii 10 := by decide
theorem q_11 : (11 : Int32) = ii 11 := by decide
theorem q_12 : (12 : Int32) = ii 12 := by decide
theorem q_13 : (13 : Int32) = ii 13 := by decide
theorem q_14 : (14 : Int32) = ii 14 := by decide
theorem q_15 : (15 : Int32) = ii 15 := by decide
theorem q_16 : (16 : Int32) = ii 16 := by decide
theorem q_20 : (20 : Int32) = ii 20 := by decide
theorem q_24 : (24 : Int32) = ii 24 := by decide
theorem q_31 : (31 : Int32) = ii 31 := by decide
theorem q_33 : (33 : Int32) = ii 33 := by decide
theorem q_39 : (39 : Int32) = ii 39 := by decide
theorem q_40 : (40 : Int32) = ii 40 := by decide
theorem q_42 : (42 : Int32) = ii 42 := by decide
theorem q_47 : (47 : Int32) = ii 47 := by decide
theorem q_48 : (48 : Int32) = ii 48 := by decide
theorem q_49 : (49 : Int32) = ii 49 := by decide
theorem q_57 : (57 : Int32) = ii 57 := by decide
theorem q_59 : (59 : Int32) = ii 59 := by decide
theorem q_60 : (60 : Int32) = ii 60 := by decide
theorem q_63 : (63 : Int32) = ii 63 := by decide
theorem q_64 : (64 : Int32) = ii 64 := by decide
theorem q_92 : (92 : Int32) = ii 92 := by decide
theorem q_95 : (95 : Int32) = ii 95 := by decide
theorem q_96 : (96 : Int32) = ii 96 := by decide
theorem q_97 : (97 : Int32) = ii 97 := by decide
theorem q_98 : (98 : Int32) = ii 98 := by decide
theorem q_99 : (99 : Int32) = ii 99 := by decide
theorem q_100 : (100 : Int32) = ii 100 := by decide
theorem q_105 : (105 : Int32) = ii 105 := by decide
theorem q_112 : (112 : Int32) = ii 112 := by decide
theorem q_115 : (115 : Int32) = ii 115 := by decide
theorem q_120 : (120 : Int32) = ii 120 := by decide
theorem q_126 : (126 : Int32) = ii 126 := by decide
theorem q_200 : (200 : Int32) = ii 200 := by decide
theorem q_393 : (393 : Int32) = ii 393 := by decide
theorem q_400 : (400 : Int32) = ii 400 := by decide
theorem q_500 : (500 : Int32) = ii 500 := by decide
theorem q_600 : (600 : Int32) = ii 600 := by decide
theorem q_640 : (640 : Int32) = ii 640 := by decide
theorem q_1179 : (1179 : Int32) = ii 1179 := by decide
theorem q_1572 : (1572 : Int32) = ii 1572 := by decide
theorem q_2560 : (2560 : Int32) = ii 2560 := by decide
theorem q_3000 : (3000 : Int32) = ii 3000 := by decide
theorem q_6000 : (6000 : Int32) = ii 6000 := by decide
theorem q_9999 : (9999 : Int32) = ii 9999 := by decide
