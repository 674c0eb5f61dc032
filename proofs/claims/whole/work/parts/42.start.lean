/-! the law's start: the tables, the static rows; then whole_start out of the pure side alone -/
theorem SS1_of {args : Array Value} {s : State} {nm : String} {f : Nat → Int32} {A : Nat → Prop} (hl : (Cond.laysStatic "BaselineGrid" nm "[I").before args s = true) (hini : (Cond.initialized "BaselineGrid").before args s = true) (harr : (Cond.arrayOf (.static "BaselineGrid" nm "[I") .int).before args s = true) (hlen : (Cond.eq (.length (.static "BaselineGrid" nm "[I")) (.int 5)).before args s = true)
    (h0 : (Cond.eq (.elem (.static "BaselineGrid" nm "[I") (.int 0)) (.int (f 0))).before args s = true) (h1 : (Cond.eq (.elem (.static "BaselineGrid" nm "[I") (.int 1)) (.int (f 1))).before args s = true) (h2 : (Cond.eq (.elem (.static "BaselineGrid" nm "[I") (.int 2)) (.int (f 2))).before args s = true) (h3 : (Cond.eq (.elem (.static "BaselineGrid" nm "[I") (.int 3)) (.int (f 3))).before args s = true) (h4 : (Cond.eq (.elem (.static "BaselineGrid" nm "[I") (.int 4)) (.int (f 4))).before args s = true)
    (hA : ∀ a : Nat, a < s.heap.size → ¬ A a) : ∃ t : Nat, SS1 nm f t A s s.heap := by
  obtain ⟨t, ht, hT⟩ := va_Tof (N := 5) (f := fun j => .int (f j)) (A := A) (by decide) harr (va_eqt hlen) (fun j hj => by
    rcases (show j = 0 ∨ j = 1 ∨ j = 2 ∨ j = 3 ∨ j = 4 by omega) with rfl | rfl | rfl | rfl | rfl
    · exact va_eqt h0
    · exact va_eqt h1
    · exact va_eqt h2
    · exact va_eqt h3
    · exact va_eqt h4) hA
  exact ⟨t, va_Zref hl hini ht hA, hT⟩
set_option maxHeartbeats 4000000 in
set_option maxRecDepth 100000 in
theorem whole_from {Inv : SG → SM → Prop} (hops : ops_all Inv) {p : Program} {e : Env} {s : State} {m : MethodId} {below : List Frame} {meth : Method} {c : Code} (l : Launch) {b L : Nat} {xs : Nat → Int32} (hL : L ≤ 3072) (C0 : lw_At p s m meth c b L xs) : W p l e room_1 s m #[Value.ref b] below meth c s.heap [] 0 0 (lw_Z below #[Value.ref b] s) (entryFrame m ([Value.ref b] : List Value).toArray 4) := by
  obtain ⟨hx, hb, hr, hml, hown, hts, hX, hbl, hlocks, hgv⟩ := id C0
  obtain ⟨c0, i0, k0⟩ := u_known (C := RX0) (T := TX0) (N := 2) (n := 2) hts inX0 (hts (.instantiable RX0 2) (by decide +kernel))
  obtain ⟨c1, i1, k1⟩ := u_known (C := RX1) (T := TX1) (N := 14) (n := 14) hts inX1 (hts (.instantiable RX1 14) (by decide +kernel))
  obtain ⟨c2, i2, k2⟩ := u_known (C := RX2) (T := TX2) (N := 1) (n := 1) hts inX2 (hts (.instantiable RX2 1) (by decide +kernel))
  obtain ⟨c3, i3, k3⟩ := u_known (C := RX3) (T := TX3) (N := 7) (n := 7) hts inX3 (hts (.instantiable RX3 7) (by decide +kernel))
  obtain ⟨c4, i4, k4⟩ := u_known (C := RX4) (T := TX4) (N := 7) (n := 7) hts inX4 (hts (.instantiable RX4 7) (by decide +kernel))
  obtain ⟨c5, i5, k5⟩ := u_known (C := RX5) (T := TX5) (N := 16) (n := 16) hts inX5 (hts (.instantiable RX5 16) (by decide +kernel))
  obtain ⟨dC, dI, hKc⟩ : ∃ (dC : Nat → ClassId) (dI : Nat → Nat → Nat), ∀ (k : Nat) (q : vw_C), vwCl[k]? = some q → u_Kn s q.1 q.2.1 q.2.2 (dC k) (dI k) := by
    refine ⟨fun k => if k = 0 then c0 else if k = 1 then c1 else if k = 2 then c2 else if k = 3 then c3 else if k = 4 then c4 else c5, fun k => if k = 0 then i0 else if k = 1 then i1 else if k = 2 then i2 else if k = 3 then i3 else if k = 4 then i4 else i5, ?_⟩
    intro k q hq
    match k, hq with
    | 0, hq => cases hq; exact k0
    | 1, hq => cases hq; exact k1
    | 2, hq => cases hq; exact k2
    | 3, hq => cases hq; exact k3
    | 4, hq => cases hq; exact k4
    | 5, hq => cases hq; exact k5
    | k + 6, hq => simp [vwCl] at hq
  obtain ⟨cI, kI, compI, f1, f2, f3⟩ := Cond.arrayClass_spec (hts (.arrayClass .int) (by decide +kernel))
  obtain ⟨cC, kC, compC, g1, g2, g3⟩ := Cond.arrayClass_spec (hts (.arrayClass .char) (by decide +kernel))
  have hKa : ∀ (k : Nat) (q : ClassId × FieldType), ([(cI, .int), (cC, .char)] : List (ClassId × FieldType))[k]? = some q → ArrOfT s q.1 q.2 ∧ va_RA s q.1 q.2 := by
    intro k q hq
    match k, hq with
    | 0, hq => cases hq; exact ⟨fun n z => ⟨fun k h => (by cases h), kI, f2, compI, f3⟩, f1⟩
    | 1, hq => cases hq; exact ⟨fun n z => ⟨fun k h => (by cases h), kC, g2, compC, g3⟩, g1⟩
    | k + 2, hq => simp at hq
  have hNw : ∀ w ∈ NWl, va_Nw w s := by
    intro w hw
    simp only [NWl, List.mem_cons, List.not_mem_nil, or_false] at hw
    rcases hw with rfl | rfl | rfl | rfl | rfl | rfl | rfl | rfl | rfl | rfl | rfl | rfl <;> exact va_Nw.of rfl (hts _ (by decide +kernel))
  have hNf : va_Nw NWf s := va_Nw.of rfl (hts NWf (by decide +kernel))
  have hKK : KK (dC, dI) cI cC s := ⟨⟨hKc, hKa⟩, hNw, hNf⟩
  have hs := flat_of_before _ hgv
  have hA : ∀ a : Nat, a < s.heap.size → ¬ (fun q : Nat => s.heap.size ≤ q) a := fun a h => Nat.not_le.mpr h
  have hini := hts (.initialized "BaselineGrid") (by decide +kernel)
  obtain ⟨stL, hstL⟩ := SS1_of (nm := "LEAST_SETTINGS") (f := cstL) (hts (.laysStatic "BaselineGrid" "LEAST_SETTINGS" "[I") (by decide +kernel)) hini (hs _ (by decide +kernel)) (hs _ (by decide +kernel)) (hs (.eq (.elem (.static "BaselineGrid" "LEAST_SETTINGS" "[I") (.int 0)) (.int 200)) (by decide +kernel)) (hs (.eq (.elem (.static "BaselineGrid" "LEAST_SETTINGS" "[I") (.int 1)) (.int 0)) (by decide +kernel)) (hs (.eq (.elem (.static "BaselineGrid" "LEAST_SETTINGS" "[I") (.int 2)) (.int 20)) (by decide +kernel)) (hs (.eq (.elem (.static "BaselineGrid" "LEAST_SETTINGS" "[I") (.int 3)) (.int 0)) (by decide +kernel)) (hs (.eq (.elem (.static "BaselineGrid" "LEAST_SETTINGS" "[I") (.int 4)) (.int 1)) (by decide +kernel)) hA
  obtain ⟨stG, hstG⟩ := SS1_of (nm := "GREATEST_SETTINGS") (f := cstG) (hts (.laysStatic "BaselineGrid" "GREATEST_SETTINGS" "[I") (by decide +kernel)) hini (hs _ (by decide +kernel)) (hs _ (by decide +kernel)) (hs (.eq (.elem (.static "BaselineGrid" "GREATEST_SETTINGS" "[I") (.int 0)) (.int 9999)) (by decide +kernel)) (hs (.eq (.elem (.static "BaselineGrid" "GREATEST_SETTINGS" "[I") (.int 1)) (.int 500)) (by decide +kernel)) (hs (.eq (.elem (.static "BaselineGrid" "GREATEST_SETTINGS" "[I") (.int 2)) (.int 500)) (by decide +kernel)) (hs (.eq (.elem (.static "BaselineGrid" "GREATEST_SETTINGS" "[I") (.int 3)) (.int 1)) (by decide +kernel)) (hs (.eq (.elem (.static "BaselineGrid" "GREATEST_SETTINGS" "[I") (.int 4)) (.int 3)) (by decide +kernel)) hA
  obtain ⟨stF, hstF⟩ := SS1_of (nm := "FIRST_SETTINGS") (f := cstF) (hts (.laysStatic "BaselineGrid" "FIRST_SETTINGS" "[I") (by decide +kernel)) hini (hs _ (by decide +kernel)) (hs _ (by decide +kernel)) (hs (.eq (.elem (.static "BaselineGrid" "FIRST_SETTINGS" "[I") (.int 0)) (.int 6000)) (by decide +kernel)) (hs (.eq (.elem (.static "BaselineGrid" "FIRST_SETTINGS" "[I") (.int 1)) (.int 100)) (by decide +kernel)) (hs (.eq (.elem (.static "BaselineGrid" "FIRST_SETTINGS" "[I") (.int 2)) (.int 120)) (by decide +kernel)) (hs (.eq (.elem (.static "BaselineGrid" "FIRST_SETTINGS" "[I") (.int 3)) (.int 1)) (by decide +kernel)) (hs (.eq (.elem (.static "BaselineGrid" "FIRST_SETTINGS" "[I") (.int 4)) (.int 2)) (by decide +kernel)) hA
  exact law_start hL C0 hops hKK ⟨hstL, hstG, hstF⟩
