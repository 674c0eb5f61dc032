def fX0_states (v_states : Int32) : Option (Int32) :=
  some v_states
def rX0_states : Room := { frames := 0, cells := 0, slots := 0, locals := 0 }
theorem hin_X0_states_X0 : ∀ w ∈ wsX00, w ∈ wsX0_states := fun _ h => List.mem_cons_of_mem _ (List.mem_append_right _ (h))
set_option maxHeartbeats 4000000 in
set_option maxRecDepth 100000 in
theorem k_X0_states (l : Launch) (D : va_G) (cI cC : ClassId) (a_t : Nat) (a_rows : Nat) (v_states : Int32) (o : Int32) (hf : fX0_states v_states = some o) : CTi l yX0_states wsX0_states rX0_states D cI cC [.ref a_t] [(a_t, .inr (0, [.ref a_rows, .int v_states]))] [(a_t, .inr (0, [.ref a_rows, .int v_states]))] o := by
  refine CTi_of (cc := cX0_states) (maxL := 1) (ty := .int) (by decide) rfl (Nat.le_of_ble_eq_true rfl) ?_
  intro p e s m args below meth c A Q ls C0 hA hP hD hl hret
  obtain ⟨hx, hb, hml, hts, hown, hK⟩ := C0
  have hown : s.vm.findClass RX0 = some m.cls := hown
  have hS : va_S A s.heap s.heap [] := va_S.rf
  have hl : lv_has ls 1 [(0, .ref a_t)] := hl
  have hinX0 := hin_X0_states_X0
  unfold fX0_states at hf
  refine lv_aload_n hx hb dX0_states_0 rfl (lv_at hl 0 rfl) ?_
  refine va_get (D := D) (ci := 0) (v := .int v_states) (C := RX0) (T := TX0) (N := 2) hx hb hts hinX0 hown hK.1 hP 0 rfl rfl 1 (by decide) (hts (.fieldLink RX0 15 "BaselineGrid$History" "states" "I") (List.mem_of_getElem? (i := 1) rfl)) (fun _ h9 => h9) rfl dX0_states_1 ?_
  have ho := Option.some.inj hf
  subst ho
  exact hret dX0_states_4 rfl (hP.sub (ws' := [(a_t, .inr (0, [.ref a_rows, .int v_states]))]) [0] rfl) (hD.sub (ws' := [(a_t, .inr (0, [.ref a_rows, .int v_states]))]) [0] (by decide) rfl) hS
def fX0_record_31 (v_p1_cells : Nat → Int32) (v_states : Int32) (v_rows : Nat → Int32) : Option (Int32 × (Nat → Int32)) :=
    bd (fX2_copyTo 1572 (v_states * 393) v_p1_cells v_rows) fun qo1 => nm (v_states + 1) fun qx2 => some (qx2, qo1)
def fX0_record (v_states : Int32) (v_rows : Nat → Int32) (v_p1_cells : Nat → Int32) : Option (Int32 × (Nat → Int32)) :=
  if v_states < 4 then (fX0_record_31 v_p1_cells v_states v_rows) else (bd (fX4_copyCells_same 1572 393 0 1179 v_rows) fun qo3 => fX0_record_31 v_p1_cells 3 qo3)
def rX0_record : Room := { frames := 3, cells := 0, slots := 0, locals := 72 }
theorem hin_X0_record_X0 : ∀ w ∈ wsX00, w ∈ wsX0_record := fun _ h => List.mem_cons_of_mem _ (List.mem_append_left _ (List.mem_append_right _ (h)))
set_option maxHeartbeats 4000000 in
set_option maxRecDepth 100000 in
theorem k_X0_record (l : Launch) (D : va_G) (cI cC : ClassId) (a_t : Nat) (a_rows : Nat) (a_p1 : Nat) (a_p1_cells : Nat) (v_states : Int32) (v_rows : Nat → Int32) (v_p1_cells : Nat → Int32) (o : Int32 × (Nat → Int32)) (hf : fX0_record v_states v_rows v_p1_cells = some o) : CTv l yX0_record wsX0_record rX0_record D cI cC [.ref a_t, .ref a_p1] [(a_t, .inr (0, [.ref a_rows, .int v_states])), (a_rows, .inl (cI, 1572, .inl v_rows)), (a_p1, .inr (2, [.ref a_p1_cells])), (a_p1_cells, .inl (cI, 393, .inl v_p1_cells))] [(a_t, .inr (0, [.ref a_rows, .int o.1])), (a_rows, .inl (cI, 1572, .inl o.2)), (a_p1, .inr (2, [.ref a_p1_cells])), (a_p1_cells, .inl (cI, 393, .inl v_p1_cells))]  := by
  refine CTv_of (cc := cX0_record) (maxL := 2) (by decide) rfl (Nat.le_of_ble_eq_true rfl) ?_
  intro p e s m args below meth c A Q ls C0 hA hP hD hl hret
  obtain ⟨hx, hb, hml, hts, hown, hK⟩ := C0
  have hown : s.vm.findClass RX0 = some m.cls := hown
  have hS : va_S A s.heap s.heap [] := va_S.rf
  have hl : lv_has ls 2 [(0, .ref a_t), (1, .ref a_p1)] := hl
  have hinX0 := hin_X0_record_X0
  have J31 : ∀ (v_states : Int32) (v_rows : Nat → Int32)  (H : Heap) (locs : List Loc) (ls : Array Slot), fX0_record_31 v_p1_cells v_states v_rows = some o → va_P D vwCl [(a_t, .inr (0, [.ref a_rows, .int v_states])), (a_rows, .inl (cI, 1572, .inl v_rows)), (a_p1, .inr (2, [.ref a_p1_cells])), (a_p1_cells, .inl (cI, 393, .inl v_p1_cells))] H → va_D A [(a_t, .inr (0, [.ref a_rows, .int v_states])), (a_rows, .inl (cI, 1572, .inl v_rows)), (a_p1, .inr (2, [.ref a_p1_cells])), (a_p1_cells, .inl (cI, 393, .inl v_p1_cells))] → va_S A s.heap H locs → lv_has ls 2 [(0, .ref a_t), (1, .ref a_p1)] → W p l e rX0_record s m args below meth c H locs 0 0 Q (F0 m 31 ls []) := by
    intro v_states v_rows H locs ls hf hP hD hS hl
    unfold fX0_record_31 at hf
    refine lv_aload_n hx hb dX0_record_31 rfl (lv_at hl 1 rfl) ?_
    refine lv_aload_n hx hb dX0_record_32 rfl (lv_at hl 0 rfl) ?_
    refine va_get (D := D) (ci := 0) (v := .ref a_rows) (C := RX0) (T := TX0) (N := 2) hx hb hts hinX0 hown hK.1 hP 0 rfl rfl 0 (by decide) (hts (.fieldLink RX0 9 "BaselineGrid$History" "rows" "[I") (List.mem_of_getElem? (i := 2) rfl)) (fun _ h9 => h9) rfl dX0_record_33 ?_
    refine lv_aload_n hx hb dX0_record_36 rfl (lv_at hl 0 rfl) ?_
    refine va_get (D := D) (ci := 0) (v := .int v_states) (C := RX0) (T := TX0) (N := 2) hx hb hts hinX0 hown hK.1 hP 0 rfl rfl 1 (by decide) (hts (.fieldLink RX0 15 "BaselineGrid$History" "states" "I") (List.mem_of_getElem? (i := 1) rfl)) (fun _ h9 => h9) rfl dX0_record_37 ?_
    refine lv_sipush (v := 393) hx hb dX0_record_40 (by decide) ?_
    refine lv_imul hx hb dX0_record_43 ?_
    replace hf := bd_some hf
    obtain ⟨qo1, hqo1, hf⟩ := hf
    refine g_Vv (As := [.ref a_rows, .int (v_states * 393)]) (rest := []) (wr := [(a_t, .inr (0, [.ref a_rows, .int v_states]))]) ⟨hx, hb, hml, hown, hts⟩ (k_X2_copyTo l D cI cC a_p1 a_p1_cells a_rows 1572 (v_states * 393) v_p1_cells v_rows qo1 hqo1) (cwV 2 hts gX0_record_X2_copyTo rfl rfl rfl (by decide +kernel) ⟨Nat.le_of_ble_eq_true rfl, Nat.le_of_ble_eq_true rfl⟩) hK hP hD hS hA 2 2 rfl rfl rfl [2, 3, 1] [0] rfl rfl rfl rfl rfl (by decide) rfl hl.1 rfl (Nat.le_of_ble_eq_true rfl) dX0_record_44 (Nat.zero_le _) (Nat.zero_le _) (fun H locs hP hD hS => ?_)
    have hP : va_P D vwCl [(a_t, .inr (0, [.ref a_rows, .int v_states])), (a_p1, .inr (2, [.ref a_p1_cells])), (a_p1_cells, .inl (cI, 393, .inl v_p1_cells)), (a_rows, .inl (cI, 1572, .inl qo1))] H := hP
    have hD : va_D A [(a_t, .inr (0, [.ref a_rows, .int v_states])), (a_p1, .inr (2, [.ref a_p1_cells])), (a_p1_cells, .inl (cI, 393, .inl v_p1_cells)), (a_rows, .inl (cI, 1572, .inl qo1))] := hD
    refine lv_aload_n hx hb dX0_record_47 rfl (lv_at hl 0 rfl) ?_
    refine lv_dup hx hb dX0_record_48 rfl ?_
    refine va_get (D := D) (ci := 0) (v := .int v_states) (C := RX0) (T := TX0) (N := 2) hx hb hts hinX0 hown hK.1 hP 0 rfl rfl 1 (by decide) (hts (.fieldLink RX0 15 "BaselineGrid$History" "states" "I") (List.mem_of_getElem? (i := 1) rfl)) (fun _ h9 => h9) rfl dX0_record_49 ?_
    refine lv_iconst (v := 1) hx hb dX0_record_52 (by decide) ?_
    refine lv_iadd hx hb dX0_record_53 ?_
    refine g_nm hf (fun qx2 hf => ?_)
    refine va_put (D := D) (ci := 0) (v := .int qx2) (ty := .int) (C := RX0) (T := TX0) (N := 2) hx hb hts hinX0 tyX0 tyX0_ok nmX0 hown hK.1 hP hD hS 0 rfl rfl 1 (by decide) (hts (.fieldLink RX0 15 "BaselineGrid$History" "states" "I") (List.mem_of_getElem? (i := 1) rfl)) (fun _ h9 => h9) rfl (by decide +kernel) rfl rfl (Nat.le_of_ble_eq_true rfl) dX0_record_54 (fun H locs hP hD hS => ?_)
    have hP : va_P D vwCl [(a_t, .inr (0, [.ref a_rows, .int qx2])), (a_p1, .inr (2, [.ref a_p1_cells])), (a_p1_cells, .inl (cI, 393, .inl v_p1_cells)), (a_rows, .inl (cI, 1572, .inl qo1))] H := hP
    have hD : va_D A [(a_t, .inr (0, [.ref a_rows, .int qx2])), (a_p1, .inr (2, [.ref a_p1_cells])), (a_p1_cells, .inl (cI, 393, .inl v_p1_cells)), (a_rows, .inl (cI, 1572, .inl qo1))] := hD
    have ho := Option.some.inj hf
    subst ho
    exact hret dX0_record_57 (hP.sub (ws' := [(a_t, .inr (0, [.ref a_rows, .int qx2])), (a_rows, .inl (cI, 1572, .inl qo1)), (a_p1, .inr (2, [.ref a_p1_cells])), (a_p1_cells, .inl (cI, 393, .inl v_p1_cells))]) [0, 3, 1, 2] rfl) (hD.sub (ws' := [(a_t, .inr (0, [.ref a_rows, .int qx2])), (a_rows, .inl (cI, 1572, .inl qo1)), (a_p1, .inr (2, [.ref a_p1_cells])), (a_p1_cells, .inl (cI, 393, .inl v_p1_cells))]) [0, 3, 1, 2] (by decide) rfl) hS
  unfold fX0_record at hf
  refine lv_aload_n hx hb dX0_record_0 rfl (lv_at hl 0 rfl) ?_
  refine va_get (D := D) (ci := 0) (v := .int v_states) (C := RX0) (T := TX0) (N := 2) hx hb hts hinX0 hown hK.1 hP 0 rfl rfl 1 (by decide) (hts (.fieldLink RX0 15 "BaselineGrid$History" "states" "I") (List.mem_of_getElem? (i := 1) rfl)) (fun _ h9 => h9) rfl dX0_record_1 ?_
  refine lv_iconst (v := 4) hx hb dX0_record_4 (by decide) ?_
  refine lv_icmp_lt (tgt := 31) hx hb dX0_record_5 (by decide) (fun hc => ?_) (fun hc => ?_)
  · replace hf := ip hc hf
    exact J31 v_states v_rows _ _ _ hf (hP.sub (ws' := [(a_t, .inr (0, [.ref a_rows, .int v_states])), (a_rows, .inl (cI, 1572, .inl v_rows)), (a_p1, .inr (2, [.ref a_p1_cells])), (a_p1_cells, .inl (cI, 393, .inl v_p1_cells))]) [0, 1, 2, 3] rfl) (hD.sub (ws' := [(a_t, .inr (0, [.ref a_rows, .int v_states])), (a_rows, .inl (cI, 1572, .inl v_rows)), (a_p1, .inr (2, [.ref a_p1_cells])), (a_p1_cells, .inl (cI, 393, .inl v_p1_cells))]) [0, 1, 2, 3] (by decide) rfl) hS (lv_sub hl [0, 1] rfl)
  · replace hf := ineg hc hf
    refine lv_aload_n hx hb dX0_record_8 rfl (lv_at hl 0 rfl) ?_
    refine va_get (D := D) (ci := 0) (v := .ref a_rows) (C := RX0) (T := TX0) (N := 2) hx hb hts hinX0 hown hK.1 hP 0 rfl rfl 0 (by decide) (hts (.fieldLink RX0 9 "BaselineGrid$History" "rows" "[I") (List.mem_of_getElem? (i := 2) rfl)) (fun _ h9 => h9) rfl dX0_record_9 ?_
    refine lv_sipush (v := 393) hx hb dX0_record_12 (by decide) ?_
    refine lv_aload_n hx hb dX0_record_15 rfl (lv_at hl 0 rfl) ?_
    refine va_get (D := D) (ci := 0) (v := .ref a_rows) (C := RX0) (T := TX0) (N := 2) hx hb hts hinX0 hown hK.1 hP 0 rfl rfl 0 (by decide) (hts (.fieldLink RX0 9 "BaselineGrid$History" "rows" "[I") (List.mem_of_getElem? (i := 2) rfl)) (fun _ h9 => h9) rfl dX0_record_16 ?_
    refine lv_iconst (v := 0) hx hb dX0_record_19 (by decide) ?_
    refine lv_sipush (v := 1179) hx hb dX0_record_20 (by decide) ?_
    replace hf := bd_some hf
    obtain ⟨qo3, hqo3, hf⟩ := hf
    refine g_Nv (As := [.ref a_rows, .int 393, .ref a_rows, .int 0, .int 1179]) (rest := []) (wr := [(a_t, .inr (0, [.ref a_rows, .int v_states])), (a_p1, .inr (2, [.ref a_p1_cells])), (a_p1_cells, .inl (cI, 393, .inl v_p1_cells))]) (host := RX4) ⟨hx, hb, hml, hown, hts⟩ (k_X4_copyCells_same l D cI cC a_rows 1572 393 0 1179 v_rows qo3 hqo3) (va_cnB 5 hts gX0_record_X4_copyCells_n19 rfl rfl rfl (hK.2.1 _ (List.mem_of_getElem? (i := 3) rfl)) (hts (.initialized RX4) (List.mem_of_getElem? (i := 4) rfl)) (by decide +kernel) ⟨Nat.le_of_ble_eq_true rfl, Nat.le_of_ble_eq_true rfl⟩) (hts (.static yX4_copyCells) (List.mem_of_getElem? (i := 3) rfl)) hK hP hD hS hA [1] [0, 2, 3] rfl rfl rfl rfl rfl (by decide) rfl hl.1 rfl (Nat.le_of_ble_eq_true rfl) dX0_record_23 (Nat.zero_le _) (Nat.zero_le _) (fun H locs hP hD hS => ?_)
    have hP : va_P D vwCl [(a_t, .inr (0, [.ref a_rows, .int v_states])), (a_p1, .inr (2, [.ref a_p1_cells])), (a_p1_cells, .inl (cI, 393, .inl v_p1_cells)), (a_rows, .inl (cI, 1572, .inl qo3))] H := hP
    have hD : va_D A [(a_t, .inr (0, [.ref a_rows, .int v_states])), (a_p1, .inr (2, [.ref a_p1_cells])), (a_p1_cells, .inl (cI, 393, .inl v_p1_cells)), (a_rows, .inl (cI, 1572, .inl qo3))] := hD
    refine lv_aload_n hx hb dX0_record_26 rfl (lv_at hl 0 rfl) ?_
    refine lv_iconst (v := 3) hx hb dX0_record_27 (by decide) ?_
    refine va_put (D := D) (ci := 0) (v := .int 3) (ty := .int) (C := RX0) (T := TX0) (N := 2) hx hb hts hinX0 tyX0 tyX0_ok nmX0 hown hK.1 hP hD hS 0 rfl rfl 1 (by decide) (hts (.fieldLink RX0 15 "BaselineGrid$History" "states" "I") (List.mem_of_getElem? (i := 1) rfl)) (fun _ h9 => h9) rfl (by decide +kernel) rfl rfl (Nat.le_of_ble_eq_true rfl) dX0_record_28 (fun H locs hP hD hS => ?_)
    have hP : va_P D vwCl [(a_t, .inr (0, [.ref a_rows, .int 3])), (a_p1, .inr (2, [.ref a_p1_cells])), (a_p1_cells, .inl (cI, 393, .inl v_p1_cells)), (a_rows, .inl (cI, 1572, .inl qo3))] H := hP
    have hD : va_D A [(a_t, .inr (0, [.ref a_rows, .int 3])), (a_p1, .inr (2, [.ref a_p1_cells])), (a_p1_cells, .inl (cI, 393, .inl v_p1_cells)), (a_rows, .inl (cI, 1572, .inl qo3))] := hD
    exact J31 3 qo3 _ _ _ hf (hP.sub (ws' := [(a_t, .inr (0, [.ref a_rows, .int 3])), (a_rows, .inl (cI, 1572, .inl qo3)), (a_p1, .inr (2, [.ref a_p1_cells])), (a_p1_cells, .inl (cI, 393, .inl v_p1_cells))]) [0, 3, 1, 2] rfl) (hD.sub (ws' := [(a_t, .inr (0, [.ref a_rows, .int 3])), (a_rows, .inl (cI, 1572, .inl qo3)), (a_p1, .inr (2, [.ref a_p1_cells])), (a_p1_cells, .inl (cI, 393, .inl v_p1_cells))]) [0, 3, 1, 2] (by decide) rfl) hS (lv_sub hl [0, 1] rfl)
def fX0_giveBack (v_states : Int32) (v_rows : Nat → Int32) (v_p1_cells : Nat → Int32) : Option (Int32 × (Nat → Int32)) :=
  if v_states ≤ 0 then (some (v_states, v_p1_cells)) else (nm (v_states - 1) fun qx1 => bd (fX2_copyFrom 1572 (qx1 * 393) v_p1_cells v_rows) fun qo2 => some (qx1, qo2))
def rX0_giveBack : Room := { frames := 3, cells := 0, slots := 0, locals := 72 }
theorem hin_X0_giveBack_X0 : ∀ w ∈ wsX00, w ∈ wsX0_giveBack := fun _ h => List.mem_cons_of_mem _ (List.mem_append_left _ (List.mem_append_right _ (h)))
set_option maxHeartbeats 4000000 in
set_option maxRecDepth 100000 in
theorem k_X0_giveBack (l : Launch) (D : va_G) (cI cC : ClassId) (a_t : Nat) (a_rows : Nat) (a_p1 : Nat) (a_p1_cells : Nat) (v_states : Int32) (v_rows : Nat → Int32) (v_p1_cells : Nat → Int32) (o : Int32 × (Nat → Int32)) (hf : fX0_giveBack v_states v_rows v_p1_cells = some o) : CTv l yX0_giveBack wsX0_giveBack rX0_giveBack D cI cC [.ref a_t, .ref a_p1] [(a_t, .inr (0, [.ref a_rows, .int v_states])), (a_rows, .inl (cI, 1572, .inl v_rows)), (a_p1, .inr (2, [.ref a_p1_cells])), (a_p1_cells, .inl (cI, 393, .inl v_p1_cells))] [(a_t, .inr (0, [.ref a_rows, .int o.1])), (a_rows, .inl (cI, 1572, .inl v_rows)), (a_p1, .inr (2, [.ref a_p1_cells])), (a_p1_cells, .inl (cI, 393, .inl o.2))]  := by
  refine CTv_of (cc := cX0_giveBack) (maxL := 2) (by decide) rfl (Nat.le_of_ble_eq_true rfl) ?_
  intro p e s m args below meth c A Q ls C0 hA hP hD hl hret
  obtain ⟨hx, hb, hml, hts, hown, hK⟩ := C0
  have hown : s.vm.findClass RX0 = some m.cls := hown
  have hS : va_S A s.heap s.heap [] := va_S.rf
  have hl : lv_has ls 2 [(0, .ref a_t), (1, .ref a_p1)] := hl
  have hinX0 := hin_X0_giveBack_X0
  unfold fX0_giveBack at hf
  refine lv_aload_n hx hb dX0_giveBack_0 rfl (lv_at hl 0 rfl) ?_
  refine va_get (D := D) (ci := 0) (v := .int v_states) (C := RX0) (T := TX0) (N := 2) hx hb hts hinX0 hown hK.1 hP 0 rfl rfl 1 (by decide) (hts (.fieldLink RX0 15 "BaselineGrid$History" "states" "I") (List.mem_of_getElem? (i := 1) rfl)) (fun _ h9 => h9) rfl dX0_giveBack_1 ?_
  refine lv_if_le (tgt := 33) hx hb dX0_giveBack_4 (by decide) (fun hc => ?_) (fun hc => ?_)
  · replace hf := ip hc hf
    have ho := Option.some.inj hf
    subst ho
    exact hret dX0_giveBack_33 (hP.sub (ws' := [(a_t, .inr (0, [.ref a_rows, .int v_states])), (a_rows, .inl (cI, 1572, .inl v_rows)), (a_p1, .inr (2, [.ref a_p1_cells])), (a_p1_cells, .inl (cI, 393, .inl v_p1_cells))]) [0, 1, 2, 3] rfl) (hD.sub (ws' := [(a_t, .inr (0, [.ref a_rows, .int v_states])), (a_rows, .inl (cI, 1572, .inl v_rows)), (a_p1, .inr (2, [.ref a_p1_cells])), (a_p1_cells, .inl (cI, 393, .inl v_p1_cells))]) [0, 1, 2, 3] (by decide) rfl) hS
  · replace hf := ineg hc hf
    refine lv_aload_n hx hb dX0_giveBack_7 rfl (lv_at hl 0 rfl) ?_
    refine lv_dup hx hb dX0_giveBack_8 rfl ?_
    refine va_get (D := D) (ci := 0) (v := .int v_states) (C := RX0) (T := TX0) (N := 2) hx hb hts hinX0 hown hK.1 hP 0 rfl rfl 1 (by decide) (hts (.fieldLink RX0 15 "BaselineGrid$History" "states" "I") (List.mem_of_getElem? (i := 1) rfl)) (fun _ h9 => h9) rfl dX0_giveBack_9 ?_
    refine lv_iconst (v := 1) hx hb dX0_giveBack_12 (by decide) ?_
    refine lv_isub hx hb dX0_giveBack_13 ?_
    refine g_nm hf (fun qx1 hf => ?_)
    refine va_put (D := D) (ci := 0) (v := .int qx1) (ty := .int) (C := RX0) (T := TX0) (N := 2) hx hb hts hinX0 tyX0 tyX0_ok nmX0 hown hK.1 hP hD hS 0 rfl rfl 1 (by decide) (hts (.fieldLink RX0 15 "BaselineGrid$History" "states" "I") (List.mem_of_getElem? (i := 1) rfl)) (fun _ h9 => h9) rfl (by decide +kernel) rfl rfl (Nat.le_of_ble_eq_true rfl) dX0_giveBack_14 (fun H locs hP hD hS => ?_)
    have hP : va_P D vwCl [(a_t, .inr (0, [.ref a_rows, .int qx1])), (a_rows, .inl (cI, 1572, .inl v_rows)), (a_p1, .inr (2, [.ref a_p1_cells])), (a_p1_cells, .inl (cI, 393, .inl v_p1_cells))] H := hP
    have hD : va_D A [(a_t, .inr (0, [.ref a_rows, .int qx1])), (a_rows, .inl (cI, 1572, .inl v_rows)), (a_p1, .inr (2, [.ref a_p1_cells])), (a_p1_cells, .inl (cI, 393, .inl v_p1_cells))] := hD
    refine lv_aload_n hx hb dX0_giveBack_17 rfl (lv_at hl 1 rfl) ?_
    refine lv_aload_n hx hb dX0_giveBack_18 rfl (lv_at hl 0 rfl) ?_
    refine va_get (D := D) (ci := 0) (v := .ref a_rows) (C := RX0) (T := TX0) (N := 2) hx hb hts hinX0 hown hK.1 hP 0 rfl rfl 0 (by decide) (hts (.fieldLink RX0 9 "BaselineGrid$History" "rows" "[I") (List.mem_of_getElem? (i := 2) rfl)) (fun _ h9 => h9) rfl dX0_giveBack_19 ?_
    refine lv_aload_n hx hb dX0_giveBack_22 rfl (lv_at hl 0 rfl) ?_
    refine va_get (D := D) (ci := 0) (v := .int qx1) (C := RX0) (T := TX0) (N := 2) hx hb hts hinX0 hown hK.1 hP 0 rfl rfl 1 (by decide) (hts (.fieldLink RX0 15 "BaselineGrid$History" "states" "I") (List.mem_of_getElem? (i := 1) rfl)) (fun _ h9 => h9) rfl dX0_giveBack_23 ?_
    refine lv_sipush (v := 393) hx hb dX0_giveBack_26 (by decide) ?_
    refine lv_imul hx hb dX0_giveBack_29 ?_
    replace hf := bd_some hf
    obtain ⟨qo2, hqo2, hf⟩ := hf
    refine g_Vv (As := [.ref a_rows, .int (qx1 * 393)]) (rest := []) (wr := [(a_t, .inr (0, [.ref a_rows, .int qx1]))]) ⟨hx, hb, hml, hown, hts⟩ (k_X2_copyFrom l D cI cC a_p1 a_p1_cells a_rows 1572 (qx1 * 393) v_p1_cells v_rows qo2 hqo2) (cwV 2 hts gX0_giveBack_X2_copyFrom rfl rfl rfl (by decide +kernel) ⟨Nat.le_of_ble_eq_true rfl, Nat.le_of_ble_eq_true rfl⟩) hK hP hD hS hA 2 2 rfl rfl rfl [2, 3, 1] [0] rfl rfl rfl rfl rfl (by decide) rfl hl.1 rfl (Nat.le_of_ble_eq_true rfl) dX0_giveBack_30 (Nat.zero_le _) (Nat.zero_le _) (fun H locs hP hD hS => ?_)
    have hP : va_P D vwCl [(a_t, .inr (0, [.ref a_rows, .int qx1])), (a_p1, .inr (2, [.ref a_p1_cells])), (a_p1_cells, .inl (cI, 393, .inl qo2)), (a_rows, .inl (cI, 1572, .inl v_rows))] H := hP
    have hD : va_D A [(a_t, .inr (0, [.ref a_rows, .int qx1])), (a_p1, .inr (2, [.ref a_p1_cells])), (a_p1_cells, .inl (cI, 393, .inl qo2)), (a_rows, .inl (cI, 1572, .inl v_rows))] := hD
    have ho := Option.some.inj hf
    subst ho
    exact hret dX0_giveBack_33 (hP.sub (ws' := [(a_t, .inr (0, [.ref a_rows, .int qx1])), (a_rows, .inl (cI, 1572, .inl v_rows)), (a_p1, .inr (2, [.ref a_p1_cells])), (a_p1_cells, .inl (cI, 393, .inl qo2))]) [0, 3, 1, 2] rfl) (hD.sub (ws' := [(a_t, .inr (0, [.ref a_rows, .int qx1])), (a_rows, .inl (cI, 1572, .inl v_rows)), (a_p1, .inr (2, [.ref a_p1_cells])), (a_p1_cells, .inl (cI, 393, .inl qo2))]) [0, 3, 1, 2] (by decide) rfl) hS
