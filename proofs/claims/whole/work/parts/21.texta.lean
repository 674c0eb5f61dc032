def fX3_length (v_length : Int32) : Option (Int32) :=
  some v_length
def rX3_length : Room := { frames := 0, cells := 0, slots := 0, locals := 0 }
theorem hin_X3_length_X3 : ∀ w ∈ wsX30, w ∈ wsX3_length := fun _ h => List.mem_cons_of_mem _ (List.mem_append_right _ (h))
set_option maxHeartbeats 4000000 in
set_option maxRecDepth 100000 in
theorem k_X3_length (l : Launch) (D : va_G) (cI cC : ClassId) (a_t : Nat) (a_characters : Nat) (a_rows : Nat) (v_length : Int32) (v_blocks : Int32) (v_allFit : Int32) (v_at : Int32) (v_number : Int32) (o : Int32) (hf : fX3_length v_length = some o) : CTi l yX3_length wsX3_length rX3_length D cI cC [.ref a_t] [(a_t, .inr (3, [.ref a_characters, .int v_length, .ref a_rows, .int v_blocks, .int v_allFit, .int v_at, .int v_number]))] [(a_t, .inr (3, [.ref a_characters, .int v_length, .ref a_rows, .int v_blocks, .int v_allFit, .int v_at, .int v_number]))] o := by
  refine CTi_of (cc := cX3_length) (maxL := 1) (ty := .int) (by decide) rfl (Nat.le_of_ble_eq_true rfl) ?_
  intro p e s m args below meth c A Q ls C0 hA hP hD hl hret
  obtain ⟨hx, hb, hml, hts, hown, hK⟩ := C0
  have hown : s.vm.findClass RX3 = some m.cls := hown
  have hS : va_S A s.heap s.heap [] := va_S.rf
  have hl : lv_has ls 1 [(0, .ref a_t)] := hl
  have hinX3 := hin_X3_length_X3
  unfold fX3_length at hf
  refine lv_aload_n hx hb dX3_length_0 rfl (lv_at hl 0 rfl) ?_
  refine va_get (D := D) (ci := 3) (v := .int v_length) (C := RX3) (T := TX3) (N := 7) hx hb hts hinX3 hown hK.1 hP 0 rfl rfl 1 (by decide) (hts (.fieldLink RX3 15 "BaselineGrid$Text" "length" "I") (List.mem_of_getElem? (i := 1) rfl)) (fun _ h9 => h9) rfl dX3_length_1 ?_
  have ho := Option.some.inj hf
  subst ho
  exact hret dX3_length_4 rfl (hP.sub (ws' := [(a_t, .inr (3, [.ref a_characters, .int v_length, .ref a_rows, .int v_blocks, .int v_allFit, .int v_at, .int v_number]))]) [0] rfl) (hD.sub (ws' := [(a_t, .inr (3, [.ref a_characters, .int v_length, .ref a_rows, .int v_blocks, .int v_allFit, .int v_at, .int v_number]))]) [0] (by decide) rfl) hS
def fX3_append (i1 : Int32) (v_length : Int32) (v_characters : Nat → Int32) : Option (Int32 × Int32 × (Nat → Int32)) :=
  if v_length < 0 then (some (0, v_length, v_characters)) else (if v_length < 60 then (asetc 60 v_characters v_length i1 fun qg1 => nm (v_length + 1) fun qx2 => some (1, qx2, qg1)) else (some (0, v_length, v_characters)))
def rX3_append : Room := { frames := 0, cells := 0, slots := 0, locals := 0 }
theorem hin_X3_append_X3 : ∀ w ∈ wsX30, w ∈ wsX3_append := fun _ h => List.mem_cons_of_mem _ (List.mem_append_right _ (h))
set_option maxHeartbeats 4000000 in
set_option maxRecDepth 100000 in
theorem k_X3_append (l : Launch) (D : va_G) (cI cC : ClassId) (a_t : Nat) (a_characters : Nat) (a_rows : Nat) (i1 : Int32) (v_length : Int32) (v_blocks : Int32) (v_allFit : Int32) (v_at : Int32) (v_number : Int32) (v_characters : Nat → Int32) (o : Int32 × Int32 × (Nat → Int32)) (hf : fX3_append i1 v_length v_characters = some o) : CTi l yX3_append wsX3_append rX3_append D cI cC [.ref a_t, .int i1] [(a_t, .inr (3, [.ref a_characters, .int v_length, .ref a_rows, .int v_blocks, .int v_allFit, .int v_at, .int v_number])), (a_characters, .inl (cC, 60, .inl v_characters))] [(a_t, .inr (3, [.ref a_characters, .int o.2.1, .ref a_rows, .int v_blocks, .int v_allFit, .int v_at, .int v_number])), (a_characters, .inl (cC, 60, .inl o.2.2))] o.1 := by
  refine CTi_of (cc := cX3_append) (maxL := 2) (ty := .boolean) (by decide) rfl (Nat.le_of_ble_eq_true rfl) ?_
  intro p e s m args below meth c A Q ls C0 hA hP hD hl hret
  obtain ⟨hx, hb, hml, hts, hown, hK⟩ := C0
  have hown : s.vm.findClass RX3 = some m.cls := hown
  have hS : va_S A s.heap s.heap [] := va_S.rf
  have hl : lv_has ls 2 [(0, .ref a_t), (1, .int i1)] := hl
  have hinX3 := hin_X3_append_X3
  unfold fX3_append at hf
  refine lv_aload_n hx hb dX3_append_0 rfl (lv_at hl 0 rfl) ?_
  refine va_get (D := D) (ci := 3) (v := .int v_length) (C := RX3) (T := TX3) (N := 7) hx hb hts hinX3 hown hK.1 hP 0 rfl rfl 1 (by decide) (hts (.fieldLink RX3 15 "BaselineGrid$Text" "length" "I") (List.mem_of_getElem? (i := 1) rfl)) (fun _ h9 => h9) rfl dX3_append_1 ?_
  refine lv_if_lt (tgt := 16) hx hb dX3_append_4 (by decide) (fun hc => ?_) (fun hc => ?_)
  · replace hf := ip hc hf
    refine lv_iconst (v := 0) hx hb dX3_append_16 (by decide) ?_
    have ho := Option.some.inj hf
    subst ho
    exact hret dX3_append_17 (nbool (Or.inl rfl)) (hP.sub (ws' := [(a_t, .inr (3, [.ref a_characters, .int v_length, .ref a_rows, .int v_blocks, .int v_allFit, .int v_at, .int v_number])), (a_characters, .inl (cC, 60, .inl v_characters))]) [0, 1] rfl) (hD.sub (ws' := [(a_t, .inr (3, [.ref a_characters, .int v_length, .ref a_rows, .int v_blocks, .int v_allFit, .int v_at, .int v_number])), (a_characters, .inl (cC, 60, .inl v_characters))]) [0, 1] (by decide) rfl) hS
  · replace hf := ineg hc hf
    refine lv_aload_n hx hb dX3_append_7 rfl (lv_at hl 0 rfl) ?_
    refine va_get (D := D) (ci := 3) (v := .int v_length) (C := RX3) (T := TX3) (N := 7) hx hb hts hinX3 hown hK.1 hP 0 rfl rfl 1 (by decide) (hts (.fieldLink RX3 15 "BaselineGrid$Text" "length" "I") (List.mem_of_getElem? (i := 1) rfl)) (fun _ h9 => h9) rfl dX3_append_8 ?_
    refine lv_bipush (v := 60) hx hb dX3_append_11 (by decide) ?_
    refine lv_icmp_lt (tgt := 18) hx hb dX3_append_13 (by decide) (fun hc => ?_) (fun hc => ?_)
    · replace hf := ip hc hf
      refine lv_aload_n hx hb dX3_append_18 rfl (lv_at hl 0 rfl) ?_
      refine va_get (D := D) (ci := 3) (v := .ref a_characters) (C := RX3) (T := TX3) (N := 7) hx hb hts hinX3 hown hK.1 hP 0 rfl rfl 0 (by decide) (hts (.fieldLink RX3 9 "BaselineGrid$Text" "characters" "[C") (List.mem_of_getElem? (i := 2) rfl)) (fun _ h9 => h9) rfl dX3_append_19 ?_
      refine lv_aload_n hx hb dX3_append_22 rfl (lv_at hl 0 rfl) ?_
      refine va_get (D := D) (ci := 3) (v := .int v_length) (C := RX3) (T := TX3) (N := 7) hx hb hts hinX3 hown hK.1 hP 0 rfl rfl 1 (by decide) (hts (.fieldLink RX3 15 "BaselineGrid$Text" "length" "I") (List.mem_of_getElem? (i := 1) rfl)) (fun _ h9 => h9) rfl dX3_append_23 ?_
      refine lv_iload_n hx hb dX3_append_26 rfl (lv_at hl 1 rfl) ?_
      refine g_cast hx hb hK.1 hP hD hS 1 1 rfl rfl hf dX3_append_27 (fun qg1 H locs hf hP hD hS => ?_)
      have hP : va_P D vwCl [(a_t, .inr (3, [.ref a_characters, .int v_length, .ref a_rows, .int v_blocks, .int v_allFit, .int v_at, .int v_number])), (a_characters, .inl (cC, 60, .inl qg1))] H := hP
      have hD : va_D A [(a_t, .inr (3, [.ref a_characters, .int v_length, .ref a_rows, .int v_blocks, .int v_allFit, .int v_at, .int v_number])), (a_characters, .inl (cC, 60, .inl qg1))] := hD
      refine lv_aload_n hx hb dX3_append_28 rfl (lv_at hl 0 rfl) ?_
      refine lv_dup hx hb dX3_append_29 rfl ?_
      refine va_get (D := D) (ci := 3) (v := .int v_length) (C := RX3) (T := TX3) (N := 7) hx hb hts hinX3 hown hK.1 hP 0 rfl rfl 1 (by decide) (hts (.fieldLink RX3 15 "BaselineGrid$Text" "length" "I") (List.mem_of_getElem? (i := 1) rfl)) (fun _ h9 => h9) rfl dX3_append_30 ?_
      refine lv_iconst (v := 1) hx hb dX3_append_33 (by decide) ?_
      refine lv_iadd hx hb dX3_append_34 ?_
      refine g_nm hf (fun qx2 hf => ?_)
      refine va_put (D := D) (ci := 3) (v := .int qx2) (ty := .int) (C := RX3) (T := TX3) (N := 7) hx hb hts hinX3 tyX3 tyX3_ok nmX3 hown hK.1 hP hD hS 0 rfl rfl 1 (by decide) (hts (.fieldLink RX3 15 "BaselineGrid$Text" "length" "I") (List.mem_of_getElem? (i := 1) rfl)) (fun _ h9 => h9) rfl (by decide +kernel) rfl rfl (Nat.le_of_ble_eq_true rfl) dX3_append_35 (fun H locs hP hD hS => ?_)
      have hP : va_P D vwCl [(a_t, .inr (3, [.ref a_characters, .int qx2, .ref a_rows, .int v_blocks, .int v_allFit, .int v_at, .int v_number])), (a_characters, .inl (cC, 60, .inl qg1))] H := hP
      have hD : va_D A [(a_t, .inr (3, [.ref a_characters, .int qx2, .ref a_rows, .int v_blocks, .int v_allFit, .int v_at, .int v_number])), (a_characters, .inl (cC, 60, .inl qg1))] := hD
      refine lv_iconst (v := 1) hx hb dX3_append_38 (by decide) ?_
      have ho := Option.some.inj hf
      subst ho
      exact hret dX3_append_39 (nbool (Or.inr rfl)) (hP.sub (ws' := [(a_t, .inr (3, [.ref a_characters, .int qx2, .ref a_rows, .int v_blocks, .int v_allFit, .int v_at, .int v_number])), (a_characters, .inl (cC, 60, .inl qg1))]) [0, 1] rfl) (hD.sub (ws' := [(a_t, .inr (3, [.ref a_characters, .int qx2, .ref a_rows, .int v_blocks, .int v_allFit, .int v_at, .int v_number])), (a_characters, .inl (cC, 60, .inl qg1))]) [0, 1] (by decide) rfl) hS
    · replace hf := ineg hc hf
      refine lv_iconst (v := 0) hx hb dX3_append_16 (by decide) ?_
      have ho := Option.some.inj hf
      subst ho
      exact hret dX3_append_17 (nbool (Or.inl rfl)) (hP.sub (ws' := [(a_t, .inr (3, [.ref a_characters, .int v_length, .ref a_rows, .int v_blocks, .int v_allFit, .int v_at, .int v_number])), (a_characters, .inl (cC, 60, .inl v_characters))]) [0, 1] rfl) (hD.sub (ws' := [(a_t, .inr (3, [.ref a_characters, .int v_length, .ref a_rows, .int v_blocks, .int v_allFit, .int v_at, .int v_number])), (a_characters, .inl (cC, 60, .inl v_characters))]) [0, 1] (by decide) rfl) hS
def fX3_clear (v_length : Int32) : Option (Int32) :=
  some 0
def rX3_clear : Room := { frames := 0, cells := 0, slots := 0, locals := 0 }
theorem hin_X3_clear_X3 : ∀ w ∈ wsX30, w ∈ wsX3_clear := fun _ h => List.mem_cons_of_mem _ (List.mem_append_right _ (h))
set_option maxHeartbeats 4000000 in
set_option maxRecDepth 100000 in
theorem k_X3_clear (l : Launch) (D : va_G) (cI cC : ClassId) (a_t : Nat) (a_characters : Nat) (a_rows : Nat) (v_length : Int32) (v_blocks : Int32) (v_allFit : Int32) (v_at : Int32) (v_number : Int32) (o : Int32) (hf : fX3_clear v_length = some o) : CTv l yX3_clear wsX3_clear rX3_clear D cI cC [.ref a_t] [(a_t, .inr (3, [.ref a_characters, .int v_length, .ref a_rows, .int v_blocks, .int v_allFit, .int v_at, .int v_number]))] [(a_t, .inr (3, [.ref a_characters, .int o, .ref a_rows, .int v_blocks, .int v_allFit, .int v_at, .int v_number]))]  := by
  refine CTv_of (cc := cX3_clear) (maxL := 1) (by decide) rfl (Nat.le_of_ble_eq_true rfl) ?_
  intro p e s m args below meth c A Q ls C0 hA hP hD hl hret
  obtain ⟨hx, hb, hml, hts, hown, hK⟩ := C0
  have hown : s.vm.findClass RX3 = some m.cls := hown
  have hS : va_S A s.heap s.heap [] := va_S.rf
  have hl : lv_has ls 1 [(0, .ref a_t)] := hl
  have hinX3 := hin_X3_clear_X3
  unfold fX3_clear at hf
  refine lv_aload_n hx hb dX3_clear_0 rfl (lv_at hl 0 rfl) ?_
  refine lv_iconst (v := 0) hx hb dX3_clear_1 (by decide) ?_
  refine va_put (D := D) (ci := 3) (v := .int 0) (ty := .int) (C := RX3) (T := TX3) (N := 7) hx hb hts hinX3 tyX3 tyX3_ok nmX3 hown hK.1 hP hD hS 0 rfl rfl 1 (by decide) (hts (.fieldLink RX3 15 "BaselineGrid$Text" "length" "I") (List.mem_of_getElem? (i := 1) rfl)) (fun _ h9 => h9) rfl (by decide +kernel) rfl rfl (Nat.le_of_ble_eq_true rfl) dX3_clear_2 (fun H locs hP hD hS => ?_)
  have hP : va_P D vwCl [(a_t, .inr (3, [.ref a_characters, .int 0, .ref a_rows, .int v_blocks, .int v_allFit, .int v_at, .int v_number]))] H := hP
  have hD : va_D A [(a_t, .inr (3, [.ref a_characters, .int 0, .ref a_rows, .int v_blocks, .int v_allFit, .int v_at, .int v_number]))] := hD
  have ho := Option.some.inj hf
  subst ho
  exact hret dX3_clear_5 (hP.sub (ws' := [(a_t, .inr (3, [.ref a_characters, .int 0, .ref a_rows, .int v_blocks, .int v_allFit, .int v_at, .int v_number]))]) [0] rfl) (hD.sub (ws' := [(a_t, .inr (3, [.ref a_characters, .int 0, .ref a_rows, .int v_blocks, .int v_allFit, .int v_at, .int v_number]))]) [0] (by decide) rfl) hS
def fX3_blocks (v_blocks : Int32) : Option (Int32) :=
  some v_blocks
def rX3_blocks : Room := { frames := 0, cells := 0, slots := 0, locals := 0 }
theorem hin_X3_blocks_X3 : ∀ w ∈ wsX30, w ∈ wsX3_blocks := fun _ h => List.mem_cons_of_mem _ (List.mem_append_right _ (h))
set_option maxHeartbeats 4000000 in
set_option maxRecDepth 100000 in
theorem k_X3_blocks (l : Launch) (D : va_G) (cI cC : ClassId) (a_t : Nat) (a_characters : Nat) (a_rows : Nat) (v_length : Int32) (v_blocks : Int32) (v_allFit : Int32) (v_at : Int32) (v_number : Int32) (o : Int32) (hf : fX3_blocks v_blocks = some o) : CTi l yX3_blocks wsX3_blocks rX3_blocks D cI cC [.ref a_t] [(a_t, .inr (3, [.ref a_characters, .int v_length, .ref a_rows, .int v_blocks, .int v_allFit, .int v_at, .int v_number]))] [(a_t, .inr (3, [.ref a_characters, .int v_length, .ref a_rows, .int v_blocks, .int v_allFit, .int v_at, .int v_number]))] o := by
  refine CTi_of (cc := cX3_blocks) (maxL := 1) (ty := .int) (by decide) rfl (Nat.le_of_ble_eq_true rfl) ?_
  intro p e s m args below meth c A Q ls C0 hA hP hD hl hret
  obtain ⟨hx, hb, hml, hts, hown, hK⟩ := C0
  have hown : s.vm.findClass RX3 = some m.cls := hown
  have hS : va_S A s.heap s.heap [] := va_S.rf
  have hl : lv_has ls 1 [(0, .ref a_t)] := hl
  have hinX3 := hin_X3_blocks_X3
  unfold fX3_blocks at hf
  refine lv_aload_n hx hb dX3_blocks_0 rfl (lv_at hl 0 rfl) ?_
  refine va_get (D := D) (ci := 3) (v := .int v_blocks) (C := RX3) (T := TX3) (N := 7) hx hb hts hinX3 hown hK.1 hP 0 rfl rfl 3 (by decide) (hts (.fieldLink RX3 23 "BaselineGrid$Text" "blocks" "I") (List.mem_of_getElem? (i := 1) rfl)) (fun _ h9 => h9) rfl dX3_blocks_1 ?_
  have ho := Option.some.inj hf
  subst ho
  exact hret dX3_blocks_4 rfl (hP.sub (ws' := [(a_t, .inr (3, [.ref a_characters, .int v_length, .ref a_rows, .int v_blocks, .int v_allFit, .int v_at, .int v_number]))]) [0] rfl) (hD.sub (ws' := [(a_t, .inr (3, [.ref a_characters, .int v_length, .ref a_rows, .int v_blocks, .int v_allFit, .int v_at, .int v_number]))]) [0] (by decide) rfl) hS
def fX3_allFit (v_allFit : Int32) : Option (Int32) :=
  bchk v_allFit (some v_allFit)
def rX3_allFit : Room := { frames := 0, cells := 0, slots := 0, locals := 0 }
theorem hin_X3_allFit_X3 : ∀ w ∈ wsX30, w ∈ wsX3_allFit := fun _ h => List.mem_cons_of_mem _ (List.mem_append_right _ (h))
set_option maxHeartbeats 4000000 in
set_option maxRecDepth 100000 in
theorem k_X3_allFit (l : Launch) (D : va_G) (cI cC : ClassId) (a_t : Nat) (a_characters : Nat) (a_rows : Nat) (v_length : Int32) (v_blocks : Int32) (v_allFit : Int32) (v_at : Int32) (v_number : Int32) (o : Int32) (hf : fX3_allFit v_allFit = some o) : CTi l yX3_allFit wsX3_allFit rX3_allFit D cI cC [.ref a_t] [(a_t, .inr (3, [.ref a_characters, .int v_length, .ref a_rows, .int v_blocks, .int v_allFit, .int v_at, .int v_number]))] [(a_t, .inr (3, [.ref a_characters, .int v_length, .ref a_rows, .int v_blocks, .int v_allFit, .int v_at, .int v_number]))] o := by
  refine CTi_of (cc := cX3_allFit) (maxL := 1) (ty := .boolean) (by decide) rfl (Nat.le_of_ble_eq_true rfl) ?_
  intro p e s m args below meth c A Q ls C0 hA hP hD hl hret
  obtain ⟨hx, hb, hml, hts, hown, hK⟩ := C0
  have hown : s.vm.findClass RX3 = some m.cls := hown
  have hS : va_S A s.heap s.heap [] := va_S.rf
  have hl : lv_has ls 1 [(0, .ref a_t)] := hl
  have hinX3 := hin_X3_allFit_X3
  unfold fX3_allFit at hf
  refine lv_aload_n hx hb dX3_allFit_0 rfl (lv_at hl 0 rfl) ?_
  refine va_get (D := D) (ci := 3) (v := .int v_allFit) (C := RX3) (T := TX3) (N := 7) hx hb hts hinX3 hown hK.1 hP 0 rfl rfl 4 (by decide) (hts (.fieldLink RX3 26 "BaselineGrid$Text" "allFit" "Z") (List.mem_of_getElem? (i := 1) rfl)) (fun _ h9 => h9) rfl dX3_allFit_1 ?_
  replace hf := bchk_some hf
  obtain ⟨hbv, hf⟩ := hf
  have ho := Option.some.inj hf
  subst ho
  exact hret dX3_allFit_4 (nbool hbv) (hP.sub (ws' := [(a_t, .inr (3, [.ref a_characters, .int v_length, .ref a_rows, .int v_blocks, .int v_allFit, .int v_at, .int v_number]))]) [0] rfl) (hD.sub (ws' := [(a_t, .inr (3, [.ref a_characters, .int v_length, .ref a_rows, .int v_blocks, .int v_allFit, .int v_at, .int v_number]))]) [0] (by decide) rfl) hS
def fX3_rows  : Option (Unit) :=
  some ()
def rX3_rows : Room := { frames := 0, cells := 0, slots := 0, locals := 0 }
theorem hin_X3_rows_X3 : ∀ w ∈ wsX30, w ∈ wsX3_rows := fun _ h => List.mem_cons_of_mem _ (List.mem_append_right _ (h))
set_option maxHeartbeats 4000000 in
set_option maxRecDepth 100000 in
theorem k_X3_rows (l : Launch) (D : va_G) (cI cC : ClassId) (a_t : Nat) (a_characters : Nat) (a_rows : Nat) (v_length : Int32) (v_blocks : Int32) (v_allFit : Int32) (v_at : Int32) (v_number : Int32) (o : Unit) (hf : fX3_rows  = some o) : CTr l yX3_rows wsX3_rows rX3_rows D cI cC [.ref a_t] [(a_t, .inr (3, [.ref a_characters, .int v_length, .ref a_rows, .int v_blocks, .int v_allFit, .int v_at, .int v_number]))] [(a_t, .inr (3, [.ref a_characters, .int v_length, .ref a_rows, .int v_blocks, .int v_allFit, .int v_at, .int v_number]))] a_rows := by
  refine CTr_of (cc := cX3_rows) (maxL := 1) (ty := .array .int) (by decide) rfl (Or.inr ⟨_, rfl⟩) (Nat.le_of_ble_eq_true rfl) ?_
  intro p e s m args below meth c A Q ls C0 hA hP hD hl hret
  obtain ⟨hx, hb, hml, hts, hown, hK⟩ := C0
  have hown : s.vm.findClass RX3 = some m.cls := hown
  have hS : va_S A s.heap s.heap [] := va_S.rf
  have hl : lv_has ls 1 [(0, .ref a_t)] := hl
  have hinX3 := hin_X3_rows_X3
  unfold fX3_rows at hf
  refine lv_aload_n hx hb dX3_rows_0 rfl (lv_at hl 0 rfl) ?_
  refine va_get (D := D) (ci := 3) (v := .ref a_rows) (C := RX3) (T := TX3) (N := 7) hx hb hts hinX3 hown hK.1 hP 0 rfl rfl 2 (by decide) (hts (.fieldLink RX3 19 "BaselineGrid$Text" "rows" "[I") (List.mem_of_getElem? (i := 1) rfl)) (fun _ h9 => h9) rfl dX3_rows_1 ?_
  have ho := Option.some.inj hf
  subst ho
  exact hret dX3_rows_4 (hP.sub (ws' := [(a_t, .inr (3, [.ref a_characters, .int v_length, .ref a_rows, .int v_blocks, .int v_allFit, .int v_at, .int v_number]))]) [0] rfl) (hD.sub (ws' := [(a_t, .inr (3, [.ref a_characters, .int v_length, .ref a_rows, .int v_blocks, .int v_allFit, .int v_at, .int v_number]))]) [0] (by decide) rfl) hS
def fX3_isIndex (i1 : Int32) (v_length : Int32) : Option (Int32) :=
  if i1 < 0 then (some 0) else (if v_length ≤ i1 then (some 0) else (if 60 ≤ i1 then (some 0) else (some 1)))
def rX3_isIndex : Room := { frames := 0, cells := 0, slots := 0, locals := 0 }
theorem hin_X3_isIndex_X3 : ∀ w ∈ wsX30, w ∈ wsX3_isIndex := fun _ h => List.mem_cons_of_mem _ (List.mem_append_right _ (h))
set_option maxHeartbeats 4000000 in
set_option maxRecDepth 100000 in
theorem k_X3_isIndex (l : Launch) (D : va_G) (cI cC : ClassId) (a_t : Nat) (a_characters : Nat) (a_rows : Nat) (i1 : Int32) (v_length : Int32) (v_blocks : Int32) (v_allFit : Int32) (v_at : Int32) (v_number : Int32) (o : Int32) (hf : fX3_isIndex i1 v_length = some o) : CTi l yX3_isIndex wsX3_isIndex rX3_isIndex D cI cC [.ref a_t, .int i1] [(a_t, .inr (3, [.ref a_characters, .int v_length, .ref a_rows, .int v_blocks, .int v_allFit, .int v_at, .int v_number]))] [(a_t, .inr (3, [.ref a_characters, .int v_length, .ref a_rows, .int v_blocks, .int v_allFit, .int v_at, .int v_number]))] o := by
  refine CTi_of (cc := cX3_isIndex) (maxL := 2) (ty := .boolean) (by decide) rfl (Nat.le_of_ble_eq_true rfl) ?_
  intro p e s m args below meth c A Q ls C0 hA hP hD hl hret
  obtain ⟨hx, hb, hml, hts, hown, hK⟩ := C0
  have hown : s.vm.findClass RX3 = some m.cls := hown
  have hS : va_S A s.heap s.heap [] := va_S.rf
  have hl : lv_has ls 2 [(0, .ref a_t), (1, .int i1)] := hl
  have hinX3 := hin_X3_isIndex_X3
  unfold fX3_isIndex at hf
  refine lv_iload_n hx hb dX3_isIndex_0 rfl (lv_at hl 1 rfl) ?_
  refine lv_if_lt (tgt := 22) hx hb dX3_isIndex_1 (by decide) (fun hc => ?_) (fun hc => ?_)
  · replace hf := ip hc hf
    refine lv_iconst (v := 0) hx hb dX3_isIndex_22 (by decide) ?_
    have ho := Option.some.inj hf
    subst ho
    exact hret dX3_isIndex_23 (nbool (Or.inl rfl)) (hP.sub (ws' := [(a_t, .inr (3, [.ref a_characters, .int v_length, .ref a_rows, .int v_blocks, .int v_allFit, .int v_at, .int v_number]))]) [0] rfl) (hD.sub (ws' := [(a_t, .inr (3, [.ref a_characters, .int v_length, .ref a_rows, .int v_blocks, .int v_allFit, .int v_at, .int v_number]))]) [0] (by decide) rfl) hS
  · replace hf := ineg hc hf
    refine lv_iload_n hx hb dX3_isIndex_4 rfl (lv_at hl 1 rfl) ?_
    refine lv_aload_n hx hb dX3_isIndex_5 rfl (lv_at hl 0 rfl) ?_
    refine va_get (D := D) (ci := 3) (v := .int v_length) (C := RX3) (T := TX3) (N := 7) hx hb hts hinX3 hown hK.1 hP 0 rfl rfl 1 (by decide) (hts (.fieldLink RX3 15 "BaselineGrid$Text" "length" "I") (List.mem_of_getElem? (i := 1) rfl)) (fun _ h9 => h9) rfl dX3_isIndex_6 ?_
    refine lv_icmp_ge (tgt := 22) hx hb dX3_isIndex_9 (by decide) (fun hc => ?_) (fun hc => ?_)
    · replace hf := ip hc hf
      refine lv_iconst (v := 0) hx hb dX3_isIndex_22 (by decide) ?_
      have ho := Option.some.inj hf
      subst ho
      exact hret dX3_isIndex_23 (nbool (Or.inl rfl)) (hP.sub (ws' := [(a_t, .inr (3, [.ref a_characters, .int v_length, .ref a_rows, .int v_blocks, .int v_allFit, .int v_at, .int v_number]))]) [0] rfl) (hD.sub (ws' := [(a_t, .inr (3, [.ref a_characters, .int v_length, .ref a_rows, .int v_blocks, .int v_allFit, .int v_at, .int v_number]))]) [0] (by decide) rfl) hS
    · replace hf := ineg hc hf
      refine lv_iload_n hx hb dX3_isIndex_12 rfl (lv_at hl 1 rfl) ?_
      refine lv_bipush (v := 60) hx hb dX3_isIndex_13 (by decide) ?_
      refine lv_icmp_ge (tgt := 22) hx hb dX3_isIndex_15 (by decide) (fun hc => ?_) (fun hc => ?_)
      · replace hf := ip hc hf
        refine lv_iconst (v := 0) hx hb dX3_isIndex_22 (by decide) ?_
        have ho := Option.some.inj hf
        subst ho
        exact hret dX3_isIndex_23 (nbool (Or.inl rfl)) (hP.sub (ws' := [(a_t, .inr (3, [.ref a_characters, .int v_length, .ref a_rows, .int v_blocks, .int v_allFit, .int v_at, .int v_number]))]) [0] rfl) (hD.sub (ws' := [(a_t, .inr (3, [.ref a_characters, .int v_length, .ref a_rows, .int v_blocks, .int v_allFit, .int v_at, .int v_number]))]) [0] (by decide) rfl) hS
      · replace hf := ineg hc hf
        refine lv_iconst (v := 1) hx hb dX3_isIndex_18 (by decide) ?_
        refine lv_goto (tgt := 23) hx hb dX3_isIndex_19 (by decide) ?_
        have ho := Option.some.inj hf
        subst ho
        exact hret dX3_isIndex_23 (nbool (Or.inr rfl)) (hP.sub (ws' := [(a_t, .inr (3, [.ref a_characters, .int v_length, .ref a_rows, .int v_blocks, .int v_allFit, .int v_at, .int v_number]))]) [0] rfl) (hD.sub (ws' := [(a_t, .inr (3, [.ref a_characters, .int v_length, .ref a_rows, .int v_blocks, .int v_allFit, .int v_at, .int v_number]))]) [0] (by decide) rfl) hS
def fX3_passes (i1 : Int32) (v_length : Int32) (v_at : Int32) (v_characters : Nat → Int32) : Option (Int32 × Int32) :=
  bd (fX3_isIndex v_at v_length) fun qo1 => if qo1 = 0 then (some (0, v_at)) else (aget 60 v_characters v_at fun qx2 => if qx2 = i1 then (nm (v_at + 1) fun qx3 => some (1, qx3)) else (some (0, v_at)))
def rX3_passes : Room := { frames := 1, cells := 0, slots := 0, locals := 21 }
theorem hin_X3_passes_X3 : ∀ w ∈ wsX30, w ∈ wsX3_passes := fun _ h => List.mem_cons_of_mem _ (List.mem_append_right _ (h))
set_option maxHeartbeats 4000000 in
set_option maxRecDepth 100000 in
theorem k_X3_passes (l : Launch) (D : va_G) (cI cC : ClassId) (a_t : Nat) (a_characters : Nat) (a_rows : Nat) (i1 : Int32) (v_length : Int32) (v_blocks : Int32) (v_allFit : Int32) (v_at : Int32) (v_number : Int32) (v_characters : Nat → Int32) (o : Int32 × Int32) (hf : fX3_passes i1 v_length v_at v_characters = some o) : CTi l yX3_passes wsX3_passes rX3_passes D cI cC [.ref a_t, .int i1] [(a_t, .inr (3, [.ref a_characters, .int v_length, .ref a_rows, .int v_blocks, .int v_allFit, .int v_at, .int v_number])), (a_characters, .inl (cC, 60, .inl v_characters))] [(a_t, .inr (3, [.ref a_characters, .int v_length, .ref a_rows, .int v_blocks, .int v_allFit, .int o.2, .int v_number])), (a_characters, .inl (cC, 60, .inl v_characters))] o.1 := by
  refine CTi_of (cc := cX3_passes) (maxL := 2) (ty := .boolean) (by decide) rfl (Nat.le_of_ble_eq_true rfl) ?_
  intro p e s m args below meth c A Q ls C0 hA hP hD hl hret
  obtain ⟨hx, hb, hml, hts, hown, hK⟩ := C0
  have hown : s.vm.findClass RX3 = some m.cls := hown
  have hS : va_S A s.heap s.heap [] := va_S.rf
  have hl : lv_has ls 2 [(0, .ref a_t), (1, .int i1)] := hl
  have hinX3 := hin_X3_passes_X3
  unfold fX3_passes at hf
  refine lv_aload_n hx hb dX3_passes_0 rfl (lv_at hl 0 rfl) ?_
  refine lv_aload_n hx hb dX3_passes_1 rfl (lv_at hl 0 rfl) ?_
  refine va_get (D := D) (ci := 3) (v := .int v_at) (C := RX3) (T := TX3) (N := 7) hx hb hts hinX3 hown hK.1 hP 0 rfl rfl 5 (by decide) (hts (.fieldLink RX3 30 "BaselineGrid$Text" "at" "I") (List.mem_of_getElem? (i := 1) rfl)) (fun _ h9 => h9) rfl dX3_passes_2 ?_
  replace hf := bd_some hf
  obtain ⟨qo1, hqo1, hf⟩ := hf
  refine g_Vi (As := [.int v_at]) (rest := []) (wr := [(a_characters, .inl (cC, 60, .inl v_characters))]) ⟨hx, hb, hml, hown, hts⟩ (k_X3_isIndex l D cI cC a_t a_characters a_rows v_at v_length v_blocks v_allFit v_at v_number qo1 hqo1) (cwV 1 hts gX3_passes_X3_isIndex rfl rfl rfl (by decide +kernel) ⟨Nat.le_of_ble_eq_true rfl, Nat.le_of_ble_eq_true rfl⟩) hK hP hD hS hA 3 0 rfl rfl rfl [0] [1] rfl rfl rfl rfl rfl (by decide) rfl hl.1 rfl (Nat.le_of_ble_eq_true rfl) dX3_passes_5 (Nat.zero_le _) (Nat.zero_le _) (fun H locs hP hD hS => ?_)
  have hP : va_P D vwCl [(a_characters, .inl (cC, 60, .inl v_characters)), (a_t, .inr (3, [.ref a_characters, .int v_length, .ref a_rows, .int v_blocks, .int v_allFit, .int v_at, .int v_number]))] H := hP
  have hD : va_D A [(a_characters, .inl (cC, 60, .inl v_characters)), (a_t, .inr (3, [.ref a_characters, .int v_length, .ref a_rows, .int v_blocks, .int v_allFit, .int v_at, .int v_number]))] := hD
  refine lv_if_eq (tgt := 24) hx hb dX3_passes_8 (by decide) (fun hc => ?_) (fun hc => ?_)
  · replace hf := ip hc hf
    refine lv_iconst (v := 0) hx hb dX3_passes_24 (by decide) ?_
    have ho := Option.some.inj hf
    subst ho
    exact hret dX3_passes_25 (nbool (Or.inl rfl)) (hP.sub (ws' := [(a_t, .inr (3, [.ref a_characters, .int v_length, .ref a_rows, .int v_blocks, .int v_allFit, .int v_at, .int v_number])), (a_characters, .inl (cC, 60, .inl v_characters))]) [1, 0] rfl) (hD.sub (ws' := [(a_t, .inr (3, [.ref a_characters, .int v_length, .ref a_rows, .int v_blocks, .int v_allFit, .int v_at, .int v_number])), (a_characters, .inl (cC, 60, .inl v_characters))]) [1, 0] (by decide) rfl) hS
  · replace hf := ineg hc hf
    refine lv_aload_n hx hb dX3_passes_11 rfl (lv_at hl 0 rfl) ?_
    refine va_get (D := D) (ci := 3) (v := .ref a_characters) (C := RX3) (T := TX3) (N := 7) hx hb hts hinX3 hown hK.1 hP 1 rfl rfl 0 (by decide) (hts (.fieldLink RX3 9 "BaselineGrid$Text" "characters" "[C") (List.mem_of_getElem? (i := 2) rfl)) (fun _ h9 => h9) rfl dX3_passes_12 ?_
    refine lv_aload_n hx hb dX3_passes_15 rfl (lv_at hl 0 rfl) ?_
    refine va_get (D := D) (ci := 3) (v := .int v_at) (C := RX3) (T := TX3) (N := 7) hx hb hts hinX3 hown hK.1 hP 1 rfl rfl 5 (by decide) (hts (.fieldLink RX3 30 "BaselineGrid$Text" "at" "I") (List.mem_of_getElem? (i := 1) rfl)) (fun _ h9 => h9) rfl dX3_passes_16 ?_
    refine g_cald hx hb hK.1 hP 0 1 rfl rfl hf dX3_passes_19 (fun qx2 hf => ?_)
    refine lv_iload_n hx hb dX3_passes_20 rfl (lv_at hl 1 rfl) ?_
    refine lv_icmp_eq (tgt := 26) hx hb dX3_passes_21 (by decide) (fun hc => ?_) (fun hc => ?_)
    · replace hf := ip hc hf
      refine lv_aload_n hx hb dX3_passes_26 rfl (lv_at hl 0 rfl) ?_
      refine lv_dup hx hb dX3_passes_27 rfl ?_
      refine va_get (D := D) (ci := 3) (v := .int v_at) (C := RX3) (T := TX3) (N := 7) hx hb hts hinX3 hown hK.1 hP 1 rfl rfl 5 (by decide) (hts (.fieldLink RX3 30 "BaselineGrid$Text" "at" "I") (List.mem_of_getElem? (i := 1) rfl)) (fun _ h9 => h9) rfl dX3_passes_28 ?_
      refine lv_iconst (v := 1) hx hb dX3_passes_31 (by decide) ?_
      refine lv_iadd hx hb dX3_passes_32 ?_
      refine g_nm hf (fun qx3 hf => ?_)
      refine va_put (D := D) (ci := 3) (v := .int qx3) (ty := .int) (C := RX3) (T := TX3) (N := 7) hx hb hts hinX3 tyX3 tyX3_ok nmX3 hown hK.1 hP hD hS 1 rfl rfl 5 (by decide) (hts (.fieldLink RX3 30 "BaselineGrid$Text" "at" "I") (List.mem_of_getElem? (i := 1) rfl)) (fun _ h9 => h9) rfl (by decide +kernel) rfl rfl (Nat.le_of_ble_eq_true rfl) dX3_passes_33 (fun H locs hP hD hS => ?_)
      have hP : va_P D vwCl [(a_characters, .inl (cC, 60, .inl v_characters)), (a_t, .inr (3, [.ref a_characters, .int v_length, .ref a_rows, .int v_blocks, .int v_allFit, .int qx3, .int v_number]))] H := hP
      have hD : va_D A [(a_characters, .inl (cC, 60, .inl v_characters)), (a_t, .inr (3, [.ref a_characters, .int v_length, .ref a_rows, .int v_blocks, .int v_allFit, .int qx3, .int v_number]))] := hD
      refine lv_iconst (v := 1) hx hb dX3_passes_36 (by decide) ?_
      have ho := Option.some.inj hf
      subst ho
      exact hret dX3_passes_37 (nbool (Or.inr rfl)) (hP.sub (ws' := [(a_t, .inr (3, [.ref a_characters, .int v_length, .ref a_rows, .int v_blocks, .int v_allFit, .int qx3, .int v_number])), (a_characters, .inl (cC, 60, .inl v_characters))]) [1, 0] rfl) (hD.sub (ws' := [(a_t, .inr (3, [.ref a_characters, .int v_length, .ref a_rows, .int v_blocks, .int v_allFit, .int qx3, .int v_number])), (a_characters, .inl (cC, 60, .inl v_characters))]) [1, 0] (by decide) rfl) hS
    · replace hf := ineg hc hf
      refine lv_iconst (v := 0) hx hb dX3_passes_24 (by decide) ?_
      have ho := Option.some.inj hf
      subst ho
      exact hret dX3_passes_25 (nbool (Or.inl rfl)) (hP.sub (ws' := [(a_t, .inr (3, [.ref a_characters, .int v_length, .ref a_rows, .int v_blocks, .int v_allFit, .int v_at, .int v_number])), (a_characters, .inl (cC, 60, .inl v_characters))]) [1, 0] rfl) (hD.sub (ws' := [(a_t, .inr (3, [.ref a_characters, .int v_length, .ref a_rows, .int v_blocks, .int v_allFit, .int v_at, .int v_number])), (a_characters, .inl (cC, 60, .inl v_characters))]) [1, 0] (by decide) rfl) hS
def fX3_digitAt (i1 : Int32) (v_length : Int32) (v_characters : Nat → Int32) : Option (Int32) :=
  bd (fX3_isIndex i1 v_length) fun qo1 => if qo1 = 0 then (some ((-5))) else (aget 60 v_characters i1 fun qx2 => if qx2 < 48 then (some ((-5))) else (aget 60 v_characters i1 fun qx3 => if qx3 ≤ 57 then (aget 60 v_characters i1 fun qx4 => some (qx4 - 48)) else (some ((-5)))))
def rX3_digitAt : Room := { frames := 1, cells := 0, slots := 0, locals := 21 }
theorem hin_X3_digitAt_X3 : ∀ w ∈ wsX30, w ∈ wsX3_digitAt := fun _ h => List.mem_cons_of_mem _ (List.mem_append_right _ (h))
set_option maxHeartbeats 4000000 in
set_option maxRecDepth 100000 in
theorem k_X3_digitAt (l : Launch) (D : va_G) (cI cC : ClassId) (a_t : Nat) (a_characters : Nat) (a_rows : Nat) (i1 : Int32) (v_length : Int32) (v_blocks : Int32) (v_allFit : Int32) (v_at : Int32) (v_number : Int32) (v_characters : Nat → Int32) (o : Int32) (hf : fX3_digitAt i1 v_length v_characters = some o) : CTi l yX3_digitAt wsX3_digitAt rX3_digitAt D cI cC [.ref a_t, .int i1] [(a_t, .inr (3, [.ref a_characters, .int v_length, .ref a_rows, .int v_blocks, .int v_allFit, .int v_at, .int v_number])), (a_characters, .inl (cC, 60, .inl v_characters))] [(a_t, .inr (3, [.ref a_characters, .int v_length, .ref a_rows, .int v_blocks, .int v_allFit, .int v_at, .int v_number])), (a_characters, .inl (cC, 60, .inl v_characters))] o := by
  refine CTi_of (cc := cX3_digitAt) (maxL := 2) (ty := .int) (by decide) rfl (Nat.le_of_ble_eq_true rfl) ?_
  intro p e s m args below meth c A Q ls C0 hA hP hD hl hret
  obtain ⟨hx, hb, hml, hts, hown, hK⟩ := C0
  have hown : s.vm.findClass RX3 = some m.cls := hown
  have hS : va_S A s.heap s.heap [] := va_S.rf
  have hl : lv_has ls 2 [(0, .ref a_t), (1, .int i1)] := hl
  have hinX3 := hin_X3_digitAt_X3
  unfold fX3_digitAt at hf
  refine lv_aload_n hx hb dX3_digitAt_0 rfl (lv_at hl 0 rfl) ?_
  refine lv_iload_n hx hb dX3_digitAt_1 rfl (lv_at hl 1 rfl) ?_
  replace hf := bd_some hf
  obtain ⟨qo1, hqo1, hf⟩ := hf
  refine g_Vi (As := [.int i1]) (rest := []) (wr := [(a_characters, .inl (cC, 60, .inl v_characters))]) ⟨hx, hb, hml, hown, hts⟩ (k_X3_isIndex l D cI cC a_t a_characters a_rows i1 v_length v_blocks v_allFit v_at v_number qo1 hqo1) (cwV 1 hts gX3_digitAt_X3_isIndex rfl rfl rfl (by decide +kernel) ⟨Nat.le_of_ble_eq_true rfl, Nat.le_of_ble_eq_true rfl⟩) hK hP hD hS hA 3 0 rfl rfl rfl [0] [1] rfl rfl rfl rfl rfl (by decide) rfl hl.1 rfl (Nat.le_of_ble_eq_true rfl) dX3_digitAt_2 (Nat.zero_le _) (Nat.zero_le _) (fun H locs hP hD hS => ?_)
  have hP : va_P D vwCl [(a_characters, .inl (cC, 60, .inl v_characters)), (a_t, .inr (3, [.ref a_characters, .int v_length, .ref a_rows, .int v_blocks, .int v_allFit, .int v_at, .int v_number]))] H := hP
  have hD : va_D A [(a_characters, .inl (cC, 60, .inl v_characters)), (a_t, .inr (3, [.ref a_characters, .int v_length, .ref a_rows, .int v_blocks, .int v_allFit, .int v_at, .int v_number]))] := hD
  refine lv_if_eq (tgt := 30) hx hb dX3_digitAt_5 (by decide) (fun hc => ?_) (fun hc => ?_)
  · replace hf := ip hc hf
    refine lv_bipush (v := (-5)) hx hb dX3_digitAt_30 (by decide) ?_
    have ho := Option.some.inj hf
    subst ho
    exact hret dX3_digitAt_32 rfl (hP.sub (ws' := [(a_t, .inr (3, [.ref a_characters, .int v_length, .ref a_rows, .int v_blocks, .int v_allFit, .int v_at, .int v_number])), (a_characters, .inl (cC, 60, .inl v_characters))]) [1, 0] rfl) (hD.sub (ws' := [(a_t, .inr (3, [.ref a_characters, .int v_length, .ref a_rows, .int v_blocks, .int v_allFit, .int v_at, .int v_number])), (a_characters, .inl (cC, 60, .inl v_characters))]) [1, 0] (by decide) rfl) hS
  · replace hf := ineg hc hf
    refine lv_aload_n hx hb dX3_digitAt_8 rfl (lv_at hl 0 rfl) ?_
    refine va_get (D := D) (ci := 3) (v := .ref a_characters) (C := RX3) (T := TX3) (N := 7) hx hb hts hinX3 hown hK.1 hP 1 rfl rfl 0 (by decide) (hts (.fieldLink RX3 9 "BaselineGrid$Text" "characters" "[C") (List.mem_of_getElem? (i := 1) rfl)) (fun _ h9 => h9) rfl dX3_digitAt_9 ?_
    refine lv_iload_n hx hb dX3_digitAt_12 rfl (lv_at hl 1 rfl) ?_
    refine g_cald hx hb hK.1 hP 0 1 rfl rfl hf dX3_digitAt_13 (fun qx2 hf => ?_)
    refine lv_bipush (v := 48) hx hb dX3_digitAt_14 (by decide) ?_
    refine lv_icmp_lt (tgt := 30) hx hb dX3_digitAt_16 (by decide) (fun hc => ?_) (fun hc => ?_)
    · replace hf := ip hc hf
      refine lv_bipush (v := (-5)) hx hb dX3_digitAt_30 (by decide) ?_
      have ho := Option.some.inj hf
      subst ho
      exact hret dX3_digitAt_32 rfl (hP.sub (ws' := [(a_t, .inr (3, [.ref a_characters, .int v_length, .ref a_rows, .int v_blocks, .int v_allFit, .int v_at, .int v_number])), (a_characters, .inl (cC, 60, .inl v_characters))]) [1, 0] rfl) (hD.sub (ws' := [(a_t, .inr (3, [.ref a_characters, .int v_length, .ref a_rows, .int v_blocks, .int v_allFit, .int v_at, .int v_number])), (a_characters, .inl (cC, 60, .inl v_characters))]) [1, 0] (by decide) rfl) hS
    · replace hf := ineg hc hf
      refine lv_aload_n hx hb dX3_digitAt_19 rfl (lv_at hl 0 rfl) ?_
      refine va_get (D := D) (ci := 3) (v := .ref a_characters) (C := RX3) (T := TX3) (N := 7) hx hb hts hinX3 hown hK.1 hP 1 rfl rfl 0 (by decide) (hts (.fieldLink RX3 9 "BaselineGrid$Text" "characters" "[C") (List.mem_of_getElem? (i := 1) rfl)) (fun _ h9 => h9) rfl dX3_digitAt_20 ?_
      refine lv_iload_n hx hb dX3_digitAt_23 rfl (lv_at hl 1 rfl) ?_
      refine g_cald hx hb hK.1 hP 0 1 rfl rfl hf dX3_digitAt_24 (fun qx3 hf => ?_)
      refine lv_bipush (v := 57) hx hb dX3_digitAt_25 (by decide) ?_
      refine lv_icmp_le (tgt := 33) hx hb dX3_digitAt_27 (by decide) (fun hc => ?_) (fun hc => ?_)
      · replace hf := ip hc hf
        refine lv_aload_n hx hb dX3_digitAt_33 rfl (lv_at hl 0 rfl) ?_
        refine va_get (D := D) (ci := 3) (v := .ref a_characters) (C := RX3) (T := TX3) (N := 7) hx hb hts hinX3 hown hK.1 hP 1 rfl rfl 0 (by decide) (hts (.fieldLink RX3 9 "BaselineGrid$Text" "characters" "[C") (List.mem_of_getElem? (i := 1) rfl)) (fun _ h9 => h9) rfl dX3_digitAt_34 ?_
        refine lv_iload_n hx hb dX3_digitAt_37 rfl (lv_at hl 1 rfl) ?_
        refine g_cald hx hb hK.1 hP 0 1 rfl rfl hf dX3_digitAt_38 (fun qx4 hf => ?_)
        refine lv_bipush (v := 48) hx hb dX3_digitAt_39 (by decide) ?_
        refine lv_isub hx hb dX3_digitAt_41 ?_
        have ho := Option.some.inj hf
        subst ho
        exact hret dX3_digitAt_42 rfl (hP.sub (ws' := [(a_t, .inr (3, [.ref a_characters, .int v_length, .ref a_rows, .int v_blocks, .int v_allFit, .int v_at, .int v_number])), (a_characters, .inl (cC, 60, .inl v_characters))]) [1, 0] rfl) (hD.sub (ws' := [(a_t, .inr (3, [.ref a_characters, .int v_length, .ref a_rows, .int v_blocks, .int v_allFit, .int v_at, .int v_number])), (a_characters, .inl (cC, 60, .inl v_characters))]) [1, 0] (by decide) rfl) hS
      · replace hf := ineg hc hf
        refine lv_bipush (v := (-5)) hx hb dX3_digitAt_30 (by decide) ?_
        have ho := Option.some.inj hf
        subst ho
        exact hret dX3_digitAt_32 rfl (hP.sub (ws' := [(a_t, .inr (3, [.ref a_characters, .int v_length, .ref a_rows, .int v_blocks, .int v_allFit, .int v_at, .int v_number])), (a_characters, .inl (cC, 60, .inl v_characters))]) [1, 0] rfl) (hD.sub (ws' := [(a_t, .inr (3, [.ref a_characters, .int v_length, .ref a_rows, .int v_blocks, .int v_allFit, .int v_at, .int v_number])), (a_characters, .inl (cC, 60, .inl v_characters))]) [1, 0] (by decide) rfl) hS
def fX3_readNumber_71 (v_at : Int32) (v_number : Int32) : Option (Int32 × Int32 × Int32) :=
    if v_number ≤ 0 then (some (0, v_at, v_number)) else (some (1, v_at, v_number))
def fX3_readNumber_5 (i1 : Int32) (v_length : Int32) (v_characters : Nat → Int32) : Nat → Int32 → Int32 → Option (Int32 × Int32 × Int32)
  | 0 => fun _ _ => none
  | n + 1 => fun v_at v_number =>
    if v_length ≤ v_at then (fX3_readNumber_71 v_at v_number) else (bd (fX3_digitAt v_at v_length v_characters) fun qo1 => nm ((v_number * 10) + qo1) fun qx2 => if qo1 = ((-5)) then (fX3_readNumber_71 v_at v_number) else (if qx2 = 0 then (fX3_readNumber_71 v_at v_number) else (if qx2 ≤ i1 then (nm (v_at + 1) fun qx3 => (fX3_readNumber_5 i1 v_length v_characters n) qx3 qx2) else (fX3_readNumber_71 v_at v_number))))
def fX3_readNumber (i1 : Int32) (v_length : Int32) (v_at : Int32) (v_number : Int32) (v_characters : Nat → Int32) : Option (Int32 × Int32 × Int32) :=
  fX3_readNumber_5 i1 v_length v_characters Fu v_at 0
def rX3_readNumber : Room := { frames := 2, cells := 0, slots := 0, locals := 42 }
theorem hin_X3_readNumber_X3 : ∀ w ∈ wsX30, w ∈ wsX3_readNumber := fun _ h => List.mem_cons_of_mem _ (List.mem_append_right _ (h))
set_option maxHeartbeats 4000000 in
set_option maxRecDepth 100000 in
theorem k_X3_readNumber (l : Launch) (D : va_G) (cI cC : ClassId) (a_t : Nat) (a_characters : Nat) (a_rows : Nat) (i1 : Int32) (v_length : Int32) (v_blocks : Int32) (v_allFit : Int32) (v_at : Int32) (v_number : Int32) (v_characters : Nat → Int32) (o : Int32 × Int32 × Int32) (hf : fX3_readNumber i1 v_length v_at v_number v_characters = some o) : CTi l yX3_readNumber wsX3_readNumber rX3_readNumber D cI cC [.ref a_t, .int i1] [(a_t, .inr (3, [.ref a_characters, .int v_length, .ref a_rows, .int v_blocks, .int v_allFit, .int v_at, .int v_number])), (a_characters, .inl (cC, 60, .inl v_characters))] [(a_t, .inr (3, [.ref a_characters, .int v_length, .ref a_rows, .int v_blocks, .int v_allFit, .int o.2.1, .int o.2.2])), (a_characters, .inl (cC, 60, .inl v_characters))] o.1 := by
  refine CTi_of (cc := cX3_readNumber) (maxL := 4) (ty := .boolean) (by decide) rfl (Nat.le_of_ble_eq_true rfl) ?_
  intro p e s m args below meth c A Q ls C0 hA hP hD hl hret
  obtain ⟨hx, hb, hml, hts, hown, hK⟩ := C0
  have hown : s.vm.findClass RX3 = some m.cls := hown
  have hS : va_S A s.heap s.heap [] := va_S.rf
  have hl : lv_has ls 4 [(0, .ref a_t), (1, .int i1)] := hl
  have hinX3 := hin_X3_readNumber_X3
  have J71 : ∀ (v_at : Int32) (v_number : Int32)  (H : Heap) (locs : List Loc) (ls : Array Slot), fX3_readNumber_71 v_at v_number = some o → va_P D vwCl [(a_t, .inr (3, [.ref a_characters, .int v_length, .ref a_rows, .int v_blocks, .int v_allFit, .int v_at, .int v_number])), (a_characters, .inl (cC, 60, .inl v_characters))] H → va_D A [(a_t, .inr (3, [.ref a_characters, .int v_length, .ref a_rows, .int v_blocks, .int v_allFit, .int v_at, .int v_number])), (a_characters, .inl (cC, 60, .inl v_characters))] → va_S A s.heap H locs → lv_has ls 4 [(0, .ref a_t)] → W p l e rX3_readNumber s m args below meth c H locs 0 0 Q (F0 m 71 ls []) := by
    intro v_at v_number H locs ls hf hP hD hS hl
    unfold fX3_readNumber_71 at hf
    refine lv_aload_n hx hb dX3_readNumber_71 rfl (lv_at hl 0 rfl) ?_
    refine va_get (D := D) (ci := 3) (v := .int v_number) (C := RX3) (T := TX3) (N := 7) hx hb hts hinX3 hown hK.1 hP 0 rfl rfl 6 (by decide) (hts (.fieldLink RX3 33 "BaselineGrid$Text" "number" "I") (List.mem_of_getElem? (i := 1) rfl)) (fun _ h9 => h9) rfl dX3_readNumber_72 ?_
    refine lv_if_le (tgt := 82) hx hb dX3_readNumber_75 (by decide) (fun hc => ?_) (fun hc => ?_)
    · replace hf := ip hc hf
      refine lv_iconst (v := 0) hx hb dX3_readNumber_82 (by decide) ?_
      have ho := Option.some.inj hf
      subst ho
      exact hret dX3_readNumber_83 (nbool (Or.inl rfl)) (hP.sub (ws' := [(a_t, .inr (3, [.ref a_characters, .int v_length, .ref a_rows, .int v_blocks, .int v_allFit, .int v_at, .int v_number])), (a_characters, .inl (cC, 60, .inl v_characters))]) [0, 1] rfl) (hD.sub (ws' := [(a_t, .inr (3, [.ref a_characters, .int v_length, .ref a_rows, .int v_blocks, .int v_allFit, .int v_at, .int v_number])), (a_characters, .inl (cC, 60, .inl v_characters))]) [0, 1] (by decide) rfl) hS
    · replace hf := ineg hc hf
      refine lv_iconst (v := 1) hx hb dX3_readNumber_78 (by decide) ?_
      refine lv_goto (tgt := 83) hx hb dX3_readNumber_79 (by decide) ?_
      have ho := Option.some.inj hf
      subst ho
      exact hret dX3_readNumber_83 (nbool (Or.inr rfl)) (hP.sub (ws' := [(a_t, .inr (3, [.ref a_characters, .int v_length, .ref a_rows, .int v_blocks, .int v_allFit, .int v_at, .int v_number])), (a_characters, .inl (cC, 60, .inl v_characters))]) [0, 1] rfl) (hD.sub (ws' := [(a_t, .inr (3, [.ref a_characters, .int v_length, .ref a_rows, .int v_blocks, .int v_allFit, .int v_at, .int v_number])), (a_characters, .inl (cC, 60, .inl v_characters))]) [0, 1] (by decide) rfl) hS
  have J5 : ∀   (n : Nat) (v_at : Int32) (v_number : Int32) (H : Heap) (locs : List Loc) (ls : Array Slot), fX3_readNumber_5 i1 v_length v_characters n v_at v_number = some o → va_P D vwCl [(a_t, .inr (3, [.ref a_characters, .int v_length, .ref a_rows, .int v_blocks, .int v_allFit, .int v_at, .int v_number])), (a_characters, .inl (cC, 60, .inl v_characters))] H → va_D A [(a_t, .inr (3, [.ref a_characters, .int v_length, .ref a_rows, .int v_blocks, .int v_allFit, .int v_at, .int v_number])), (a_characters, .inl (cC, 60, .inl v_characters))] → va_S A s.heap H locs → lv_has ls 4 [(0, .ref a_t), (1, .int i1)] → W p l e rX3_readNumber s m args below meth c H locs 0 0 Q (F0 m 5 ls []) := by
    intro  n
    induction n with
    | zero =>
      intro v_at v_number H locs ls hf
      have hf0 : (none : Option (Int32 × Int32 × Int32)) = some o := hf
      cases hf0
    | succ n hk5 =>
      intro v_at v_number H locs ls hf hP hD hS hl
      rw [fX3_readNumber_5] at hf
      refine lv_aload_n hx hb dX3_readNumber_5 rfl (lv_at hl 0 rfl) ?_
      refine va_get (D := D) (ci := 3) (v := .int v_at) (C := RX3) (T := TX3) (N := 7) hx hb hts hinX3 hown hK.1 hP 0 rfl rfl 5 (by decide) (hts (.fieldLink RX3 30 "BaselineGrid$Text" "at" "I") (List.mem_of_getElem? (i := 2) rfl)) (fun _ h9 => h9) rfl dX3_readNumber_6 ?_
      refine lv_aload_n hx hb dX3_readNumber_9 rfl (lv_at hl 0 rfl) ?_
      refine va_get (D := D) (ci := 3) (v := .int v_length) (C := RX3) (T := TX3) (N := 7) hx hb hts hinX3 hown hK.1 hP 0 rfl rfl 1 (by decide) (hts (.fieldLink RX3 15 "BaselineGrid$Text" "length" "I") (List.mem_of_getElem? (i := 3) rfl)) (fun _ h9 => h9) rfl dX3_readNumber_10 ?_
      refine lv_icmp_ge (tgt := 71) hx hb dX3_readNumber_13 (by decide) (fun hc => ?_) (fun hc => ?_)
      · replace hf := ip hc hf
        exact J71 v_at v_number _ _ _ hf (hP.sub (ws' := [(a_t, .inr (3, [.ref a_characters, .int v_length, .ref a_rows, .int v_blocks, .int v_allFit, .int v_at, .int v_number])), (a_characters, .inl (cC, 60, .inl v_characters))]) [0, 1] rfl) (hD.sub (ws' := [(a_t, .inr (3, [.ref a_characters, .int v_length, .ref a_rows, .int v_blocks, .int v_allFit, .int v_at, .int v_number])), (a_characters, .inl (cC, 60, .inl v_characters))]) [0, 1] (by decide) rfl) hS (lv_sub hl [0] rfl)
      · replace hf := ineg hc hf
        refine lv_aload_n hx hb dX3_readNumber_16 rfl (lv_at hl 0 rfl) ?_
        refine lv_aload_n hx hb dX3_readNumber_17 rfl (lv_at hl 0 rfl) ?_
        refine va_get (D := D) (ci := 3) (v := .int v_at) (C := RX3) (T := TX3) (N := 7) hx hb hts hinX3 hown hK.1 hP 0 rfl rfl 5 (by decide) (hts (.fieldLink RX3 30 "BaselineGrid$Text" "at" "I") (List.mem_of_getElem? (i := 2) rfl)) (fun _ h9 => h9) rfl dX3_readNumber_18 ?_
        replace hf := bd_some hf
        obtain ⟨qo1, hqo1, hf⟩ := hf
        refine g_Vi (As := [.int v_at]) (rest := []) (wr := []) ⟨hx, hb, hml, hown, hts⟩ (k_X3_digitAt l D cI cC a_t a_characters a_rows v_at v_length v_blocks v_allFit v_at v_number v_characters qo1 hqo1) (cwV 1 hts gX3_readNumber_X3_digitAt rfl rfl rfl (by decide +kernel) ⟨Nat.le_of_ble_eq_true rfl, Nat.le_of_ble_eq_true rfl⟩) hK hP hD hS hA 3 0 rfl rfl rfl [0, 1] [] rfl rfl rfl rfl rfl (by decide) rfl hl.1 rfl (Nat.le_of_ble_eq_true rfl) dX3_readNumber_21 (Nat.zero_le _) (Nat.zero_le _) (fun H locs hP hD hS => ?_)
        have hP : va_P D vwCl [(a_t, .inr (3, [.ref a_characters, .int v_length, .ref a_rows, .int v_blocks, .int v_allFit, .int v_at, .int v_number])), (a_characters, .inl (cC, 60, .inl v_characters))] H := hP
        have hD : va_D A [(a_t, .inr (3, [.ref a_characters, .int v_length, .ref a_rows, .int v_blocks, .int v_allFit, .int v_at, .int v_number])), (a_characters, .inl (cC, 60, .inl v_characters))] := hD
        refine lv_istore_n (lv' := [(2, .int qo1), (0, .ref a_t), (1, .int i1)]) hx hb dX3_readNumber_24 rfl hl (by decide) rfl (fun ls hl => ?_)
        refine lv_aload_n hx hb dX3_readNumber_25 rfl (lv_at hl 1 rfl) ?_
        refine va_get (D := D) (ci := 3) (v := .int v_number) (C := RX3) (T := TX3) (N := 7) hx hb hts hinX3 hown hK.1 hP 0 rfl rfl 6 (by decide) (hts (.fieldLink RX3 33 "BaselineGrid$Text" "number" "I") (List.mem_of_getElem? (i := 1) rfl)) (fun _ h9 => h9) rfl dX3_readNumber_26 ?_
        refine lv_bipush (v := 10) hx hb dX3_readNumber_29 (by decide) ?_
        refine lv_imul hx hb dX3_readNumber_31 ?_
        refine lv_iload_n hx hb dX3_readNumber_32 rfl (lv_at hl 0 rfl) ?_
        refine lv_iadd hx hb dX3_readNumber_33 ?_
        refine g_nm hf (fun qx2 hf => ?_)
        refine lv_istore_n (lv' := [(3, .int qx2), (2, .int qo1), (0, .ref a_t), (1, .int i1)]) hx hb dX3_readNumber_34 rfl hl (by decide) rfl (fun ls hl => ?_)
        refine lv_iload_n hx hb dX3_readNumber_35 rfl (lv_at hl 1 rfl) ?_
        refine lv_bipush (v := (-5)) hx hb dX3_readNumber_36 (by decide) ?_
        refine lv_icmp_eq (tgt := 71) hx hb dX3_readNumber_38 (by decide) (fun hc => ?_) (fun hc => ?_)
        · replace hf := ip hc hf
          exact J71 v_at v_number _ _ _ hf (hP.sub (ws' := [(a_t, .inr (3, [.ref a_characters, .int v_length, .ref a_rows, .int v_blocks, .int v_allFit, .int v_at, .int v_number])), (a_characters, .inl (cC, 60, .inl v_characters))]) [0, 1] rfl) (hD.sub (ws' := [(a_t, .inr (3, [.ref a_characters, .int v_length, .ref a_rows, .int v_blocks, .int v_allFit, .int v_at, .int v_number])), (a_characters, .inl (cC, 60, .inl v_characters))]) [0, 1] (by decide) rfl) hS (lv_sub hl [2] rfl)
        · replace hf := ineg hc hf
          refine lv_iload_n hx hb dX3_readNumber_41 rfl (lv_at hl 0 rfl) ?_
          refine lv_if_eq (tgt := 71) hx hb dX3_readNumber_42 (by decide) (fun hc => ?_) (fun hc => ?_)
          · replace hf := ip hc hf
            exact J71 v_at v_number _ _ _ hf (hP.sub (ws' := [(a_t, .inr (3, [.ref a_characters, .int v_length, .ref a_rows, .int v_blocks, .int v_allFit, .int v_at, .int v_number])), (a_characters, .inl (cC, 60, .inl v_characters))]) [0, 1] rfl) (hD.sub (ws' := [(a_t, .inr (3, [.ref a_characters, .int v_length, .ref a_rows, .int v_blocks, .int v_allFit, .int v_at, .int v_number])), (a_characters, .inl (cC, 60, .inl v_characters))]) [0, 1] (by decide) rfl) hS (lv_sub hl [2] rfl)
          · replace hf := ineg hc hf
            refine lv_iload_n hx hb dX3_readNumber_45 rfl (lv_at hl 0 rfl) ?_
            refine lv_iload_n hx hb dX3_readNumber_46 rfl (lv_at hl 3 rfl) ?_
            refine lv_icmp_le (tgt := 53) hx hb dX3_readNumber_47 (by decide) (fun hc => ?_) (fun hc => ?_)
            · replace hf := ip hc hf
              refine lv_aload_n hx hb dX3_readNumber_53 rfl (lv_at hl 2 rfl) ?_
              refine lv_iload_n hx hb dX3_readNumber_54 rfl (lv_at hl 0 rfl) ?_
              refine va_put (D := D) (ci := 3) (v := .int qx2) (ty := .int) (C := RX3) (T := TX3) (N := 7) hx hb hts hinX3 tyX3 tyX3_ok nmX3 hown hK.1 hP hD hS 0 rfl rfl 6 (by decide) (hts (.fieldLink RX3 33 "BaselineGrid$Text" "number" "I") (List.mem_of_getElem? (i := 1) rfl)) (fun _ h9 => h9) rfl (by decide +kernel) rfl rfl (Nat.le_of_ble_eq_true rfl) dX3_readNumber_55 (fun H locs hP hD hS => ?_)
              have hP : va_P D vwCl [(a_t, .inr (3, [.ref a_characters, .int v_length, .ref a_rows, .int v_blocks, .int v_allFit, .int v_at, .int qx2])), (a_characters, .inl (cC, 60, .inl v_characters))] H := hP
              have hD : va_D A [(a_t, .inr (3, [.ref a_characters, .int v_length, .ref a_rows, .int v_blocks, .int v_allFit, .int v_at, .int qx2])), (a_characters, .inl (cC, 60, .inl v_characters))] := hD
              refine lv_aload_n hx hb dX3_readNumber_58 rfl (lv_at hl 2 rfl) ?_
              refine lv_dup hx hb dX3_readNumber_59 rfl ?_
              refine va_get (D := D) (ci := 3) (v := .int v_at) (C := RX3) (T := TX3) (N := 7) hx hb hts hinX3 hown hK.1 hP 0 rfl rfl 5 (by decide) (hts (.fieldLink RX3 30 "BaselineGrid$Text" "at" "I") (List.mem_of_getElem? (i := 2) rfl)) (fun _ h9 => h9) rfl dX3_readNumber_60 ?_
              refine lv_iconst (v := 1) hx hb dX3_readNumber_63 (by decide) ?_
              refine lv_iadd hx hb dX3_readNumber_64 ?_
              refine g_nm hf (fun qx3 hf => ?_)
              refine va_put (D := D) (ci := 3) (v := .int qx3) (ty := .int) (C := RX3) (T := TX3) (N := 7) hx hb hts hinX3 tyX3 tyX3_ok nmX3 hown hK.1 hP hD hS 0 rfl rfl 5 (by decide) (hts (.fieldLink RX3 30 "BaselineGrid$Text" "at" "I") (List.mem_of_getElem? (i := 2) rfl)) (fun _ h9 => h9) rfl (by decide +kernel) rfl rfl (Nat.le_of_ble_eq_true rfl) dX3_readNumber_65 (fun H locs hP hD hS => ?_)
              have hP : va_P D vwCl [(a_t, .inr (3, [.ref a_characters, .int v_length, .ref a_rows, .int v_blocks, .int v_allFit, .int qx3, .int qx2])), (a_characters, .inl (cC, 60, .inl v_characters))] H := hP
              have hD : va_D A [(a_t, .inr (3, [.ref a_characters, .int v_length, .ref a_rows, .int v_blocks, .int v_allFit, .int qx3, .int qx2])), (a_characters, .inl (cC, 60, .inl v_characters))] := hD
              refine lv_goto (tgt := 5) hx hb dX3_readNumber_68 (by decide) ?_
              exact hk5 qx3 qx2 _ _ _ hf (hP.sub (ws' := [(a_t, .inr (3, [.ref a_characters, .int v_length, .ref a_rows, .int v_blocks, .int v_allFit, .int qx3, .int qx2])), (a_characters, .inl (cC, 60, .inl v_characters))]) [0, 1] rfl) (hD.sub (ws' := [(a_t, .inr (3, [.ref a_characters, .int v_length, .ref a_rows, .int v_blocks, .int v_allFit, .int qx3, .int qx2])), (a_characters, .inl (cC, 60, .inl v_characters))]) [0, 1] (by decide) rfl) hS (lv_sub hl [2, 3] rfl)
            · replace hf := ineg hc hf
              refine lv_goto (tgt := 71) hx hb dX3_readNumber_50 (by decide) ?_
              exact J71 v_at v_number _ _ _ hf (hP.sub (ws' := [(a_t, .inr (3, [.ref a_characters, .int v_length, .ref a_rows, .int v_blocks, .int v_allFit, .int v_at, .int v_number])), (a_characters, .inl (cC, 60, .inl v_characters))]) [0, 1] rfl) (hD.sub (ws' := [(a_t, .inr (3, [.ref a_characters, .int v_length, .ref a_rows, .int v_blocks, .int v_allFit, .int v_at, .int v_number])), (a_characters, .inl (cC, 60, .inl v_characters))]) [0, 1] (by decide) rfl) hS (lv_sub hl [2] rfl)
  unfold fX3_readNumber at hf
  refine lv_aload_n hx hb dX3_readNumber_0 rfl (lv_at hl 0 rfl) ?_
  refine lv_iconst (v := 0) hx hb dX3_readNumber_1 (by decide) ?_
  refine va_put (D := D) (ci := 3) (v := .int 0) (ty := .int) (C := RX3) (T := TX3) (N := 7) hx hb hts hinX3 tyX3 tyX3_ok nmX3 hown hK.1 hP hD hS 0 rfl rfl 6 (by decide) (hts (.fieldLink RX3 33 "BaselineGrid$Text" "number" "I") (List.mem_of_getElem? (i := 1) rfl)) (fun _ h9 => h9) rfl (by decide +kernel) rfl rfl (Nat.le_of_ble_eq_true rfl) dX3_readNumber_2 (fun H locs hP hD hS => ?_)
  have hP : va_P D vwCl [(a_t, .inr (3, [.ref a_characters, .int v_length, .ref a_rows, .int v_blocks, .int v_allFit, .int v_at, .int 0])), (a_characters, .inl (cC, 60, .inl v_characters))] H := hP
  have hD : va_D A [(a_t, .inr (3, [.ref a_characters, .int v_length, .ref a_rows, .int v_blocks, .int v_allFit, .int v_at, .int 0])), (a_characters, .inl (cC, 60, .inl v_characters))] := hD
  exact J5 Fu v_at 0 _ _ _ hf (hP.sub (ws' := [(a_t, .inr (3, [.ref a_characters, .int v_length, .ref a_rows, .int v_blocks, .int v_allFit, .int v_at, .int 0])), (a_characters, .inl (cC, 60, .inl v_characters))]) [0, 1] rfl) (hD.sub (ws' := [(a_t, .inr (3, [.ref a_characters, .int v_length, .ref a_rows, .int v_blocks, .int v_allFit, .int v_at, .int 0])), (a_characters, .inl (cC, 60, .inl v_characters))]) [0, 1] (by decide) rfl) hS (lv_sub hl [0, 1] rfl)
def fX4_isFitting (i0 : Int32) (i1 : Int32) : Option (Int32) :=
  if i0 < 40 then (some 0) else (if i1 < i0 then (some 0) else (some 1))
def rX4_isFitting : Room := { frames := 0, cells := 0, slots := 0, locals := 0 }
set_option maxHeartbeats 4000000 in
set_option maxRecDepth 100000 in
theorem k_X4_isFitting (l : Launch) (D : va_G) (cI cC : ClassId) (i0 : Int32) (i1 : Int32) (o : Int32) (hf : fX4_isFitting i0 i1 = some o) : CTi l yX4_isFitting wsX4_isFitting rX4_isFitting D cI cC [.int i0, .int i1] [] [] o := by
  refine CTi_of (cc := cX4_isFitting) (maxL := 2) (ty := .boolean) (by decide) rfl (Nat.le_of_ble_eq_true rfl) ?_
  intro p e s m args below meth c A Q ls C0 hA hP hD hl hret
  obtain ⟨hx, hb, hml, hts, hown, hK⟩ := C0
  have hown : s.vm.findClass RX4 = some m.cls := hown
  have hS : va_S A s.heap s.heap [] := va_S.rf
  have hl : lv_has ls 2 [(0, .int i0), (1, .int i1)] := hl
  unfold fX4_isFitting at hf
  refine lv_iload_n hx hb dX4_isFitting_0 rfl (lv_at hl 0 rfl) ?_
  refine lv_bipush (v := 40) hx hb dX4_isFitting_1 (by decide) ?_
  refine lv_icmp_lt (tgt := 15) hx hb dX4_isFitting_3 (by decide) (fun hc => ?_) (fun hc => ?_)
  · replace hf := ip hc hf
    refine lv_iconst (v := 0) hx hb dX4_isFitting_15 (by decide) ?_
    have ho := Option.some.inj hf
    subst ho
    exact hret dX4_isFitting_16 (nbool (Or.inl rfl)) (hP.sub (ws' := []) [] rfl) (hD.sub (ws' := []) [] (by decide) rfl) hS
  · replace hf := ineg hc hf
    refine lv_iload_n hx hb dX4_isFitting_6 rfl (lv_at hl 1 rfl) ?_
    refine lv_iload_n hx hb dX4_isFitting_7 rfl (lv_at hl 0 rfl) ?_
    refine lv_icmp_lt (tgt := 15) hx hb dX4_isFitting_8 (by decide) (fun hc => ?_) (fun hc => ?_)
    · replace hf := ip hc hf
      refine lv_iconst (v := 0) hx hb dX4_isFitting_15 (by decide) ?_
      have ho := Option.some.inj hf
      subst ho
      exact hret dX4_isFitting_16 (nbool (Or.inl rfl)) (hP.sub (ws' := []) [] rfl) (hD.sub (ws' := []) [] (by decide) rfl) hS
    · replace hf := ineg hc hf
      refine lv_iconst (v := 1) hx hb dX4_isFitting_11 (by decide) ?_
      refine lv_goto (tgt := 16) hx hb dX4_isFitting_12 (by decide) ?_
      have ho := Option.some.inj hf
      subst ho
      exact hret dX4_isFitting_16 (nbool (Or.inr rfl)) (hP.sub (ws' := []) [] rfl) (hD.sub (ws' := []) [] (by decide) rfl) hS
def fX3_readParagraph_126 (s1 : Int32) (v_blocks : Int32) (v_allFit : Int32) (v_at : Int32) (v_number : Int32) (v_rows : Nat → Int32) : Option (Int32 × Int32 × Int32 × Int32 × Int32 × (Nat → Int32)) :=
    bchk s1 <| some (1, v_blocks, s1, v_at, v_number, v_rows)
def fX3_readParagraph_125 (v_blocks : Int32) (v_allFit : Int32) (v_at : Int32) (v_number : Int32) (v_rows : Nat → Int32) : Option (Int32 × Int32 × Int32 × Int32 × Int32 × (Nat → Int32)) :=
    fX3_readParagraph_126 0 v_blocks v_allFit v_at v_number v_rows
def fX3_readParagraph (v_length : Int32) (v_blocks : Int32) (v_allFit : Int32) (v_at : Int32) (v_number : Int32) (v_characters : Nat → Int32) (v_rows : Nat → Int32) : Option (Int32 × Int32 × Int32 × Int32 × Int32 × (Nat → Int32)) :=
  bd (fX3_readNumber 40 v_length v_at v_number v_characters) fun qo1 => if qo1.1 = 0 then (some (0, v_blocks, v_allFit, qo1.2.1, qo1.2.2, v_rows)) else (bd (fX3_passes 42 v_length qo1.2.1 v_characters) fun qo2 => if qo2.1 = 0 then (some (0, v_blocks, v_allFit, qo2.2, qo1.2.2, v_rows)) else (bd (fX3_readNumber 400 v_length qo2.2 qo1.2.2 v_characters) fun qo3 => if qo3.1 = 0 then (some (0, v_blocks, v_allFit, qo3.2.1, qo3.2.2, v_rows)) else (bd (fX3_passes 47 v_length qo3.2.1 v_characters) fun qo4 => if qo4.1 = 0 then (some (0, v_blocks, v_allFit, qo4.2, qo3.2.2, v_rows)) else (bd (fX3_readNumber 600 v_length qo4.2 qo3.2.2 v_characters) fun qo5 => if qo5.1 = 0 then (some (0, v_blocks, v_allFit, qo5.2.1, qo5.2.2, v_rows)) else (bd (fX3_passes 33 v_length qo5.2.1 v_characters) fun qo6 => bd (fX4_writeParagraph 120 (v_blocks * 6) qo1.2.2 qo3.2.2 qo5.2.2 qo6.1 v_rows) fun qo7 => nm (v_blocks + 1) fun qx8 => if v_allFit = 0 then (fX3_readParagraph_125 qx8 v_allFit qo6.2 qo5.2.2 qo7) else (bd (fX4_isFitting qo3.2.2 qo5.2.2) fun qo9 => if qo9 = 0 then (fX3_readParagraph_125 qx8 v_allFit qo6.2 qo5.2.2 qo7) else (fX3_readParagraph_126 1 qx8 v_allFit qo6.2 qo5.2.2 qo7)))))))
def rX3_readParagraph : Room := { frames := 3, cells := 0, slots := 0, locals := 65 }
theorem hin_X3_readParagraph_X3 : ∀ w ∈ wsX30, w ∈ wsX3_readParagraph := fun _ h => List.mem_cons_of_mem _ (List.mem_append_right _ (h))
set_option maxHeartbeats 4000000 in
set_option maxRecDepth 100000 in
theorem k_X3_readParagraph (l : Launch) (D : va_G) (cI cC : ClassId) (a_t : Nat) (a_characters : Nat) (a_rows : Nat) (v_length : Int32) (v_blocks : Int32) (v_allFit : Int32) (v_at : Int32) (v_number : Int32) (v_characters : Nat → Int32) (v_rows : Nat → Int32) (o : Int32 × Int32 × Int32 × Int32 × Int32 × (Nat → Int32)) (hf : fX3_readParagraph v_length v_blocks v_allFit v_at v_number v_characters v_rows = some o) : CTi l yX3_readParagraph wsX3_readParagraph rX3_readParagraph D cI cC [.ref a_t] [(a_t, .inr (3, [.ref a_characters, .int v_length, .ref a_rows, .int v_blocks, .int v_allFit, .int v_at, .int v_number])), (a_characters, .inl (cC, 60, .inl v_characters)), (a_rows, .inl (cI, 120, .inl v_rows))] [(a_t, .inr (3, [.ref a_characters, .int v_length, .ref a_rows, .int o.2.1, .int o.2.2.1, .int o.2.2.2.1, .int o.2.2.2.2.1])), (a_characters, .inl (cC, 60, .inl v_characters)), (a_rows, .inl (cI, 120, .inl o.2.2.2.2.2))] o.1 := by
  refine CTi_of (cc := cX3_readParagraph) (maxL := 5) (ty := .boolean) (by decide) rfl (Nat.le_of_ble_eq_true rfl) ?_
  intro p e s m args below meth c A Q ls C0 hA hP hD hl hret
  obtain ⟨hx, hb, hml, hts, hown, hK⟩ := C0
  have hown : s.vm.findClass RX3 = some m.cls := hown
  have hS : va_S A s.heap s.heap [] := va_S.rf
  have hl : lv_has ls 5 [(0, .ref a_t)] := hl
  have hinX3 := hin_X3_readParagraph_X3
  have J126 : ∀ (s1 : Int32) (v_blocks : Int32) (v_allFit : Int32) (v_at : Int32) (v_number : Int32) (v_rows : Nat → Int32)  (H : Heap) (locs : List Loc) (ls : Array Slot), fX3_readParagraph_126 s1 v_blocks v_allFit v_at v_number v_rows = some o → va_P D vwCl [(a_t, .inr (3, [.ref a_characters, .int v_length, .ref a_rows, .int v_blocks, .int v_allFit, .int v_at, .int v_number])), (a_characters, .inl (cC, 60, .inl v_characters)), (a_rows, .inl (cI, 120, .inl v_rows))] H → va_D A [(a_t, .inr (3, [.ref a_characters, .int v_length, .ref a_rows, .int v_blocks, .int v_allFit, .int v_at, .int v_number])), (a_characters, .inl (cC, 60, .inl v_characters)), (a_rows, .inl (cI, 120, .inl v_rows))] → va_S A s.heap H locs → lv_has ls 5 [] → W p l e rX3_readParagraph s m args below meth c H locs 0 0 Q (F0 m 126 ls [.int s1, .ref a_t]) := by
    intro s1 v_blocks v_allFit v_at v_number v_rows H locs ls hf hP hD hS hl
    unfold fX3_readParagraph_126 at hf
    replace hf := bchk_some hf
    obtain ⟨hbv, hf⟩ := hf
    refine va_put (D := D) (ci := 3) (v := .int s1) (ty := .boolean) (C := RX3) (T := TX3) (N := 7) hx hb hts hinX3 tyX3 tyX3_ok nmX3 hown hK.1 hP hD hS 0 rfl rfl 4 (by decide) (hts (.fieldLink RX3 26 "BaselineGrid$Text" "allFit" "Z") (List.mem_of_getElem? (i := 4) rfl)) (fun _ h9 => h9) rfl (by decide +kernel) (nbool hbv) (fbool hbv) (Nat.le_of_ble_eq_true rfl) dX3_readParagraph_126 (fun H locs hP hD hS => ?_)
    have hP : va_P D vwCl [(a_t, .inr (3, [.ref a_characters, .int v_length, .ref a_rows, .int v_blocks, .int s1, .int v_at, .int v_number])), (a_characters, .inl (cC, 60, .inl v_characters)), (a_rows, .inl (cI, 120, .inl v_rows))] H := hP
    have hD : va_D A [(a_t, .inr (3, [.ref a_characters, .int v_length, .ref a_rows, .int v_blocks, .int s1, .int v_at, .int v_number])), (a_characters, .inl (cC, 60, .inl v_characters)), (a_rows, .inl (cI, 120, .inl v_rows))] := hD
    refine lv_iconst (v := 1) hx hb dX3_readParagraph_129 (by decide) ?_
    have ho := Option.some.inj hf
    subst ho
    exact hret dX3_readParagraph_130 (nbool (Or.inr rfl)) (hP.sub (ws' := [(a_t, .inr (3, [.ref a_characters, .int v_length, .ref a_rows, .int v_blocks, .int s1, .int v_at, .int v_number])), (a_characters, .inl (cC, 60, .inl v_characters)), (a_rows, .inl (cI, 120, .inl v_rows))]) [0, 1, 2] rfl) (hD.sub (ws' := [(a_t, .inr (3, [.ref a_characters, .int v_length, .ref a_rows, .int v_blocks, .int s1, .int v_at, .int v_number])), (a_characters, .inl (cC, 60, .inl v_characters)), (a_rows, .inl (cI, 120, .inl v_rows))]) [0, 1, 2] (by decide) rfl) hS
  have J125 : ∀ (v_blocks : Int32) (v_allFit : Int32) (v_at : Int32) (v_number : Int32) (v_rows : Nat → Int32)  (H : Heap) (locs : List Loc) (ls : Array Slot), fX3_readParagraph_125 v_blocks v_allFit v_at v_number v_rows = some o → va_P D vwCl [(a_t, .inr (3, [.ref a_characters, .int v_length, .ref a_rows, .int v_blocks, .int v_allFit, .int v_at, .int v_number])), (a_characters, .inl (cC, 60, .inl v_characters)), (a_rows, .inl (cI, 120, .inl v_rows))] H → va_D A [(a_t, .inr (3, [.ref a_characters, .int v_length, .ref a_rows, .int v_blocks, .int v_allFit, .int v_at, .int v_number])), (a_characters, .inl (cC, 60, .inl v_characters)), (a_rows, .inl (cI, 120, .inl v_rows))] → va_S A s.heap H locs → lv_has ls 5 [] → W p l e rX3_readParagraph s m args below meth c H locs 0 0 Q (F0 m 125 ls [.ref a_t]) := by
    intro v_blocks v_allFit v_at v_number v_rows H locs ls hf hP hD hS hl
    unfold fX3_readParagraph_125 at hf
    refine lv_iconst (v := 0) hx hb dX3_readParagraph_125 (by decide) ?_
    exact J126 0 v_blocks v_allFit v_at v_number v_rows _ _ _ hf (hP.sub (ws' := [(a_t, .inr (3, [.ref a_characters, .int v_length, .ref a_rows, .int v_blocks, .int v_allFit, .int v_at, .int v_number])), (a_characters, .inl (cC, 60, .inl v_characters)), (a_rows, .inl (cI, 120, .inl v_rows))]) [0, 1, 2] rfl) (hD.sub (ws' := [(a_t, .inr (3, [.ref a_characters, .int v_length, .ref a_rows, .int v_blocks, .int v_allFit, .int v_at, .int v_number])), (a_characters, .inl (cC, 60, .inl v_characters)), (a_rows, .inl (cI, 120, .inl v_rows))]) [0, 1, 2] (by decide) rfl) hS (lv_sub hl [] rfl)
  unfold fX3_readParagraph at hf
  refine lv_aload_n hx hb dX3_readParagraph_0 rfl (lv_at hl 0 rfl) ?_
  refine lv_bipush (v := 40) hx hb dX3_readParagraph_1 (by decide) ?_
  replace hf := bd_some hf
  obtain ⟨qo1, hqo1, hf⟩ := hf
  refine g_Vi (As := [.int 40]) (rest := []) (wr := [(a_rows, .inl (cI, 120, .inl v_rows))]) ⟨hx, hb, hml, hown, hts⟩ (k_X3_readNumber l D cI cC a_t a_characters a_rows 40 v_length v_blocks v_allFit v_at v_number v_characters qo1 hqo1) (cwV 1 hts gX3_readParagraph_X3_readNumber rfl rfl rfl (by decide +kernel) ⟨Nat.le_of_ble_eq_true rfl, Nat.le_of_ble_eq_true rfl⟩) hK hP hD hS hA 3 0 rfl rfl rfl [0, 1] [2] rfl rfl rfl rfl rfl (by decide) rfl hl.1 rfl (Nat.le_of_ble_eq_true rfl) dX3_readParagraph_3 (Nat.zero_le _) (Nat.zero_le _) (fun H locs hP hD hS => ?_)
  have hP : va_P D vwCl [(a_rows, .inl (cI, 120, .inl v_rows)), (a_t, .inr (3, [.ref a_characters, .int v_length, .ref a_rows, .int v_blocks, .int v_allFit, .int qo1.2.1, .int qo1.2.2])), (a_characters, .inl (cC, 60, .inl v_characters))] H := hP
  have hD : va_D A [(a_rows, .inl (cI, 120, .inl v_rows)), (a_t, .inr (3, [.ref a_characters, .int v_length, .ref a_rows, .int v_blocks, .int v_allFit, .int qo1.2.1, .int qo1.2.2])), (a_characters, .inl (cC, 60, .inl v_characters))] := hD
  refine lv_if_ne (tgt := 11) hx hb dX3_readParagraph_6 (by decide) (fun hc => ?_) (fun hc => ?_)
  · replace hf := ineg hc hf
    refine lv_aload_n hx hb dX3_readParagraph_11 rfl (lv_at hl 0 rfl) ?_
    refine va_get (D := D) (ci := 3) (v := .int qo1.2.2) (C := RX3) (T := TX3) (N := 7) hx hb hts hinX3 hown hK.1 hP 1 rfl rfl 6 (by decide) (hts (.fieldLink RX3 33 "BaselineGrid$Text" "number" "I") (List.mem_of_getElem? (i := 1) rfl)) (fun _ h9 => h9) rfl dX3_readParagraph_12 ?_
    refine lv_istore_n (lv' := [(1, .int qo1.2.2), (0, .ref a_t)]) hx hb dX3_readParagraph_15 rfl hl (by decide) rfl (fun ls hl => ?_)
    refine lv_aload_n hx hb dX3_readParagraph_16 rfl (lv_at hl 1 rfl) ?_
    refine lv_bipush (v := 42) hx hb dX3_readParagraph_17 (by decide) ?_
    replace hf := bd_some hf
    obtain ⟨qo2, hqo2, hf⟩ := hf
    refine g_Vi (As := [.int 42]) (rest := []) (wr := [(a_rows, .inl (cI, 120, .inl v_rows))]) ⟨hx, hb, hml, hown, hts⟩ (k_X3_passes l D cI cC a_t a_characters a_rows 42 v_length v_blocks v_allFit qo1.2.1 qo1.2.2 v_characters qo2 hqo2) (cwV 1 hts gX3_readParagraph_X3_passes rfl rfl rfl (by decide +kernel) ⟨Nat.le_of_ble_eq_true rfl, Nat.le_of_ble_eq_true rfl⟩) hK hP hD hS hA 3 1 rfl rfl rfl [1, 2] [0] rfl rfl rfl rfl rfl (by decide) rfl hl.1 rfl (Nat.le_of_ble_eq_true rfl) dX3_readParagraph_19 (Nat.zero_le _) (Nat.zero_le _) (fun H locs hP hD hS => ?_)
    have hP : va_P D vwCl [(a_rows, .inl (cI, 120, .inl v_rows)), (a_t, .inr (3, [.ref a_characters, .int v_length, .ref a_rows, .int v_blocks, .int v_allFit, .int qo2.2, .int qo1.2.2])), (a_characters, .inl (cC, 60, .inl v_characters))] H := hP
    have hD : va_D A [(a_rows, .inl (cI, 120, .inl v_rows)), (a_t, .inr (3, [.ref a_characters, .int v_length, .ref a_rows, .int v_blocks, .int v_allFit, .int qo2.2, .int qo1.2.2])), (a_characters, .inl (cC, 60, .inl v_characters))] := hD
    refine lv_if_eq (tgt := 35) hx hb dX3_readParagraph_22 (by decide) (fun hc => ?_) (fun hc => ?_)
    · replace hf := ip hc hf
      refine lv_iconst (v := 0) hx hb dX3_readParagraph_35 (by decide) ?_
      have ho := Option.some.inj hf
      subst ho
      exact hret dX3_readParagraph_36 (nbool (Or.inl rfl)) (hP.sub (ws' := [(a_t, .inr (3, [.ref a_characters, .int v_length, .ref a_rows, .int v_blocks, .int v_allFit, .int qo2.2, .int qo1.2.2])), (a_characters, .inl (cC, 60, .inl v_characters)), (a_rows, .inl (cI, 120, .inl v_rows))]) [1, 2, 0] rfl) (hD.sub (ws' := [(a_t, .inr (3, [.ref a_characters, .int v_length, .ref a_rows, .int v_blocks, .int v_allFit, .int qo2.2, .int qo1.2.2])), (a_characters, .inl (cC, 60, .inl v_characters)), (a_rows, .inl (cI, 120, .inl v_rows))]) [1, 2, 0] (by decide) rfl) hS
    · replace hf := ineg hc hf
      refine lv_aload_n hx hb dX3_readParagraph_25 rfl (lv_at hl 1 rfl) ?_
      refine lv_sipush (v := 400) hx hb dX3_readParagraph_26 (by decide) ?_
      replace hf := bd_some hf
      obtain ⟨qo3, hqo3, hf⟩ := hf
      refine g_Vi (As := [.int 400]) (rest := []) (wr := [(a_rows, .inl (cI, 120, .inl v_rows))]) ⟨hx, hb, hml, hown, hts⟩ (k_X3_readNumber l D cI cC a_t a_characters a_rows 400 v_length v_blocks v_allFit qo2.2 qo1.2.2 v_characters qo3 hqo3) (cwV 1 hts gX3_readParagraph_X3_readNumber rfl rfl rfl (by decide +kernel) ⟨Nat.le_of_ble_eq_true rfl, Nat.le_of_ble_eq_true rfl⟩) hK hP hD hS hA 3 1 rfl rfl rfl [1, 2] [0] rfl rfl rfl rfl rfl (by decide) rfl hl.1 rfl (Nat.le_of_ble_eq_true rfl) dX3_readParagraph_29 (Nat.zero_le _) (Nat.zero_le _) (fun H locs hP hD hS => ?_)
      have hP : va_P D vwCl [(a_rows, .inl (cI, 120, .inl v_rows)), (a_t, .inr (3, [.ref a_characters, .int v_length, .ref a_rows, .int v_blocks, .int v_allFit, .int qo3.2.1, .int qo3.2.2])), (a_characters, .inl (cC, 60, .inl v_characters))] H := hP
      have hD : va_D A [(a_rows, .inl (cI, 120, .inl v_rows)), (a_t, .inr (3, [.ref a_characters, .int v_length, .ref a_rows, .int v_blocks, .int v_allFit, .int qo3.2.1, .int qo3.2.2])), (a_characters, .inl (cC, 60, .inl v_characters))] := hD
      refine lv_if_ne (tgt := 37) hx hb dX3_readParagraph_32 (by decide) (fun hc => ?_) (fun hc => ?_)
      · replace hf := ineg hc hf
        refine lv_aload_n hx hb dX3_readParagraph_37 rfl (lv_at hl 1 rfl) ?_
        refine va_get (D := D) (ci := 3) (v := .int qo3.2.2) (C := RX3) (T := TX3) (N := 7) hx hb hts hinX3 hown hK.1 hP 1 rfl rfl 6 (by decide) (hts (.fieldLink RX3 33 "BaselineGrid$Text" "number" "I") (List.mem_of_getElem? (i := 1) rfl)) (fun _ h9 => h9) rfl dX3_readParagraph_38 ?_
        refine lv_istore_n (lv' := [(2, .int qo3.2.2), (1, .int qo1.2.2), (0, .ref a_t)]) hx hb dX3_readParagraph_41 rfl hl (by decide) rfl (fun ls hl => ?_)
        refine lv_aload_n hx hb dX3_readParagraph_42 rfl (lv_at hl 2 rfl) ?_
        refine lv_bipush (v := 47) hx hb dX3_readParagraph_43 (by decide) ?_
        replace hf := bd_some hf
        obtain ⟨qo4, hqo4, hf⟩ := hf
        refine g_Vi (As := [.int 47]) (rest := []) (wr := [(a_rows, .inl (cI, 120, .inl v_rows))]) ⟨hx, hb, hml, hown, hts⟩ (k_X3_passes l D cI cC a_t a_characters a_rows 47 v_length v_blocks v_allFit qo3.2.1 qo3.2.2 v_characters qo4 hqo4) (cwV 1 hts gX3_readParagraph_X3_passes rfl rfl rfl (by decide +kernel) ⟨Nat.le_of_ble_eq_true rfl, Nat.le_of_ble_eq_true rfl⟩) hK hP hD hS hA 3 1 rfl rfl rfl [1, 2] [0] rfl rfl rfl rfl rfl (by decide) rfl hl.1 rfl (Nat.le_of_ble_eq_true rfl) dX3_readParagraph_45 (Nat.zero_le _) (Nat.zero_le _) (fun H locs hP hD hS => ?_)
        have hP : va_P D vwCl [(a_rows, .inl (cI, 120, .inl v_rows)), (a_t, .inr (3, [.ref a_characters, .int v_length, .ref a_rows, .int v_blocks, .int v_allFit, .int qo4.2, .int qo3.2.2])), (a_characters, .inl (cC, 60, .inl v_characters))] H := hP
        have hD : va_D A [(a_rows, .inl (cI, 120, .inl v_rows)), (a_t, .inr (3, [.ref a_characters, .int v_length, .ref a_rows, .int v_blocks, .int v_allFit, .int qo4.2, .int qo3.2.2])), (a_characters, .inl (cC, 60, .inl v_characters))] := hD
        refine lv_if_eq (tgt := 61) hx hb dX3_readParagraph_48 (by decide) (fun hc => ?_) (fun hc => ?_)
        · replace hf := ip hc hf
          refine lv_iconst (v := 0) hx hb dX3_readParagraph_61 (by decide) ?_
          have ho := Option.some.inj hf
          subst ho
          exact hret dX3_readParagraph_62 (nbool (Or.inl rfl)) (hP.sub (ws' := [(a_t, .inr (3, [.ref a_characters, .int v_length, .ref a_rows, .int v_blocks, .int v_allFit, .int qo4.2, .int qo3.2.2])), (a_characters, .inl (cC, 60, .inl v_characters)), (a_rows, .inl (cI, 120, .inl v_rows))]) [1, 2, 0] rfl) (hD.sub (ws' := [(a_t, .inr (3, [.ref a_characters, .int v_length, .ref a_rows, .int v_blocks, .int v_allFit, .int qo4.2, .int qo3.2.2])), (a_characters, .inl (cC, 60, .inl v_characters)), (a_rows, .inl (cI, 120, .inl v_rows))]) [1, 2, 0] (by decide) rfl) hS
        · replace hf := ineg hc hf
          refine lv_aload_n hx hb dX3_readParagraph_51 rfl (lv_at hl 2 rfl) ?_
          refine lv_sipush (v := 600) hx hb dX3_readParagraph_52 (by decide) ?_
          replace hf := bd_some hf
          obtain ⟨qo5, hqo5, hf⟩ := hf
          refine g_Vi (As := [.int 600]) (rest := []) (wr := [(a_rows, .inl (cI, 120, .inl v_rows))]) ⟨hx, hb, hml, hown, hts⟩ (k_X3_readNumber l D cI cC a_t a_characters a_rows 600 v_length v_blocks v_allFit qo4.2 qo3.2.2 v_characters qo5 hqo5) (cwV 1 hts gX3_readParagraph_X3_readNumber rfl rfl rfl (by decide +kernel) ⟨Nat.le_of_ble_eq_true rfl, Nat.le_of_ble_eq_true rfl⟩) hK hP hD hS hA 3 1 rfl rfl rfl [1, 2] [0] rfl rfl rfl rfl rfl (by decide) rfl hl.1 rfl (Nat.le_of_ble_eq_true rfl) dX3_readParagraph_55 (Nat.zero_le _) (Nat.zero_le _) (fun H locs hP hD hS => ?_)
          have hP : va_P D vwCl [(a_rows, .inl (cI, 120, .inl v_rows)), (a_t, .inr (3, [.ref a_characters, .int v_length, .ref a_rows, .int v_blocks, .int v_allFit, .int qo5.2.1, .int qo5.2.2])), (a_characters, .inl (cC, 60, .inl v_characters))] H := hP
          have hD : va_D A [(a_rows, .inl (cI, 120, .inl v_rows)), (a_t, .inr (3, [.ref a_characters, .int v_length, .ref a_rows, .int v_blocks, .int v_allFit, .int qo5.2.1, .int qo5.2.2])), (a_characters, .inl (cC, 60, .inl v_characters))] := hD
          refine lv_if_ne (tgt := 63) hx hb dX3_readParagraph_58 (by decide) (fun hc => ?_) (fun hc => ?_)
          · replace hf := ineg hc hf
            refine lv_aload_n hx hb dX3_readParagraph_63 rfl (lv_at hl 2 rfl) ?_
            refine va_get (D := D) (ci := 3) (v := .int qo5.2.2) (C := RX3) (T := TX3) (N := 7) hx hb hts hinX3 hown hK.1 hP 1 rfl rfl 6 (by decide) (hts (.fieldLink RX3 33 "BaselineGrid$Text" "number" "I") (List.mem_of_getElem? (i := 1) rfl)) (fun _ h9 => h9) rfl dX3_readParagraph_64 ?_
            refine lv_istore_n (lv' := [(3, .int qo5.2.2), (2, .int qo3.2.2), (1, .int qo1.2.2), (0, .ref a_t)]) hx hb dX3_readParagraph_67 rfl hl (by decide) rfl (fun ls hl => ?_)
            refine lv_aload_n hx hb dX3_readParagraph_68 rfl (lv_at hl 3 rfl) ?_
            refine lv_bipush (v := 33) hx hb dX3_readParagraph_69 (by decide) ?_
            replace hf := bd_some hf
            obtain ⟨qo6, hqo6, hf⟩ := hf
            refine g_Vi (As := [.int 33]) (rest := []) (wr := [(a_rows, .inl (cI, 120, .inl v_rows))]) ⟨hx, hb, hml, hown, hts⟩ (k_X3_passes l D cI cC a_t a_characters a_rows 33 v_length v_blocks v_allFit qo5.2.1 qo5.2.2 v_characters qo6 hqo6) (cwV 1 hts gX3_readParagraph_X3_passes rfl rfl rfl (by decide +kernel) ⟨Nat.le_of_ble_eq_true rfl, Nat.le_of_ble_eq_true rfl⟩) hK hP hD hS hA 3 1 rfl rfl rfl [1, 2] [0] rfl rfl rfl rfl rfl (by decide) rfl hl.1 rfl (Nat.le_of_ble_eq_true rfl) dX3_readParagraph_71 (Nat.zero_le _) (Nat.zero_le _) (fun H locs hP hD hS => ?_)
            have hP : va_P D vwCl [(a_rows, .inl (cI, 120, .inl v_rows)), (a_t, .inr (3, [.ref a_characters, .int v_length, .ref a_rows, .int v_blocks, .int v_allFit, .int qo6.2, .int qo5.2.2])), (a_characters, .inl (cC, 60, .inl v_characters))] H := hP
            have hD : va_D A [(a_rows, .inl (cI, 120, .inl v_rows)), (a_t, .inr (3, [.ref a_characters, .int v_length, .ref a_rows, .int v_blocks, .int v_allFit, .int qo6.2, .int qo5.2.2])), (a_characters, .inl (cC, 60, .inl v_characters))] := hD
            refine lv_istore (lv' := [(4, .int qo6.1), (3, .int qo5.2.2), (2, .int qo3.2.2), (1, .int qo1.2.2), (0, .ref a_t)]) hx hb dX3_readParagraph_74 hl (by decide) rfl (fun ls hl => ?_)
            refine lv_aload_n hx hb dX3_readParagraph_76 rfl (lv_at hl 4 rfl) ?_
            refine va_get (D := D) (ci := 3) (v := .ref a_rows) (C := RX3) (T := TX3) (N := 7) hx hb hts hinX3 hown hK.1 hP 1 rfl rfl 2 (by decide) (hts (.fieldLink RX3 19 "BaselineGrid$Text" "rows" "[I") (List.mem_of_getElem? (i := 2) rfl)) (fun _ h9 => h9) rfl dX3_readParagraph_77 ?_
            refine lv_aload_n hx hb dX3_readParagraph_80 rfl (lv_at hl 4 rfl) ?_
            refine va_get (D := D) (ci := 3) (v := .int v_blocks) (C := RX3) (T := TX3) (N := 7) hx hb hts hinX3 hown hK.1 hP 1 rfl rfl 3 (by decide) (hts (.fieldLink RX3 23 "BaselineGrid$Text" "blocks" "I") (List.mem_of_getElem? (i := 3) rfl)) (fun _ h9 => h9) rfl dX3_readParagraph_81 ?_
            refine lv_bipush (v := 6) hx hb dX3_readParagraph_84 (by decide) ?_
            refine lv_imul hx hb dX3_readParagraph_86 ?_
            refine lv_iload_n hx hb dX3_readParagraph_87 rfl (lv_at hl 3 rfl) ?_
            refine lv_iload_n hx hb dX3_readParagraph_88 rfl (lv_at hl 2 rfl) ?_
            refine lv_iload_n hx hb dX3_readParagraph_89 rfl (lv_at hl 1 rfl) ?_
            refine lv_iload hx hb dX3_readParagraph_90 (lv_at hl 0 rfl) ?_
            replace hf := bd_some hf
            obtain ⟨qo7, hqo7, hf⟩ := hf
            refine g_Nv (As := [.ref a_rows, .int (v_blocks * 6), .int qo1.2.2, .int qo3.2.2, .int qo5.2.2, .int qo6.1]) (rest := []) (wr := [(a_t, .inr (3, [.ref a_characters, .int v_length, .ref a_rows, .int v_blocks, .int v_allFit, .int qo6.2, .int qo5.2.2])), (a_characters, .inl (cC, 60, .inl v_characters))]) (host := RX4) ⟨hx, hb, hml, hown, hts⟩ (k_X4_writeParagraph l D cI cC a_rows 120 (v_blocks * 6) qo1.2.2 qo3.2.2 qo5.2.2 qo6.1 v_rows qo7 hqo7) (va_cnB 6 hts gX3_readParagraph_X4_writeParagraph_n54 rfl rfl rfl (hK.2.1 _ (List.mem_of_getElem? (i := 9) rfl)) (hts (.initialized RX4) (List.mem_of_getElem? (i := 26) rfl)) (by decide +kernel) ⟨Nat.le_of_ble_eq_true rfl, Nat.le_of_ble_eq_true rfl⟩) (hts (.static yX4_writeParagraph) (List.mem_of_getElem? (i := 25) rfl)) hK hP hD hS hA [0] [1, 2] rfl rfl rfl rfl rfl (by decide) rfl hl.1 rfl (Nat.le_of_ble_eq_true rfl) dX3_readParagraph_92 (Nat.zero_le _) (Nat.zero_le _) (fun H locs hP hD hS => ?_)
            have hP : va_P D vwCl [(a_t, .inr (3, [.ref a_characters, .int v_length, .ref a_rows, .int v_blocks, .int v_allFit, .int qo6.2, .int qo5.2.2])), (a_characters, .inl (cC, 60, .inl v_characters)), (a_rows, .inl (cI, 120, .inl qo7))] H := hP
            have hD : va_D A [(a_t, .inr (3, [.ref a_characters, .int v_length, .ref a_rows, .int v_blocks, .int v_allFit, .int qo6.2, .int qo5.2.2])), (a_characters, .inl (cC, 60, .inl v_characters)), (a_rows, .inl (cI, 120, .inl qo7))] := hD
            refine lv_aload_n hx hb dX3_readParagraph_95 rfl (lv_at hl 4 rfl) ?_
            refine lv_dup hx hb dX3_readParagraph_96 rfl ?_
            refine va_get (D := D) (ci := 3) (v := .int v_blocks) (C := RX3) (T := TX3) (N := 7) hx hb hts hinX3 hown hK.1 hP 0 rfl rfl 3 (by decide) (hts (.fieldLink RX3 23 "BaselineGrid$Text" "blocks" "I") (List.mem_of_getElem? (i := 3) rfl)) (fun _ h9 => h9) rfl dX3_readParagraph_97 ?_
            refine lv_iconst (v := 1) hx hb dX3_readParagraph_100 (by decide) ?_
            refine lv_iadd hx hb dX3_readParagraph_101 ?_
            refine g_nm hf (fun qx8 hf => ?_)
            refine va_put (D := D) (ci := 3) (v := .int qx8) (ty := .int) (C := RX3) (T := TX3) (N := 7) hx hb hts hinX3 tyX3 tyX3_ok nmX3 hown hK.1 hP hD hS 0 rfl rfl 3 (by decide) (hts (.fieldLink RX3 23 "BaselineGrid$Text" "blocks" "I") (List.mem_of_getElem? (i := 3) rfl)) (fun _ h9 => h9) rfl (by decide +kernel) rfl rfl (Nat.le_of_ble_eq_true rfl) dX3_readParagraph_102 (fun H locs hP hD hS => ?_)
            have hP : va_P D vwCl [(a_t, .inr (3, [.ref a_characters, .int v_length, .ref a_rows, .int qx8, .int v_allFit, .int qo6.2, .int qo5.2.2])), (a_characters, .inl (cC, 60, .inl v_characters)), (a_rows, .inl (cI, 120, .inl qo7))] H := hP
            have hD : va_D A [(a_t, .inr (3, [.ref a_characters, .int v_length, .ref a_rows, .int qx8, .int v_allFit, .int qo6.2, .int qo5.2.2])), (a_characters, .inl (cC, 60, .inl v_characters)), (a_rows, .inl (cI, 120, .inl qo7))] := hD
            refine lv_aload_n hx hb dX3_readParagraph_105 rfl (lv_at hl 4 rfl) ?_
            refine lv_aload_n hx hb dX3_readParagraph_106 rfl (lv_at hl 4 rfl) ?_
            refine va_get (D := D) (ci := 3) (v := .int v_allFit) (C := RX3) (T := TX3) (N := 7) hx hb hts hinX3 hown hK.1 hP 0 rfl rfl 4 (by decide) (hts (.fieldLink RX3 26 "BaselineGrid$Text" "allFit" "Z") (List.mem_of_getElem? (i := 4) rfl)) (fun _ h9 => h9) rfl dX3_readParagraph_107 ?_
            refine lv_if_eq (tgt := 125) hx hb dX3_readParagraph_110 (by decide) (fun hc => ?_) (fun hc => ?_)
            · replace hf := ip hc hf
              exact J125 qx8 v_allFit qo6.2 qo5.2.2 qo7 _ _ _ hf (hP.sub (ws' := [(a_t, .inr (3, [.ref a_characters, .int v_length, .ref a_rows, .int qx8, .int v_allFit, .int qo6.2, .int qo5.2.2])), (a_characters, .inl (cC, 60, .inl v_characters)), (a_rows, .inl (cI, 120, .inl qo7))]) [0, 1, 2] rfl) (hD.sub (ws' := [(a_t, .inr (3, [.ref a_characters, .int v_length, .ref a_rows, .int qx8, .int v_allFit, .int qo6.2, .int qo5.2.2])), (a_characters, .inl (cC, 60, .inl v_characters)), (a_rows, .inl (cI, 120, .inl qo7))]) [0, 1, 2] (by decide) rfl) hS (lv_sub hl [] rfl)
            · replace hf := ineg hc hf
              refine lv_iload_n hx hb dX3_readParagraph_113 rfl (lv_at hl 2 rfl) ?_
              refine lv_iload_n hx hb dX3_readParagraph_114 rfl (lv_at hl 1 rfl) ?_
              replace hf := bd_some hf
              obtain ⟨qo9, hqo9, hf⟩ := hf
              refine g_Ni (As := [.int qo3.2.2, .int qo5.2.2]) (rest := [.ref a_t]) (wr := [(a_t, .inr (3, [.ref a_characters, .int v_length, .ref a_rows, .int qx8, .int v_allFit, .int qo6.2, .int qo5.2.2])), (a_characters, .inl (cC, 60, .inl v_characters)), (a_rows, .inl (cI, 120, .inl qo7))]) (host := RX4) ⟨hx, hb, hml, hown, hts⟩ (k_X4_isFitting l D cI cC qo3.2.2 qo5.2.2 qo9 hqo9) (va_cnB 2 hts gX3_readParagraph_X4_isFitting_n58 rfl rfl rfl (hK.2.1 _ (List.mem_of_getElem? (i := 10) rfl)) (hts (.initialized RX4) (List.mem_of_getElem? (i := 26) rfl)) (by decide +kernel) ⟨Nat.le_of_ble_eq_true rfl, Nat.le_of_ble_eq_true rfl⟩) (hts (.static yX4_isFitting) (List.mem_of_getElem? (i := 28) rfl)) hK hP hD hS hA [] [0, 1, 2] rfl rfl rfl rfl rfl (by decide) rfl hl.1 rfl (Nat.le_of_ble_eq_true rfl) dX3_readParagraph_115 (Nat.zero_le _) (Nat.zero_le _) (fun H locs hP hD hS => ?_)
              have hP : va_P D vwCl [(a_t, .inr (3, [.ref a_characters, .int v_length, .ref a_rows, .int qx8, .int v_allFit, .int qo6.2, .int qo5.2.2])), (a_characters, .inl (cC, 60, .inl v_characters)), (a_rows, .inl (cI, 120, .inl qo7))] H := hP
              have hD : va_D A [(a_t, .inr (3, [.ref a_characters, .int v_length, .ref a_rows, .int qx8, .int v_allFit, .int qo6.2, .int qo5.2.2])), (a_characters, .inl (cC, 60, .inl v_characters)), (a_rows, .inl (cI, 120, .inl qo7))] := hD
              refine lv_if_eq (tgt := 125) hx hb dX3_readParagraph_118 (by decide) (fun hc => ?_) (fun hc => ?_)
              · replace hf := ip hc hf
                exact J125 qx8 v_allFit qo6.2 qo5.2.2 qo7 _ _ _ hf (hP.sub (ws' := [(a_t, .inr (3, [.ref a_characters, .int v_length, .ref a_rows, .int qx8, .int v_allFit, .int qo6.2, .int qo5.2.2])), (a_characters, .inl (cC, 60, .inl v_characters)), (a_rows, .inl (cI, 120, .inl qo7))]) [0, 1, 2] rfl) (hD.sub (ws' := [(a_t, .inr (3, [.ref a_characters, .int v_length, .ref a_rows, .int qx8, .int v_allFit, .int qo6.2, .int qo5.2.2])), (a_characters, .inl (cC, 60, .inl v_characters)), (a_rows, .inl (cI, 120, .inl qo7))]) [0, 1, 2] (by decide) rfl) hS (lv_sub hl [] rfl)
              · replace hf := ineg hc hf
                refine lv_iconst (v := 1) hx hb dX3_readParagraph_121 (by decide) ?_
                refine lv_goto (tgt := 126) hx hb dX3_readParagraph_122 (by decide) ?_
                exact J126 1 qx8 v_allFit qo6.2 qo5.2.2 qo7 _ _ _ hf (hP.sub (ws' := [(a_t, .inr (3, [.ref a_characters, .int v_length, .ref a_rows, .int qx8, .int v_allFit, .int qo6.2, .int qo5.2.2])), (a_characters, .inl (cC, 60, .inl v_characters)), (a_rows, .inl (cI, 120, .inl qo7))]) [0, 1, 2] rfl) (hD.sub (ws' := [(a_t, .inr (3, [.ref a_characters, .int v_length, .ref a_rows, .int qx8, .int v_allFit, .int qo6.2, .int qo5.2.2])), (a_characters, .inl (cC, 60, .inl v_characters)), (a_rows, .inl (cI, 120, .inl qo7))]) [0, 1, 2] (by decide) rfl) hS (lv_sub hl [] rfl)
          · replace hf := ip hc hf
            refine lv_iconst (v := 0) hx hb dX3_readParagraph_61 (by decide) ?_
            have ho := Option.some.inj hf
            subst ho
            exact hret dX3_readParagraph_62 (nbool (Or.inl rfl)) (hP.sub (ws' := [(a_t, .inr (3, [.ref a_characters, .int v_length, .ref a_rows, .int v_blocks, .int v_allFit, .int qo5.2.1, .int qo5.2.2])), (a_characters, .inl (cC, 60, .inl v_characters)), (a_rows, .inl (cI, 120, .inl v_rows))]) [1, 2, 0] rfl) (hD.sub (ws' := [(a_t, .inr (3, [.ref a_characters, .int v_length, .ref a_rows, .int v_blocks, .int v_allFit, .int qo5.2.1, .int qo5.2.2])), (a_characters, .inl (cC, 60, .inl v_characters)), (a_rows, .inl (cI, 120, .inl v_rows))]) [1, 2, 0] (by decide) rfl) hS
      · replace hf := ip hc hf
        refine lv_iconst (v := 0) hx hb dX3_readParagraph_35 (by decide) ?_
        have ho := Option.some.inj hf
        subst ho
        exact hret dX3_readParagraph_36 (nbool (Or.inl rfl)) (hP.sub (ws' := [(a_t, .inr (3, [.ref a_characters, .int v_length, .ref a_rows, .int v_blocks, .int v_allFit, .int qo3.2.1, .int qo3.2.2])), (a_characters, .inl (cC, 60, .inl v_characters)), (a_rows, .inl (cI, 120, .inl v_rows))]) [1, 2, 0] rfl) (hD.sub (ws' := [(a_t, .inr (3, [.ref a_characters, .int v_length, .ref a_rows, .int v_blocks, .int v_allFit, .int qo3.2.1, .int qo3.2.2])), (a_characters, .inl (cC, 60, .inl v_characters)), (a_rows, .inl (cI, 120, .inl v_rows))]) [1, 2, 0] (by decide) rfl) hS
  · replace hf := ip hc hf
    refine lv_iconst (v := 0) hx hb dX3_readParagraph_9 (by decide) ?_
    have ho := Option.some.inj hf
    subst ho
    exact hret dX3_readParagraph_10 (nbool (Or.inl rfl)) (hP.sub (ws' := [(a_t, .inr (3, [.ref a_characters, .int v_length, .ref a_rows, .int v_blocks, .int v_allFit, .int qo1.2.1, .int qo1.2.2])), (a_characters, .inl (cC, 60, .inl v_characters)), (a_rows, .inl (cI, 120, .inl v_rows))]) [1, 2, 0] rfl) (hD.sub (ws' := [(a_t, .inr (3, [.ref a_characters, .int v_length, .ref a_rows, .int v_blocks, .int v_allFit, .int qo1.2.1, .int qo1.2.2])), (a_characters, .inl (cC, 60, .inl v_characters)), (a_rows, .inl (cI, 120, .inl v_rows))]) [1, 2, 0] (by decide) rfl) hS
def fX3_readLineless (i1 : Int32) (v_length : Int32) (v_blocks : Int32) (v_at : Int32) (v_number : Int32) (v_characters : Nat → Int32) (v_rows : Nat → Int32) : Option (Int32 × Int32 × Int32 × Int32 × (Nat → Int32)) :=
  bd (fX3_readNumber 3000 v_length v_at v_number v_characters) fun qo1 => if qo1.1 = 0 then (some (0, v_blocks, qo1.2.1, qo1.2.2, v_rows)) else (bd (fX4_writeLineless 120 (v_blocks * 6) i1 qo1.2.2 v_rows) fun qo2 => nm (v_blocks + 1) fun qx3 => some (1, qx3, qo1.2.1, qo1.2.2, qo2))
def rX3_readLineless : Room := { frames := 3, cells := 0, slots := 0, locals := 65 }
theorem hin_X3_readLineless_X3 : ∀ w ∈ wsX30, w ∈ wsX3_readLineless := fun _ h => List.mem_cons_of_mem _ (List.mem_append_right _ (h))
set_option maxHeartbeats 4000000 in
set_option maxRecDepth 100000 in
theorem k_X3_readLineless (l : Launch) (D : va_G) (cI cC : ClassId) (a_t : Nat) (a_characters : Nat) (a_rows : Nat) (i1 : Int32) (v_length : Int32) (v_blocks : Int32) (v_allFit : Int32) (v_at : Int32) (v_number : Int32) (v_characters : Nat → Int32) (v_rows : Nat → Int32) (o : Int32 × Int32 × Int32 × Int32 × (Nat → Int32)) (hf : fX3_readLineless i1 v_length v_blocks v_at v_number v_characters v_rows = some o) : CTi l yX3_readLineless wsX3_readLineless rX3_readLineless D cI cC [.ref a_t, .int i1] [(a_t, .inr (3, [.ref a_characters, .int v_length, .ref a_rows, .int v_blocks, .int v_allFit, .int v_at, .int v_number])), (a_characters, .inl (cC, 60, .inl v_characters)), (a_rows, .inl (cI, 120, .inl v_rows))] [(a_t, .inr (3, [.ref a_characters, .int v_length, .ref a_rows, .int o.2.1, .int v_allFit, .int o.2.2.1, .int o.2.2.2.1])), (a_characters, .inl (cC, 60, .inl v_characters)), (a_rows, .inl (cI, 120, .inl o.2.2.2.2))] o.1 := by
  refine CTi_of (cc := cX3_readLineless) (maxL := 2) (ty := .boolean) (by decide) rfl (Nat.le_of_ble_eq_true rfl) ?_
  intro p e s m args below meth c A Q ls C0 hA hP hD hl hret
  obtain ⟨hx, hb, hml, hts, hown, hK⟩ := C0
  have hown : s.vm.findClass RX3 = some m.cls := hown
  have hS : va_S A s.heap s.heap [] := va_S.rf
  have hl : lv_has ls 2 [(0, .ref a_t), (1, .int i1)] := hl
  have hinX3 := hin_X3_readLineless_X3
  unfold fX3_readLineless at hf
  refine lv_aload_n hx hb dX3_readLineless_0 rfl (lv_at hl 0 rfl) ?_
  refine lv_sipush (v := 3000) hx hb dX3_readLineless_1 (by decide) ?_
  replace hf := bd_some hf
  obtain ⟨qo1, hqo1, hf⟩ := hf
  refine g_Vi (As := [.int 3000]) (rest := []) (wr := [(a_rows, .inl (cI, 120, .inl v_rows))]) ⟨hx, hb, hml, hown, hts⟩ (k_X3_readNumber l D cI cC a_t a_characters a_rows 3000 v_length v_blocks v_allFit v_at v_number v_characters qo1 hqo1) (cwV 1 hts gX3_readLineless_X3_readNumber rfl rfl rfl (by decide +kernel) ⟨Nat.le_of_ble_eq_true rfl, Nat.le_of_ble_eq_true rfl⟩) hK hP hD hS hA 3 0 rfl rfl rfl [0, 1] [2] rfl rfl rfl rfl rfl (by decide) rfl hl.1 rfl (Nat.le_of_ble_eq_true rfl) dX3_readLineless_4 (Nat.zero_le _) (Nat.zero_le _) (fun H locs hP hD hS => ?_)
  have hP : va_P D vwCl [(a_rows, .inl (cI, 120, .inl v_rows)), (a_t, .inr (3, [.ref a_characters, .int v_length, .ref a_rows, .int v_blocks, .int v_allFit, .int qo1.2.1, .int qo1.2.2])), (a_characters, .inl (cC, 60, .inl v_characters))] H := hP
  have hD : va_D A [(a_rows, .inl (cI, 120, .inl v_rows)), (a_t, .inr (3, [.ref a_characters, .int v_length, .ref a_rows, .int v_blocks, .int v_allFit, .int qo1.2.1, .int qo1.2.2])), (a_characters, .inl (cC, 60, .inl v_characters))] := hD
  refine lv_if_ne (tgt := 12) hx hb dX3_readLineless_7 (by decide) (fun hc => ?_) (fun hc => ?_)
  · replace hf := ineg hc hf
    refine lv_aload_n hx hb dX3_readLineless_12 rfl (lv_at hl 0 rfl) ?_
    refine va_get (D := D) (ci := 3) (v := .ref a_rows) (C := RX3) (T := TX3) (N := 7) hx hb hts hinX3 hown hK.1 hP 1 rfl rfl 2 (by decide) (hts (.fieldLink RX3 19 "BaselineGrid$Text" "rows" "[I") (List.mem_of_getElem? (i := 1) rfl)) (fun _ h9 => h9) rfl dX3_readLineless_13 ?_
    refine lv_aload_n hx hb dX3_readLineless_16 rfl (lv_at hl 0 rfl) ?_
    refine va_get (D := D) (ci := 3) (v := .int v_blocks) (C := RX3) (T := TX3) (N := 7) hx hb hts hinX3 hown hK.1 hP 1 rfl rfl 3 (by decide) (hts (.fieldLink RX3 23 "BaselineGrid$Text" "blocks" "I") (List.mem_of_getElem? (i := 2) rfl)) (fun _ h9 => h9) rfl dX3_readLineless_17 ?_
    refine lv_bipush (v := 6) hx hb dX3_readLineless_20 (by decide) ?_
    refine lv_imul hx hb dX3_readLineless_22 ?_
    refine lv_iload_n hx hb dX3_readLineless_23 rfl (lv_at hl 1 rfl) ?_
    refine lv_aload_n hx hb dX3_readLineless_24 rfl (lv_at hl 0 rfl) ?_
    refine va_get (D := D) (ci := 3) (v := .int qo1.2.2) (C := RX3) (T := TX3) (N := 7) hx hb hts hinX3 hown hK.1 hP 1 rfl rfl 6 (by decide) (hts (.fieldLink RX3 33 "BaselineGrid$Text" "number" "I") (List.mem_of_getElem? (i := 3) rfl)) (fun _ h9 => h9) rfl dX3_readLineless_25 ?_
    replace hf := bd_some hf
    obtain ⟨qo2, hqo2, hf⟩ := hf
    refine g_Nv (As := [.ref a_rows, .int (v_blocks * 6), .int i1, .int qo1.2.2]) (rest := []) (wr := [(a_t, .inr (3, [.ref a_characters, .int v_length, .ref a_rows, .int v_blocks, .int v_allFit, .int qo1.2.1, .int qo1.2.2])), (a_characters, .inl (cC, 60, .inl v_characters))]) (host := RX4) ⟨hx, hb, hml, hown, hts⟩ (k_X4_writeLineless l D cI cC a_rows 120 (v_blocks * 6) i1 qo1.2.2 v_rows qo2 hqo2) (va_cnB 4 hts gX3_readLineless_X4_writeLineless_n62 rfl rfl rfl (hK.2.1 _ (List.mem_of_getElem? (i := 11) rfl)) (hts (.initialized RX4) (List.mem_of_getElem? (i := 21) rfl)) (by decide +kernel) ⟨Nat.le_of_ble_eq_true rfl, Nat.le_of_ble_eq_true rfl⟩) (hts (.static yX4_writeLineless) (List.mem_of_getElem? (i := 20) rfl)) hK hP hD hS hA [0] [1, 2] rfl rfl rfl rfl rfl (by decide) rfl hl.1 rfl (Nat.le_of_ble_eq_true rfl) dX3_readLineless_28 (Nat.zero_le _) (Nat.zero_le _) (fun H locs hP hD hS => ?_)
    have hP : va_P D vwCl [(a_t, .inr (3, [.ref a_characters, .int v_length, .ref a_rows, .int v_blocks, .int v_allFit, .int qo1.2.1, .int qo1.2.2])), (a_characters, .inl (cC, 60, .inl v_characters)), (a_rows, .inl (cI, 120, .inl qo2))] H := hP
    have hD : va_D A [(a_t, .inr (3, [.ref a_characters, .int v_length, .ref a_rows, .int v_blocks, .int v_allFit, .int qo1.2.1, .int qo1.2.2])), (a_characters, .inl (cC, 60, .inl v_characters)), (a_rows, .inl (cI, 120, .inl qo2))] := hD
    refine lv_aload_n hx hb dX3_readLineless_31 rfl (lv_at hl 0 rfl) ?_
    refine lv_dup hx hb dX3_readLineless_32 rfl ?_
    refine va_get (D := D) (ci := 3) (v := .int v_blocks) (C := RX3) (T := TX3) (N := 7) hx hb hts hinX3 hown hK.1 hP 0 rfl rfl 3 (by decide) (hts (.fieldLink RX3 23 "BaselineGrid$Text" "blocks" "I") (List.mem_of_getElem? (i := 2) rfl)) (fun _ h9 => h9) rfl dX3_readLineless_33 ?_
    refine lv_iconst (v := 1) hx hb dX3_readLineless_36 (by decide) ?_
    refine lv_iadd hx hb dX3_readLineless_37 ?_
    refine g_nm hf (fun qx3 hf => ?_)
    refine va_put (D := D) (ci := 3) (v := .int qx3) (ty := .int) (C := RX3) (T := TX3) (N := 7) hx hb hts hinX3 tyX3 tyX3_ok nmX3 hown hK.1 hP hD hS 0 rfl rfl 3 (by decide) (hts (.fieldLink RX3 23 "BaselineGrid$Text" "blocks" "I") (List.mem_of_getElem? (i := 2) rfl)) (fun _ h9 => h9) rfl (by decide +kernel) rfl rfl (Nat.le_of_ble_eq_true rfl) dX3_readLineless_38 (fun H locs hP hD hS => ?_)
    have hP : va_P D vwCl [(a_t, .inr (3, [.ref a_characters, .int v_length, .ref a_rows, .int qx3, .int v_allFit, .int qo1.2.1, .int qo1.2.2])), (a_characters, .inl (cC, 60, .inl v_characters)), (a_rows, .inl (cI, 120, .inl qo2))] H := hP
    have hD : va_D A [(a_t, .inr (3, [.ref a_characters, .int v_length, .ref a_rows, .int qx3, .int v_allFit, .int qo1.2.1, .int qo1.2.2])), (a_characters, .inl (cC, 60, .inl v_characters)), (a_rows, .inl (cI, 120, .inl qo2))] := hD
    refine lv_iconst (v := 1) hx hb dX3_readLineless_41 (by decide) ?_
    have ho := Option.some.inj hf
    subst ho
    exact hret dX3_readLineless_42 (nbool (Or.inr rfl)) (hP.sub (ws' := [(a_t, .inr (3, [.ref a_characters, .int v_length, .ref a_rows, .int qx3, .int v_allFit, .int qo1.2.1, .int qo1.2.2])), (a_characters, .inl (cC, 60, .inl v_characters)), (a_rows, .inl (cI, 120, .inl qo2))]) [0, 1, 2] rfl) (hD.sub (ws' := [(a_t, .inr (3, [.ref a_characters, .int v_length, .ref a_rows, .int qx3, .int v_allFit, .int qo1.2.1, .int qo1.2.2])), (a_characters, .inl (cC, 60, .inl v_characters)), (a_rows, .inl (cI, 120, .inl qo2))]) [0, 1, 2] (by decide) rfl) hS
  · replace hf := ip hc hf
    refine lv_iconst (v := 0) hx hb dX3_readLineless_10 (by decide) ?_
    have ho := Option.some.inj hf
    subst ho
    exact hret dX3_readLineless_11 (nbool (Or.inl rfl)) (hP.sub (ws' := [(a_t, .inr (3, [.ref a_characters, .int v_length, .ref a_rows, .int v_blocks, .int v_allFit, .int qo1.2.1, .int qo1.2.2])), (a_characters, .inl (cC, 60, .inl v_characters)), (a_rows, .inl (cI, 120, .inl v_rows))]) [1, 2, 0] rfl) (hD.sub (ws' := [(a_t, .inr (3, [.ref a_characters, .int v_length, .ref a_rows, .int v_blocks, .int v_allFit, .int qo1.2.1, .int qo1.2.2])), (a_characters, .inl (cC, 60, .inl v_characters)), (a_rows, .inl (cI, 120, .inl v_rows))]) [1, 2, 0] (by decide) rfl) hS
def fX3_readBlock (v_length : Int32) (v_blocks : Int32) (v_allFit : Int32) (v_at : Int32) (v_number : Int32) (v_characters : Nat → Int32) (v_rows : Nat → Int32) : Option (Int32 × Int32 × Int32 × Int32 × Int32 × (Nat → Int32)) :=
  bd (fX3_passes 112 v_length v_at v_characters) fun qo1 => if qo1.1 = 0 then (bd (fX3_passes 105 v_length qo1.2 v_characters) fun qo2 => if qo2.1 = 0 then (bd (fX3_passes 115 v_length qo2.2 v_characters) fun qo3 => if qo3.1 = 0 then (some (0, v_blocks, v_allFit, qo3.2, v_number, v_rows)) else (bd (fX3_readLineless 2 v_length v_blocks qo3.2 v_number v_characters v_rows) fun qo4 => if qo4.1 = 0 then (some (0, qo4.2.1, v_allFit, qo4.2.2.1, qo4.2.2.2.1, qo4.2.2.2.2)) else (some (1, qo4.2.1, v_allFit, qo4.2.2.1, qo4.2.2.2.1, qo4.2.2.2.2)))) else (bd (fX3_readLineless 1 v_length v_blocks qo2.2 v_number v_characters v_rows) fun qo5 => bchk qo5.1 (some (qo5.1, qo5.2.1, v_allFit, qo5.2.2.1, qo5.2.2.2.1, qo5.2.2.2.2)))) else (bd (fX3_readParagraph v_length v_blocks v_allFit qo1.2 v_number v_characters v_rows) fun qo6 => bchk qo6.1 (some (qo6.1, qo6.2.1, qo6.2.2.1, qo6.2.2.2.1, qo6.2.2.2.2.1, qo6.2.2.2.2.2)))
def rX3_readBlock : Room := { frames := 4, cells := 0, slots := 0, locals := 89 }
set_option maxHeartbeats 4000000 in
set_option maxRecDepth 100000 in
theorem k_X3_readBlock (l : Launch) (D : va_G) (cI cC : ClassId) (a_t : Nat) (a_characters : Nat) (a_rows : Nat) (v_length : Int32) (v_blocks : Int32) (v_allFit : Int32) (v_at : Int32) (v_number : Int32) (v_characters : Nat → Int32) (v_rows : Nat → Int32) (o : Int32 × Int32 × Int32 × Int32 × Int32 × (Nat → Int32)) (hf : fX3_readBlock v_length v_blocks v_allFit v_at v_number v_characters v_rows = some o) : CTi l yX3_readBlock wsX3_readBlock rX3_readBlock D cI cC [.ref a_t] [(a_t, .inr (3, [.ref a_characters, .int v_length, .ref a_rows, .int v_blocks, .int v_allFit, .int v_at, .int v_number])), (a_characters, .inl (cC, 60, .inl v_characters)), (a_rows, .inl (cI, 120, .inl v_rows))] [(a_t, .inr (3, [.ref a_characters, .int v_length, .ref a_rows, .int o.2.1, .int o.2.2.1, .int o.2.2.2.1, .int o.2.2.2.2.1])), (a_characters, .inl (cC, 60, .inl v_characters)), (a_rows, .inl (cI, 120, .inl o.2.2.2.2.2))] o.1 := by
  refine CTi_of (cc := cX3_readBlock) (maxL := 1) (ty := .boolean) (by decide) rfl (Nat.le_of_ble_eq_true rfl) ?_
  intro p e s m args below meth c A Q ls C0 hA hP hD hl hret
  obtain ⟨hx, hb, hml, hts, hown, hK⟩ := C0
  have hown : s.vm.findClass RX3 = some m.cls := hown
  have hS : va_S A s.heap s.heap [] := va_S.rf
  have hl : lv_has ls 1 [(0, .ref a_t)] := hl
  unfold fX3_readBlock at hf
  refine lv_aload_n hx hb dX3_readBlock_0 rfl (lv_at hl 0 rfl) ?_
  refine lv_bipush (v := 112) hx hb dX3_readBlock_1 (by decide) ?_
  replace hf := bd_some hf
  obtain ⟨qo1, hqo1, hf⟩ := hf
  refine g_Vi (As := [.int 112]) (rest := []) (wr := [(a_rows, .inl (cI, 120, .inl v_rows))]) ⟨hx, hb, hml, hown, hts⟩ (k_X3_passes l D cI cC a_t a_characters a_rows 112 v_length v_blocks v_allFit v_at v_number v_characters qo1 hqo1) (cwV 1 hts gX3_readBlock_X3_passes rfl rfl rfl (by decide +kernel) ⟨Nat.le_of_ble_eq_true rfl, Nat.le_of_ble_eq_true rfl⟩) hK hP hD hS hA 3 0 rfl rfl rfl [0, 1] [2] rfl rfl rfl rfl rfl (by decide) rfl hl.1 rfl (Nat.le_of_ble_eq_true rfl) dX3_readBlock_3 (Nat.zero_le _) (Nat.zero_le _) (fun H locs hP hD hS => ?_)
  have hP : va_P D vwCl [(a_rows, .inl (cI, 120, .inl v_rows)), (a_t, .inr (3, [.ref a_characters, .int v_length, .ref a_rows, .int v_blocks, .int v_allFit, .int qo1.2, .int v_number])), (a_characters, .inl (cC, 60, .inl v_characters))] H := hP
  have hD : va_D A [(a_rows, .inl (cI, 120, .inl v_rows)), (a_t, .inr (3, [.ref a_characters, .int v_length, .ref a_rows, .int v_blocks, .int v_allFit, .int qo1.2, .int v_number])), (a_characters, .inl (cC, 60, .inl v_characters))] := hD
  refine lv_if_eq (tgt := 14) hx hb dX3_readBlock_6 (by decide) (fun hc => ?_) (fun hc => ?_)
  · replace hf := ip hc hf
    refine lv_aload_n hx hb dX3_readBlock_14 rfl (lv_at hl 0 rfl) ?_
    refine lv_bipush (v := 105) hx hb dX3_readBlock_15 (by decide) ?_
    replace hf := bd_some hf
    obtain ⟨qo2, hqo2, hf⟩ := hf
    refine g_Vi (As := [.int 105]) (rest := []) (wr := [(a_rows, .inl (cI, 120, .inl v_rows))]) ⟨hx, hb, hml, hown, hts⟩ (k_X3_passes l D cI cC a_t a_characters a_rows 105 v_length v_blocks v_allFit qo1.2 v_number v_characters qo2 hqo2) (cwV 1 hts gX3_readBlock_X3_passes rfl rfl rfl (by decide +kernel) ⟨Nat.le_of_ble_eq_true rfl, Nat.le_of_ble_eq_true rfl⟩) hK hP hD hS hA 3 1 rfl rfl rfl [1, 2] [0] rfl rfl rfl rfl rfl (by decide) rfl hl.1 rfl (Nat.le_of_ble_eq_true rfl) dX3_readBlock_17 (Nat.zero_le _) (Nat.zero_le _) (fun H locs hP hD hS => ?_)
    have hP : va_P D vwCl [(a_rows, .inl (cI, 120, .inl v_rows)), (a_t, .inr (3, [.ref a_characters, .int v_length, .ref a_rows, .int v_blocks, .int v_allFit, .int qo2.2, .int v_number])), (a_characters, .inl (cC, 60, .inl v_characters))] H := hP
    have hD : va_D A [(a_rows, .inl (cI, 120, .inl v_rows)), (a_t, .inr (3, [.ref a_characters, .int v_length, .ref a_rows, .int v_blocks, .int v_allFit, .int qo2.2, .int v_number])), (a_characters, .inl (cC, 60, .inl v_characters))] := hD
    refine lv_if_eq (tgt := 29) hx hb dX3_readBlock_20 (by decide) (fun hc => ?_) (fun hc => ?_)
    · replace hf := ip hc hf
      refine lv_aload_n hx hb dX3_readBlock_29 rfl (lv_at hl 0 rfl) ?_
      refine lv_bipush (v := 115) hx hb dX3_readBlock_30 (by decide) ?_
      replace hf := bd_some hf
      obtain ⟨qo3, hqo3, hf⟩ := hf
      refine g_Vi (As := [.int 115]) (rest := []) (wr := [(a_rows, .inl (cI, 120, .inl v_rows))]) ⟨hx, hb, hml, hown, hts⟩ (k_X3_passes l D cI cC a_t a_characters a_rows 115 v_length v_blocks v_allFit qo2.2 v_number v_characters qo3 hqo3) (cwV 1 hts gX3_readBlock_X3_passes rfl rfl rfl (by decide +kernel) ⟨Nat.le_of_ble_eq_true rfl, Nat.le_of_ble_eq_true rfl⟩) hK hP hD hS hA 3 1 rfl rfl rfl [1, 2] [0] rfl rfl rfl rfl rfl (by decide) rfl hl.1 rfl (Nat.le_of_ble_eq_true rfl) dX3_readBlock_32 (Nat.zero_le _) (Nat.zero_le _) (fun H locs hP hD hS => ?_)
      have hP : va_P D vwCl [(a_rows, .inl (cI, 120, .inl v_rows)), (a_t, .inr (3, [.ref a_characters, .int v_length, .ref a_rows, .int v_blocks, .int v_allFit, .int qo3.2, .int v_number])), (a_characters, .inl (cC, 60, .inl v_characters))] H := hP
      have hD : va_D A [(a_rows, .inl (cI, 120, .inl v_rows)), (a_t, .inr (3, [.ref a_characters, .int v_length, .ref a_rows, .int v_blocks, .int v_allFit, .int qo3.2, .int v_number])), (a_characters, .inl (cC, 60, .inl v_characters))] := hD
      refine lv_if_eq (tgt := 50) hx hb dX3_readBlock_35 (by decide) (fun hc => ?_) (fun hc => ?_)
      · replace hf := ip hc hf
        refine lv_iconst (v := 0) hx hb dX3_readBlock_50 (by decide) ?_
        have ho := Option.some.inj hf
        subst ho
        exact hret dX3_readBlock_51 (nbool (Or.inl rfl)) (hP.sub (ws' := [(a_t, .inr (3, [.ref a_characters, .int v_length, .ref a_rows, .int v_blocks, .int v_allFit, .int qo3.2, .int v_number])), (a_characters, .inl (cC, 60, .inl v_characters)), (a_rows, .inl (cI, 120, .inl v_rows))]) [1, 2, 0] rfl) (hD.sub (ws' := [(a_t, .inr (3, [.ref a_characters, .int v_length, .ref a_rows, .int v_blocks, .int v_allFit, .int qo3.2, .int v_number])), (a_characters, .inl (cC, 60, .inl v_characters)), (a_rows, .inl (cI, 120, .inl v_rows))]) [1, 2, 0] (by decide) rfl) hS
      · replace hf := ineg hc hf
        refine lv_aload_n hx hb dX3_readBlock_38 rfl (lv_at hl 0 rfl) ?_
        refine lv_iconst (v := 2) hx hb dX3_readBlock_39 (by decide) ?_
        replace hf := bd_some hf
        obtain ⟨qo4, hqo4, hf⟩ := hf
        refine g_Vi (As := [.int 2]) (rest := []) (wr := []) ⟨hx, hb, hml, hown, hts⟩ (k_X3_readLineless l D cI cC a_t a_characters a_rows 2 v_length v_blocks v_allFit qo3.2 v_number v_characters v_rows qo4 hqo4) (cwV 1 hts gX3_readBlock_X3_readLineless rfl rfl rfl (by decide +kernel) ⟨Nat.le_of_ble_eq_true rfl, Nat.le_of_ble_eq_true rfl⟩) hK hP hD hS hA 3 1 rfl rfl rfl [1, 2, 0] [] rfl rfl rfl rfl rfl (by decide) rfl hl.1 rfl (Nat.le_of_ble_eq_true rfl) dX3_readBlock_40 (Nat.zero_le _) (Nat.zero_le _) (fun H locs hP hD hS => ?_)
        have hP : va_P D vwCl [(a_t, .inr (3, [.ref a_characters, .int v_length, .ref a_rows, .int qo4.2.1, .int v_allFit, .int qo4.2.2.1, .int qo4.2.2.2.1])), (a_characters, .inl (cC, 60, .inl v_characters)), (a_rows, .inl (cI, 120, .inl qo4.2.2.2.2))] H := hP
        have hD : va_D A [(a_t, .inr (3, [.ref a_characters, .int v_length, .ref a_rows, .int qo4.2.1, .int v_allFit, .int qo4.2.2.1, .int qo4.2.2.2.1])), (a_characters, .inl (cC, 60, .inl v_characters)), (a_rows, .inl (cI, 120, .inl qo4.2.2.2.2))] := hD
        refine lv_if_eq (tgt := 50) hx hb dX3_readBlock_43 (by decide) (fun hc => ?_) (fun hc => ?_)
        · replace hf := ip hc hf
          refine lv_iconst (v := 0) hx hb dX3_readBlock_50 (by decide) ?_
          have ho := Option.some.inj hf
          subst ho
          exact hret dX3_readBlock_51 (nbool (Or.inl rfl)) (hP.sub (ws' := [(a_t, .inr (3, [.ref a_characters, .int v_length, .ref a_rows, .int qo4.2.1, .int v_allFit, .int qo4.2.2.1, .int qo4.2.2.2.1])), (a_characters, .inl (cC, 60, .inl v_characters)), (a_rows, .inl (cI, 120, .inl qo4.2.2.2.2))]) [0, 1, 2] rfl) (hD.sub (ws' := [(a_t, .inr (3, [.ref a_characters, .int v_length, .ref a_rows, .int qo4.2.1, .int v_allFit, .int qo4.2.2.1, .int qo4.2.2.2.1])), (a_characters, .inl (cC, 60, .inl v_characters)), (a_rows, .inl (cI, 120, .inl qo4.2.2.2.2))]) [0, 1, 2] (by decide) rfl) hS
        · replace hf := ineg hc hf
          refine lv_iconst (v := 1) hx hb dX3_readBlock_46 (by decide) ?_
          refine lv_goto (tgt := 51) hx hb dX3_readBlock_47 (by decide) ?_
          have ho := Option.some.inj hf
          subst ho
          exact hret dX3_readBlock_51 (nbool (Or.inr rfl)) (hP.sub (ws' := [(a_t, .inr (3, [.ref a_characters, .int v_length, .ref a_rows, .int qo4.2.1, .int v_allFit, .int qo4.2.2.1, .int qo4.2.2.2.1])), (a_characters, .inl (cC, 60, .inl v_characters)), (a_rows, .inl (cI, 120, .inl qo4.2.2.2.2))]) [0, 1, 2] rfl) (hD.sub (ws' := [(a_t, .inr (3, [.ref a_characters, .int v_length, .ref a_rows, .int qo4.2.1, .int v_allFit, .int qo4.2.2.1, .int qo4.2.2.2.1])), (a_characters, .inl (cC, 60, .inl v_characters)), (a_rows, .inl (cI, 120, .inl qo4.2.2.2.2))]) [0, 1, 2] (by decide) rfl) hS
    · replace hf := ineg hc hf
      refine lv_aload_n hx hb dX3_readBlock_23 rfl (lv_at hl 0 rfl) ?_
      refine lv_iconst (v := 1) hx hb dX3_readBlock_24 (by decide) ?_
      replace hf := bd_some hf
      obtain ⟨qo5, hqo5, hf⟩ := hf
      refine g_Vi (As := [.int 1]) (rest := []) (wr := []) ⟨hx, hb, hml, hown, hts⟩ (k_X3_readLineless l D cI cC a_t a_characters a_rows 1 v_length v_blocks v_allFit qo2.2 v_number v_characters v_rows qo5 hqo5) (cwV 1 hts gX3_readBlock_X3_readLineless rfl rfl rfl (by decide +kernel) ⟨Nat.le_of_ble_eq_true rfl, Nat.le_of_ble_eq_true rfl⟩) hK hP hD hS hA 3 1 rfl rfl rfl [1, 2, 0] [] rfl rfl rfl rfl rfl (by decide) rfl hl.1 rfl (Nat.le_of_ble_eq_true rfl) dX3_readBlock_25 (Nat.zero_le _) (Nat.zero_le _) (fun H locs hP hD hS => ?_)
      have hP : va_P D vwCl [(a_t, .inr (3, [.ref a_characters, .int v_length, .ref a_rows, .int qo5.2.1, .int v_allFit, .int qo5.2.2.1, .int qo5.2.2.2.1])), (a_characters, .inl (cC, 60, .inl v_characters)), (a_rows, .inl (cI, 120, .inl qo5.2.2.2.2))] H := hP
      have hD : va_D A [(a_t, .inr (3, [.ref a_characters, .int v_length, .ref a_rows, .int qo5.2.1, .int v_allFit, .int qo5.2.2.1, .int qo5.2.2.2.1])), (a_characters, .inl (cC, 60, .inl v_characters)), (a_rows, .inl (cI, 120, .inl qo5.2.2.2.2))] := hD
      replace hf := bchk_some hf
      obtain ⟨hbv, hf⟩ := hf
      have ho := Option.some.inj hf
      subst ho
      exact hret dX3_readBlock_28 (nbool hbv) (hP.sub (ws' := [(a_t, .inr (3, [.ref a_characters, .int v_length, .ref a_rows, .int qo5.2.1, .int v_allFit, .int qo5.2.2.1, .int qo5.2.2.2.1])), (a_characters, .inl (cC, 60, .inl v_characters)), (a_rows, .inl (cI, 120, .inl qo5.2.2.2.2))]) [0, 1, 2] rfl) (hD.sub (ws' := [(a_t, .inr (3, [.ref a_characters, .int v_length, .ref a_rows, .int qo5.2.1, .int v_allFit, .int qo5.2.2.1, .int qo5.2.2.2.1])), (a_characters, .inl (cC, 60, .inl v_characters)), (a_rows, .inl (cI, 120, .inl qo5.2.2.2.2))]) [0, 1, 2] (by decide) rfl) hS
  · replace hf := ineg hc hf
    refine lv_aload_n hx hb dX3_readBlock_9 rfl (lv_at hl 0 rfl) ?_
    replace hf := bd_some hf
    obtain ⟨qo6, hqo6, hf⟩ := hf
    refine g_Vi (As := []) (rest := []) (wr := []) ⟨hx, hb, hml, hown, hts⟩ (k_X3_readParagraph l D cI cC a_t a_characters a_rows v_length v_blocks v_allFit qo1.2 v_number v_characters v_rows qo6 hqo6) (cwV 0 hts gX3_readBlock_X3_readParagraph rfl rfl rfl (by decide +kernel) ⟨Nat.le_of_ble_eq_true rfl, Nat.le_of_ble_eq_true rfl⟩) hK hP hD hS hA 3 1 rfl rfl rfl [1, 2, 0] [] rfl rfl rfl rfl rfl (by decide) rfl hl.1 rfl (Nat.le_of_ble_eq_true rfl) dX3_readBlock_10 (Nat.zero_le _) (Nat.zero_le _) (fun H locs hP hD hS => ?_)
    have hP : va_P D vwCl [(a_t, .inr (3, [.ref a_characters, .int v_length, .ref a_rows, .int qo6.2.1, .int qo6.2.2.1, .int qo6.2.2.2.1, .int qo6.2.2.2.2.1])), (a_characters, .inl (cC, 60, .inl v_characters)), (a_rows, .inl (cI, 120, .inl qo6.2.2.2.2.2))] H := hP
    have hD : va_D A [(a_t, .inr (3, [.ref a_characters, .int v_length, .ref a_rows, .int qo6.2.1, .int qo6.2.2.1, .int qo6.2.2.2.1, .int qo6.2.2.2.2.1])), (a_characters, .inl (cC, 60, .inl v_characters)), (a_rows, .inl (cI, 120, .inl qo6.2.2.2.2.2))] := hD
    replace hf := bchk_some hf
    obtain ⟨hbv, hf⟩ := hf
    have ho := Option.some.inj hf
    subst ho
    exact hret dX3_readBlock_13 (nbool hbv) (hP.sub (ws' := [(a_t, .inr (3, [.ref a_characters, .int v_length, .ref a_rows, .int qo6.2.1, .int qo6.2.2.1, .int qo6.2.2.2.1, .int qo6.2.2.2.2.1])), (a_characters, .inl (cC, 60, .inl v_characters)), (a_rows, .inl (cI, 120, .inl qo6.2.2.2.2.2))]) [0, 1, 2] rfl) (hD.sub (ws' := [(a_t, .inr (3, [.ref a_characters, .int v_length, .ref a_rows, .int qo6.2.1, .int qo6.2.2.1, .int qo6.2.2.2.1, .int qo6.2.2.2.2.1])), (a_characters, .inl (cC, 60, .inl v_characters)), (a_rows, .inl (cI, 120, .inl qo6.2.2.2.2.2))]) [0, 1, 2] (by decide) rfl) hS
def fX3_readBlocks_17 (v_length : Int32) (v_characters : Nat → Int32) : Nat → Int32 → Int32 → Int32 → Int32 → Int32 → (Nat → Int32) → Option (Int32 × Int32 × Int32 × Int32 × Int32 × (Nat → Int32))
  | 0 => fun _ _ _ _ _ _ => none
  | n + 1 => fun w1 v_blocks v_allFit v_at v_number v_rows =>
    if 60 < w1 then (some (v_at, v_blocks, v_allFit, v_at, v_number, v_rows)) else (bd (fX3_readBlock v_length v_blocks v_allFit v_at v_number v_characters v_rows) fun qo1 => if qo1.1 = 0 then (some (qo1.2.2.2.1, qo1.2.1, qo1.2.2.1, qo1.2.2.2.1, qo1.2.2.2.2.1, qo1.2.2.2.2.2)) else (if qo1.2.2.2.1 < v_length then (bd (fX3_passes 59 v_length qo1.2.2.2.1 v_characters) fun qo2 => if qo2.1 = 0 then (some (qo2.2, qo1.2.1, qo1.2.2.1, qo2.2, qo1.2.2.2.2.1, qo1.2.2.2.2.2)) else (nm (w1 + 1) fun qx3 => (fX3_readBlocks_17 v_length v_characters n) qx3 qo1.2.1 qo1.2.2.1 qo2.2 qo1.2.2.2.2.1 qo1.2.2.2.2.2)) else (some ((-5), qo1.2.1, qo1.2.2.1, qo1.2.2.2.1, qo1.2.2.2.2.1, qo1.2.2.2.2.2))))
def fX3_readBlocks (v_length : Int32) (v_blocks : Int32) (v_allFit : Int32) (v_at : Int32) (v_number : Int32) (v_characters : Nat → Int32) (v_rows : Nat → Int32) : Option (Int32 × Int32 × Int32 × Int32 × Int32 × (Nat → Int32)) :=
  fX3_readBlocks_17 v_length v_characters Fu 0 0 1 0 v_number v_rows
def rX3_readBlocks : Room := { frames := 5, cells := 0, slots := 0, locals := 109 }
theorem hin_X3_readBlocks_X3 : ∀ w ∈ wsX30, w ∈ wsX3_readBlocks := fun _ h => List.mem_cons_of_mem _ (List.mem_append_right _ (h))
set_option maxHeartbeats 4000000 in
set_option maxRecDepth 100000 in
theorem k_X3_readBlocks (l : Launch) (D : va_G) (cI cC : ClassId) (a_t : Nat) (a_characters : Nat) (a_rows : Nat) (v_length : Int32) (v_blocks : Int32) (v_allFit : Int32) (v_at : Int32) (v_number : Int32) (v_characters : Nat → Int32) (v_rows : Nat → Int32) (o : Int32 × Int32 × Int32 × Int32 × Int32 × (Nat → Int32)) (hf : fX3_readBlocks v_length v_blocks v_allFit v_at v_number v_characters v_rows = some o) : CTi l yX3_readBlocks wsX3_readBlocks rX3_readBlocks D cI cC [.ref a_t] [(a_t, .inr (3, [.ref a_characters, .int v_length, .ref a_rows, .int v_blocks, .int v_allFit, .int v_at, .int v_number])), (a_characters, .inl (cC, 60, .inl v_characters)), (a_rows, .inl (cI, 120, .inl v_rows))] [(a_t, .inr (3, [.ref a_characters, .int v_length, .ref a_rows, .int o.2.1, .int o.2.2.1, .int o.2.2.2.1, .int o.2.2.2.2.1])), (a_characters, .inl (cC, 60, .inl v_characters)), (a_rows, .inl (cI, 120, .inl o.2.2.2.2.2))] o.1 := by
  refine CTi_of (cc := cX3_readBlocks) (maxL := 2) (ty := .int) (by decide) rfl (Nat.le_of_ble_eq_true rfl) ?_
  intro p e s m args below meth c A Q ls C0 hA hP hD hl hret
  obtain ⟨hx, hb, hml, hts, hown, hK⟩ := C0
  have hown : s.vm.findClass RX3 = some m.cls := hown
  have hS : va_S A s.heap s.heap [] := va_S.rf
  have hl : lv_has ls 2 [(0, .ref a_t)] := hl
  have hinX3 := hin_X3_readBlocks_X3
  have J17 : ∀   (n : Nat) (w1 : Int32) (v_blocks : Int32) (v_allFit : Int32) (v_at : Int32) (v_number : Int32) (v_rows : Nat → Int32) (H : Heap) (locs : List Loc) (ls : Array Slot), fX3_readBlocks_17 v_length v_characters n w1 v_blocks v_allFit v_at v_number v_rows = some o → va_P D vwCl [(a_t, .inr (3, [.ref a_characters, .int v_length, .ref a_rows, .int v_blocks, .int v_allFit, .int v_at, .int v_number])), (a_characters, .inl (cC, 60, .inl v_characters)), (a_rows, .inl (cI, 120, .inl v_rows))] H → va_D A [(a_t, .inr (3, [.ref a_characters, .int v_length, .ref a_rows, .int v_blocks, .int v_allFit, .int v_at, .int v_number])), (a_characters, .inl (cC, 60, .inl v_characters)), (a_rows, .inl (cI, 120, .inl v_rows))] → va_S A s.heap H locs → lv_has ls 2 [(0, .ref a_t), (1, .int w1)] → W p l e rX3_readBlocks s m args below meth c H locs 0 0 Q (F0 m 17 ls []) := by
    intro  n
    induction n with
    | zero =>
      intro w1 v_blocks v_allFit v_at v_number v_rows H locs ls hf
      have hf0 : (none : Option (Int32 × Int32 × Int32 × Int32 × Int32 × (Nat → Int32))) = some o := hf
      cases hf0
    | succ n hk17 =>
      intro w1 v_blocks v_allFit v_at v_number v_rows H locs ls hf hP hD hS hl
      rw [fX3_readBlocks_17] at hf
      refine lv_iload_n hx hb dX3_readBlocks_17 rfl (lv_at hl 1 rfl) ?_
      refine lv_bipush (v := 60) hx hb dX3_readBlocks_18 (by decide) ?_
      refine lv_icmp_gt (tgt := 69) hx hb dX3_readBlocks_20 (by decide) (fun hc => ?_) (fun hc => ?_)
      · replace hf := ip hc hf
        refine lv_aload_n hx hb dX3_readBlocks_69 rfl (lv_at hl 0 rfl) ?_
        refine va_get (D := D) (ci := 3) (v := .int v_at) (C := RX3) (T := TX3) (N := 7) hx hb hts hinX3 hown hK.1 hP 0 rfl rfl 5 (by decide) (hts (.fieldLink RX3 30 "BaselineGrid$Text" "at" "I") (List.mem_of_getElem? (i := 3) rfl)) (fun _ h9 => h9) rfl dX3_readBlocks_70 ?_
        have ho := Option.some.inj hf
        subst ho
        exact hret dX3_readBlocks_73 rfl (hP.sub (ws' := [(a_t, .inr (3, [.ref a_characters, .int v_length, .ref a_rows, .int v_blocks, .int v_allFit, .int v_at, .int v_number])), (a_characters, .inl (cC, 60, .inl v_characters)), (a_rows, .inl (cI, 120, .inl v_rows))]) [0, 1, 2] rfl) (hD.sub (ws' := [(a_t, .inr (3, [.ref a_characters, .int v_length, .ref a_rows, .int v_blocks, .int v_allFit, .int v_at, .int v_number])), (a_characters, .inl (cC, 60, .inl v_characters)), (a_rows, .inl (cI, 120, .inl v_rows))]) [0, 1, 2] (by decide) rfl) hS
      · replace hf := ineg hc hf
        refine lv_aload_n hx hb dX3_readBlocks_23 rfl (lv_at hl 0 rfl) ?_
        replace hf := bd_some hf
        obtain ⟨qo1, hqo1, hf⟩ := hf
        refine g_Vi (As := []) (rest := []) (wr := []) ⟨hx, hb, hml, hown, hts⟩ (k_X3_readBlock l D cI cC a_t a_characters a_rows v_length v_blocks v_allFit v_at v_number v_characters v_rows qo1 hqo1) (cwV 0 hts gX3_readBlocks_X3_readBlock rfl rfl rfl (by decide +kernel) ⟨Nat.le_of_ble_eq_true rfl, Nat.le_of_ble_eq_true rfl⟩) hK hP hD hS hA 3 0 rfl rfl rfl [0, 1, 2] [] rfl rfl rfl rfl rfl (by decide) rfl hl.1 rfl (Nat.le_of_ble_eq_true rfl) dX3_readBlocks_24 (Nat.zero_le _) (Nat.zero_le _) (fun H locs hP hD hS => ?_)
        have hP : va_P D vwCl [(a_t, .inr (3, [.ref a_characters, .int v_length, .ref a_rows, .int qo1.2.1, .int qo1.2.2.1, .int qo1.2.2.2.1, .int qo1.2.2.2.2.1])), (a_characters, .inl (cC, 60, .inl v_characters)), (a_rows, .inl (cI, 120, .inl qo1.2.2.2.2.2))] H := hP
        have hD : va_D A [(a_t, .inr (3, [.ref a_characters, .int v_length, .ref a_rows, .int qo1.2.1, .int qo1.2.2.1, .int qo1.2.2.2.1, .int qo1.2.2.2.2.1])), (a_characters, .inl (cC, 60, .inl v_characters)), (a_rows, .inl (cI, 120, .inl qo1.2.2.2.2.2))] := hD
        refine lv_if_ne (tgt := 35) hx hb dX3_readBlocks_27 (by decide) (fun hc => ?_) (fun hc => ?_)
        · replace hf := ineg hc hf
          refine lv_aload_n hx hb dX3_readBlocks_35 rfl (lv_at hl 0 rfl) ?_
          refine va_get (D := D) (ci := 3) (v := .int qo1.2.2.2.1) (C := RX3) (T := TX3) (N := 7) hx hb hts hinX3 hown hK.1 hP 0 rfl rfl 5 (by decide) (hts (.fieldLink RX3 30 "BaselineGrid$Text" "at" "I") (List.mem_of_getElem? (i := 3) rfl)) (fun _ h9 => h9) rfl dX3_readBlocks_36 ?_
          refine lv_aload_n hx hb dX3_readBlocks_39 rfl (lv_at hl 0 rfl) ?_
          refine va_get (D := D) (ci := 3) (v := .int v_length) (C := RX3) (T := TX3) (N := 7) hx hb hts hinX3 hown hK.1 hP 0 rfl rfl 1 (by decide) (hts (.fieldLink RX3 15 "BaselineGrid$Text" "length" "I") (List.mem_of_getElem? (i := 4) rfl)) (fun _ h9 => h9) rfl dX3_readBlocks_40 ?_
          refine lv_icmp_lt (tgt := 49) hx hb dX3_readBlocks_43 (by decide) (fun hc => ?_) (fun hc => ?_)
          · replace hf := ip hc hf
            refine lv_aload_n hx hb dX3_readBlocks_49 rfl (lv_at hl 0 rfl) ?_
            refine lv_bipush (v := 59) hx hb dX3_readBlocks_50 (by decide) ?_
            replace hf := bd_some hf
            obtain ⟨qo2, hqo2, hf⟩ := hf
            refine g_Vi (As := [.int 59]) (rest := []) (wr := [(a_rows, .inl (cI, 120, .inl qo1.2.2.2.2.2))]) ⟨hx, hb, hml, hown, hts⟩ (k_X3_passes l D cI cC a_t a_characters a_rows 59 v_length qo1.2.1 qo1.2.2.1 qo1.2.2.2.1 qo1.2.2.2.2.1 v_characters qo2 hqo2) (cwV 1 hts gX3_readBlocks_X3_passes rfl rfl rfl (by decide +kernel) ⟨Nat.le_of_ble_eq_true rfl, Nat.le_of_ble_eq_true rfl⟩) hK hP hD hS hA 3 0 rfl rfl rfl [0, 1] [2] rfl rfl rfl rfl rfl (by decide) rfl hl.1 rfl (Nat.le_of_ble_eq_true rfl) dX3_readBlocks_52 (Nat.zero_le _) (Nat.zero_le _) (fun H locs hP hD hS => ?_)
            have hP : va_P D vwCl [(a_rows, .inl (cI, 120, .inl qo1.2.2.2.2.2)), (a_t, .inr (3, [.ref a_characters, .int v_length, .ref a_rows, .int qo1.2.1, .int qo1.2.2.1, .int qo2.2, .int qo1.2.2.2.2.1])), (a_characters, .inl (cC, 60, .inl v_characters))] H := hP
            have hD : va_D A [(a_rows, .inl (cI, 120, .inl qo1.2.2.2.2.2)), (a_t, .inr (3, [.ref a_characters, .int v_length, .ref a_rows, .int qo1.2.1, .int qo1.2.2.1, .int qo2.2, .int qo1.2.2.2.2.1])), (a_characters, .inl (cC, 60, .inl v_characters))] := hD
            refine lv_if_ne (tgt := 63) hx hb dX3_readBlocks_55 (by decide) (fun hc => ?_) (fun hc => ?_)
            · replace hf := ineg hc hf
              replace hf := nm_some hf
              obtain ⟨qx3, eqx3, hf⟩ := hf
              refine lv_iinc (v := qx3) (lv' := [(1, .int qx3), (0, .ref a_t)]) hx hb dX3_readBlocks_63 hl (k := 1) rfl (by rw [eqx3]; rfl) (by decide) rfl (fun ls hl => ?_)
              refine lv_goto (tgt := 17) hx hb dX3_readBlocks_66 (by decide) ?_
              exact hk17 qx3 qo1.2.1 qo1.2.2.1 qo2.2 qo1.2.2.2.2.1 qo1.2.2.2.2.2 _ _ _ hf (hP.sub (ws' := [(a_t, .inr (3, [.ref a_characters, .int v_length, .ref a_rows, .int qo1.2.1, .int qo1.2.2.1, .int qo2.2, .int qo1.2.2.2.2.1])), (a_characters, .inl (cC, 60, .inl v_characters)), (a_rows, .inl (cI, 120, .inl qo1.2.2.2.2.2))]) [1, 2, 0] rfl) (hD.sub (ws' := [(a_t, .inr (3, [.ref a_characters, .int v_length, .ref a_rows, .int qo1.2.1, .int qo1.2.2.1, .int qo2.2, .int qo1.2.2.2.2.1])), (a_characters, .inl (cC, 60, .inl v_characters)), (a_rows, .inl (cI, 120, .inl qo1.2.2.2.2.2))]) [1, 2, 0] (by decide) rfl) hS (lv_sub hl [1, 0] rfl)
            · replace hf := ip hc hf
              refine lv_aload_n hx hb dX3_readBlocks_58 rfl (lv_at hl 0 rfl) ?_
              refine va_get (D := D) (ci := 3) (v := .int qo2.2) (C := RX3) (T := TX3) (N := 7) hx hb hts hinX3 hown hK.1 hP 1 rfl rfl 5 (by decide) (hts (.fieldLink RX3 30 "BaselineGrid$Text" "at" "I") (List.mem_of_getElem? (i := 3) rfl)) (fun _ h9 => h9) rfl dX3_readBlocks_59 ?_
              have ho := Option.some.inj hf
              subst ho
              exact hret dX3_readBlocks_62 rfl (hP.sub (ws' := [(a_t, .inr (3, [.ref a_characters, .int v_length, .ref a_rows, .int qo1.2.1, .int qo1.2.2.1, .int qo2.2, .int qo1.2.2.2.2.1])), (a_characters, .inl (cC, 60, .inl v_characters)), (a_rows, .inl (cI, 120, .inl qo1.2.2.2.2.2))]) [1, 2, 0] rfl) (hD.sub (ws' := [(a_t, .inr (3, [.ref a_characters, .int v_length, .ref a_rows, .int qo1.2.1, .int qo1.2.2.1, .int qo2.2, .int qo1.2.2.2.2.1])), (a_characters, .inl (cC, 60, .inl v_characters)), (a_rows, .inl (cI, 120, .inl qo1.2.2.2.2.2))]) [1, 2, 0] (by decide) rfl) hS
          · replace hf := ineg hc hf
            refine lv_bipush (v := (-5)) hx hb dX3_readBlocks_46 (by decide) ?_
            have ho := Option.some.inj hf
            subst ho
            exact hret dX3_readBlocks_48 rfl (hP.sub (ws' := [(a_t, .inr (3, [.ref a_characters, .int v_length, .ref a_rows, .int qo1.2.1, .int qo1.2.2.1, .int qo1.2.2.2.1, .int qo1.2.2.2.2.1])), (a_characters, .inl (cC, 60, .inl v_characters)), (a_rows, .inl (cI, 120, .inl qo1.2.2.2.2.2))]) [0, 1, 2] rfl) (hD.sub (ws' := [(a_t, .inr (3, [.ref a_characters, .int v_length, .ref a_rows, .int qo1.2.1, .int qo1.2.2.1, .int qo1.2.2.2.1, .int qo1.2.2.2.2.1])), (a_characters, .inl (cC, 60, .inl v_characters)), (a_rows, .inl (cI, 120, .inl qo1.2.2.2.2.2))]) [0, 1, 2] (by decide) rfl) hS
        · replace hf := ip hc hf
          refine lv_aload_n hx hb dX3_readBlocks_30 rfl (lv_at hl 0 rfl) ?_
          refine va_get (D := D) (ci := 3) (v := .int qo1.2.2.2.1) (C := RX3) (T := TX3) (N := 7) hx hb hts hinX3 hown hK.1 hP 0 rfl rfl 5 (by decide) (hts (.fieldLink RX3 30 "BaselineGrid$Text" "at" "I") (List.mem_of_getElem? (i := 3) rfl)) (fun _ h9 => h9) rfl dX3_readBlocks_31 ?_
          have ho := Option.some.inj hf
          subst ho
          exact hret dX3_readBlocks_34 rfl (hP.sub (ws' := [(a_t, .inr (3, [.ref a_characters, .int v_length, .ref a_rows, .int qo1.2.1, .int qo1.2.2.1, .int qo1.2.2.2.1, .int qo1.2.2.2.2.1])), (a_characters, .inl (cC, 60, .inl v_characters)), (a_rows, .inl (cI, 120, .inl qo1.2.2.2.2.2))]) [0, 1, 2] rfl) (hD.sub (ws' := [(a_t, .inr (3, [.ref a_characters, .int v_length, .ref a_rows, .int qo1.2.1, .int qo1.2.2.1, .int qo1.2.2.2.1, .int qo1.2.2.2.2.1])), (a_characters, .inl (cC, 60, .inl v_characters)), (a_rows, .inl (cI, 120, .inl qo1.2.2.2.2.2))]) [0, 1, 2] (by decide) rfl) hS
  unfold fX3_readBlocks at hf
  refine lv_aload_n hx hb dX3_readBlocks_0 rfl (lv_at hl 0 rfl) ?_
  refine lv_iconst (v := 0) hx hb dX3_readBlocks_1 (by decide) ?_
  refine va_put (D := D) (ci := 3) (v := .int 0) (ty := .int) (C := RX3) (T := TX3) (N := 7) hx hb hts hinX3 tyX3 tyX3_ok nmX3 hown hK.1 hP hD hS 0 rfl rfl 3 (by decide) (hts (.fieldLink RX3 23 "BaselineGrid$Text" "blocks" "I") (List.mem_of_getElem? (i := 1) rfl)) (fun _ h9 => h9) rfl (by decide +kernel) rfl rfl (Nat.le_of_ble_eq_true rfl) dX3_readBlocks_2 (fun H locs hP hD hS => ?_)
  have hP : va_P D vwCl [(a_t, .inr (3, [.ref a_characters, .int v_length, .ref a_rows, .int 0, .int v_allFit, .int v_at, .int v_number])), (a_characters, .inl (cC, 60, .inl v_characters)), (a_rows, .inl (cI, 120, .inl v_rows))] H := hP
  have hD : va_D A [(a_t, .inr (3, [.ref a_characters, .int v_length, .ref a_rows, .int 0, .int v_allFit, .int v_at, .int v_number])), (a_characters, .inl (cC, 60, .inl v_characters)), (a_rows, .inl (cI, 120, .inl v_rows))] := hD
  refine lv_aload_n hx hb dX3_readBlocks_5 rfl (lv_at hl 0 rfl) ?_
  refine lv_iconst (v := 1) hx hb dX3_readBlocks_6 (by decide) ?_
  refine va_put (D := D) (ci := 3) (v := .int 1) (ty := .boolean) (C := RX3) (T := TX3) (N := 7) hx hb hts hinX3 tyX3 tyX3_ok nmX3 hown hK.1 hP hD hS 0 rfl rfl 4 (by decide) (hts (.fieldLink RX3 26 "BaselineGrid$Text" "allFit" "Z") (List.mem_of_getElem? (i := 2) rfl)) (fun _ h9 => h9) rfl (by decide +kernel) rfl rfl (Nat.le_of_ble_eq_true rfl) dX3_readBlocks_7 (fun H locs hP hD hS => ?_)
  have hP : va_P D vwCl [(a_t, .inr (3, [.ref a_characters, .int v_length, .ref a_rows, .int 0, .int 1, .int v_at, .int v_number])), (a_characters, .inl (cC, 60, .inl v_characters)), (a_rows, .inl (cI, 120, .inl v_rows))] H := hP
  have hD : va_D A [(a_t, .inr (3, [.ref a_characters, .int v_length, .ref a_rows, .int 0, .int 1, .int v_at, .int v_number])), (a_characters, .inl (cC, 60, .inl v_characters)), (a_rows, .inl (cI, 120, .inl v_rows))] := hD
  refine lv_aload_n hx hb dX3_readBlocks_10 rfl (lv_at hl 0 rfl) ?_
  refine lv_iconst (v := 0) hx hb dX3_readBlocks_11 (by decide) ?_
  refine va_put (D := D) (ci := 3) (v := .int 0) (ty := .int) (C := RX3) (T := TX3) (N := 7) hx hb hts hinX3 tyX3 tyX3_ok nmX3 hown hK.1 hP hD hS 0 rfl rfl 5 (by decide) (hts (.fieldLink RX3 30 "BaselineGrid$Text" "at" "I") (List.mem_of_getElem? (i := 3) rfl)) (fun _ h9 => h9) rfl (by decide +kernel) rfl rfl (Nat.le_of_ble_eq_true rfl) dX3_readBlocks_12 (fun H locs hP hD hS => ?_)
  have hP : va_P D vwCl [(a_t, .inr (3, [.ref a_characters, .int v_length, .ref a_rows, .int 0, .int 1, .int 0, .int v_number])), (a_characters, .inl (cC, 60, .inl v_characters)), (a_rows, .inl (cI, 120, .inl v_rows))] H := hP
  have hD : va_D A [(a_t, .inr (3, [.ref a_characters, .int v_length, .ref a_rows, .int 0, .int 1, .int 0, .int v_number])), (a_characters, .inl (cC, 60, .inl v_characters)), (a_rows, .inl (cI, 120, .inl v_rows))] := hD
  refine lv_iconst (v := 0) hx hb dX3_readBlocks_15 (by decide) ?_
  refine lv_istore_n (lv' := [(1, .int 0), (0, .ref a_t)]) hx hb dX3_readBlocks_16 rfl hl (by decide) rfl (fun ls hl => ?_)
  exact J17 Fu 0 0 1 0 v_number v_rows _ _ _ hf (hP.sub (ws' := [(a_t, .inr (3, [.ref a_characters, .int v_length, .ref a_rows, .int 0, .int 1, .int 0, .int v_number])), (a_characters, .inl (cC, 60, .inl v_characters)), (a_rows, .inl (cI, 120, .inl v_rows))]) [0, 1, 2] rfl) (hD.sub (ws' := [(a_t, .inr (3, [.ref a_characters, .int v_length, .ref a_rows, .int 0, .int 1, .int 0, .int v_number])), (a_characters, .inl (cC, 60, .inl v_characters)), (a_rows, .inl (cI, 120, .inl v_rows))]) [0, 1, 2] (by decide) rfl) hS (lv_sub hl [1, 0] rfl)
