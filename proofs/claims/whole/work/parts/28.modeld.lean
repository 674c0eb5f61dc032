def fX5_stands_44 (w2 : Int32) (s1 : Int32) (s2 : Int32) (v_at : Int32) : Option (Int32 × Int32) :=
    nm (s1 + s2) fun qx1 => bchk w2 (some (w2, qx1))
def fX5_stands_29 (s0 : Int32) (v_at : Int32) : Option (Int32 × Int32) :=
    if s0 = 0 then (fX5_stands_44 s0 v_at 0 v_at) else (fX5_stands_44 s0 v_at 1 v_at)
def fX5_stands_28 (v_at : Int32) : Option (Int32 × Int32) :=
    fX5_stands_29 0 v_at
def fX5_stands (i1 : Int32) (v_length : Int32) (v_at : Int32) (v_text : Nat → Int32) : Option (Int32 × Int32) :=
  if v_length ≤ v_at then (fX5_stands_28 v_at) else (aget 60 v_text v_at fun qx2 => if qx2 = i1 then (fX5_stands_29 1 v_at) else (fX5_stands_28 v_at))
def rX5_stands : Room := { frames := 0, cells := 0, slots := 0, locals := 0 }
theorem hin_X5_stands_X5 : ∀ w ∈ wsX50, w ∈ wsX5_stands := fun _ h => List.mem_cons_of_mem _ (List.mem_append_right _ (h))
set_option maxHeartbeats 4000000 in
set_option maxRecDepth 100000 in
theorem k_X5_stands (l : Launch) (D : va_G) (cI cC : ClassId) (a_t : Nat) (a_now : Nat) (a_slot : Nat) (a_history : Nat) (a_text : Nat) (a_lines : Nat) (a_owners : Nat) (a_many : Nat) (a_ends : Nat) (a_over : Nat) (a_ahead : Nat) (a_behind : Nat) (a_done : Nat) (i1 : Int32) (v_kept : Int32) (v_length : Int32) (v_isFilled : Int32) (v_at : Int32) (v_text : Nat → Int32) (o : Int32 × Int32) (hf : fX5_stands i1 v_length v_at v_text = some o) : CTi l yX5_stands wsX5_stands rX5_stands D cI cC [.ref a_t, .int i1] [(a_t, .inr (5, [.ref a_now, .ref a_slot, .ref a_history, .ref a_text, .ref a_lines, .ref a_owners, .ref a_many, .ref a_ends, .ref a_over, .ref a_ahead, .ref a_behind, .ref a_done, .int v_kept, .int v_length, .int v_isFilled, .int v_at])), (a_text, .inl (cI, 60, .inl v_text))] [(a_t, .inr (5, [.ref a_now, .ref a_slot, .ref a_history, .ref a_text, .ref a_lines, .ref a_owners, .ref a_many, .ref a_ends, .ref a_over, .ref a_ahead, .ref a_behind, .ref a_done, .int v_kept, .int v_length, .int v_isFilled, .int o.2])), (a_text, .inl (cI, 60, .inl v_text))] o.1 := by
  refine CTi_of (cc := cX5_stands) (maxL := 3) (ty := .boolean) (by decide) rfl (Nat.le_of_ble_eq_true rfl) ?_
  intro p e s m args below meth c A Q ls C0 hA hP hD hl hret
  obtain ⟨hx, hb, hml, hts, hown, hK⟩ := C0
  have hown : s.vm.findClass RX5 = some m.cls := hown
  have hS : va_S A s.heap s.heap [] := va_S.rf
  have hl : lv_has ls 3 [(0, .ref a_t), (1, .int i1)] := hl
  have hinX5 := hin_X5_stands_X5
  have J44 : ∀ (w2 : Int32) (s1 : Int32) (s2 : Int32) (v_at : Int32)  (H : Heap) (locs : List Loc) (ls : Array Slot), fX5_stands_44 w2 s1 s2 v_at = some o → va_P D vwCl [(a_t, .inr (5, [.ref a_now, .ref a_slot, .ref a_history, .ref a_text, .ref a_lines, .ref a_owners, .ref a_many, .ref a_ends, .ref a_over, .ref a_ahead, .ref a_behind, .ref a_done, .int v_kept, .int v_length, .int v_isFilled, .int v_at])), (a_text, .inl (cI, 60, .inl v_text))] H → va_D A [(a_t, .inr (5, [.ref a_now, .ref a_slot, .ref a_history, .ref a_text, .ref a_lines, .ref a_owners, .ref a_many, .ref a_ends, .ref a_over, .ref a_ahead, .ref a_behind, .ref a_done, .int v_kept, .int v_length, .int v_isFilled, .int v_at])), (a_text, .inl (cI, 60, .inl v_text))] → va_S A s.heap H locs → lv_has ls 3 [(2, .int w2)] → W p l e rX5_stands s m args below meth c H locs 0 0 Q (F0 m 44 ls [.int s2, .int s1, .ref a_t]) := by
    intro w2 s1 s2 v_at H locs ls hf hP hD hS hl
    unfold fX5_stands_44 at hf
    refine lv_iadd hx hb dX5_stands_44 ?_
    refine g_nm hf (fun qx1 hf => ?_)
    refine va_put (D := D) (ci := 5) (v := .int qx1) (ty := .int) (C := RX5) (T := TX5) (N := 16) hx hb hts hinX5 tyX5 tyX5_ok nmX5 hown hK.1 hP hD hS 0 rfl rfl 15 (by decide) (hts (.fieldLink RX5 114 "BaselineGridModel" "at" "I") (List.mem_of_getElem? (i := 1) rfl)) (fun _ h9 => h9) rfl (by decide +kernel) rfl rfl (Nat.le_of_ble_eq_true rfl) dX5_stands_45 (fun H locs hP hD hS => ?_)
    have hP : va_P D vwCl [(a_t, .inr (5, [.ref a_now, .ref a_slot, .ref a_history, .ref a_text, .ref a_lines, .ref a_owners, .ref a_many, .ref a_ends, .ref a_over, .ref a_ahead, .ref a_behind, .ref a_done, .int v_kept, .int v_length, .int v_isFilled, .int qx1])), (a_text, .inl (cI, 60, .inl v_text))] H := hP
    have hD : va_D A [(a_t, .inr (5, [.ref a_now, .ref a_slot, .ref a_history, .ref a_text, .ref a_lines, .ref a_owners, .ref a_many, .ref a_ends, .ref a_over, .ref a_ahead, .ref a_behind, .ref a_done, .int v_kept, .int v_length, .int v_isFilled, .int qx1])), (a_text, .inl (cI, 60, .inl v_text))] := hD
    refine lv_iload_n hx hb dX5_stands_48 rfl (lv_at hl 0 rfl) ?_
    replace hf := bchk_some hf
    obtain ⟨hbv, hf⟩ := hf
    have ho := Option.some.inj hf
    subst ho
    exact hret dX5_stands_49 (nbool hbv) (hP.sub (ws' := [(a_t, .inr (5, [.ref a_now, .ref a_slot, .ref a_history, .ref a_text, .ref a_lines, .ref a_owners, .ref a_many, .ref a_ends, .ref a_over, .ref a_ahead, .ref a_behind, .ref a_done, .int v_kept, .int v_length, .int v_isFilled, .int qx1])), (a_text, .inl (cI, 60, .inl v_text))]) [0, 1] rfl) (hD.sub (ws' := [(a_t, .inr (5, [.ref a_now, .ref a_slot, .ref a_history, .ref a_text, .ref a_lines, .ref a_owners, .ref a_many, .ref a_ends, .ref a_over, .ref a_ahead, .ref a_behind, .ref a_done, .int v_kept, .int v_length, .int v_isFilled, .int qx1])), (a_text, .inl (cI, 60, .inl v_text))]) [0, 1] (by decide) rfl) hS
  have J29 : ∀ (s0 : Int32) (v_at : Int32)  (H : Heap) (locs : List Loc) (ls : Array Slot), fX5_stands_29 s0 v_at = some o → va_P D vwCl [(a_t, .inr (5, [.ref a_now, .ref a_slot, .ref a_history, .ref a_text, .ref a_lines, .ref a_owners, .ref a_many, .ref a_ends, .ref a_over, .ref a_ahead, .ref a_behind, .ref a_done, .int v_kept, .int v_length, .int v_isFilled, .int v_at])), (a_text, .inl (cI, 60, .inl v_text))] H → va_D A [(a_t, .inr (5, [.ref a_now, .ref a_slot, .ref a_history, .ref a_text, .ref a_lines, .ref a_owners, .ref a_many, .ref a_ends, .ref a_over, .ref a_ahead, .ref a_behind, .ref a_done, .int v_kept, .int v_length, .int v_isFilled, .int v_at])), (a_text, .inl (cI, 60, .inl v_text))] → va_S A s.heap H locs → lv_has ls 3 [(0, .ref a_t)] → W p l e rX5_stands s m args below meth c H locs 0 0 Q (F0 m 29 ls [.int s0]) := by
    intro s0 v_at H locs ls hf hP hD hS hl
    unfold fX5_stands_29 at hf
    refine lv_istore_n (lv' := [(2, .int s0), (0, .ref a_t)]) hx hb dX5_stands_29 rfl hl (by decide) rfl (fun ls hl => ?_)
    refine lv_aload_n hx hb dX5_stands_30 rfl (lv_at hl 1 rfl) ?_
    refine lv_dup hx hb dX5_stands_31 rfl ?_
    refine va_get (D := D) (ci := 5) (v := .int v_at) (C := RX5) (T := TX5) (N := 16) hx hb hts hinX5 hown hK.1 hP 0 rfl rfl 15 (by decide) (hts (.fieldLink RX5 114 "BaselineGridModel" "at" "I") (List.mem_of_getElem? (i := 1) rfl)) (fun _ h9 => h9) rfl dX5_stands_32 ?_
    refine lv_iload_n hx hb dX5_stands_35 rfl (lv_at hl 0 rfl) ?_
    refine lv_if_eq (tgt := 43) hx hb dX5_stands_36 (by decide) (fun hc => ?_) (fun hc => ?_)
    · replace hf := ip hc hf
      refine lv_iconst (v := 0) hx hb dX5_stands_43 (by decide) ?_
      exact J44 s0 v_at 0 v_at _ _ _ hf (hP.sub (ws' := [(a_t, .inr (5, [.ref a_now, .ref a_slot, .ref a_history, .ref a_text, .ref a_lines, .ref a_owners, .ref a_many, .ref a_ends, .ref a_over, .ref a_ahead, .ref a_behind, .ref a_done, .int v_kept, .int v_length, .int v_isFilled, .int v_at])), (a_text, .inl (cI, 60, .inl v_text))]) [0, 1] rfl) (hD.sub (ws' := [(a_t, .inr (5, [.ref a_now, .ref a_slot, .ref a_history, .ref a_text, .ref a_lines, .ref a_owners, .ref a_many, .ref a_ends, .ref a_over, .ref a_ahead, .ref a_behind, .ref a_done, .int v_kept, .int v_length, .int v_isFilled, .int v_at])), (a_text, .inl (cI, 60, .inl v_text))]) [0, 1] (by decide) rfl) hS (lv_sub hl [0] rfl)
    · replace hf := ineg hc hf
      refine lv_iconst (v := 1) hx hb dX5_stands_39 (by decide) ?_
      refine lv_goto (tgt := 44) hx hb dX5_stands_40 (by decide) ?_
      exact J44 s0 v_at 1 v_at _ _ _ hf (hP.sub (ws' := [(a_t, .inr (5, [.ref a_now, .ref a_slot, .ref a_history, .ref a_text, .ref a_lines, .ref a_owners, .ref a_many, .ref a_ends, .ref a_over, .ref a_ahead, .ref a_behind, .ref a_done, .int v_kept, .int v_length, .int v_isFilled, .int v_at])), (a_text, .inl (cI, 60, .inl v_text))]) [0, 1] rfl) (hD.sub (ws' := [(a_t, .inr (5, [.ref a_now, .ref a_slot, .ref a_history, .ref a_text, .ref a_lines, .ref a_owners, .ref a_many, .ref a_ends, .ref a_over, .ref a_ahead, .ref a_behind, .ref a_done, .int v_kept, .int v_length, .int v_isFilled, .int v_at])), (a_text, .inl (cI, 60, .inl v_text))]) [0, 1] (by decide) rfl) hS (lv_sub hl [0] rfl)
  have J28 : ∀ (v_at : Int32)  (H : Heap) (locs : List Loc) (ls : Array Slot), fX5_stands_28 v_at = some o → va_P D vwCl [(a_t, .inr (5, [.ref a_now, .ref a_slot, .ref a_history, .ref a_text, .ref a_lines, .ref a_owners, .ref a_many, .ref a_ends, .ref a_over, .ref a_ahead, .ref a_behind, .ref a_done, .int v_kept, .int v_length, .int v_isFilled, .int v_at])), (a_text, .inl (cI, 60, .inl v_text))] H → va_D A [(a_t, .inr (5, [.ref a_now, .ref a_slot, .ref a_history, .ref a_text, .ref a_lines, .ref a_owners, .ref a_many, .ref a_ends, .ref a_over, .ref a_ahead, .ref a_behind, .ref a_done, .int v_kept, .int v_length, .int v_isFilled, .int v_at])), (a_text, .inl (cI, 60, .inl v_text))] → va_S A s.heap H locs → lv_has ls 3 [(0, .ref a_t)] → W p l e rX5_stands s m args below meth c H locs 0 0 Q (F0 m 28 ls []) := by
    intro v_at H locs ls hf hP hD hS hl
    unfold fX5_stands_28 at hf
    refine lv_iconst (v := 0) hx hb dX5_stands_28 (by decide) ?_
    exact J29 0 v_at _ _ _ hf (hP.sub (ws' := [(a_t, .inr (5, [.ref a_now, .ref a_slot, .ref a_history, .ref a_text, .ref a_lines, .ref a_owners, .ref a_many, .ref a_ends, .ref a_over, .ref a_ahead, .ref a_behind, .ref a_done, .int v_kept, .int v_length, .int v_isFilled, .int v_at])), (a_text, .inl (cI, 60, .inl v_text))]) [0, 1] rfl) (hD.sub (ws' := [(a_t, .inr (5, [.ref a_now, .ref a_slot, .ref a_history, .ref a_text, .ref a_lines, .ref a_owners, .ref a_many, .ref a_ends, .ref a_over, .ref a_ahead, .ref a_behind, .ref a_done, .int v_kept, .int v_length, .int v_isFilled, .int v_at])), (a_text, .inl (cI, 60, .inl v_text))]) [0, 1] (by decide) rfl) hS (lv_sub hl [0] rfl)
  unfold fX5_stands at hf
  refine lv_aload_n hx hb dX5_stands_0 rfl (lv_at hl 0 rfl) ?_
  refine va_get (D := D) (ci := 5) (v := .int v_at) (C := RX5) (T := TX5) (N := 16) hx hb hts hinX5 hown hK.1 hP 0 rfl rfl 15 (by decide) (hts (.fieldLink RX5 114 "BaselineGridModel" "at" "I") (List.mem_of_getElem? (i := 1) rfl)) (fun _ h9 => h9) rfl dX5_stands_1 ?_
  refine lv_aload_n hx hb dX5_stands_4 rfl (lv_at hl 0 rfl) ?_
  refine va_get (D := D) (ci := 5) (v := .int v_length) (C := RX5) (T := TX5) (N := 16) hx hb hts hinX5 hown hK.1 hP 0 rfl rfl 13 (by decide) (hts (.fieldLink RX5 117 "BaselineGridModel" "length" "I") (List.mem_of_getElem? (i := 2) rfl)) (fun _ h9 => h9) rfl dX5_stands_5 ?_
  refine lv_icmp_ge (tgt := 28) hx hb dX5_stands_8 (by decide) (fun hc => ?_) (fun hc => ?_)
  · replace hf := ip hc hf
    exact J28 v_at _ _ _ hf (hP.sub (ws' := [(a_t, .inr (5, [.ref a_now, .ref a_slot, .ref a_history, .ref a_text, .ref a_lines, .ref a_owners, .ref a_many, .ref a_ends, .ref a_over, .ref a_ahead, .ref a_behind, .ref a_done, .int v_kept, .int v_length, .int v_isFilled, .int v_at])), (a_text, .inl (cI, 60, .inl v_text))]) [0, 1] rfl) (hD.sub (ws' := [(a_t, .inr (5, [.ref a_now, .ref a_slot, .ref a_history, .ref a_text, .ref a_lines, .ref a_owners, .ref a_many, .ref a_ends, .ref a_over, .ref a_ahead, .ref a_behind, .ref a_done, .int v_kept, .int v_length, .int v_isFilled, .int v_at])), (a_text, .inl (cI, 60, .inl v_text))]) [0, 1] (by decide) rfl) hS (lv_sub hl [0] rfl)
  · replace hf := ineg hc hf
    refine lv_aload_n hx hb dX5_stands_11 rfl (lv_at hl 0 rfl) ?_
    refine va_get (D := D) (ci := 5) (v := .ref a_text) (C := RX5) (T := TX5) (N := 16) hx hb hts hinX5 hown hK.1 hP 0 rfl rfl 3 (by decide) (hts (.fieldLink RX5 19 "BaselineGridModel" "text" "[I") (List.mem_of_getElem? (i := 3) rfl)) (fun _ h9 => h9) rfl dX5_stands_12 ?_
    refine lv_aload_n hx hb dX5_stands_15 rfl (lv_at hl 0 rfl) ?_
    refine va_get (D := D) (ci := 5) (v := .int v_at) (C := RX5) (T := TX5) (N := 16) hx hb hts hinX5 hown hK.1 hP 0 rfl rfl 15 (by decide) (hts (.fieldLink RX5 114 "BaselineGridModel" "at" "I") (List.mem_of_getElem? (i := 1) rfl)) (fun _ h9 => h9) rfl dX5_stands_16 ?_
    refine g_iald hx hb hK.1 hP 1 0 rfl rfl hf dX5_stands_19 (fun qx2 hf => ?_)
    refine lv_iload_n hx hb dX5_stands_20 rfl (lv_at hl 1 rfl) ?_
    refine lv_icmp_ne (tgt := 28) hx hb dX5_stands_21 (by decide) (fun hc => ?_) (fun hc => ?_)
    · replace hf := ineg hc hf
      exact J28 v_at _ _ _ hf (hP.sub (ws' := [(a_t, .inr (5, [.ref a_now, .ref a_slot, .ref a_history, .ref a_text, .ref a_lines, .ref a_owners, .ref a_many, .ref a_ends, .ref a_over, .ref a_ahead, .ref a_behind, .ref a_done, .int v_kept, .int v_length, .int v_isFilled, .int v_at])), (a_text, .inl (cI, 60, .inl v_text))]) [0, 1] rfl) (hD.sub (ws' := [(a_t, .inr (5, [.ref a_now, .ref a_slot, .ref a_history, .ref a_text, .ref a_lines, .ref a_owners, .ref a_many, .ref a_ends, .ref a_over, .ref a_ahead, .ref a_behind, .ref a_done, .int v_kept, .int v_length, .int v_isFilled, .int v_at])), (a_text, .inl (cI, 60, .inl v_text))]) [0, 1] (by decide) rfl) hS (lv_sub hl [0] rfl)
    · replace hf := ip hc hf
      refine lv_iconst (v := 1) hx hb dX5_stands_24 (by decide) ?_
      refine lv_goto (tgt := 29) hx hb dX5_stands_25 (by decide) ?_
      exact J29 1 v_at _ _ _ hf (hP.sub (ws' := [(a_t, .inr (5, [.ref a_now, .ref a_slot, .ref a_history, .ref a_text, .ref a_lines, .ref a_owners, .ref a_many, .ref a_ends, .ref a_over, .ref a_ahead, .ref a_behind, .ref a_done, .int v_kept, .int v_length, .int v_isFilled, .int v_at])), (a_text, .inl (cI, 60, .inl v_text))]) [0, 1] rfl) (hD.sub (ws' := [(a_t, .inr (5, [.ref a_now, .ref a_slot, .ref a_history, .ref a_text, .ref a_lines, .ref a_owners, .ref a_many, .ref a_ends, .ref a_over, .ref a_ahead, .ref a_behind, .ref a_done, .int v_kept, .int v_length, .int v_isFilled, .int v_at])), (a_text, .inl (cI, 60, .inl v_text))]) [0, 1] (by decide) rfl) hS (lv_sub hl [0] rfl)
def fX5_number_55 (i1 : Int32) (v_length : Int32) (v_text : Nat → Int32) : Nat → Int32 → Int32 → Option (Int32 × Int32)
  | 0 => fun _ _ => none
  | n + 1 => fun w2 v_at =>
    if v_length ≤ v_at then (some (w2, v_at)) else (aget 60 v_text v_at fun qx6 => bd (fX5_in qx6 48 57) fun qo7 => if qo7 = 0 then (some (w2, v_at)) else (aget 60 v_text v_at fun qx8 => if i1 < (((10 * w2) + qx8) - 48) then (some (w2, v_at)) else (aget 60 v_text v_at fun qx9 => nm (((10 * w2) + qx9) - 48) fun qx10 => nm (v_at + 1) fun qx11 => (fX5_number_55 i1 v_length v_text n) qx10 qx11)))
def fX5_number (i1 : Int32) (v_length : Int32) (v_at : Int32) (v_text : Nat → Int32) : Option (Int32 × Int32) :=
  if v_at = v_length then (some ((-1), v_at)) else (aget 60 v_text v_at fun qx1 => bd (fX5_in qx1 49 57) fun qo2 => if qo2 = 0 then (some ((-1), v_at)) else (aget 60 v_text v_at fun qx3 => nm (qx3 - 48) fun qx4 => nm (v_at + 1) fun qx5 => fX5_number_55 i1 v_length v_text Fu qx4 qx5))
def rX5_number : Room := { frames := 1, cells := 0, slots := 0, locals := 22 }
theorem hin_X5_number_X5 : ∀ w ∈ wsX50, w ∈ wsX5_number := fun _ h => List.mem_cons_of_mem _ (List.mem_append_right _ (h))
set_option maxHeartbeats 4000000 in
set_option maxRecDepth 100000 in
theorem k_X5_number (l : Launch) (D : va_G) (cI cC : ClassId) (a_t : Nat) (a_now : Nat) (a_slot : Nat) (a_history : Nat) (a_text : Nat) (a_lines : Nat) (a_owners : Nat) (a_many : Nat) (a_ends : Nat) (a_over : Nat) (a_ahead : Nat) (a_behind : Nat) (a_done : Nat) (i1 : Int32) (v_kept : Int32) (v_length : Int32) (v_isFilled : Int32) (v_at : Int32) (v_text : Nat → Int32) (o : Int32 × Int32) (hf : fX5_number i1 v_length v_at v_text = some o) : CTi l yX5_number wsX5_number rX5_number D cI cC [.ref a_t, .int i1] [(a_t, .inr (5, [.ref a_now, .ref a_slot, .ref a_history, .ref a_text, .ref a_lines, .ref a_owners, .ref a_many, .ref a_ends, .ref a_over, .ref a_ahead, .ref a_behind, .ref a_done, .int v_kept, .int v_length, .int v_isFilled, .int v_at])), (a_text, .inl (cI, 60, .inl v_text))] [(a_t, .inr (5, [.ref a_now, .ref a_slot, .ref a_history, .ref a_text, .ref a_lines, .ref a_owners, .ref a_many, .ref a_ends, .ref a_over, .ref a_ahead, .ref a_behind, .ref a_done, .int v_kept, .int v_length, .int v_isFilled, .int o.2])), (a_text, .inl (cI, 60, .inl v_text))] o.1 := by
  refine CTi_of (cc := cX5_number) (maxL := 3) (ty := .int) (by decide) rfl (Nat.le_of_ble_eq_true rfl) ?_
  intro p e s m args below meth c A Q ls C0 hA hP hD hl hret
  obtain ⟨hx, hb, hml, hts, hown, hK⟩ := C0
  have hown : s.vm.findClass RX5 = some m.cls := hown
  have hS : va_S A s.heap s.heap [] := va_S.rf
  have hl : lv_has ls 3 [(0, .ref a_t), (1, .int i1)] := hl
  have hinX5 := hin_X5_number_X5
  have J55 : ∀   (n : Nat) (w2 : Int32) (v_at : Int32) (H : Heap) (locs : List Loc) (ls : Array Slot), fX5_number_55 i1 v_length v_text n w2 v_at = some o → va_P D vwCl [(a_t, .inr (5, [.ref a_now, .ref a_slot, .ref a_history, .ref a_text, .ref a_lines, .ref a_owners, .ref a_many, .ref a_ends, .ref a_over, .ref a_ahead, .ref a_behind, .ref a_done, .int v_kept, .int v_length, .int v_isFilled, .int v_at])), (a_text, .inl (cI, 60, .inl v_text))] H → va_D A [(a_t, .inr (5, [.ref a_now, .ref a_slot, .ref a_history, .ref a_text, .ref a_lines, .ref a_owners, .ref a_many, .ref a_ends, .ref a_over, .ref a_ahead, .ref a_behind, .ref a_done, .int v_kept, .int v_length, .int v_isFilled, .int v_at])), (a_text, .inl (cI, 60, .inl v_text))] → va_S A s.heap H locs → lv_has ls 3 [(0, .ref a_t), (1, .int i1), (2, .int w2)] → W p l e rX5_number s m args below meth c H locs 0 0 Q (F0 m 55 ls []) := by
    intro  n
    induction n with
    | zero =>
      intro w2 v_at H locs ls hf
      have hf0 : (none : Option (Int32 × Int32)) = some o := hf
      cases hf0
    | succ n hk55 =>
      intro w2 v_at H locs ls hf hP hD hS hl
      rw [fX5_number_55] at hf
      refine lv_aload_n hx hb dX5_number_55 rfl (lv_at hl 0 rfl) ?_
      refine va_get (D := D) (ci := 5) (v := .int v_at) (C := RX5) (T := TX5) (N := 16) hx hb hts hinX5 hown hK.1 hP 0 rfl rfl 15 (by decide) (hts (.fieldLink RX5 114 "BaselineGridModel" "at" "I") (List.mem_of_getElem? (i := 1) rfl)) (fun _ h9 => h9) rfl dX5_number_56 ?_
      refine lv_aload_n hx hb dX5_number_59 rfl (lv_at hl 0 rfl) ?_
      refine va_get (D := D) (ci := 5) (v := .int v_length) (C := RX5) (T := TX5) (N := 16) hx hb hts hinX5 hown hK.1 hP 0 rfl rfl 13 (by decide) (hts (.fieldLink RX5 117 "BaselineGridModel" "length" "I") (List.mem_of_getElem? (i := 2) rfl)) (fun _ h9 => h9) rfl dX5_number_60 ?_
      refine lv_icmp_ge (tgt := 137) hx hb dX5_number_63 (by decide) (fun hc => ?_) (fun hc => ?_)
      · replace hf := ip hc hf
        refine lv_iload_n hx hb dX5_number_137 rfl (lv_at hl 2 rfl) ?_
        have ho := Option.some.inj hf
        subst ho
        exact hret dX5_number_138 rfl (hP.sub (ws' := [(a_t, .inr (5, [.ref a_now, .ref a_slot, .ref a_history, .ref a_text, .ref a_lines, .ref a_owners, .ref a_many, .ref a_ends, .ref a_over, .ref a_ahead, .ref a_behind, .ref a_done, .int v_kept, .int v_length, .int v_isFilled, .int v_at])), (a_text, .inl (cI, 60, .inl v_text))]) [0, 1] rfl) (hD.sub (ws' := [(a_t, .inr (5, [.ref a_now, .ref a_slot, .ref a_history, .ref a_text, .ref a_lines, .ref a_owners, .ref a_many, .ref a_ends, .ref a_over, .ref a_ahead, .ref a_behind, .ref a_done, .int v_kept, .int v_length, .int v_isFilled, .int v_at])), (a_text, .inl (cI, 60, .inl v_text))]) [0, 1] (by decide) rfl) hS
      · replace hf := ineg hc hf
        refine lv_aload_n hx hb dX5_number_66 rfl (lv_at hl 0 rfl) ?_
        refine va_get (D := D) (ci := 5) (v := .ref a_text) (C := RX5) (T := TX5) (N := 16) hx hb hts hinX5 hown hK.1 hP 0 rfl rfl 3 (by decide) (hts (.fieldLink RX5 19 "BaselineGridModel" "text" "[I") (List.mem_of_getElem? (i := 3) rfl)) (fun _ h9 => h9) rfl dX5_number_67 ?_
        refine lv_aload_n hx hb dX5_number_70 rfl (lv_at hl 0 rfl) ?_
        refine va_get (D := D) (ci := 5) (v := .int v_at) (C := RX5) (T := TX5) (N := 16) hx hb hts hinX5 hown hK.1 hP 0 rfl rfl 15 (by decide) (hts (.fieldLink RX5 114 "BaselineGridModel" "at" "I") (List.mem_of_getElem? (i := 1) rfl)) (fun _ h9 => h9) rfl dX5_number_71 ?_
        refine g_iald hx hb hK.1 hP 1 0 rfl rfl hf dX5_number_74 (fun qx6 hf => ?_)
        refine lv_bipush (v := 48) hx hb dX5_number_75 (by decide) ?_
        refine lv_bipush (v := 57) hx hb dX5_number_77 (by decide) ?_
        replace hf := bd_some hf
        obtain ⟨qo7, hqo7, hf⟩ := hf
        refine g_Si (As := [.int qx6, .int 48, .int 57]) (rest := []) (wr := [(a_t, .inr (5, [.ref a_now, .ref a_slot, .ref a_history, .ref a_text, .ref a_lines, .ref a_owners, .ref a_many, .ref a_ends, .ref a_over, .ref a_ahead, .ref a_behind, .ref a_done, .int v_kept, .int v_length, .int v_isFilled, .int v_at])), (a_text, .inl (cI, 60, .inl v_text))]) ⟨hx, hb, hml, hown, hts⟩ (k_X5_in l D cI cC qx6 48 57 qo7 hqo7) (va_cwS 3 hts gX5_number_X5_in rfl rfl rfl (by decide +kernel) ⟨Nat.le_of_ble_eq_true rfl, Nat.le_of_ble_eq_true rfl⟩) hK hP hD hS hA [] [0, 1] rfl rfl rfl rfl rfl (by decide) rfl hl.1 rfl (Nat.le_of_ble_eq_true rfl) dX5_number_79 (Nat.zero_le _) (Nat.zero_le _) (fun H locs hP hD hS => ?_)
        have hP : va_P D vwCl [(a_t, .inr (5, [.ref a_now, .ref a_slot, .ref a_history, .ref a_text, .ref a_lines, .ref a_owners, .ref a_many, .ref a_ends, .ref a_over, .ref a_ahead, .ref a_behind, .ref a_done, .int v_kept, .int v_length, .int v_isFilled, .int v_at])), (a_text, .inl (cI, 60, .inl v_text))] H := hP
        have hD : va_D A [(a_t, .inr (5, [.ref a_now, .ref a_slot, .ref a_history, .ref a_text, .ref a_lines, .ref a_owners, .ref a_many, .ref a_ends, .ref a_over, .ref a_ahead, .ref a_behind, .ref a_done, .int v_kept, .int v_length, .int v_isFilled, .int v_at])), (a_text, .inl (cI, 60, .inl v_text))] := hD
        refine lv_if_eq (tgt := 137) hx hb dX5_number_82 (by decide) (fun hc => ?_) (fun hc => ?_)
        · replace hf := ip hc hf
          refine lv_iload_n hx hb dX5_number_137 rfl (lv_at hl 2 rfl) ?_
          have ho := Option.some.inj hf
          subst ho
          exact hret dX5_number_138 rfl (hP.sub (ws' := [(a_t, .inr (5, [.ref a_now, .ref a_slot, .ref a_history, .ref a_text, .ref a_lines, .ref a_owners, .ref a_many, .ref a_ends, .ref a_over, .ref a_ahead, .ref a_behind, .ref a_done, .int v_kept, .int v_length, .int v_isFilled, .int v_at])), (a_text, .inl (cI, 60, .inl v_text))]) [0, 1] rfl) (hD.sub (ws' := [(a_t, .inr (5, [.ref a_now, .ref a_slot, .ref a_history, .ref a_text, .ref a_lines, .ref a_owners, .ref a_many, .ref a_ends, .ref a_over, .ref a_ahead, .ref a_behind, .ref a_done, .int v_kept, .int v_length, .int v_isFilled, .int v_at])), (a_text, .inl (cI, 60, .inl v_text))]) [0, 1] (by decide) rfl) hS
        · replace hf := ineg hc hf
          refine lv_bipush (v := 10) hx hb dX5_number_85 (by decide) ?_
          refine lv_iload_n hx hb dX5_number_87 rfl (lv_at hl 2 rfl) ?_
          refine lv_imul hx hb dX5_number_88 ?_
          refine lv_aload_n hx hb dX5_number_89 rfl (lv_at hl 0 rfl) ?_
          refine va_get (D := D) (ci := 5) (v := .ref a_text) (C := RX5) (T := TX5) (N := 16) hx hb hts hinX5 hown hK.1 hP 0 rfl rfl 3 (by decide) (hts (.fieldLink RX5 19 "BaselineGridModel" "text" "[I") (List.mem_of_getElem? (i := 3) rfl)) (fun _ h9 => h9) rfl dX5_number_90 ?_
          refine lv_aload_n hx hb dX5_number_93 rfl (lv_at hl 0 rfl) ?_
          refine va_get (D := D) (ci := 5) (v := .int v_at) (C := RX5) (T := TX5) (N := 16) hx hb hts hinX5 hown hK.1 hP 0 rfl rfl 15 (by decide) (hts (.fieldLink RX5 114 "BaselineGridModel" "at" "I") (List.mem_of_getElem? (i := 1) rfl)) (fun _ h9 => h9) rfl dX5_number_94 ?_
          refine g_iald hx hb hK.1 hP 1 0 rfl rfl hf dX5_number_97 (fun qx8 hf => ?_)
          refine lv_iadd hx hb dX5_number_98 ?_
          refine lv_bipush (v := 48) hx hb dX5_number_99 (by decide) ?_
          refine lv_isub hx hb dX5_number_101 ?_
          refine lv_iload_n hx hb dX5_number_102 rfl (lv_at hl 1 rfl) ?_
          refine lv_icmp_gt (tgt := 137) hx hb dX5_number_103 (by decide) (fun hc => ?_) (fun hc => ?_)
          · replace hf := ip hc hf
            refine lv_iload_n hx hb dX5_number_137 rfl (lv_at hl 2 rfl) ?_
            have ho := Option.some.inj hf
            subst ho
            exact hret dX5_number_138 rfl (hP.sub (ws' := [(a_t, .inr (5, [.ref a_now, .ref a_slot, .ref a_history, .ref a_text, .ref a_lines, .ref a_owners, .ref a_many, .ref a_ends, .ref a_over, .ref a_ahead, .ref a_behind, .ref a_done, .int v_kept, .int v_length, .int v_isFilled, .int v_at])), (a_text, .inl (cI, 60, .inl v_text))]) [0, 1] rfl) (hD.sub (ws' := [(a_t, .inr (5, [.ref a_now, .ref a_slot, .ref a_history, .ref a_text, .ref a_lines, .ref a_owners, .ref a_many, .ref a_ends, .ref a_over, .ref a_ahead, .ref a_behind, .ref a_done, .int v_kept, .int v_length, .int v_isFilled, .int v_at])), (a_text, .inl (cI, 60, .inl v_text))]) [0, 1] (by decide) rfl) hS
          · replace hf := ineg hc hf
            refine lv_bipush (v := 10) hx hb dX5_number_106 (by decide) ?_
            refine lv_iload_n hx hb dX5_number_108 rfl (lv_at hl 2 rfl) ?_
            refine lv_imul hx hb dX5_number_109 ?_
            refine lv_aload_n hx hb dX5_number_110 rfl (lv_at hl 0 rfl) ?_
            refine va_get (D := D) (ci := 5) (v := .ref a_text) (C := RX5) (T := TX5) (N := 16) hx hb hts hinX5 hown hK.1 hP 0 rfl rfl 3 (by decide) (hts (.fieldLink RX5 19 "BaselineGridModel" "text" "[I") (List.mem_of_getElem? (i := 3) rfl)) (fun _ h9 => h9) rfl dX5_number_111 ?_
            refine lv_aload_n hx hb dX5_number_114 rfl (lv_at hl 0 rfl) ?_
            refine va_get (D := D) (ci := 5) (v := .int v_at) (C := RX5) (T := TX5) (N := 16) hx hb hts hinX5 hown hK.1 hP 0 rfl rfl 15 (by decide) (hts (.fieldLink RX5 114 "BaselineGridModel" "at" "I") (List.mem_of_getElem? (i := 1) rfl)) (fun _ h9 => h9) rfl dX5_number_115 ?_
            refine g_iald hx hb hK.1 hP 1 0 rfl rfl hf dX5_number_118 (fun qx9 hf => ?_)
            refine lv_iadd hx hb dX5_number_119 ?_
            refine lv_bipush (v := 48) hx hb dX5_number_120 (by decide) ?_
            refine lv_isub hx hb dX5_number_122 ?_
            refine g_nm hf (fun qx10 hf => ?_)
            refine lv_istore_n (lv' := [(2, .int qx10), (0, .ref a_t), (1, .int i1)]) hx hb dX5_number_123 rfl hl (by decide) rfl (fun ls hl => ?_)
            refine lv_aload_n hx hb dX5_number_124 rfl (lv_at hl 1 rfl) ?_
            refine lv_dup hx hb dX5_number_125 rfl ?_
            refine va_get (D := D) (ci := 5) (v := .int v_at) (C := RX5) (T := TX5) (N := 16) hx hb hts hinX5 hown hK.1 hP 0 rfl rfl 15 (by decide) (hts (.fieldLink RX5 114 "BaselineGridModel" "at" "I") (List.mem_of_getElem? (i := 1) rfl)) (fun _ h9 => h9) rfl dX5_number_126 ?_
            refine lv_iconst (v := 1) hx hb dX5_number_129 (by decide) ?_
            refine lv_iadd hx hb dX5_number_130 ?_
            refine g_nm hf (fun qx11 hf => ?_)
            refine va_put (D := D) (ci := 5) (v := .int qx11) (ty := .int) (C := RX5) (T := TX5) (N := 16) hx hb hts hinX5 tyX5 tyX5_ok nmX5 hown hK.1 hP hD hS 0 rfl rfl 15 (by decide) (hts (.fieldLink RX5 114 "BaselineGridModel" "at" "I") (List.mem_of_getElem? (i := 1) rfl)) (fun _ h9 => h9) rfl (by decide +kernel) rfl rfl (Nat.le_of_ble_eq_true rfl) dX5_number_131 (fun H locs hP hD hS => ?_)
            have hP : va_P D vwCl [(a_t, .inr (5, [.ref a_now, .ref a_slot, .ref a_history, .ref a_text, .ref a_lines, .ref a_owners, .ref a_many, .ref a_ends, .ref a_over, .ref a_ahead, .ref a_behind, .ref a_done, .int v_kept, .int v_length, .int v_isFilled, .int qx11])), (a_text, .inl (cI, 60, .inl v_text))] H := hP
            have hD : va_D A [(a_t, .inr (5, [.ref a_now, .ref a_slot, .ref a_history, .ref a_text, .ref a_lines, .ref a_owners, .ref a_many, .ref a_ends, .ref a_over, .ref a_ahead, .ref a_behind, .ref a_done, .int v_kept, .int v_length, .int v_isFilled, .int qx11])), (a_text, .inl (cI, 60, .inl v_text))] := hD
            refine lv_goto (tgt := 55) hx hb dX5_number_134 (by decide) ?_
            exact hk55 qx10 qx11 _ _ _ hf (hP.sub (ws' := [(a_t, .inr (5, [.ref a_now, .ref a_slot, .ref a_history, .ref a_text, .ref a_lines, .ref a_owners, .ref a_many, .ref a_ends, .ref a_over, .ref a_ahead, .ref a_behind, .ref a_done, .int v_kept, .int v_length, .int v_isFilled, .int qx11])), (a_text, .inl (cI, 60, .inl v_text))]) [0, 1] rfl) (hD.sub (ws' := [(a_t, .inr (5, [.ref a_now, .ref a_slot, .ref a_history, .ref a_text, .ref a_lines, .ref a_owners, .ref a_many, .ref a_ends, .ref a_over, .ref a_ahead, .ref a_behind, .ref a_done, .int v_kept, .int v_length, .int v_isFilled, .int qx11])), (a_text, .inl (cI, 60, .inl v_text))]) [0, 1] (by decide) rfl) hS (lv_sub hl [1, 2, 0] rfl)
  unfold fX5_number at hf
  refine lv_aload_n hx hb dX5_number_0 rfl (lv_at hl 0 rfl) ?_
  refine va_get (D := D) (ci := 5) (v := .int v_at) (C := RX5) (T := TX5) (N := 16) hx hb hts hinX5 hown hK.1 hP 0 rfl rfl 15 (by decide) (hts (.fieldLink RX5 114 "BaselineGridModel" "at" "I") (List.mem_of_getElem? (i := 1) rfl)) (fun _ h9 => h9) rfl dX5_number_1 ?_
  refine lv_aload_n hx hb dX5_number_4 rfl (lv_at hl 0 rfl) ?_
  refine va_get (D := D) (ci := 5) (v := .int v_length) (C := RX5) (T := TX5) (N := 16) hx hb hts hinX5 hown hK.1 hP 0 rfl rfl 13 (by decide) (hts (.fieldLink RX5 117 "BaselineGridModel" "length" "I") (List.mem_of_getElem? (i := 2) rfl)) (fun _ h9 => h9) rfl dX5_number_5 ?_
  refine lv_icmp_eq (tgt := 30) hx hb dX5_number_8 (by decide) (fun hc => ?_) (fun hc => ?_)
  · replace hf := ip hc hf
    refine lv_iconst (v := (-1)) hx hb dX5_number_30 (by decide) ?_
    have ho := Option.some.inj hf
    subst ho
    exact hret dX5_number_31 rfl (hP.sub (ws' := [(a_t, .inr (5, [.ref a_now, .ref a_slot, .ref a_history, .ref a_text, .ref a_lines, .ref a_owners, .ref a_many, .ref a_ends, .ref a_over, .ref a_ahead, .ref a_behind, .ref a_done, .int v_kept, .int v_length, .int v_isFilled, .int v_at])), (a_text, .inl (cI, 60, .inl v_text))]) [0, 1] rfl) (hD.sub (ws' := [(a_t, .inr (5, [.ref a_now, .ref a_slot, .ref a_history, .ref a_text, .ref a_lines, .ref a_owners, .ref a_many, .ref a_ends, .ref a_over, .ref a_ahead, .ref a_behind, .ref a_done, .int v_kept, .int v_length, .int v_isFilled, .int v_at])), (a_text, .inl (cI, 60, .inl v_text))]) [0, 1] (by decide) rfl) hS
  · replace hf := ineg hc hf
    refine lv_aload_n hx hb dX5_number_11 rfl (lv_at hl 0 rfl) ?_
    refine va_get (D := D) (ci := 5) (v := .ref a_text) (C := RX5) (T := TX5) (N := 16) hx hb hts hinX5 hown hK.1 hP 0 rfl rfl 3 (by decide) (hts (.fieldLink RX5 19 "BaselineGridModel" "text" "[I") (List.mem_of_getElem? (i := 3) rfl)) (fun _ h9 => h9) rfl dX5_number_12 ?_
    refine lv_aload_n hx hb dX5_number_15 rfl (lv_at hl 0 rfl) ?_
    refine va_get (D := D) (ci := 5) (v := .int v_at) (C := RX5) (T := TX5) (N := 16) hx hb hts hinX5 hown hK.1 hP 0 rfl rfl 15 (by decide) (hts (.fieldLink RX5 114 "BaselineGridModel" "at" "I") (List.mem_of_getElem? (i := 1) rfl)) (fun _ h9 => h9) rfl dX5_number_16 ?_
    refine g_iald hx hb hK.1 hP 1 0 rfl rfl hf dX5_number_19 (fun qx1 hf => ?_)
    refine lv_bipush (v := 49) hx hb dX5_number_20 (by decide) ?_
    refine lv_bipush (v := 57) hx hb dX5_number_22 (by decide) ?_
    replace hf := bd_some hf
    obtain ⟨qo2, hqo2, hf⟩ := hf
    refine g_Si (As := [.int qx1, .int 49, .int 57]) (rest := []) (wr := [(a_t, .inr (5, [.ref a_now, .ref a_slot, .ref a_history, .ref a_text, .ref a_lines, .ref a_owners, .ref a_many, .ref a_ends, .ref a_over, .ref a_ahead, .ref a_behind, .ref a_done, .int v_kept, .int v_length, .int v_isFilled, .int v_at])), (a_text, .inl (cI, 60, .inl v_text))]) ⟨hx, hb, hml, hown, hts⟩ (k_X5_in l D cI cC qx1 49 57 qo2 hqo2) (va_cwS 3 hts gX5_number_X5_in rfl rfl rfl (by decide +kernel) ⟨Nat.le_of_ble_eq_true rfl, Nat.le_of_ble_eq_true rfl⟩) hK hP hD hS hA [] [0, 1] rfl rfl rfl rfl rfl (by decide) rfl hl.1 rfl (Nat.le_of_ble_eq_true rfl) dX5_number_24 (Nat.zero_le _) (Nat.zero_le _) (fun H locs hP hD hS => ?_)
    have hP : va_P D vwCl [(a_t, .inr (5, [.ref a_now, .ref a_slot, .ref a_history, .ref a_text, .ref a_lines, .ref a_owners, .ref a_many, .ref a_ends, .ref a_over, .ref a_ahead, .ref a_behind, .ref a_done, .int v_kept, .int v_length, .int v_isFilled, .int v_at])), (a_text, .inl (cI, 60, .inl v_text))] H := hP
    have hD : va_D A [(a_t, .inr (5, [.ref a_now, .ref a_slot, .ref a_history, .ref a_text, .ref a_lines, .ref a_owners, .ref a_many, .ref a_ends, .ref a_over, .ref a_ahead, .ref a_behind, .ref a_done, .int v_kept, .int v_length, .int v_isFilled, .int v_at])), (a_text, .inl (cI, 60, .inl v_text))] := hD
    refine lv_if_ne (tgt := 32) hx hb dX5_number_27 (by decide) (fun hc => ?_) (fun hc => ?_)
    · replace hf := ineg hc hf
      refine lv_aload_n hx hb dX5_number_32 rfl (lv_at hl 0 rfl) ?_
      refine va_get (D := D) (ci := 5) (v := .ref a_text) (C := RX5) (T := TX5) (N := 16) hx hb hts hinX5 hown hK.1 hP 0 rfl rfl 3 (by decide) (hts (.fieldLink RX5 19 "BaselineGridModel" "text" "[I") (List.mem_of_getElem? (i := 3) rfl)) (fun _ h9 => h9) rfl dX5_number_33 ?_
      refine lv_aload_n hx hb dX5_number_36 rfl (lv_at hl 0 rfl) ?_
      refine va_get (D := D) (ci := 5) (v := .int v_at) (C := RX5) (T := TX5) (N := 16) hx hb hts hinX5 hown hK.1 hP 0 rfl rfl 15 (by decide) (hts (.fieldLink RX5 114 "BaselineGridModel" "at" "I") (List.mem_of_getElem? (i := 1) rfl)) (fun _ h9 => h9) rfl dX5_number_37 ?_
      refine g_iald hx hb hK.1 hP 1 0 rfl rfl hf dX5_number_40 (fun qx3 hf => ?_)
      refine lv_bipush (v := 48) hx hb dX5_number_41 (by decide) ?_
      refine lv_isub hx hb dX5_number_43 ?_
      refine g_nm hf (fun qx4 hf => ?_)
      refine lv_istore_n (lv' := [(2, .int qx4), (0, .ref a_t), (1, .int i1)]) hx hb dX5_number_44 rfl hl (by decide) rfl (fun ls hl => ?_)
      refine lv_aload_n hx hb dX5_number_45 rfl (lv_at hl 1 rfl) ?_
      refine lv_dup hx hb dX5_number_46 rfl ?_
      refine va_get (D := D) (ci := 5) (v := .int v_at) (C := RX5) (T := TX5) (N := 16) hx hb hts hinX5 hown hK.1 hP 0 rfl rfl 15 (by decide) (hts (.fieldLink RX5 114 "BaselineGridModel" "at" "I") (List.mem_of_getElem? (i := 1) rfl)) (fun _ h9 => h9) rfl dX5_number_47 ?_
      refine lv_iconst (v := 1) hx hb dX5_number_50 (by decide) ?_
      refine lv_iadd hx hb dX5_number_51 ?_
      refine g_nm hf (fun qx5 hf => ?_)
      refine va_put (D := D) (ci := 5) (v := .int qx5) (ty := .int) (C := RX5) (T := TX5) (N := 16) hx hb hts hinX5 tyX5 tyX5_ok nmX5 hown hK.1 hP hD hS 0 rfl rfl 15 (by decide) (hts (.fieldLink RX5 114 "BaselineGridModel" "at" "I") (List.mem_of_getElem? (i := 1) rfl)) (fun _ h9 => h9) rfl (by decide +kernel) rfl rfl (Nat.le_of_ble_eq_true rfl) dX5_number_52 (fun H locs hP hD hS => ?_)
      have hP : va_P D vwCl [(a_t, .inr (5, [.ref a_now, .ref a_slot, .ref a_history, .ref a_text, .ref a_lines, .ref a_owners, .ref a_many, .ref a_ends, .ref a_over, .ref a_ahead, .ref a_behind, .ref a_done, .int v_kept, .int v_length, .int v_isFilled, .int qx5])), (a_text, .inl (cI, 60, .inl v_text))] H := hP
      have hD : va_D A [(a_t, .inr (5, [.ref a_now, .ref a_slot, .ref a_history, .ref a_text, .ref a_lines, .ref a_owners, .ref a_many, .ref a_ends, .ref a_over, .ref a_ahead, .ref a_behind, .ref a_done, .int v_kept, .int v_length, .int v_isFilled, .int qx5])), (a_text, .inl (cI, 60, .inl v_text))] := hD
      exact J55 Fu qx4 qx5 _ _ _ hf (hP.sub (ws' := [(a_t, .inr (5, [.ref a_now, .ref a_slot, .ref a_history, .ref a_text, .ref a_lines, .ref a_owners, .ref a_many, .ref a_ends, .ref a_over, .ref a_ahead, .ref a_behind, .ref a_done, .int v_kept, .int v_length, .int v_isFilled, .int qx5])), (a_text, .inl (cI, 60, .inl v_text))]) [0, 1] rfl) (hD.sub (ws' := [(a_t, .inr (5, [.ref a_now, .ref a_slot, .ref a_history, .ref a_text, .ref a_lines, .ref a_owners, .ref a_many, .ref a_ends, .ref a_over, .ref a_ahead, .ref a_behind, .ref a_done, .int v_kept, .int v_length, .int v_isFilled, .int qx5])), (a_text, .inl (cI, 60, .inl v_text))]) [0, 1] (by decide) rfl) hS (lv_sub hl [1, 2, 0] rfl)
    · replace hf := ip hc hf
      refine lv_iconst (v := (-1)) hx hb dX5_number_30 (by decide) ?_
      have ho := Option.some.inj hf
      subst ho
      exact hret dX5_number_31 rfl (hP.sub (ws' := [(a_t, .inr (5, [.ref a_now, .ref a_slot, .ref a_history, .ref a_text, .ref a_lines, .ref a_owners, .ref a_many, .ref a_ends, .ref a_over, .ref a_ahead, .ref a_behind, .ref a_done, .int v_kept, .int v_length, .int v_isFilled, .int v_at])), (a_text, .inl (cI, 60, .inl v_text))]) [0, 1] rfl) (hD.sub (ws' := [(a_t, .inr (5, [.ref a_now, .ref a_slot, .ref a_history, .ref a_text, .ref a_lines, .ref a_owners, .ref a_many, .ref a_ends, .ref a_over, .ref a_ahead, .ref a_behind, .ref a_done, .int v_kept, .int v_length, .int v_isFilled, .int v_at])), (a_text, .inl (cI, 60, .inl v_text))]) [0, 1] (by decide) rfl) hS
def fX5_reads_62 (w4 : Int32) (s0 : Int32) (v_at : Int32) (v_now : Nat → Int32) : Option (Int32 × Int32 × (Nat → Int32)) :=
    if 0 ≤ w4 then (some (0, v_at, v_now)) else (some ((-100), v_at, v_now))
def fX5_reads_61 (w4 : Int32) (v_at : Int32) (v_now : Nat → Int32) : Option (Int32 × Int32 × (Nat → Int32)) :=
    fX5_reads_62 w4 0 v_at v_now
def fX5_reads_49 (w4 : Int32) (s1 : Int32) (s2 : Int32) (v_at : Int32) (v_now : Nat → Int32) : Option (Int32 × Int32 × (Nat → Int32)) :=
    bd (fX5_puts s1 s2 0 0 0 0 w4 v_now) fun qo3 => fX5_reads_62 w4 qo3.1 v_at qo3.2
def fX5_reads_20 (i1 : Int32) (i2 : Int32) (v_length : Int32) (v_text : Nat → Int32) (w3 : Int32) (v_at : Int32) (v_now : Nat → Int32) : Option (Int32 × Int32 × (Nat → Int32)) :=
    bd (fX5_number 3000 v_length v_at v_text) fun qo2 => if qo2.1 ≤ 0 then (fX5_reads_61 qo2.1 qo2.2 v_now) else (if i2 = 0 then (fX5_reads_61 qo2.1 qo2.2 v_now) else (if w3 = 0 then (fX5_reads_49 qo2.1 i1 2 qo2.2 v_now) else (fX5_reads_49 qo2.1 i1 1 qo2.2 v_now)))
def fX5_reads_196 (w5 : Int32) (w6 : Int32) (s0 : Int32) (v_at : Int32) (v_now : Nat → Int32) : Option (Int32 × Int32 × (Nat → Int32)) :=
    if w5 < 40 then (some ((-2), v_at, v_now)) else (if w5 ≤ w6 then (some (0, v_at, v_now)) else (some ((-2), v_at, v_now)))
def fX5_reads_171 (i1 : Int32) (i2 : Int32) (w4 : Int32) (w5 : Int32) (w6 : Int32) (s0 : Int32) (v_at : Int32) (v_now : Nat → Int32) : Option (Int32 × Int32 × (Nat → Int32)) :=
    if i2 = 0 then (fX5_reads_196 w5 w6 0 v_at v_now) else (bd (fX5_puts i1 0 w4 w5 w6 s0 0 v_now) fun qo11 => fX5_reads_196 w5 w6 qo11.1 v_at qo11.2)
def fX5_reads_95 (i1 : Int32) (i2 : Int32) (v_length : Int32) (v_text : Nat → Int32) (s0 : Int32) (v_at : Int32) (v_now : Nat → Int32) : Option (Int32 × Int32 × (Nat → Int32)) :=
    if s0 < 0 then (some ((-100), v_at, v_now)) else (bd (fX5_stands 42 v_length v_at v_text) fun qo6 => if qo6.1 = 0 then (some ((-100), qo6.2, v_now)) else (bd (fX5_number 400 v_length qo6.2 v_text) fun qo7 => if qo7.1 < 0 then (some ((-100), qo7.2, v_now)) else (bd (fX5_stands 47 v_length qo7.2 v_text) fun qo8 => if qo8.1 = 0 then (some ((-100), qo8.2, v_now)) else (bd (fX5_number 600 v_length qo8.2 v_text) fun qo9 => if 0 ≤ qo9.1 then (bd (fX5_stands 33 v_length qo9.2 v_text) fun qo10 => if qo10.1 = 0 then (fX5_reads_171 i1 i2 s0 qo7.1 qo9.1 0 qo10.2 v_now) else (fX5_reads_171 i1 i2 s0 qo7.1 qo9.1 1 qo10.2 v_now)) else (some ((-100), qo9.2, v_now))))))
def fX5_reads (i1 : Int32) (i2 : Int32) (v_length : Int32) (v_at : Int32) (v_now : Nat → Int32) (v_text : Nat → Int32) : Option (Int32 × Int32 × (Nat → Int32)) :=
  bd (fX5_stands 105 v_length v_at v_text) fun qo1 => if qo1.1 = 0 then (bd (fX5_stands 115 v_length qo1.2 v_text) fun qo4 => if qo4.1 = 0 then (bd (fX5_stands 112 v_length qo4.2 v_text) fun qo5 => if qo5.1 = 0 then (fX5_reads_95 i1 i2 v_length v_text ((-1)) qo5.2 v_now) else (bd (fX5_number 40 v_length qo5.2 v_text) fun qo12 => fX5_reads_95 i1 i2 v_length v_text qo12.1 qo12.2 v_now)) else (fX5_reads_20 i1 i2 v_length v_text qo1.1 qo4.2 v_now)) else (fX5_reads_20 i1 i2 v_length v_text qo1.1 qo1.2 v_now)
def rX5_reads : Room := { frames := 2, cells := 0, slots := 0, locals := 51 }
set_option maxHeartbeats 4000000 in
set_option maxRecDepth 100000 in
theorem k_X5_reads (l : Launch) (D : va_G) (cI cC : ClassId) (a_t : Nat) (a_now : Nat) (a_slot : Nat) (a_history : Nat) (a_text : Nat) (a_lines : Nat) (a_owners : Nat) (a_many : Nat) (a_ends : Nat) (a_over : Nat) (a_ahead : Nat) (a_behind : Nat) (a_done : Nat) (i1 : Int32) (i2 : Int32) (v_kept : Int32) (v_length : Int32) (v_isFilled : Int32) (v_at : Int32) (v_now : Nat → Int32) (v_text : Nat → Int32) (o : Int32 × Int32 × (Nat → Int32)) (hf : fX5_reads i1 i2 v_length v_at v_now v_text = some o) : CTi l yX5_reads wsX5_reads rX5_reads D cI cC [.ref a_t, .int i1, .int i2] [(a_t, .inr (5, [.ref a_now, .ref a_slot, .ref a_history, .ref a_text, .ref a_lines, .ref a_owners, .ref a_many, .ref a_ends, .ref a_over, .ref a_ahead, .ref a_behind, .ref a_done, .int v_kept, .int v_length, .int v_isFilled, .int v_at])), (a_now, .inl (cI, 393, .inl v_now)), (a_text, .inl (cI, 60, .inl v_text))] [(a_t, .inr (5, [.ref a_now, .ref a_slot, .ref a_history, .ref a_text, .ref a_lines, .ref a_owners, .ref a_many, .ref a_ends, .ref a_over, .ref a_ahead, .ref a_behind, .ref a_done, .int v_kept, .int v_length, .int v_isFilled, .int o.2.1])), (a_now, .inl (cI, 393, .inl o.2.2)), (a_text, .inl (cI, 60, .inl v_text))] o.1 := by
  refine CTi_of (cc := cX5_reads) (maxL := 9) (ty := .int) (by decide) rfl (Nat.le_of_ble_eq_true rfl) ?_
  intro p e s m args below meth c A Q ls C0 hA hP hD hl hret
  obtain ⟨hx, hb, hml, hts, hown, hK⟩ := C0
  have hown : s.vm.findClass RX5 = some m.cls := hown
  have hS : va_S A s.heap s.heap [] := va_S.rf
  have hl : lv_has ls 9 [(0, .ref a_t), (1, .int i1), (2, .int i2)] := hl
  have J62 : ∀ (w4 : Int32) (s0 : Int32) (v_at : Int32) (v_now : Nat → Int32)  (H : Heap) (locs : List Loc) (ls : Array Slot), fX5_reads_62 w4 s0 v_at v_now = some o → va_P D vwCl [(a_t, .inr (5, [.ref a_now, .ref a_slot, .ref a_history, .ref a_text, .ref a_lines, .ref a_owners, .ref a_many, .ref a_ends, .ref a_over, .ref a_ahead, .ref a_behind, .ref a_done, .int v_kept, .int v_length, .int v_isFilled, .int v_at])), (a_now, .inl (cI, 393, .inl v_now)), (a_text, .inl (cI, 60, .inl v_text))] H → va_D A [(a_t, .inr (5, [.ref a_now, .ref a_slot, .ref a_history, .ref a_text, .ref a_lines, .ref a_owners, .ref a_many, .ref a_ends, .ref a_over, .ref a_ahead, .ref a_behind, .ref a_done, .int v_kept, .int v_length, .int v_isFilled, .int v_at])), (a_now, .inl (cI, 393, .inl v_now)), (a_text, .inl (cI, 60, .inl v_text))] → va_S A s.heap H locs → lv_has ls 9 [(4, .int w4)] → W p l e rX5_reads s m args below meth c H locs 0 0 Q (F0 m 62 ls [.int s0]) := by
    intro w4 s0 v_at v_now H locs ls hf hP hD hS hl
    unfold fX5_reads_62 at hf
    refine lv_istore (lv' := [(5, .int s0), (4, .int w4)]) hx hb dX5_reads_62 hl (by decide) rfl (fun ls hl => ?_)
    refine lv_iload hx hb dX5_reads_64 (lv_at hl 1 rfl) ?_
    refine lv_if_ge (tgt := 74) hx hb dX5_reads_66 (by decide) (fun hc => ?_) (fun hc => ?_)
    · replace hf := ip hc hf
      refine lv_iconst (v := 0) hx hb dX5_reads_74 (by decide) ?_
      have ho := Option.some.inj hf
      subst ho
      exact hret dX5_reads_75 rfl (hP.sub (ws' := [(a_t, .inr (5, [.ref a_now, .ref a_slot, .ref a_history, .ref a_text, .ref a_lines, .ref a_owners, .ref a_many, .ref a_ends, .ref a_over, .ref a_ahead, .ref a_behind, .ref a_done, .int v_kept, .int v_length, .int v_isFilled, .int v_at])), (a_now, .inl (cI, 393, .inl v_now)), (a_text, .inl (cI, 60, .inl v_text))]) [0, 1, 2] rfl) (hD.sub (ws' := [(a_t, .inr (5, [.ref a_now, .ref a_slot, .ref a_history, .ref a_text, .ref a_lines, .ref a_owners, .ref a_many, .ref a_ends, .ref a_over, .ref a_ahead, .ref a_behind, .ref a_done, .int v_kept, .int v_length, .int v_isFilled, .int v_at])), (a_now, .inl (cI, 393, .inl v_now)), (a_text, .inl (cI, 60, .inl v_text))]) [0, 1, 2] (by decide) rfl) hS
    · replace hf := ineg hc hf
      refine lv_bipush (v := (-100)) hx hb dX5_reads_69 (by decide) ?_
      refine lv_goto (tgt := 75) hx hb dX5_reads_71 (by decide) ?_
      have ho := Option.some.inj hf
      subst ho
      exact hret dX5_reads_75 rfl (hP.sub (ws' := [(a_t, .inr (5, [.ref a_now, .ref a_slot, .ref a_history, .ref a_text, .ref a_lines, .ref a_owners, .ref a_many, .ref a_ends, .ref a_over, .ref a_ahead, .ref a_behind, .ref a_done, .int v_kept, .int v_length, .int v_isFilled, .int v_at])), (a_now, .inl (cI, 393, .inl v_now)), (a_text, .inl (cI, 60, .inl v_text))]) [0, 1, 2] rfl) (hD.sub (ws' := [(a_t, .inr (5, [.ref a_now, .ref a_slot, .ref a_history, .ref a_text, .ref a_lines, .ref a_owners, .ref a_many, .ref a_ends, .ref a_over, .ref a_ahead, .ref a_behind, .ref a_done, .int v_kept, .int v_length, .int v_isFilled, .int v_at])), (a_now, .inl (cI, 393, .inl v_now)), (a_text, .inl (cI, 60, .inl v_text))]) [0, 1, 2] (by decide) rfl) hS
  have J61 : ∀ (w4 : Int32) (v_at : Int32) (v_now : Nat → Int32)  (H : Heap) (locs : List Loc) (ls : Array Slot), fX5_reads_61 w4 v_at v_now = some o → va_P D vwCl [(a_t, .inr (5, [.ref a_now, .ref a_slot, .ref a_history, .ref a_text, .ref a_lines, .ref a_owners, .ref a_many, .ref a_ends, .ref a_over, .ref a_ahead, .ref a_behind, .ref a_done, .int v_kept, .int v_length, .int v_isFilled, .int v_at])), (a_now, .inl (cI, 393, .inl v_now)), (a_text, .inl (cI, 60, .inl v_text))] H → va_D A [(a_t, .inr (5, [.ref a_now, .ref a_slot, .ref a_history, .ref a_text, .ref a_lines, .ref a_owners, .ref a_many, .ref a_ends, .ref a_over, .ref a_ahead, .ref a_behind, .ref a_done, .int v_kept, .int v_length, .int v_isFilled, .int v_at])), (a_now, .inl (cI, 393, .inl v_now)), (a_text, .inl (cI, 60, .inl v_text))] → va_S A s.heap H locs → lv_has ls 9 [(4, .int w4)] → W p l e rX5_reads s m args below meth c H locs 0 0 Q (F0 m 61 ls []) := by
    intro w4 v_at v_now H locs ls hf hP hD hS hl
    unfold fX5_reads_61 at hf
    refine lv_iconst (v := 0) hx hb dX5_reads_61 (by decide) ?_
    exact J62 w4 0 v_at v_now _ _ _ hf (hP.sub (ws' := [(a_t, .inr (5, [.ref a_now, .ref a_slot, .ref a_history, .ref a_text, .ref a_lines, .ref a_owners, .ref a_many, .ref a_ends, .ref a_over, .ref a_ahead, .ref a_behind, .ref a_done, .int v_kept, .int v_length, .int v_isFilled, .int v_at])), (a_now, .inl (cI, 393, .inl v_now)), (a_text, .inl (cI, 60, .inl v_text))]) [0, 1, 2] rfl) (hD.sub (ws' := [(a_t, .inr (5, [.ref a_now, .ref a_slot, .ref a_history, .ref a_text, .ref a_lines, .ref a_owners, .ref a_many, .ref a_ends, .ref a_over, .ref a_ahead, .ref a_behind, .ref a_done, .int v_kept, .int v_length, .int v_isFilled, .int v_at])), (a_now, .inl (cI, 393, .inl v_now)), (a_text, .inl (cI, 60, .inl v_text))]) [0, 1, 2] (by decide) rfl) hS (lv_sub hl [0] rfl)
  have J49 : ∀ (w4 : Int32) (s1 : Int32) (s2 : Int32) (v_at : Int32) (v_now : Nat → Int32)  (H : Heap) (locs : List Loc) (ls : Array Slot), fX5_reads_49 w4 s1 s2 v_at v_now = some o → va_P D vwCl [(a_t, .inr (5, [.ref a_now, .ref a_slot, .ref a_history, .ref a_text, .ref a_lines, .ref a_owners, .ref a_many, .ref a_ends, .ref a_over, .ref a_ahead, .ref a_behind, .ref a_done, .int v_kept, .int v_length, .int v_isFilled, .int v_at])), (a_now, .inl (cI, 393, .inl v_now)), (a_text, .inl (cI, 60, .inl v_text))] H → va_D A [(a_t, .inr (5, [.ref a_now, .ref a_slot, .ref a_history, .ref a_text, .ref a_lines, .ref a_owners, .ref a_many, .ref a_ends, .ref a_over, .ref a_ahead, .ref a_behind, .ref a_done, .int v_kept, .int v_length, .int v_isFilled, .int v_at])), (a_now, .inl (cI, 393, .inl v_now)), (a_text, .inl (cI, 60, .inl v_text))] → va_S A s.heap H locs → lv_has ls 9 [(4, .int w4)] → W p l e rX5_reads s m args below meth c H locs 0 0 Q (F0 m 49 ls [.int s2, .int s1, .ref a_t]) := by
    intro w4 s1 s2 v_at v_now H locs ls hf hP hD hS hl
    unfold fX5_reads_49 at hf
    refine lv_iconst (v := 0) hx hb dX5_reads_49 (by decide) ?_
    refine lv_iconst (v := 0) hx hb dX5_reads_50 (by decide) ?_
    refine lv_iconst (v := 0) hx hb dX5_reads_51 (by decide) ?_
    refine lv_iconst (v := 0) hx hb dX5_reads_52 (by decide) ?_
    refine lv_iload hx hb dX5_reads_53 (lv_at hl 0 rfl) ?_
    replace hf := bd_some hf
    obtain ⟨qo3, hqo3, hf⟩ := hf
    refine g_Vi (As := [.int s1, .int s2, .int 0, .int 0, .int 0, .int 0, .int w4]) (rest := []) (wr := [(a_text, .inl (cI, 60, .inl v_text))]) ⟨hx, hb, hml, hown, hts⟩ (k_X5_puts l D cI cC a_t a_now a_slot a_history a_text a_lines a_owners a_many a_ends a_over a_ahead a_behind a_done s1 s2 0 0 0 0 w4 v_kept v_length v_isFilled v_at v_now qo3 hqo3) (cwV 7 hts gX5_reads_X5_puts rfl rfl rfl (by decide +kernel) ⟨Nat.le_of_ble_eq_true rfl, Nat.le_of_ble_eq_true rfl⟩) hK hP hD hS hA 5 0 rfl rfl rfl [0, 1] [2] rfl rfl rfl rfl rfl (by decide) rfl hl.1 rfl (Nat.le_of_ble_eq_true rfl) dX5_reads_55 (Nat.zero_le _) (Nat.zero_le _) (fun H locs hP hD hS => ?_)
    have hP : va_P D vwCl [(a_text, .inl (cI, 60, .inl v_text)), (a_t, .inr (5, [.ref a_now, .ref a_slot, .ref a_history, .ref a_text, .ref a_lines, .ref a_owners, .ref a_many, .ref a_ends, .ref a_over, .ref a_ahead, .ref a_behind, .ref a_done, .int v_kept, .int v_length, .int v_isFilled, .int v_at])), (a_now, .inl (cI, 393, .inl qo3.2))] H := hP
    have hD : va_D A [(a_text, .inl (cI, 60, .inl v_text)), (a_t, .inr (5, [.ref a_now, .ref a_slot, .ref a_history, .ref a_text, .ref a_lines, .ref a_owners, .ref a_many, .ref a_ends, .ref a_over, .ref a_ahead, .ref a_behind, .ref a_done, .int v_kept, .int v_length, .int v_isFilled, .int v_at])), (a_now, .inl (cI, 393, .inl qo3.2))] := hD
    refine lv_goto (tgt := 62) hx hb dX5_reads_58 (by decide) ?_
    exact J62 w4 qo3.1 v_at qo3.2 _ _ _ hf (hP.sub (ws' := [(a_t, .inr (5, [.ref a_now, .ref a_slot, .ref a_history, .ref a_text, .ref a_lines, .ref a_owners, .ref a_many, .ref a_ends, .ref a_over, .ref a_ahead, .ref a_behind, .ref a_done, .int v_kept, .int v_length, .int v_isFilled, .int v_at])), (a_now, .inl (cI, 393, .inl qo3.2)), (a_text, .inl (cI, 60, .inl v_text))]) [1, 2, 0] rfl) (hD.sub (ws' := [(a_t, .inr (5, [.ref a_now, .ref a_slot, .ref a_history, .ref a_text, .ref a_lines, .ref a_owners, .ref a_many, .ref a_ends, .ref a_over, .ref a_ahead, .ref a_behind, .ref a_done, .int v_kept, .int v_length, .int v_isFilled, .int v_at])), (a_now, .inl (cI, 393, .inl qo3.2)), (a_text, .inl (cI, 60, .inl v_text))]) [1, 2, 0] (by decide) rfl) hS (lv_sub hl [0] rfl)
  have J20 : ∀ (w3 : Int32) (v_at : Int32) (v_now : Nat → Int32)  (H : Heap) (locs : List Loc) (ls : Array Slot), fX5_reads_20 i1 i2 v_length v_text w3 v_at v_now = some o → va_P D vwCl [(a_t, .inr (5, [.ref a_now, .ref a_slot, .ref a_history, .ref a_text, .ref a_lines, .ref a_owners, .ref a_many, .ref a_ends, .ref a_over, .ref a_ahead, .ref a_behind, .ref a_done, .int v_kept, .int v_length, .int v_isFilled, .int v_at])), (a_now, .inl (cI, 393, .inl v_now)), (a_text, .inl (cI, 60, .inl v_text))] H → va_D A [(a_t, .inr (5, [.ref a_now, .ref a_slot, .ref a_history, .ref a_text, .ref a_lines, .ref a_owners, .ref a_many, .ref a_ends, .ref a_over, .ref a_ahead, .ref a_behind, .ref a_done, .int v_kept, .int v_length, .int v_isFilled, .int v_at])), (a_now, .inl (cI, 393, .inl v_now)), (a_text, .inl (cI, 60, .inl v_text))] → va_S A s.heap H locs → lv_has ls 9 [(0, .ref a_t), (1, .int i1), (2, .int i2), (3, .int w3)] → W p l e rX5_reads s m args below meth c H locs 0 0 Q (F0 m 20 ls []) := by
    intro w3 v_at v_now H locs ls hf hP hD hS hl
    unfold fX5_reads_20 at hf
    refine lv_aload_n hx hb dX5_reads_20 rfl (lv_at hl 0 rfl) ?_
    refine lv_sipush (v := 3000) hx hb dX5_reads_21 (by decide) ?_
    replace hf := bd_some hf
    obtain ⟨qo2, hqo2, hf⟩ := hf
    refine g_Vi (As := [.int 3000]) (rest := []) (wr := [(a_now, .inl (cI, 393, .inl v_now))]) ⟨hx, hb, hml, hown, hts⟩ (k_X5_number l D cI cC a_t a_now a_slot a_history a_text a_lines a_owners a_many a_ends a_over a_ahead a_behind a_done 3000 v_kept v_length v_isFilled v_at v_text qo2 hqo2) (cwV 1 hts gX5_reads_X5_number rfl rfl rfl (by decide +kernel) ⟨Nat.le_of_ble_eq_true rfl, Nat.le_of_ble_eq_true rfl⟩) hK hP hD hS hA 5 0 rfl rfl rfl [0, 2] [1] rfl rfl rfl rfl rfl (by decide) rfl hl.1 rfl (Nat.le_of_ble_eq_true rfl) dX5_reads_24 (Nat.zero_le _) (Nat.zero_le _) (fun H locs hP hD hS => ?_)
    have hP : va_P D vwCl [(a_now, .inl (cI, 393, .inl v_now)), (a_t, .inr (5, [.ref a_now, .ref a_slot, .ref a_history, .ref a_text, .ref a_lines, .ref a_owners, .ref a_many, .ref a_ends, .ref a_over, .ref a_ahead, .ref a_behind, .ref a_done, .int v_kept, .int v_length, .int v_isFilled, .int qo2.2])), (a_text, .inl (cI, 60, .inl v_text))] H := hP
    have hD : va_D A [(a_now, .inl (cI, 393, .inl v_now)), (a_t, .inr (5, [.ref a_now, .ref a_slot, .ref a_history, .ref a_text, .ref a_lines, .ref a_owners, .ref a_many, .ref a_ends, .ref a_over, .ref a_ahead, .ref a_behind, .ref a_done, .int v_kept, .int v_length, .int v_isFilled, .int qo2.2])), (a_text, .inl (cI, 60, .inl v_text))] := hD
    refine lv_istore (lv' := [(4, .int qo2.1), (0, .ref a_t), (1, .int i1), (2, .int i2), (3, .int w3)]) hx hb dX5_reads_27 hl (by decide) rfl (fun ls hl => ?_)
    refine lv_iload hx hb dX5_reads_29 (lv_at hl 0 rfl) ?_
    refine lv_if_le (tgt := 61) hx hb dX5_reads_31 (by decide) (fun hc => ?_) (fun hc => ?_)
    · replace hf := ip hc hf
      exact J61 qo2.1 qo2.2 v_now _ _ _ hf (hP.sub (ws' := [(a_t, .inr (5, [.ref a_now, .ref a_slot, .ref a_history, .ref a_text, .ref a_lines, .ref a_owners, .ref a_many, .ref a_ends, .ref a_over, .ref a_ahead, .ref a_behind, .ref a_done, .int v_kept, .int v_length, .int v_isFilled, .int qo2.2])), (a_now, .inl (cI, 393, .inl v_now)), (a_text, .inl (cI, 60, .inl v_text))]) [1, 0, 2] rfl) (hD.sub (ws' := [(a_t, .inr (5, [.ref a_now, .ref a_slot, .ref a_history, .ref a_text, .ref a_lines, .ref a_owners, .ref a_many, .ref a_ends, .ref a_over, .ref a_ahead, .ref a_behind, .ref a_done, .int v_kept, .int v_length, .int v_isFilled, .int qo2.2])), (a_now, .inl (cI, 393, .inl v_now)), (a_text, .inl (cI, 60, .inl v_text))]) [1, 0, 2] (by decide) rfl) hS (lv_sub hl [0] rfl)
    · replace hf := ineg hc hf
      refine lv_iload_n hx hb dX5_reads_34 rfl (lv_at hl 3 rfl) ?_
      refine lv_if_eq (tgt := 61) hx hb dX5_reads_35 (by decide) (fun hc => ?_) (fun hc => ?_)
      · replace hf := ip hc hf
        exact J61 qo2.1 qo2.2 v_now _ _ _ hf (hP.sub (ws' := [(a_t, .inr (5, [.ref a_now, .ref a_slot, .ref a_history, .ref a_text, .ref a_lines, .ref a_owners, .ref a_many, .ref a_ends, .ref a_over, .ref a_ahead, .ref a_behind, .ref a_done, .int v_kept, .int v_length, .int v_isFilled, .int qo2.2])), (a_now, .inl (cI, 393, .inl v_now)), (a_text, .inl (cI, 60, .inl v_text))]) [1, 0, 2] rfl) (hD.sub (ws' := [(a_t, .inr (5, [.ref a_now, .ref a_slot, .ref a_history, .ref a_text, .ref a_lines, .ref a_owners, .ref a_many, .ref a_ends, .ref a_over, .ref a_ahead, .ref a_behind, .ref a_done, .int v_kept, .int v_length, .int v_isFilled, .int qo2.2])), (a_now, .inl (cI, 393, .inl v_now)), (a_text, .inl (cI, 60, .inl v_text))]) [1, 0, 2] (by decide) rfl) hS (lv_sub hl [0] rfl)
      · replace hf := ineg hc hf
        refine lv_aload_n hx hb dX5_reads_38 rfl (lv_at hl 1 rfl) ?_
        refine lv_iload_n hx hb dX5_reads_39 rfl (lv_at hl 2 rfl) ?_
        refine lv_iload_n hx hb dX5_reads_40 rfl (lv_at hl 4 rfl) ?_
        refine lv_if_eq (tgt := 48) hx hb dX5_reads_41 (by decide) (fun hc => ?_) (fun hc => ?_)
        · replace hf := ip hc hf
          refine lv_iconst (v := 2) hx hb dX5_reads_48 (by decide) ?_
          exact J49 qo2.1 i1 2 qo2.2 v_now _ _ _ hf (hP.sub (ws' := [(a_t, .inr (5, [.ref a_now, .ref a_slot, .ref a_history, .ref a_text, .ref a_lines, .ref a_owners, .ref a_many, .ref a_ends, .ref a_over, .ref a_ahead, .ref a_behind, .ref a_done, .int v_kept, .int v_length, .int v_isFilled, .int qo2.2])), (a_now, .inl (cI, 393, .inl v_now)), (a_text, .inl (cI, 60, .inl v_text))]) [1, 0, 2] rfl) (hD.sub (ws' := [(a_t, .inr (5, [.ref a_now, .ref a_slot, .ref a_history, .ref a_text, .ref a_lines, .ref a_owners, .ref a_many, .ref a_ends, .ref a_over, .ref a_ahead, .ref a_behind, .ref a_done, .int v_kept, .int v_length, .int v_isFilled, .int qo2.2])), (a_now, .inl (cI, 393, .inl v_now)), (a_text, .inl (cI, 60, .inl v_text))]) [1, 0, 2] (by decide) rfl) hS (lv_sub hl [0] rfl)
        · replace hf := ineg hc hf
          refine lv_iconst (v := 1) hx hb dX5_reads_44 (by decide) ?_
          refine lv_goto (tgt := 49) hx hb dX5_reads_45 (by decide) ?_
          exact J49 qo2.1 i1 1 qo2.2 v_now _ _ _ hf (hP.sub (ws' := [(a_t, .inr (5, [.ref a_now, .ref a_slot, .ref a_history, .ref a_text, .ref a_lines, .ref a_owners, .ref a_many, .ref a_ends, .ref a_over, .ref a_ahead, .ref a_behind, .ref a_done, .int v_kept, .int v_length, .int v_isFilled, .int qo2.2])), (a_now, .inl (cI, 393, .inl v_now)), (a_text, .inl (cI, 60, .inl v_text))]) [1, 0, 2] rfl) (hD.sub (ws' := [(a_t, .inr (5, [.ref a_now, .ref a_slot, .ref a_history, .ref a_text, .ref a_lines, .ref a_owners, .ref a_many, .ref a_ends, .ref a_over, .ref a_ahead, .ref a_behind, .ref a_done, .int v_kept, .int v_length, .int v_isFilled, .int qo2.2])), (a_now, .inl (cI, 393, .inl v_now)), (a_text, .inl (cI, 60, .inl v_text))]) [1, 0, 2] (by decide) rfl) hS (lv_sub hl [0] rfl)
  have J196 : ∀ (w5 : Int32) (w6 : Int32) (s0 : Int32) (v_at : Int32) (v_now : Nat → Int32)  (H : Heap) (locs : List Loc) (ls : Array Slot), fX5_reads_196 w5 w6 s0 v_at v_now = some o → va_P D vwCl [(a_t, .inr (5, [.ref a_now, .ref a_slot, .ref a_history, .ref a_text, .ref a_lines, .ref a_owners, .ref a_many, .ref a_ends, .ref a_over, .ref a_ahead, .ref a_behind, .ref a_done, .int v_kept, .int v_length, .int v_isFilled, .int v_at])), (a_now, .inl (cI, 393, .inl v_now)), (a_text, .inl (cI, 60, .inl v_text))] H → va_D A [(a_t, .inr (5, [.ref a_now, .ref a_slot, .ref a_history, .ref a_text, .ref a_lines, .ref a_owners, .ref a_many, .ref a_ends, .ref a_over, .ref a_ahead, .ref a_behind, .ref a_done, .int v_kept, .int v_length, .int v_isFilled, .int v_at])), (a_now, .inl (cI, 393, .inl v_now)), (a_text, .inl (cI, 60, .inl v_text))] → va_S A s.heap H locs → lv_has ls 9 [(5, .int w5), (6, .int w6)] → W p l e rX5_reads s m args below meth c H locs 0 0 Q (F0 m 196 ls [.int s0]) := by
    intro w5 w6 s0 v_at v_now H locs ls hf hP hD hS hl
    unfold fX5_reads_196 at hf
    refine lv_istore (lv' := [(8, .int s0), (5, .int w5), (6, .int w6)]) hx hb dX5_reads_196 hl (by decide) rfl (fun ls hl => ?_)
    refine lv_iload hx hb dX5_reads_198 (lv_at hl 1 rfl) ?_
    refine lv_bipush (v := 40) hx hb dX5_reads_200 (by decide) ?_
    refine lv_icmp_lt (tgt := 212) hx hb dX5_reads_202 (by decide) (fun hc => ?_) (fun hc => ?_)
    · replace hf := ip hc hf
      refine lv_bipush (v := (-2)) hx hb dX5_reads_212 (by decide) ?_
      refine lv_goto (tgt := 218) hx hb dX5_reads_214 (by decide) ?_
      have ho := Option.some.inj hf
      subst ho
      exact hret dX5_reads_218 rfl (hP.sub (ws' := [(a_t, .inr (5, [.ref a_now, .ref a_slot, .ref a_history, .ref a_text, .ref a_lines, .ref a_owners, .ref a_many, .ref a_ends, .ref a_over, .ref a_ahead, .ref a_behind, .ref a_done, .int v_kept, .int v_length, .int v_isFilled, .int v_at])), (a_now, .inl (cI, 393, .inl v_now)), (a_text, .inl (cI, 60, .inl v_text))]) [0, 1, 2] rfl) (hD.sub (ws' := [(a_t, .inr (5, [.ref a_now, .ref a_slot, .ref a_history, .ref a_text, .ref a_lines, .ref a_owners, .ref a_many, .ref a_ends, .ref a_over, .ref a_ahead, .ref a_behind, .ref a_done, .int v_kept, .int v_length, .int v_isFilled, .int v_at])), (a_now, .inl (cI, 393, .inl v_now)), (a_text, .inl (cI, 60, .inl v_text))]) [0, 1, 2] (by decide) rfl) hS
    · replace hf := ineg hc hf
      refine lv_iload hx hb dX5_reads_205 (lv_at hl 2 rfl) ?_
      refine lv_iload hx hb dX5_reads_207 (lv_at hl 1 rfl) ?_
      refine lv_icmp_ge (tgt := 217) hx hb dX5_reads_209 (by decide) (fun hc => ?_) (fun hc => ?_)
      · replace hf := ip hc hf
        refine lv_iconst (v := 0) hx hb dX5_reads_217 (by decide) ?_
        have ho := Option.some.inj hf
        subst ho
        exact hret dX5_reads_218 rfl (hP.sub (ws' := [(a_t, .inr (5, [.ref a_now, .ref a_slot, .ref a_history, .ref a_text, .ref a_lines, .ref a_owners, .ref a_many, .ref a_ends, .ref a_over, .ref a_ahead, .ref a_behind, .ref a_done, .int v_kept, .int v_length, .int v_isFilled, .int v_at])), (a_now, .inl (cI, 393, .inl v_now)), (a_text, .inl (cI, 60, .inl v_text))]) [0, 1, 2] rfl) (hD.sub (ws' := [(a_t, .inr (5, [.ref a_now, .ref a_slot, .ref a_history, .ref a_text, .ref a_lines, .ref a_owners, .ref a_many, .ref a_ends, .ref a_over, .ref a_ahead, .ref a_behind, .ref a_done, .int v_kept, .int v_length, .int v_isFilled, .int v_at])), (a_now, .inl (cI, 393, .inl v_now)), (a_text, .inl (cI, 60, .inl v_text))]) [0, 1, 2] (by decide) rfl) hS
      · replace hf := ineg hc hf
        refine lv_bipush (v := (-2)) hx hb dX5_reads_212 (by decide) ?_
        refine lv_goto (tgt := 218) hx hb dX5_reads_214 (by decide) ?_
        have ho := Option.some.inj hf
        subst ho
        exact hret dX5_reads_218 rfl (hP.sub (ws' := [(a_t, .inr (5, [.ref a_now, .ref a_slot, .ref a_history, .ref a_text, .ref a_lines, .ref a_owners, .ref a_many, .ref a_ends, .ref a_over, .ref a_ahead, .ref a_behind, .ref a_done, .int v_kept, .int v_length, .int v_isFilled, .int v_at])), (a_now, .inl (cI, 393, .inl v_now)), (a_text, .inl (cI, 60, .inl v_text))]) [0, 1, 2] rfl) (hD.sub (ws' := [(a_t, .inr (5, [.ref a_now, .ref a_slot, .ref a_history, .ref a_text, .ref a_lines, .ref a_owners, .ref a_many, .ref a_ends, .ref a_over, .ref a_ahead, .ref a_behind, .ref a_done, .int v_kept, .int v_length, .int v_isFilled, .int v_at])), (a_now, .inl (cI, 393, .inl v_now)), (a_text, .inl (cI, 60, .inl v_text))]) [0, 1, 2] (by decide) rfl) hS
  have J171 : ∀ (w4 : Int32) (w5 : Int32) (w6 : Int32) (s0 : Int32) (v_at : Int32) (v_now : Nat → Int32)  (H : Heap) (locs : List Loc) (ls : Array Slot), fX5_reads_171 i1 i2 w4 w5 w6 s0 v_at v_now = some o → va_P D vwCl [(a_t, .inr (5, [.ref a_now, .ref a_slot, .ref a_history, .ref a_text, .ref a_lines, .ref a_owners, .ref a_many, .ref a_ends, .ref a_over, .ref a_ahead, .ref a_behind, .ref a_done, .int v_kept, .int v_length, .int v_isFilled, .int v_at])), (a_now, .inl (cI, 393, .inl v_now)), (a_text, .inl (cI, 60, .inl v_text))] H → va_D A [(a_t, .inr (5, [.ref a_now, .ref a_slot, .ref a_history, .ref a_text, .ref a_lines, .ref a_owners, .ref a_many, .ref a_ends, .ref a_over, .ref a_ahead, .ref a_behind, .ref a_done, .int v_kept, .int v_length, .int v_isFilled, .int v_at])), (a_now, .inl (cI, 393, .inl v_now)), (a_text, .inl (cI, 60, .inl v_text))] → va_S A s.heap H locs → lv_has ls 9 [(0, .ref a_t), (1, .int i1), (2, .int i2), (4, .int w4), (5, .int w5), (6, .int w6)] → W p l e rX5_reads s m args below meth c H locs 0 0 Q (F0 m 171 ls [.int s0]) := by
    intro w4 w5 w6 s0 v_at v_now H locs ls hf hP hD hS hl
    unfold fX5_reads_171 at hf
    refine lv_istore (lv' := [(7, .int s0), (0, .ref a_t), (1, .int i1), (2, .int i2), (4, .int w4), (5, .int w5), (6, .int w6)]) hx hb dX5_reads_171 hl (by decide) rfl (fun ls hl => ?_)
    refine lv_iload_n hx hb dX5_reads_173 rfl (lv_at hl 3 rfl) ?_
    refine lv_if_eq (tgt := 195) hx hb dX5_reads_174 (by decide) (fun hc => ?_) (fun hc => ?_)
    · replace hf := ip hc hf
      refine lv_iconst (v := 0) hx hb dX5_reads_195 (by decide) ?_
      exact J196 w5 w6 0 v_at v_now _ _ _ hf (hP.sub (ws' := [(a_t, .inr (5, [.ref a_now, .ref a_slot, .ref a_history, .ref a_text, .ref a_lines, .ref a_owners, .ref a_many, .ref a_ends, .ref a_over, .ref a_ahead, .ref a_behind, .ref a_done, .int v_kept, .int v_length, .int v_isFilled, .int v_at])), (a_now, .inl (cI, 393, .inl v_now)), (a_text, .inl (cI, 60, .inl v_text))]) [0, 1, 2] rfl) (hD.sub (ws' := [(a_t, .inr (5, [.ref a_now, .ref a_slot, .ref a_history, .ref a_text, .ref a_lines, .ref a_owners, .ref a_many, .ref a_ends, .ref a_over, .ref a_ahead, .ref a_behind, .ref a_done, .int v_kept, .int v_length, .int v_isFilled, .int v_at])), (a_now, .inl (cI, 393, .inl v_now)), (a_text, .inl (cI, 60, .inl v_text))]) [0, 1, 2] (by decide) rfl) hS (lv_sub hl [5, 6] rfl)
    · replace hf := ineg hc hf
      refine lv_aload_n hx hb dX5_reads_177 rfl (lv_at hl 1 rfl) ?_
      refine lv_iload_n hx hb dX5_reads_178 rfl (lv_at hl 2 rfl) ?_
      refine lv_iconst (v := 0) hx hb dX5_reads_179 (by decide) ?_
      refine lv_iload hx hb dX5_reads_180 (lv_at hl 4 rfl) ?_
      refine lv_iload hx hb dX5_reads_182 (lv_at hl 5 rfl) ?_
      refine lv_iload hx hb dX5_reads_184 (lv_at hl 6 rfl) ?_
      refine lv_iload hx hb dX5_reads_186 (lv_at hl 0 rfl) ?_
      refine lv_iconst (v := 0) hx hb dX5_reads_188 (by decide) ?_
      replace hf := bd_some hf
      obtain ⟨qo11, hqo11, hf⟩ := hf
      refine g_Vi (As := [.int i1, .int 0, .int w4, .int w5, .int w6, .int s0, .int 0]) (rest := []) (wr := [(a_text, .inl (cI, 60, .inl v_text))]) ⟨hx, hb, hml, hown, hts⟩ (k_X5_puts l D cI cC a_t a_now a_slot a_history a_text a_lines a_owners a_many a_ends a_over a_ahead a_behind a_done i1 0 w4 w5 w6 s0 0 v_kept v_length v_isFilled v_at v_now qo11 hqo11) (cwV 7 hts gX5_reads_X5_puts rfl rfl rfl (by decide +kernel) ⟨Nat.le_of_ble_eq_true rfl, Nat.le_of_ble_eq_true rfl⟩) hK hP hD hS hA 5 0 rfl rfl rfl [0, 1] [2] rfl rfl rfl rfl rfl (by decide) rfl hl.1 rfl (Nat.le_of_ble_eq_true rfl) dX5_reads_189 (Nat.zero_le _) (Nat.zero_le _) (fun H locs hP hD hS => ?_)
      have hP : va_P D vwCl [(a_text, .inl (cI, 60, .inl v_text)), (a_t, .inr (5, [.ref a_now, .ref a_slot, .ref a_history, .ref a_text, .ref a_lines, .ref a_owners, .ref a_many, .ref a_ends, .ref a_over, .ref a_ahead, .ref a_behind, .ref a_done, .int v_kept, .int v_length, .int v_isFilled, .int v_at])), (a_now, .inl (cI, 393, .inl qo11.2))] H := hP
      have hD : va_D A [(a_text, .inl (cI, 60, .inl v_text)), (a_t, .inr (5, [.ref a_now, .ref a_slot, .ref a_history, .ref a_text, .ref a_lines, .ref a_owners, .ref a_many, .ref a_ends, .ref a_over, .ref a_ahead, .ref a_behind, .ref a_done, .int v_kept, .int v_length, .int v_isFilled, .int v_at])), (a_now, .inl (cI, 393, .inl qo11.2))] := hD
      refine lv_goto (tgt := 196) hx hb dX5_reads_192 (by decide) ?_
      exact J196 w5 w6 qo11.1 v_at qo11.2 _ _ _ hf (hP.sub (ws' := [(a_t, .inr (5, [.ref a_now, .ref a_slot, .ref a_history, .ref a_text, .ref a_lines, .ref a_owners, .ref a_many, .ref a_ends, .ref a_over, .ref a_ahead, .ref a_behind, .ref a_done, .int v_kept, .int v_length, .int v_isFilled, .int v_at])), (a_now, .inl (cI, 393, .inl qo11.2)), (a_text, .inl (cI, 60, .inl v_text))]) [1, 2, 0] rfl) (hD.sub (ws' := [(a_t, .inr (5, [.ref a_now, .ref a_slot, .ref a_history, .ref a_text, .ref a_lines, .ref a_owners, .ref a_many, .ref a_ends, .ref a_over, .ref a_ahead, .ref a_behind, .ref a_done, .int v_kept, .int v_length, .int v_isFilled, .int v_at])), (a_now, .inl (cI, 393, .inl qo11.2)), (a_text, .inl (cI, 60, .inl v_text))]) [1, 2, 0] (by decide) rfl) hS (lv_sub hl [5, 6] rfl)
  have J95 : ∀ (s0 : Int32) (v_at : Int32) (v_now : Nat → Int32)  (H : Heap) (locs : List Loc) (ls : Array Slot), fX5_reads_95 i1 i2 v_length v_text s0 v_at v_now = some o → va_P D vwCl [(a_t, .inr (5, [.ref a_now, .ref a_slot, .ref a_history, .ref a_text, .ref a_lines, .ref a_owners, .ref a_many, .ref a_ends, .ref a_over, .ref a_ahead, .ref a_behind, .ref a_done, .int v_kept, .int v_length, .int v_isFilled, .int v_at])), (a_now, .inl (cI, 393, .inl v_now)), (a_text, .inl (cI, 60, .inl v_text))] H → va_D A [(a_t, .inr (5, [.ref a_now, .ref a_slot, .ref a_history, .ref a_text, .ref a_lines, .ref a_owners, .ref a_many, .ref a_ends, .ref a_over, .ref a_ahead, .ref a_behind, .ref a_done, .int v_kept, .int v_length, .int v_isFilled, .int v_at])), (a_now, .inl (cI, 393, .inl v_now)), (a_text, .inl (cI, 60, .inl v_text))] → va_S A s.heap H locs → lv_has ls 9 [(0, .ref a_t), (1, .int i1), (2, .int i2)] → W p l e rX5_reads s m args below meth c H locs 0 0 Q (F0 m 95 ls [.int s0]) := by
    intro s0 v_at v_now H locs ls hf hP hD hS hl
    unfold fX5_reads_95 at hf
    refine lv_istore (lv' := [(4, .int s0), (0, .ref a_t), (1, .int i1), (2, .int i2)]) hx hb dX5_reads_95 hl (by decide) rfl (fun ls hl => ?_)
    refine lv_iload hx hb dX5_reads_97 (lv_at hl 0 rfl) ?_
    refine lv_if_lt (tgt := 111) hx hb dX5_reads_99 (by decide) (fun hc => ?_) (fun hc => ?_)
    · replace hf := ip hc hf
      refine lv_bipush (v := (-100)) hx hb dX5_reads_111 (by decide) ?_
      have ho := Option.some.inj hf
      subst ho
      exact hret dX5_reads_113 rfl (hP.sub (ws' := [(a_t, .inr (5, [.ref a_now, .ref a_slot, .ref a_history, .ref a_text, .ref a_lines, .ref a_owners, .ref a_many, .ref a_ends, .ref a_over, .ref a_ahead, .ref a_behind, .ref a_done, .int v_kept, .int v_length, .int v_isFilled, .int v_at])), (a_now, .inl (cI, 393, .inl v_now)), (a_text, .inl (cI, 60, .inl v_text))]) [0, 1, 2] rfl) (hD.sub (ws' := [(a_t, .inr (5, [.ref a_now, .ref a_slot, .ref a_history, .ref a_text, .ref a_lines, .ref a_owners, .ref a_many, .ref a_ends, .ref a_over, .ref a_ahead, .ref a_behind, .ref a_done, .int v_kept, .int v_length, .int v_isFilled, .int v_at])), (a_now, .inl (cI, 393, .inl v_now)), (a_text, .inl (cI, 60, .inl v_text))]) [0, 1, 2] (by decide) rfl) hS
    · replace hf := ineg hc hf
      refine lv_aload_n hx hb dX5_reads_102 rfl (lv_at hl 1 rfl) ?_
      refine lv_bipush (v := 42) hx hb dX5_reads_103 (by decide) ?_
      replace hf := bd_some hf
      obtain ⟨qo6, hqo6, hf⟩ := hf
      refine g_Vi (As := [.int 42]) (rest := []) (wr := [(a_now, .inl (cI, 393, .inl v_now))]) ⟨hx, hb, hml, hown, hts⟩ (k_X5_stands l D cI cC a_t a_now a_slot a_history a_text a_lines a_owners a_many a_ends a_over a_ahead a_behind a_done 42 v_kept v_length v_isFilled v_at v_text qo6 hqo6) (cwV 1 hts gX5_reads_X5_stands rfl rfl rfl (by decide +kernel) ⟨Nat.le_of_ble_eq_true rfl, Nat.le_of_ble_eq_true rfl⟩) hK hP hD hS hA 5 0 rfl rfl rfl [0, 2] [1] rfl rfl rfl rfl rfl (by decide) rfl hl.1 rfl (Nat.le_of_ble_eq_true rfl) dX5_reads_105 (Nat.zero_le _) (Nat.zero_le _) (fun H locs hP hD hS => ?_)
      have hP : va_P D vwCl [(a_now, .inl (cI, 393, .inl v_now)), (a_t, .inr (5, [.ref a_now, .ref a_slot, .ref a_history, .ref a_text, .ref a_lines, .ref a_owners, .ref a_many, .ref a_ends, .ref a_over, .ref a_ahead, .ref a_behind, .ref a_done, .int v_kept, .int v_length, .int v_isFilled, .int qo6.2])), (a_text, .inl (cI, 60, .inl v_text))] H := hP
      have hD : va_D A [(a_now, .inl (cI, 393, .inl v_now)), (a_t, .inr (5, [.ref a_now, .ref a_slot, .ref a_history, .ref a_text, .ref a_lines, .ref a_owners, .ref a_many, .ref a_ends, .ref a_over, .ref a_ahead, .ref a_behind, .ref a_done, .int v_kept, .int v_length, .int v_isFilled, .int qo6.2])), (a_text, .inl (cI, 60, .inl v_text))] := hD
      refine lv_if_ne (tgt := 114) hx hb dX5_reads_108 (by decide) (fun hc => ?_) (fun hc => ?_)
      · replace hf := ineg hc hf
        refine lv_aload_n hx hb dX5_reads_114 rfl (lv_at hl 1 rfl) ?_
        refine lv_sipush (v := 400) hx hb dX5_reads_115 (by decide) ?_
        replace hf := bd_some hf
        obtain ⟨qo7, hqo7, hf⟩ := hf
        refine g_Vi (As := [.int 400]) (rest := []) (wr := [(a_now, .inl (cI, 393, .inl v_now))]) ⟨hx, hb, hml, hown, hts⟩ (k_X5_number l D cI cC a_t a_now a_slot a_history a_text a_lines a_owners a_many a_ends a_over a_ahead a_behind a_done 400 v_kept v_length v_isFilled qo6.2 v_text qo7 hqo7) (cwV 1 hts gX5_reads_X5_number rfl rfl rfl (by decide +kernel) ⟨Nat.le_of_ble_eq_true rfl, Nat.le_of_ble_eq_true rfl⟩) hK hP hD hS hA 5 1 rfl rfl rfl [1, 2] [0] rfl rfl rfl rfl rfl (by decide) rfl hl.1 rfl (Nat.le_of_ble_eq_true rfl) dX5_reads_118 (Nat.zero_le _) (Nat.zero_le _) (fun H locs hP hD hS => ?_)
        have hP : va_P D vwCl [(a_now, .inl (cI, 393, .inl v_now)), (a_t, .inr (5, [.ref a_now, .ref a_slot, .ref a_history, .ref a_text, .ref a_lines, .ref a_owners, .ref a_many, .ref a_ends, .ref a_over, .ref a_ahead, .ref a_behind, .ref a_done, .int v_kept, .int v_length, .int v_isFilled, .int qo7.2])), (a_text, .inl (cI, 60, .inl v_text))] H := hP
        have hD : va_D A [(a_now, .inl (cI, 393, .inl v_now)), (a_t, .inr (5, [.ref a_now, .ref a_slot, .ref a_history, .ref a_text, .ref a_lines, .ref a_owners, .ref a_many, .ref a_ends, .ref a_over, .ref a_ahead, .ref a_behind, .ref a_done, .int v_kept, .int v_length, .int v_isFilled, .int qo7.2])), (a_text, .inl (cI, 60, .inl v_text))] := hD
        refine lv_istore (lv' := [(5, .int qo7.1), (4, .int s0), (0, .ref a_t), (1, .int i1), (2, .int i2)]) hx hb dX5_reads_121 hl (by decide) rfl (fun ls hl => ?_)
        refine lv_iload hx hb dX5_reads_123 (lv_at hl 0 rfl) ?_
        refine lv_if_lt (tgt := 137) hx hb dX5_reads_125 (by decide) (fun hc => ?_) (fun hc => ?_)
        · replace hf := ip hc hf
          refine lv_bipush (v := (-100)) hx hb dX5_reads_137 (by decide) ?_
          have ho := Option.some.inj hf
          subst ho
          exact hret dX5_reads_139 rfl (hP.sub (ws' := [(a_t, .inr (5, [.ref a_now, .ref a_slot, .ref a_history, .ref a_text, .ref a_lines, .ref a_owners, .ref a_many, .ref a_ends, .ref a_over, .ref a_ahead, .ref a_behind, .ref a_done, .int v_kept, .int v_length, .int v_isFilled, .int qo7.2])), (a_now, .inl (cI, 393, .inl v_now)), (a_text, .inl (cI, 60, .inl v_text))]) [1, 0, 2] rfl) (hD.sub (ws' := [(a_t, .inr (5, [.ref a_now, .ref a_slot, .ref a_history, .ref a_text, .ref a_lines, .ref a_owners, .ref a_many, .ref a_ends, .ref a_over, .ref a_ahead, .ref a_behind, .ref a_done, .int v_kept, .int v_length, .int v_isFilled, .int qo7.2])), (a_now, .inl (cI, 393, .inl v_now)), (a_text, .inl (cI, 60, .inl v_text))]) [1, 0, 2] (by decide) rfl) hS
        · replace hf := ineg hc hf
          refine lv_aload_n hx hb dX5_reads_128 rfl (lv_at hl 2 rfl) ?_
          refine lv_bipush (v := 47) hx hb dX5_reads_129 (by decide) ?_
          replace hf := bd_some hf
          obtain ⟨qo8, hqo8, hf⟩ := hf
          refine g_Vi (As := [.int 47]) (rest := []) (wr := [(a_now, .inl (cI, 393, .inl v_now))]) ⟨hx, hb, hml, hown, hts⟩ (k_X5_stands l D cI cC a_t a_now a_slot a_history a_text a_lines a_owners a_many a_ends a_over a_ahead a_behind a_done 47 v_kept v_length v_isFilled qo7.2 v_text qo8 hqo8) (cwV 1 hts gX5_reads_X5_stands rfl rfl rfl (by decide +kernel) ⟨Nat.le_of_ble_eq_true rfl, Nat.le_of_ble_eq_true rfl⟩) hK hP hD hS hA 5 1 rfl rfl rfl [1, 2] [0] rfl rfl rfl rfl rfl (by decide) rfl hl.1 rfl (Nat.le_of_ble_eq_true rfl) dX5_reads_131 (Nat.zero_le _) (Nat.zero_le _) (fun H locs hP hD hS => ?_)
          have hP : va_P D vwCl [(a_now, .inl (cI, 393, .inl v_now)), (a_t, .inr (5, [.ref a_now, .ref a_slot, .ref a_history, .ref a_text, .ref a_lines, .ref a_owners, .ref a_many, .ref a_ends, .ref a_over, .ref a_ahead, .ref a_behind, .ref a_done, .int v_kept, .int v_length, .int v_isFilled, .int qo8.2])), (a_text, .inl (cI, 60, .inl v_text))] H := hP
          have hD : va_D A [(a_now, .inl (cI, 393, .inl v_now)), (a_t, .inr (5, [.ref a_now, .ref a_slot, .ref a_history, .ref a_text, .ref a_lines, .ref a_owners, .ref a_many, .ref a_ends, .ref a_over, .ref a_ahead, .ref a_behind, .ref a_done, .int v_kept, .int v_length, .int v_isFilled, .int qo8.2])), (a_text, .inl (cI, 60, .inl v_text))] := hD
          refine lv_if_ne (tgt := 140) hx hb dX5_reads_134 (by decide) (fun hc => ?_) (fun hc => ?_)
          · replace hf := ineg hc hf
            refine lv_aload_n hx hb dX5_reads_140 rfl (lv_at hl 2 rfl) ?_
            refine lv_sipush (v := 600) hx hb dX5_reads_141 (by decide) ?_
            replace hf := bd_some hf
            obtain ⟨qo9, hqo9, hf⟩ := hf
            refine g_Vi (As := [.int 600]) (rest := []) (wr := [(a_now, .inl (cI, 393, .inl v_now))]) ⟨hx, hb, hml, hown, hts⟩ (k_X5_number l D cI cC a_t a_now a_slot a_history a_text a_lines a_owners a_many a_ends a_over a_ahead a_behind a_done 600 v_kept v_length v_isFilled qo8.2 v_text qo9 hqo9) (cwV 1 hts gX5_reads_X5_number rfl rfl rfl (by decide +kernel) ⟨Nat.le_of_ble_eq_true rfl, Nat.le_of_ble_eq_true rfl⟩) hK hP hD hS hA 5 1 rfl rfl rfl [1, 2] [0] rfl rfl rfl rfl rfl (by decide) rfl hl.1 rfl (Nat.le_of_ble_eq_true rfl) dX5_reads_144 (Nat.zero_le _) (Nat.zero_le _) (fun H locs hP hD hS => ?_)
            have hP : va_P D vwCl [(a_now, .inl (cI, 393, .inl v_now)), (a_t, .inr (5, [.ref a_now, .ref a_slot, .ref a_history, .ref a_text, .ref a_lines, .ref a_owners, .ref a_many, .ref a_ends, .ref a_over, .ref a_ahead, .ref a_behind, .ref a_done, .int v_kept, .int v_length, .int v_isFilled, .int qo9.2])), (a_text, .inl (cI, 60, .inl v_text))] H := hP
            have hD : va_D A [(a_now, .inl (cI, 393, .inl v_now)), (a_t, .inr (5, [.ref a_now, .ref a_slot, .ref a_history, .ref a_text, .ref a_lines, .ref a_owners, .ref a_many, .ref a_ends, .ref a_over, .ref a_ahead, .ref a_behind, .ref a_done, .int v_kept, .int v_length, .int v_isFilled, .int qo9.2])), (a_text, .inl (cI, 60, .inl v_text))] := hD
            refine lv_istore (lv' := [(6, .int qo9.1), (5, .int qo7.1), (4, .int s0), (0, .ref a_t), (1, .int i1), (2, .int i2)]) hx hb dX5_reads_147 hl (by decide) rfl (fun ls hl => ?_)
            refine lv_iload hx hb dX5_reads_149 (lv_at hl 0 rfl) ?_
            refine lv_if_ge (tgt := 157) hx hb dX5_reads_151 (by decide) (fun hc => ?_) (fun hc => ?_)
            · replace hf := ip hc hf
              refine lv_aload_n hx hb dX5_reads_157 rfl (lv_at hl 3 rfl) ?_
              refine lv_bipush (v := 33) hx hb dX5_reads_158 (by decide) ?_
              replace hf := bd_some hf
              obtain ⟨qo10, hqo10, hf⟩ := hf
              refine g_Vi (As := [.int 33]) (rest := []) (wr := [(a_now, .inl (cI, 393, .inl v_now))]) ⟨hx, hb, hml, hown, hts⟩ (k_X5_stands l D cI cC a_t a_now a_slot a_history a_text a_lines a_owners a_many a_ends a_over a_ahead a_behind a_done 33 v_kept v_length v_isFilled qo9.2 v_text qo10 hqo10) (cwV 1 hts gX5_reads_X5_stands rfl rfl rfl (by decide +kernel) ⟨Nat.le_of_ble_eq_true rfl, Nat.le_of_ble_eq_true rfl⟩) hK hP hD hS hA 5 1 rfl rfl rfl [1, 2] [0] rfl rfl rfl rfl rfl (by decide) rfl hl.1 rfl (Nat.le_of_ble_eq_true rfl) dX5_reads_160 (Nat.zero_le _) (Nat.zero_le _) (fun H locs hP hD hS => ?_)
              have hP : va_P D vwCl [(a_now, .inl (cI, 393, .inl v_now)), (a_t, .inr (5, [.ref a_now, .ref a_slot, .ref a_history, .ref a_text, .ref a_lines, .ref a_owners, .ref a_many, .ref a_ends, .ref a_over, .ref a_ahead, .ref a_behind, .ref a_done, .int v_kept, .int v_length, .int v_isFilled, .int qo10.2])), (a_text, .inl (cI, 60, .inl v_text))] H := hP
              have hD : va_D A [(a_now, .inl (cI, 393, .inl v_now)), (a_t, .inr (5, [.ref a_now, .ref a_slot, .ref a_history, .ref a_text, .ref a_lines, .ref a_owners, .ref a_many, .ref a_ends, .ref a_over, .ref a_ahead, .ref a_behind, .ref a_done, .int v_kept, .int v_length, .int v_isFilled, .int qo10.2])), (a_text, .inl (cI, 60, .inl v_text))] := hD
              refine lv_if_eq (tgt := 170) hx hb dX5_reads_163 (by decide) (fun hc => ?_) (fun hc => ?_)
              · replace hf := ip hc hf
                refine lv_iconst (v := 0) hx hb dX5_reads_170 (by decide) ?_
                exact J171 s0 qo7.1 qo9.1 0 qo10.2 v_now _ _ _ hf (hP.sub (ws' := [(a_t, .inr (5, [.ref a_now, .ref a_slot, .ref a_history, .ref a_text, .ref a_lines, .ref a_owners, .ref a_many, .ref a_ends, .ref a_over, .ref a_ahead, .ref a_behind, .ref a_done, .int v_kept, .int v_length, .int v_isFilled, .int qo10.2])), (a_now, .inl (cI, 393, .inl v_now)), (a_text, .inl (cI, 60, .inl v_text))]) [1, 0, 2] rfl) (hD.sub (ws' := [(a_t, .inr (5, [.ref a_now, .ref a_slot, .ref a_history, .ref a_text, .ref a_lines, .ref a_owners, .ref a_many, .ref a_ends, .ref a_over, .ref a_ahead, .ref a_behind, .ref a_done, .int v_kept, .int v_length, .int v_isFilled, .int qo10.2])), (a_now, .inl (cI, 393, .inl v_now)), (a_text, .inl (cI, 60, .inl v_text))]) [1, 0, 2] (by decide) rfl) hS (lv_sub hl [3, 4, 5, 2, 1, 0] rfl)
              · replace hf := ineg hc hf
                refine lv_iconst (v := 1) hx hb dX5_reads_166 (by decide) ?_
                refine lv_goto (tgt := 171) hx hb dX5_reads_167 (by decide) ?_
                exact J171 s0 qo7.1 qo9.1 1 qo10.2 v_now _ _ _ hf (hP.sub (ws' := [(a_t, .inr (5, [.ref a_now, .ref a_slot, .ref a_history, .ref a_text, .ref a_lines, .ref a_owners, .ref a_many, .ref a_ends, .ref a_over, .ref a_ahead, .ref a_behind, .ref a_done, .int v_kept, .int v_length, .int v_isFilled, .int qo10.2])), (a_now, .inl (cI, 393, .inl v_now)), (a_text, .inl (cI, 60, .inl v_text))]) [1, 0, 2] rfl) (hD.sub (ws' := [(a_t, .inr (5, [.ref a_now, .ref a_slot, .ref a_history, .ref a_text, .ref a_lines, .ref a_owners, .ref a_many, .ref a_ends, .ref a_over, .ref a_ahead, .ref a_behind, .ref a_done, .int v_kept, .int v_length, .int v_isFilled, .int qo10.2])), (a_now, .inl (cI, 393, .inl v_now)), (a_text, .inl (cI, 60, .inl v_text))]) [1, 0, 2] (by decide) rfl) hS (lv_sub hl [3, 4, 5, 2, 1, 0] rfl)
            · replace hf := ineg hc hf
              refine lv_bipush (v := (-100)) hx hb dX5_reads_154 (by decide) ?_
              have ho := Option.some.inj hf
              subst ho
              exact hret dX5_reads_156 rfl (hP.sub (ws' := [(a_t, .inr (5, [.ref a_now, .ref a_slot, .ref a_history, .ref a_text, .ref a_lines, .ref a_owners, .ref a_many, .ref a_ends, .ref a_over, .ref a_ahead, .ref a_behind, .ref a_done, .int v_kept, .int v_length, .int v_isFilled, .int qo9.2])), (a_now, .inl (cI, 393, .inl v_now)), (a_text, .inl (cI, 60, .inl v_text))]) [1, 0, 2] rfl) (hD.sub (ws' := [(a_t, .inr (5, [.ref a_now, .ref a_slot, .ref a_history, .ref a_text, .ref a_lines, .ref a_owners, .ref a_many, .ref a_ends, .ref a_over, .ref a_ahead, .ref a_behind, .ref a_done, .int v_kept, .int v_length, .int v_isFilled, .int qo9.2])), (a_now, .inl (cI, 393, .inl v_now)), (a_text, .inl (cI, 60, .inl v_text))]) [1, 0, 2] (by decide) rfl) hS
          · replace hf := ip hc hf
            refine lv_bipush (v := (-100)) hx hb dX5_reads_137 (by decide) ?_
            have ho := Option.some.inj hf
            subst ho
            exact hret dX5_reads_139 rfl (hP.sub (ws' := [(a_t, .inr (5, [.ref a_now, .ref a_slot, .ref a_history, .ref a_text, .ref a_lines, .ref a_owners, .ref a_many, .ref a_ends, .ref a_over, .ref a_ahead, .ref a_behind, .ref a_done, .int v_kept, .int v_length, .int v_isFilled, .int qo8.2])), (a_now, .inl (cI, 393, .inl v_now)), (a_text, .inl (cI, 60, .inl v_text))]) [1, 0, 2] rfl) (hD.sub (ws' := [(a_t, .inr (5, [.ref a_now, .ref a_slot, .ref a_history, .ref a_text, .ref a_lines, .ref a_owners, .ref a_many, .ref a_ends, .ref a_over, .ref a_ahead, .ref a_behind, .ref a_done, .int v_kept, .int v_length, .int v_isFilled, .int qo8.2])), (a_now, .inl (cI, 393, .inl v_now)), (a_text, .inl (cI, 60, .inl v_text))]) [1, 0, 2] (by decide) rfl) hS
      · replace hf := ip hc hf
        refine lv_bipush (v := (-100)) hx hb dX5_reads_111 (by decide) ?_
        have ho := Option.some.inj hf
        subst ho
        exact hret dX5_reads_113 rfl (hP.sub (ws' := [(a_t, .inr (5, [.ref a_now, .ref a_slot, .ref a_history, .ref a_text, .ref a_lines, .ref a_owners, .ref a_many, .ref a_ends, .ref a_over, .ref a_ahead, .ref a_behind, .ref a_done, .int v_kept, .int v_length, .int v_isFilled, .int qo6.2])), (a_now, .inl (cI, 393, .inl v_now)), (a_text, .inl (cI, 60, .inl v_text))]) [1, 0, 2] rfl) (hD.sub (ws' := [(a_t, .inr (5, [.ref a_now, .ref a_slot, .ref a_history, .ref a_text, .ref a_lines, .ref a_owners, .ref a_many, .ref a_ends, .ref a_over, .ref a_ahead, .ref a_behind, .ref a_done, .int v_kept, .int v_length, .int v_isFilled, .int qo6.2])), (a_now, .inl (cI, 393, .inl v_now)), (a_text, .inl (cI, 60, .inl v_text))]) [1, 0, 2] (by decide) rfl) hS
  unfold fX5_reads at hf
  refine lv_aload_n hx hb dX5_reads_0 rfl (lv_at hl 0 rfl) ?_
  refine lv_bipush (v := 105) hx hb dX5_reads_1 (by decide) ?_
  replace hf := bd_some hf
  obtain ⟨qo1, hqo1, hf⟩ := hf
  refine g_Vi (As := [.int 105]) (rest := []) (wr := [(a_now, .inl (cI, 393, .inl v_now))]) ⟨hx, hb, hml, hown, hts⟩ (k_X5_stands l D cI cC a_t a_now a_slot a_history a_text a_lines a_owners a_many a_ends a_over a_ahead a_behind a_done 105 v_kept v_length v_isFilled v_at v_text qo1 hqo1) (cwV 1 hts gX5_reads_X5_stands rfl rfl rfl (by decide +kernel) ⟨Nat.le_of_ble_eq_true rfl, Nat.le_of_ble_eq_true rfl⟩) hK hP hD hS hA 5 0 rfl rfl rfl [0, 2] [1] rfl rfl rfl rfl rfl (by decide) rfl hl.1 rfl (Nat.le_of_ble_eq_true rfl) dX5_reads_3 (Nat.zero_le _) (Nat.zero_le _) (fun H locs hP hD hS => ?_)
  have hP : va_P D vwCl [(a_now, .inl (cI, 393, .inl v_now)), (a_t, .inr (5, [.ref a_now, .ref a_slot, .ref a_history, .ref a_text, .ref a_lines, .ref a_owners, .ref a_many, .ref a_ends, .ref a_over, .ref a_ahead, .ref a_behind, .ref a_done, .int v_kept, .int v_length, .int v_isFilled, .int qo1.2])), (a_text, .inl (cI, 60, .inl v_text))] H := hP
  have hD : va_D A [(a_now, .inl (cI, 393, .inl v_now)), (a_t, .inr (5, [.ref a_now, .ref a_slot, .ref a_history, .ref a_text, .ref a_lines, .ref a_owners, .ref a_many, .ref a_ends, .ref a_over, .ref a_ahead, .ref a_behind, .ref a_done, .int v_kept, .int v_length, .int v_isFilled, .int qo1.2])), (a_text, .inl (cI, 60, .inl v_text))] := hD
  refine lv_istore_n (lv' := [(3, .int qo1.1), (0, .ref a_t), (1, .int i1), (2, .int i2)]) hx hb dX5_reads_6 rfl hl (by decide) rfl (fun ls hl => ?_)
  refine lv_iload_n hx hb dX5_reads_7 rfl (lv_at hl 0 rfl) ?_
  refine lv_if_ne (tgt := 20) hx hb dX5_reads_8 (by decide) (fun hc => ?_) (fun hc => ?_)
  · replace hf := ineg hc hf
    exact J20 qo1.1 qo1.2 v_now _ _ _ hf (hP.sub (ws' := [(a_t, .inr (5, [.ref a_now, .ref a_slot, .ref a_history, .ref a_text, .ref a_lines, .ref a_owners, .ref a_many, .ref a_ends, .ref a_over, .ref a_ahead, .ref a_behind, .ref a_done, .int v_kept, .int v_length, .int v_isFilled, .int qo1.2])), (a_now, .inl (cI, 393, .inl v_now)), (a_text, .inl (cI, 60, .inl v_text))]) [1, 0, 2] rfl) (hD.sub (ws' := [(a_t, .inr (5, [.ref a_now, .ref a_slot, .ref a_history, .ref a_text, .ref a_lines, .ref a_owners, .ref a_many, .ref a_ends, .ref a_over, .ref a_ahead, .ref a_behind, .ref a_done, .int v_kept, .int v_length, .int v_isFilled, .int qo1.2])), (a_now, .inl (cI, 393, .inl v_now)), (a_text, .inl (cI, 60, .inl v_text))]) [1, 0, 2] (by decide) rfl) hS (lv_sub hl [1, 2, 3, 0] rfl)
  · replace hf := ip hc hf
    refine lv_aload_n hx hb dX5_reads_11 rfl (lv_at hl 1 rfl) ?_
    refine lv_bipush (v := 115) hx hb dX5_reads_12 (by decide) ?_
    replace hf := bd_some hf
    obtain ⟨qo4, hqo4, hf⟩ := hf
    refine g_Vi (As := [.int 115]) (rest := []) (wr := [(a_now, .inl (cI, 393, .inl v_now))]) ⟨hx, hb, hml, hown, hts⟩ (k_X5_stands l D cI cC a_t a_now a_slot a_history a_text a_lines a_owners a_many a_ends a_over a_ahead a_behind a_done 115 v_kept v_length v_isFilled qo1.2 v_text qo4 hqo4) (cwV 1 hts gX5_reads_X5_stands rfl rfl rfl (by decide +kernel) ⟨Nat.le_of_ble_eq_true rfl, Nat.le_of_ble_eq_true rfl⟩) hK hP hD hS hA 5 1 rfl rfl rfl [1, 2] [0] rfl rfl rfl rfl rfl (by decide) rfl hl.1 rfl (Nat.le_of_ble_eq_true rfl) dX5_reads_14 (Nat.zero_le _) (Nat.zero_le _) (fun H locs hP hD hS => ?_)
    have hP : va_P D vwCl [(a_now, .inl (cI, 393, .inl v_now)), (a_t, .inr (5, [.ref a_now, .ref a_slot, .ref a_history, .ref a_text, .ref a_lines, .ref a_owners, .ref a_many, .ref a_ends, .ref a_over, .ref a_ahead, .ref a_behind, .ref a_done, .int v_kept, .int v_length, .int v_isFilled, .int qo4.2])), (a_text, .inl (cI, 60, .inl v_text))] H := hP
    have hD : va_D A [(a_now, .inl (cI, 393, .inl v_now)), (a_t, .inr (5, [.ref a_now, .ref a_slot, .ref a_history, .ref a_text, .ref a_lines, .ref a_owners, .ref a_many, .ref a_ends, .ref a_over, .ref a_ahead, .ref a_behind, .ref a_done, .int v_kept, .int v_length, .int v_isFilled, .int qo4.2])), (a_text, .inl (cI, 60, .inl v_text))] := hD
    refine lv_if_eq (tgt := 76) hx hb dX5_reads_17 (by decide) (fun hc => ?_) (fun hc => ?_)
    · replace hf := ip hc hf
      refine lv_aload_n hx hb dX5_reads_76 rfl (lv_at hl 1 rfl) ?_
      refine lv_bipush (v := 112) hx hb dX5_reads_77 (by decide) ?_
      replace hf := bd_some hf
      obtain ⟨qo5, hqo5, hf⟩ := hf
      refine g_Vi (As := [.int 112]) (rest := []) (wr := [(a_now, .inl (cI, 393, .inl v_now))]) ⟨hx, hb, hml, hown, hts⟩ (k_X5_stands l D cI cC a_t a_now a_slot a_history a_text a_lines a_owners a_many a_ends a_over a_ahead a_behind a_done 112 v_kept v_length v_isFilled qo4.2 v_text qo5 hqo5) (cwV 1 hts gX5_reads_X5_stands rfl rfl rfl (by decide +kernel) ⟨Nat.le_of_ble_eq_true rfl, Nat.le_of_ble_eq_true rfl⟩) hK hP hD hS hA 5 1 rfl rfl rfl [1, 2] [0] rfl rfl rfl rfl rfl (by decide) rfl hl.1 rfl (Nat.le_of_ble_eq_true rfl) dX5_reads_79 (Nat.zero_le _) (Nat.zero_le _) (fun H locs hP hD hS => ?_)
      have hP : va_P D vwCl [(a_now, .inl (cI, 393, .inl v_now)), (a_t, .inr (5, [.ref a_now, .ref a_slot, .ref a_history, .ref a_text, .ref a_lines, .ref a_owners, .ref a_many, .ref a_ends, .ref a_over, .ref a_ahead, .ref a_behind, .ref a_done, .int v_kept, .int v_length, .int v_isFilled, .int qo5.2])), (a_text, .inl (cI, 60, .inl v_text))] H := hP
      have hD : va_D A [(a_now, .inl (cI, 393, .inl v_now)), (a_t, .inr (5, [.ref a_now, .ref a_slot, .ref a_history, .ref a_text, .ref a_lines, .ref a_owners, .ref a_many, .ref a_ends, .ref a_over, .ref a_ahead, .ref a_behind, .ref a_done, .int v_kept, .int v_length, .int v_isFilled, .int qo5.2])), (a_text, .inl (cI, 60, .inl v_text))] := hD
      refine lv_if_eq (tgt := 94) hx hb dX5_reads_82 (by decide) (fun hc => ?_) (fun hc => ?_)
      · replace hf := ip hc hf
        refine lv_iconst (v := (-1)) hx hb dX5_reads_94 (by decide) ?_
        exact J95 ((-1)) qo5.2 v_now _ _ _ hf (hP.sub (ws' := [(a_t, .inr (5, [.ref a_now, .ref a_slot, .ref a_history, .ref a_text, .ref a_lines, .ref a_owners, .ref a_many, .ref a_ends, .ref a_over, .ref a_ahead, .ref a_behind, .ref a_done, .int v_kept, .int v_length, .int v_isFilled, .int qo5.2])), (a_now, .inl (cI, 393, .inl v_now)), (a_text, .inl (cI, 60, .inl v_text))]) [1, 0, 2] rfl) (hD.sub (ws' := [(a_t, .inr (5, [.ref a_now, .ref a_slot, .ref a_history, .ref a_text, .ref a_lines, .ref a_owners, .ref a_many, .ref a_ends, .ref a_over, .ref a_ahead, .ref a_behind, .ref a_done, .int v_kept, .int v_length, .int v_isFilled, .int qo5.2])), (a_now, .inl (cI, 393, .inl v_now)), (a_text, .inl (cI, 60, .inl v_text))]) [1, 0, 2] (by decide) rfl) hS (lv_sub hl [1, 2, 3] rfl)
      · replace hf := ineg hc hf
        refine lv_aload_n hx hb dX5_reads_85 rfl (lv_at hl 1 rfl) ?_
        refine lv_bipush (v := 40) hx hb dX5_reads_86 (by decide) ?_
        replace hf := bd_some hf
        obtain ⟨qo12, hqo12, hf⟩ := hf
        refine g_Vi (As := [.int 40]) (rest := []) (wr := [(a_now, .inl (cI, 393, .inl v_now))]) ⟨hx, hb, hml, hown, hts⟩ (k_X5_number l D cI cC a_t a_now a_slot a_history a_text a_lines a_owners a_many a_ends a_over a_ahead a_behind a_done 40 v_kept v_length v_isFilled qo5.2 v_text qo12 hqo12) (cwV 1 hts gX5_reads_X5_number rfl rfl rfl (by decide +kernel) ⟨Nat.le_of_ble_eq_true rfl, Nat.le_of_ble_eq_true rfl⟩) hK hP hD hS hA 5 1 rfl rfl rfl [1, 2] [0] rfl rfl rfl rfl rfl (by decide) rfl hl.1 rfl (Nat.le_of_ble_eq_true rfl) dX5_reads_88 (Nat.zero_le _) (Nat.zero_le _) (fun H locs hP hD hS => ?_)
        have hP : va_P D vwCl [(a_now, .inl (cI, 393, .inl v_now)), (a_t, .inr (5, [.ref a_now, .ref a_slot, .ref a_history, .ref a_text, .ref a_lines, .ref a_owners, .ref a_many, .ref a_ends, .ref a_over, .ref a_ahead, .ref a_behind, .ref a_done, .int v_kept, .int v_length, .int v_isFilled, .int qo12.2])), (a_text, .inl (cI, 60, .inl v_text))] H := hP
        have hD : va_D A [(a_now, .inl (cI, 393, .inl v_now)), (a_t, .inr (5, [.ref a_now, .ref a_slot, .ref a_history, .ref a_text, .ref a_lines, .ref a_owners, .ref a_many, .ref a_ends, .ref a_over, .ref a_ahead, .ref a_behind, .ref a_done, .int v_kept, .int v_length, .int v_isFilled, .int qo12.2])), (a_text, .inl (cI, 60, .inl v_text))] := hD
        refine lv_goto (tgt := 95) hx hb dX5_reads_91 (by decide) ?_
        exact J95 qo12.1 qo12.2 v_now _ _ _ hf (hP.sub (ws' := [(a_t, .inr (5, [.ref a_now, .ref a_slot, .ref a_history, .ref a_text, .ref a_lines, .ref a_owners, .ref a_many, .ref a_ends, .ref a_over, .ref a_ahead, .ref a_behind, .ref a_done, .int v_kept, .int v_length, .int v_isFilled, .int qo12.2])), (a_now, .inl (cI, 393, .inl v_now)), (a_text, .inl (cI, 60, .inl v_text))]) [1, 0, 2] rfl) (hD.sub (ws' := [(a_t, .inr (5, [.ref a_now, .ref a_slot, .ref a_history, .ref a_text, .ref a_lines, .ref a_owners, .ref a_many, .ref a_ends, .ref a_over, .ref a_ahead, .ref a_behind, .ref a_done, .int v_kept, .int v_length, .int v_isFilled, .int qo12.2])), (a_now, .inl (cI, 393, .inl v_now)), (a_text, .inl (cI, 60, .inl v_text))]) [1, 0, 2] (by decide) rfl) hS (lv_sub hl [1, 2, 3] rfl)
    · replace hf := ineg hc hf
      exact J20 qo1.1 qo4.2 v_now _ _ _ hf (hP.sub (ws' := [(a_t, .inr (5, [.ref a_now, .ref a_slot, .ref a_history, .ref a_text, .ref a_lines, .ref a_owners, .ref a_many, .ref a_ends, .ref a_over, .ref a_ahead, .ref a_behind, .ref a_done, .int v_kept, .int v_length, .int v_isFilled, .int qo4.2])), (a_now, .inl (cI, 393, .inl v_now)), (a_text, .inl (cI, 60, .inl v_text))]) [1, 0, 2] rfl) (hD.sub (ws' := [(a_t, .inr (5, [.ref a_now, .ref a_slot, .ref a_history, .ref a_text, .ref a_lines, .ref a_owners, .ref a_many, .ref a_ends, .ref a_over, .ref a_ahead, .ref a_behind, .ref a_done, .int v_kept, .int v_length, .int v_isFilled, .int qo4.2])), (a_now, .inl (cI, 393, .inl v_now)), (a_text, .inl (cI, 60, .inl v_text))]) [1, 0, 2] (by decide) rfl) hS (lv_sub hl [1, 2, 3, 0] rfl)
def fX5_putAll_156 (i1 : Int32) (v_length : Int32) (v_text : Nat → Int32) (w2 : Int32) (v_kept : Int32) (v_history : Nat → Int32) : Nat → Int32 → Int32 → (Nat → Int32) → Option (Int32 × Int32 × Int32 × (Nat → Int32) × (Nat → Int32))
  | 0 => fun _ _ _ => none
  | n + 1 => fun w5 v_at v_now =>
    if w2 ≤ w5 then (bd (fX5_blocks i1 v_now) fun qo4 => some (qo4, v_kept, v_at, v_now, v_history)) else (bd (fX5_reads i1 1 v_length v_at v_now v_text) fun qo5 => nm (qo5.2.1 + 1) fun qx6 => nm (w5 + 1) fun qx7 => (fX5_putAll_156 i1 v_length v_text w2 v_kept v_history n) qx7 qx6 qo5.2.2)
def fX5_putAll_61 (v_kept : Int32) (v_at : Int32) (v_now : Nat → Int32) (v_history : Nat → Int32) : Option (Int32 × Int32 × Int32 × (Nat → Int32) × (Nat → Int32)) :=
    some (((-100)) - v_at, v_kept, v_at, v_now, v_history)
def fX5_putAll_114 (k21 : Int32 → Int32 → Int32 → Int32 → (Nat → Int32) → Option (Int32 × Int32 × Int32 × (Nat → Int32) × (Nat → Int32))) (i1 : Int32) (v_length : Int32) (v_text : Nat → Int32) (w2 : Int32) (w4 : Int32) (s0 : Int32) (s1 : Int32) (v_kept : Int32) (v_at : Int32) (v_now : Nat → Int32) (v_history : Nat → Int32) : Option (Int32 × Int32 × Int32 × (Nat → Int32) × (Nat → Int32)) :=
    nm (s0 &&& s1) fun qx9 => nm (w2 + 1) fun qx10 => k21 qx10 qx9 w4 v_at v_now
def fX5_putAll_101 (k21 : Int32 → Int32 → Int32 → Int32 → (Nat → Int32) → Option (Int32 × Int32 × Int32 × (Nat → Int32) × (Nat → Int32))) (i1 : Int32) (v_length : Int32) (v_text : Nat → Int32) (w2 : Int32) (w3 : Int32) (w5 : Int32) (s0 : Int32) (v_kept : Int32) (v_at : Int32) (v_now : Nat → Int32) (v_history : Nat → Int32) : Option (Int32 × Int32 × Int32 × (Nat → Int32) × (Nat → Int32)) :=
    if w5 = 0 then (fX5_putAll_114 k21 i1 v_length v_text w2 s0 w3 1 v_kept v_at v_now v_history) else (fX5_putAll_114 k21 i1 v_length v_text w2 s0 w3 0 v_kept v_at v_now v_history)
def fX5_putAll_96 (k21 : Int32 → Int32 → Int32 → Int32 → (Nat → Int32) → Option (Int32 × Int32 × Int32 × (Nat → Int32) × (Nat → Int32))) (i1 : Int32) (v_length : Int32) (v_text : Nat → Int32) (w2 : Int32) (w3 : Int32) (w5 : Int32) (v_kept : Int32) (v_at : Int32) (v_now : Nat → Int32) (v_history : Nat → Int32) : Option (Int32 × Int32 × Int32 × (Nat → Int32) × (Nat → Int32)) :=
    fX5_putAll_101 k21 i1 v_length v_text w2 w3 w5 1 v_kept v_at v_now v_history
def fX5_putAll_69 (k21 : Int32 → Int32 → Int32 → Int32 → (Nat → Int32) → Option (Int32 × Int32 × Int32 × (Nat → Int32) × (Nat → Int32))) (i1 : Int32) (v_length : Int32) (v_text : Nat → Int32) (w2 : Int32) (w3 : Int32) (w5 : Int32) (v_kept : Int32) (v_at : Int32) (v_now : Nat → Int32) (v_history : Nat → Int32) : Option (Int32 × Int32 × Int32 × (Nat → Int32) × (Nat → Int32)) :=
    if v_at < v_length then (fX5_putAll_96 k21 i1 v_length v_text w2 w3 w5 v_kept v_at v_now v_history) else (aget 60 v_text (v_at - 1) fun qx11 => if qx11 = 59 then (fX5_putAll_96 k21 i1 v_length v_text w2 w3 w5 v_kept v_at v_now v_history) else (fX5_putAll_101 k21 i1 v_length v_text w2 w3 w5 0 v_kept v_at v_now v_history))
def fX5_putAll_21 (i1 : Int32) (v_length : Int32) (v_text : Nat → Int32) (v_kept : Int32) (v_history : Nat → Int32) : Nat → Int32 → Int32 → Int32 → Int32 → (Nat → Int32) → Option (Int32 × Int32 × Int32 × (Nat → Int32) × (Nat → Int32))
  | 0 => fun _ _ _ _ _ => none
  | n + 1 => fun w2 w3 w4 v_at v_now =>
    if w4 = 0 then (if w3 = 0 then (some ((-2), v_kept, v_at, v_now, v_history)) else (bd (fX5_blocks i1 v_now) fun qo2 => if (qo2 + w2) ≤ 16 then (bd (fX5_record v_kept v_now v_history) fun qo3 => fX5_putAll_156 i1 v_length v_text w2 qo3.1 qo3.2 Fu 0 0 v_now) else (some ((-3), v_kept, v_at, v_now, v_history)))) else (bd (fX5_reads i1 0 v_length v_at v_now v_text) fun qo8 => if qo8.1 = ((-100)) then (fX5_putAll_61 v_kept qo8.2.1 qo8.2.2 v_history) else (if v_length ≤ qo8.2.1 then (fX5_putAll_69 (fX5_putAll_21 i1 v_length v_text v_kept v_history n) i1 v_length v_text w2 w3 qo8.1 v_kept qo8.2.1 qo8.2.2 v_history) else (bd (fX5_stands 59 v_length qo8.2.1 v_text) fun qo12 => if qo12.1 = 0 then (fX5_putAll_61 v_kept qo12.2 qo8.2.2 v_history) else (fX5_putAll_69 (fX5_putAll_21 i1 v_length v_text v_kept v_history n) i1 v_length v_text w2 w3 qo8.1 v_kept qo12.2 qo8.2.2 v_history))))
def fX5_putAll (i1 : Int32) (v_kept : Int32) (v_length : Int32) (v_at : Int32) (v_now : Nat → Int32) (v_history : Nat → Int32) (v_text : Nat → Int32) : Option (Int32 × Int32 × Int32 × (Nat → Int32) × (Nat → Int32)) :=
  bd (fX5_isColumn i1) fun qo1 => if qo1 = 0 then (some ((-1), v_kept, v_at, v_now, v_history)) else (fX5_putAll_21 i1 v_length v_text v_kept v_history Fu 0 1 1 0 v_now)
def rX5_putAll : Room := { frames := 3, cells := 0, slots := 0, locals := 79 }
theorem hin_X5_putAll_X5 : ∀ w ∈ wsX50, w ∈ wsX5_putAll := fun _ h => List.mem_cons_of_mem _ (List.mem_append_right _ (h))
set_option maxHeartbeats 4000000 in
set_option maxRecDepth 100000 in
theorem k_X5_putAll (l : Launch) (D : va_G) (cI cC : ClassId) (a_t : Nat) (a_now : Nat) (a_slot : Nat) (a_history : Nat) (a_text : Nat) (a_lines : Nat) (a_owners : Nat) (a_many : Nat) (a_ends : Nat) (a_over : Nat) (a_ahead : Nat) (a_behind : Nat) (a_done : Nat) (i1 : Int32) (v_kept : Int32) (v_length : Int32) (v_isFilled : Int32) (v_at : Int32) (v_now : Nat → Int32) (v_history : Nat → Int32) (v_text : Nat → Int32) (o : Int32 × Int32 × Int32 × (Nat → Int32) × (Nat → Int32)) (hf : fX5_putAll i1 v_kept v_length v_at v_now v_history v_text = some o) : CTi l yX5_putAll wsX5_putAll rX5_putAll D cI cC [.ref a_t, .int i1] [(a_t, .inr (5, [.ref a_now, .ref a_slot, .ref a_history, .ref a_text, .ref a_lines, .ref a_owners, .ref a_many, .ref a_ends, .ref a_over, .ref a_ahead, .ref a_behind, .ref a_done, .int v_kept, .int v_length, .int v_isFilled, .int v_at])), (a_now, .inl (cI, 393, .inl v_now)), (a_history, .inl (cI, 1572, .inl v_history)), (a_text, .inl (cI, 60, .inl v_text))] [(a_t, .inr (5, [.ref a_now, .ref a_slot, .ref a_history, .ref a_text, .ref a_lines, .ref a_owners, .ref a_many, .ref a_ends, .ref a_over, .ref a_ahead, .ref a_behind, .ref a_done, .int o.2.1, .int v_length, .int v_isFilled, .int o.2.2.1])), (a_now, .inl (cI, 393, .inl o.2.2.2.1)), (a_history, .inl (cI, 1572, .inl o.2.2.2.2)), (a_text, .inl (cI, 60, .inl v_text))] o.1 := by
  refine CTi_of (cc := cX5_putAll) (maxL := 7) (ty := .int) (by decide) rfl (Nat.le_of_ble_eq_true rfl) ?_
  intro p e s m args below meth c A Q ls C0 hA hP hD hl hret
  obtain ⟨hx, hb, hml, hts, hown, hK⟩ := C0
  have hown : s.vm.findClass RX5 = some m.cls := hown
  have hS : va_S A s.heap s.heap [] := va_S.rf
  have hl : lv_has ls 7 [(0, .ref a_t), (1, .int i1)] := hl
  have hinX5 := hin_X5_putAll_X5
  have J156 : ∀ (w2 : Int32) (v_kept : Int32) (v_history : Nat → Int32)  (n : Nat) (w5 : Int32) (v_at : Int32) (v_now : Nat → Int32) (H : Heap) (locs : List Loc) (ls : Array Slot), fX5_putAll_156 i1 v_length v_text w2 v_kept v_history n w5 v_at v_now = some o → va_P D vwCl [(a_t, .inr (5, [.ref a_now, .ref a_slot, .ref a_history, .ref a_text, .ref a_lines, .ref a_owners, .ref a_many, .ref a_ends, .ref a_over, .ref a_ahead, .ref a_behind, .ref a_done, .int v_kept, .int v_length, .int v_isFilled, .int v_at])), (a_now, .inl (cI, 393, .inl v_now)), (a_history, .inl (cI, 1572, .inl v_history)), (a_text, .inl (cI, 60, .inl v_text))] H → va_D A [(a_t, .inr (5, [.ref a_now, .ref a_slot, .ref a_history, .ref a_text, .ref a_lines, .ref a_owners, .ref a_many, .ref a_ends, .ref a_over, .ref a_ahead, .ref a_behind, .ref a_done, .int v_kept, .int v_length, .int v_isFilled, .int v_at])), (a_now, .inl (cI, 393, .inl v_now)), (a_history, .inl (cI, 1572, .inl v_history)), (a_text, .inl (cI, 60, .inl v_text))] → va_S A s.heap H locs → lv_has ls 7 [(0, .ref a_t), (1, .int i1), (2, .int w2), (5, .int w5)] → W p l e rX5_putAll s m args below meth c H locs 0 0 Q (F0 m 156 ls []) := by
    intro w2 v_kept v_history n
    induction n with
    | zero =>
      intro w5 v_at v_now H locs ls hf
      have hf0 : (none : Option (Int32 × Int32 × Int32 × (Nat → Int32) × (Nat → Int32))) = some o := hf
      cases hf0
    | succ n hk156 =>
      intro w5 v_at v_now H locs ls hf hP hD hS hl
      rw [fX5_putAll_156] at hf
      refine lv_iload hx hb dX5_putAll_156 (lv_at hl 3 rfl) ?_
      refine lv_iload_n hx hb dX5_putAll_158 rfl (lv_at hl 2 rfl) ?_
      refine lv_icmp_ge (tgt := 186) hx hb dX5_putAll_159 (by decide) (fun hc => ?_) (fun hc => ?_)
      · replace hf := ip hc hf
        refine lv_aload_n hx hb dX5_putAll_186 rfl (lv_at hl 0 rfl) ?_
        refine lv_iload_n hx hb dX5_putAll_187 rfl (lv_at hl 1 rfl) ?_
        replace hf := bd_some hf
        obtain ⟨qo4, hqo4, hf⟩ := hf
        refine g_Vi (As := [.int i1]) (rest := []) (wr := [(a_history, .inl (cI, 1572, .inl v_history)), (a_text, .inl (cI, 60, .inl v_text))]) ⟨hx, hb, hml, hown, hts⟩ (k_X5_blocks l D cI cC a_t a_now a_slot a_history a_text a_lines a_owners a_many a_ends a_over a_ahead a_behind a_done i1 v_kept v_length v_isFilled v_at v_now qo4 hqo4) (cwV 1 hts gX5_putAll_X5_blocks rfl rfl rfl (by decide +kernel) ⟨Nat.le_of_ble_eq_true rfl, Nat.le_of_ble_eq_true rfl⟩) hK hP hD hS hA 5 0 rfl rfl rfl [0, 1] [2, 3] rfl rfl rfl rfl rfl (by decide) rfl hl.1 rfl (Nat.le_of_ble_eq_true rfl) dX5_putAll_188 (Nat.zero_le _) (Nat.zero_le _) (fun H locs hP hD hS => ?_)
        have hP : va_P D vwCl [(a_history, .inl (cI, 1572, .inl v_history)), (a_text, .inl (cI, 60, .inl v_text)), (a_t, .inr (5, [.ref a_now, .ref a_slot, .ref a_history, .ref a_text, .ref a_lines, .ref a_owners, .ref a_many, .ref a_ends, .ref a_over, .ref a_ahead, .ref a_behind, .ref a_done, .int v_kept, .int v_length, .int v_isFilled, .int v_at])), (a_now, .inl (cI, 393, .inl v_now))] H := hP
        have hD : va_D A [(a_history, .inl (cI, 1572, .inl v_history)), (a_text, .inl (cI, 60, .inl v_text)), (a_t, .inr (5, [.ref a_now, .ref a_slot, .ref a_history, .ref a_text, .ref a_lines, .ref a_owners, .ref a_many, .ref a_ends, .ref a_over, .ref a_ahead, .ref a_behind, .ref a_done, .int v_kept, .int v_length, .int v_isFilled, .int v_at])), (a_now, .inl (cI, 393, .inl v_now))] := hD
        have ho := Option.some.inj hf
        subst ho
        exact hret dX5_putAll_191 rfl (hP.sub (ws' := [(a_t, .inr (5, [.ref a_now, .ref a_slot, .ref a_history, .ref a_text, .ref a_lines, .ref a_owners, .ref a_many, .ref a_ends, .ref a_over, .ref a_ahead, .ref a_behind, .ref a_done, .int v_kept, .int v_length, .int v_isFilled, .int v_at])), (a_now, .inl (cI, 393, .inl v_now)), (a_history, .inl (cI, 1572, .inl v_history)), (a_text, .inl (cI, 60, .inl v_text))]) [2, 3, 0, 1] rfl) (hD.sub (ws' := [(a_t, .inr (5, [.ref a_now, .ref a_slot, .ref a_history, .ref a_text, .ref a_lines, .ref a_owners, .ref a_many, .ref a_ends, .ref a_over, .ref a_ahead, .ref a_behind, .ref a_done, .int v_kept, .int v_length, .int v_isFilled, .int v_at])), (a_now, .inl (cI, 393, .inl v_now)), (a_history, .inl (cI, 1572, .inl v_history)), (a_text, .inl (cI, 60, .inl v_text))]) [2, 3, 0, 1] (by decide) rfl) hS
      · replace hf := ineg hc hf
        refine lv_aload_n hx hb dX5_putAll_162 rfl (lv_at hl 0 rfl) ?_
        refine lv_iload_n hx hb dX5_putAll_163 rfl (lv_at hl 1 rfl) ?_
        refine lv_iconst (v := 1) hx hb dX5_putAll_164 (by decide) ?_
        replace hf := bd_some hf
        obtain ⟨qo5, hqo5, hf⟩ := hf
        refine g_Vi (As := [.int i1, .int 1]) (rest := []) (wr := [(a_history, .inl (cI, 1572, .inl v_history))]) ⟨hx, hb, hml, hown, hts⟩ (k_X5_reads l D cI cC a_t a_now a_slot a_history a_text a_lines a_owners a_many a_ends a_over a_ahead a_behind a_done i1 1 v_kept v_length v_isFilled v_at v_now v_text qo5 hqo5) (cwV 2 hts gX5_putAll_X5_reads rfl rfl rfl (by decide +kernel) ⟨Nat.le_of_ble_eq_true rfl, Nat.le_of_ble_eq_true rfl⟩) hK hP hD hS hA 5 0 rfl rfl rfl [0, 1, 3] [2] rfl rfl rfl rfl rfl (by decide) rfl hl.1 rfl (Nat.le_of_ble_eq_true rfl) dX5_putAll_165 (Nat.zero_le _) (Nat.zero_le _) (fun H locs hP hD hS => ?_)
        have hP : va_P D vwCl [(a_history, .inl (cI, 1572, .inl v_history)), (a_t, .inr (5, [.ref a_now, .ref a_slot, .ref a_history, .ref a_text, .ref a_lines, .ref a_owners, .ref a_many, .ref a_ends, .ref a_over, .ref a_ahead, .ref a_behind, .ref a_done, .int v_kept, .int v_length, .int v_isFilled, .int qo5.2.1])), (a_now, .inl (cI, 393, .inl qo5.2.2)), (a_text, .inl (cI, 60, .inl v_text))] H := hP
        have hD : va_D A [(a_history, .inl (cI, 1572, .inl v_history)), (a_t, .inr (5, [.ref a_now, .ref a_slot, .ref a_history, .ref a_text, .ref a_lines, .ref a_owners, .ref a_many, .ref a_ends, .ref a_over, .ref a_ahead, .ref a_behind, .ref a_done, .int v_kept, .int v_length, .int v_isFilled, .int qo5.2.1])), (a_now, .inl (cI, 393, .inl qo5.2.2)), (a_text, .inl (cI, 60, .inl v_text))] := hD
        refine lv_istore (lv' := [(6, .int qo5.1), (0, .ref a_t), (1, .int i1), (2, .int w2), (5, .int w5)]) hx hb dX5_putAll_168 hl (by decide) rfl (fun ls hl => ?_)
        refine lv_aload_n hx hb dX5_putAll_170 rfl (lv_at hl 1 rfl) ?_
        refine lv_dup hx hb dX5_putAll_171 rfl ?_
        refine va_get (D := D) (ci := 5) (v := .int qo5.2.1) (C := RX5) (T := TX5) (N := 16) hx hb hts hinX5 hown hK.1 hP 1 rfl rfl 15 (by decide) (hts (.fieldLink RX5 114 "BaselineGridModel" "at" "I") (List.mem_of_getElem? (i := 1) rfl)) (fun _ h9 => h9) rfl dX5_putAll_172 ?_
        refine lv_iconst (v := 1) hx hb dX5_putAll_175 (by decide) ?_
        refine lv_iadd hx hb dX5_putAll_176 ?_
        refine g_nm hf (fun qx6 hf => ?_)
        refine va_put (D := D) (ci := 5) (v := .int qx6) (ty := .int) (C := RX5) (T := TX5) (N := 16) hx hb hts hinX5 tyX5 tyX5_ok nmX5 hown hK.1 hP hD hS 1 rfl rfl 15 (by decide) (hts (.fieldLink RX5 114 "BaselineGridModel" "at" "I") (List.mem_of_getElem? (i := 1) rfl)) (fun _ h9 => h9) rfl (by decide +kernel) rfl rfl (Nat.le_of_ble_eq_true rfl) dX5_putAll_177 (fun H locs hP hD hS => ?_)
        have hP : va_P D vwCl [(a_history, .inl (cI, 1572, .inl v_history)), (a_t, .inr (5, [.ref a_now, .ref a_slot, .ref a_history, .ref a_text, .ref a_lines, .ref a_owners, .ref a_many, .ref a_ends, .ref a_over, .ref a_ahead, .ref a_behind, .ref a_done, .int v_kept, .int v_length, .int v_isFilled, .int qx6])), (a_now, .inl (cI, 393, .inl qo5.2.2)), (a_text, .inl (cI, 60, .inl v_text))] H := hP
        have hD : va_D A [(a_history, .inl (cI, 1572, .inl v_history)), (a_t, .inr (5, [.ref a_now, .ref a_slot, .ref a_history, .ref a_text, .ref a_lines, .ref a_owners, .ref a_many, .ref a_ends, .ref a_over, .ref a_ahead, .ref a_behind, .ref a_done, .int v_kept, .int v_length, .int v_isFilled, .int qx6])), (a_now, .inl (cI, 393, .inl qo5.2.2)), (a_text, .inl (cI, 60, .inl v_text))] := hD
        replace hf := nm_some hf
        obtain ⟨qx7, eqx7, hf⟩ := hf
        refine lv_iinc (v := qx7) (lv' := [(5, .int qx7), (6, .int qo5.1), (0, .ref a_t), (1, .int i1), (2, .int w2)]) hx hb dX5_putAll_180 hl (k := 4) rfl (by rw [eqx7]; rfl) (by decide) rfl (fun ls hl => ?_)
        refine lv_goto (tgt := 156) hx hb dX5_putAll_183 (by decide) ?_
        exact hk156 qx7 qx6 qo5.2.2 _ _ _ hf (hP.sub (ws' := [(a_t, .inr (5, [.ref a_now, .ref a_slot, .ref a_history, .ref a_text, .ref a_lines, .ref a_owners, .ref a_many, .ref a_ends, .ref a_over, .ref a_ahead, .ref a_behind, .ref a_done, .int v_kept, .int v_length, .int v_isFilled, .int qx6])), (a_now, .inl (cI, 393, .inl qo5.2.2)), (a_history, .inl (cI, 1572, .inl v_history)), (a_text, .inl (cI, 60, .inl v_text))]) [1, 2, 0, 3] rfl) (hD.sub (ws' := [(a_t, .inr (5, [.ref a_now, .ref a_slot, .ref a_history, .ref a_text, .ref a_lines, .ref a_owners, .ref a_many, .ref a_ends, .ref a_over, .ref a_ahead, .ref a_behind, .ref a_done, .int v_kept, .int v_length, .int v_isFilled, .int qx6])), (a_now, .inl (cI, 393, .inl qo5.2.2)), (a_history, .inl (cI, 1572, .inl v_history)), (a_text, .inl (cI, 60, .inl v_text))]) [1, 2, 0, 3] (by decide) rfl) hS (lv_sub hl [2, 3, 4, 0] rfl)
  have J61 : ∀ (v_kept : Int32) (v_at : Int32) (v_now : Nat → Int32) (v_history : Nat → Int32)  (H : Heap) (locs : List Loc) (ls : Array Slot), fX5_putAll_61 v_kept v_at v_now v_history = some o → va_P D vwCl [(a_t, .inr (5, [.ref a_now, .ref a_slot, .ref a_history, .ref a_text, .ref a_lines, .ref a_owners, .ref a_many, .ref a_ends, .ref a_over, .ref a_ahead, .ref a_behind, .ref a_done, .int v_kept, .int v_length, .int v_isFilled, .int v_at])), (a_now, .inl (cI, 393, .inl v_now)), (a_history, .inl (cI, 1572, .inl v_history)), (a_text, .inl (cI, 60, .inl v_text))] H → va_D A [(a_t, .inr (5, [.ref a_now, .ref a_slot, .ref a_history, .ref a_text, .ref a_lines, .ref a_owners, .ref a_many, .ref a_ends, .ref a_over, .ref a_ahead, .ref a_behind, .ref a_done, .int v_kept, .int v_length, .int v_isFilled, .int v_at])), (a_now, .inl (cI, 393, .inl v_now)), (a_history, .inl (cI, 1572, .inl v_history)), (a_text, .inl (cI, 60, .inl v_text))] → va_S A s.heap H locs → lv_has ls 7 [(0, .ref a_t)] → W p l e rX5_putAll s m args below meth c H locs 0 0 Q (F0 m 61 ls []) := by
    intro v_kept v_at v_now v_history H locs ls hf hP hD hS hl
    unfold fX5_putAll_61 at hf
    refine lv_bipush (v := (-100)) hx hb dX5_putAll_61 (by decide) ?_
    refine lv_aload_n hx hb dX5_putAll_63 rfl (lv_at hl 0 rfl) ?_
    refine va_get (D := D) (ci := 5) (v := .int v_at) (C := RX5) (T := TX5) (N := 16) hx hb hts hinX5 hown hK.1 hP 0 rfl rfl 15 (by decide) (hts (.fieldLink RX5 114 "BaselineGridModel" "at" "I") (List.mem_of_getElem? (i := 1) rfl)) (fun _ h9 => h9) rfl dX5_putAll_64 ?_
    refine lv_isub hx hb dX5_putAll_67 ?_
    have ho := Option.some.inj hf
    subst ho
    exact hret dX5_putAll_68 rfl (hP.sub (ws' := [(a_t, .inr (5, [.ref a_now, .ref a_slot, .ref a_history, .ref a_text, .ref a_lines, .ref a_owners, .ref a_many, .ref a_ends, .ref a_over, .ref a_ahead, .ref a_behind, .ref a_done, .int v_kept, .int v_length, .int v_isFilled, .int v_at])), (a_now, .inl (cI, 393, .inl v_now)), (a_history, .inl (cI, 1572, .inl v_history)), (a_text, .inl (cI, 60, .inl v_text))]) [0, 1, 2, 3] rfl) (hD.sub (ws' := [(a_t, .inr (5, [.ref a_now, .ref a_slot, .ref a_history, .ref a_text, .ref a_lines, .ref a_owners, .ref a_many, .ref a_ends, .ref a_over, .ref a_ahead, .ref a_behind, .ref a_done, .int v_kept, .int v_length, .int v_isFilled, .int v_at])), (a_now, .inl (cI, 393, .inl v_now)), (a_history, .inl (cI, 1572, .inl v_history)), (a_text, .inl (cI, 60, .inl v_text))]) [0, 1, 2, 3] (by decide) rfl) hS
  have J114 : ∀ (k21 : Int32 → Int32 → Int32 → Int32 → (Nat → Int32) → Option (Int32 × Int32 × Int32 × (Nat → Int32) × (Nat → Int32))) (w2 : Int32) (w4 : Int32) (s0 : Int32) (s1 : Int32) (v_kept : Int32) (v_at : Int32) (v_now : Nat → Int32) (v_history : Nat → Int32) (hk21 : ∀ (w2 : Int32) (w3 : Int32) (w4 : Int32) (v_at : Int32) (v_now : Nat → Int32) (H : Heap) (locs : List Loc) (ls : Array Slot), k21 w2 w3 w4 v_at v_now = some o → va_P D vwCl [(a_t, .inr (5, [.ref a_now, .ref a_slot, .ref a_history, .ref a_text, .ref a_lines, .ref a_owners, .ref a_many, .ref a_ends, .ref a_over, .ref a_ahead, .ref a_behind, .ref a_done, .int v_kept, .int v_length, .int v_isFilled, .int v_at])), (a_now, .inl (cI, 393, .inl v_now)), (a_history, .inl (cI, 1572, .inl v_history)), (a_text, .inl (cI, 60, .inl v_text))] H → va_D A [(a_t, .inr (5, [.ref a_now, .ref a_slot, .ref a_history, .ref a_text, .ref a_lines, .ref a_owners, .ref a_many, .ref a_ends, .ref a_over, .ref a_ahead, .ref a_behind, .ref a_done, .int v_kept, .int v_length, .int v_isFilled, .int v_at])), (a_now, .inl (cI, 393, .inl v_now)), (a_history, .inl (cI, 1572, .inl v_history)), (a_text, .inl (cI, 60, .inl v_text))] → va_S A s.heap H locs → lv_has ls 7 [(0, .ref a_t), (1, .int i1), (2, .int w2), (3, .int w3), (4, .int w4)] → W p l e rX5_putAll s m args below meth c H locs 0 0 Q (F0 m 21 ls [])) (H : Heap) (locs : List Loc) (ls : Array Slot), fX5_putAll_114 k21 i1 v_length v_text w2 w4 s0 s1 v_kept v_at v_now v_history = some o → va_P D vwCl [(a_t, .inr (5, [.ref a_now, .ref a_slot, .ref a_history, .ref a_text, .ref a_lines, .ref a_owners, .ref a_many, .ref a_ends, .ref a_over, .ref a_ahead, .ref a_behind, .ref a_done, .int v_kept, .int v_length, .int v_isFilled, .int v_at])), (a_now, .inl (cI, 393, .inl v_now)), (a_history, .inl (cI, 1572, .inl v_history)), (a_text, .inl (cI, 60, .inl v_text))] H → va_D A [(a_t, .inr (5, [.ref a_now, .ref a_slot, .ref a_history, .ref a_text, .ref a_lines, .ref a_owners, .ref a_many, .ref a_ends, .ref a_over, .ref a_ahead, .ref a_behind, .ref a_done, .int v_kept, .int v_length, .int v_isFilled, .int v_at])), (a_now, .inl (cI, 393, .inl v_now)), (a_history, .inl (cI, 1572, .inl v_history)), (a_text, .inl (cI, 60, .inl v_text))] → va_S A s.heap H locs → lv_has ls 7 [(0, .ref a_t), (1, .int i1), (2, .int w2), (4, .int w4)] → W p l e rX5_putAll s m args below meth c H locs 0 0 Q (F0 m 114 ls [.int s1, .int s0]) := by
    intro k21 w2 w4 s0 s1 v_kept v_at v_now v_history hk21 H locs ls hf hP hD hS hl
    unfold fX5_putAll_114 at hf
    refine lv_iand hx hb dX5_putAll_114 ?_
    refine g_nm hf (fun qx9 hf => ?_)
    refine lv_istore_n (lv' := [(3, .int qx9), (0, .ref a_t), (1, .int i1), (2, .int w2), (4, .int w4)]) hx hb dX5_putAll_115 rfl hl (by decide) rfl (fun ls hl => ?_)
    replace hf := nm_some hf
    obtain ⟨qx10, eqx10, hf⟩ := hf
    refine lv_iinc (v := qx10) (lv' := [(2, .int qx10), (3, .int qx9), (0, .ref a_t), (1, .int i1), (4, .int w4)]) hx hb dX5_putAll_116 hl (k := 3) rfl (by rw [eqx10]; rfl) (by decide) rfl (fun ls hl => ?_)
    refine lv_goto (tgt := 21) hx hb dX5_putAll_119 (by decide) ?_
    exact hk21 qx10 qx9 w4 v_at v_now _ _ _ hf (hP.sub (ws' := [(a_t, .inr (5, [.ref a_now, .ref a_slot, .ref a_history, .ref a_text, .ref a_lines, .ref a_owners, .ref a_many, .ref a_ends, .ref a_over, .ref a_ahead, .ref a_behind, .ref a_done, .int v_kept, .int v_length, .int v_isFilled, .int v_at])), (a_now, .inl (cI, 393, .inl v_now)), (a_history, .inl (cI, 1572, .inl v_history)), (a_text, .inl (cI, 60, .inl v_text))]) [0, 1, 2, 3] rfl) (hD.sub (ws' := [(a_t, .inr (5, [.ref a_now, .ref a_slot, .ref a_history, .ref a_text, .ref a_lines, .ref a_owners, .ref a_many, .ref a_ends, .ref a_over, .ref a_ahead, .ref a_behind, .ref a_done, .int v_kept, .int v_length, .int v_isFilled, .int v_at])), (a_now, .inl (cI, 393, .inl v_now)), (a_history, .inl (cI, 1572, .inl v_history)), (a_text, .inl (cI, 60, .inl v_text))]) [0, 1, 2, 3] (by decide) rfl) hS (lv_sub hl [2, 3, 0, 1, 4] rfl)
  have J101 : ∀ (k21 : Int32 → Int32 → Int32 → Int32 → (Nat → Int32) → Option (Int32 × Int32 × Int32 × (Nat → Int32) × (Nat → Int32))) (w2 : Int32) (w3 : Int32) (w5 : Int32) (s0 : Int32) (v_kept : Int32) (v_at : Int32) (v_now : Nat → Int32) (v_history : Nat → Int32) (hk21 : ∀ (w2 : Int32) (w3 : Int32) (w4 : Int32) (v_at : Int32) (v_now : Nat → Int32) (H : Heap) (locs : List Loc) (ls : Array Slot), k21 w2 w3 w4 v_at v_now = some o → va_P D vwCl [(a_t, .inr (5, [.ref a_now, .ref a_slot, .ref a_history, .ref a_text, .ref a_lines, .ref a_owners, .ref a_many, .ref a_ends, .ref a_over, .ref a_ahead, .ref a_behind, .ref a_done, .int v_kept, .int v_length, .int v_isFilled, .int v_at])), (a_now, .inl (cI, 393, .inl v_now)), (a_history, .inl (cI, 1572, .inl v_history)), (a_text, .inl (cI, 60, .inl v_text))] H → va_D A [(a_t, .inr (5, [.ref a_now, .ref a_slot, .ref a_history, .ref a_text, .ref a_lines, .ref a_owners, .ref a_many, .ref a_ends, .ref a_over, .ref a_ahead, .ref a_behind, .ref a_done, .int v_kept, .int v_length, .int v_isFilled, .int v_at])), (a_now, .inl (cI, 393, .inl v_now)), (a_history, .inl (cI, 1572, .inl v_history)), (a_text, .inl (cI, 60, .inl v_text))] → va_S A s.heap H locs → lv_has ls 7 [(0, .ref a_t), (1, .int i1), (2, .int w2), (3, .int w3), (4, .int w4)] → W p l e rX5_putAll s m args below meth c H locs 0 0 Q (F0 m 21 ls [])) (H : Heap) (locs : List Loc) (ls : Array Slot), fX5_putAll_101 k21 i1 v_length v_text w2 w3 w5 s0 v_kept v_at v_now v_history = some o → va_P D vwCl [(a_t, .inr (5, [.ref a_now, .ref a_slot, .ref a_history, .ref a_text, .ref a_lines, .ref a_owners, .ref a_many, .ref a_ends, .ref a_over, .ref a_ahead, .ref a_behind, .ref a_done, .int v_kept, .int v_length, .int v_isFilled, .int v_at])), (a_now, .inl (cI, 393, .inl v_now)), (a_history, .inl (cI, 1572, .inl v_history)), (a_text, .inl (cI, 60, .inl v_text))] H → va_D A [(a_t, .inr (5, [.ref a_now, .ref a_slot, .ref a_history, .ref a_text, .ref a_lines, .ref a_owners, .ref a_many, .ref a_ends, .ref a_over, .ref a_ahead, .ref a_behind, .ref a_done, .int v_kept, .int v_length, .int v_isFilled, .int v_at])), (a_now, .inl (cI, 393, .inl v_now)), (a_history, .inl (cI, 1572, .inl v_history)), (a_text, .inl (cI, 60, .inl v_text))] → va_S A s.heap H locs → lv_has ls 7 [(0, .ref a_t), (1, .int i1), (2, .int w2), (3, .int w3), (5, .int w5)] → W p l e rX5_putAll s m args below meth c H locs 0 0 Q (F0 m 101 ls [.int s0]) := by
    intro k21 w2 w3 w5 s0 v_kept v_at v_now v_history hk21 H locs ls hf hP hD hS hl
    unfold fX5_putAll_101 at hf
    refine lv_istore (lv' := [(4, .int s0), (0, .ref a_t), (1, .int i1), (2, .int w2), (3, .int w3), (5, .int w5)]) hx hb dX5_putAll_101 hl (by decide) rfl (fun ls hl => ?_)
    refine lv_iload_n hx hb dX5_putAll_103 rfl (lv_at hl 4 rfl) ?_
    refine lv_iload hx hb dX5_putAll_104 (lv_at hl 5 rfl) ?_
    refine lv_if_ne (tgt := 113) hx hb dX5_putAll_106 (by decide) (fun hc => ?_) (fun hc => ?_)
    · replace hf := ineg hc hf
      refine lv_iconst (v := 0) hx hb dX5_putAll_113 (by decide) ?_
      exact J114 k21 w2 s0 w3 0 v_kept v_at v_now v_history hk21 _ _ _ hf (hP.sub (ws' := [(a_t, .inr (5, [.ref a_now, .ref a_slot, .ref a_history, .ref a_text, .ref a_lines, .ref a_owners, .ref a_many, .ref a_ends, .ref a_over, .ref a_ahead, .ref a_behind, .ref a_done, .int v_kept, .int v_length, .int v_isFilled, .int v_at])), (a_now, .inl (cI, 393, .inl v_now)), (a_history, .inl (cI, 1572, .inl v_history)), (a_text, .inl (cI, 60, .inl v_text))]) [0, 1, 2, 3] rfl) (hD.sub (ws' := [(a_t, .inr (5, [.ref a_now, .ref a_slot, .ref a_history, .ref a_text, .ref a_lines, .ref a_owners, .ref a_many, .ref a_ends, .ref a_over, .ref a_ahead, .ref a_behind, .ref a_done, .int v_kept, .int v_length, .int v_isFilled, .int v_at])), (a_now, .inl (cI, 393, .inl v_now)), (a_history, .inl (cI, 1572, .inl v_history)), (a_text, .inl (cI, 60, .inl v_text))]) [0, 1, 2, 3] (by decide) rfl) hS (lv_sub hl [1, 2, 3, 0] rfl)
    · replace hf := ip hc hf
      refine lv_iconst (v := 1) hx hb dX5_putAll_109 (by decide) ?_
      refine lv_goto (tgt := 114) hx hb dX5_putAll_110 (by decide) ?_
      exact J114 k21 w2 s0 w3 1 v_kept v_at v_now v_history hk21 _ _ _ hf (hP.sub (ws' := [(a_t, .inr (5, [.ref a_now, .ref a_slot, .ref a_history, .ref a_text, .ref a_lines, .ref a_owners, .ref a_many, .ref a_ends, .ref a_over, .ref a_ahead, .ref a_behind, .ref a_done, .int v_kept, .int v_length, .int v_isFilled, .int v_at])), (a_now, .inl (cI, 393, .inl v_now)), (a_history, .inl (cI, 1572, .inl v_history)), (a_text, .inl (cI, 60, .inl v_text))]) [0, 1, 2, 3] rfl) (hD.sub (ws' := [(a_t, .inr (5, [.ref a_now, .ref a_slot, .ref a_history, .ref a_text, .ref a_lines, .ref a_owners, .ref a_many, .ref a_ends, .ref a_over, .ref a_ahead, .ref a_behind, .ref a_done, .int v_kept, .int v_length, .int v_isFilled, .int v_at])), (a_now, .inl (cI, 393, .inl v_now)), (a_history, .inl (cI, 1572, .inl v_history)), (a_text, .inl (cI, 60, .inl v_text))]) [0, 1, 2, 3] (by decide) rfl) hS (lv_sub hl [1, 2, 3, 0] rfl)
  have J96 : ∀ (k21 : Int32 → Int32 → Int32 → Int32 → (Nat → Int32) → Option (Int32 × Int32 × Int32 × (Nat → Int32) × (Nat → Int32))) (w2 : Int32) (w3 : Int32) (w5 : Int32) (v_kept : Int32) (v_at : Int32) (v_now : Nat → Int32) (v_history : Nat → Int32) (hk21 : ∀ (w2 : Int32) (w3 : Int32) (w4 : Int32) (v_at : Int32) (v_now : Nat → Int32) (H : Heap) (locs : List Loc) (ls : Array Slot), k21 w2 w3 w4 v_at v_now = some o → va_P D vwCl [(a_t, .inr (5, [.ref a_now, .ref a_slot, .ref a_history, .ref a_text, .ref a_lines, .ref a_owners, .ref a_many, .ref a_ends, .ref a_over, .ref a_ahead, .ref a_behind, .ref a_done, .int v_kept, .int v_length, .int v_isFilled, .int v_at])), (a_now, .inl (cI, 393, .inl v_now)), (a_history, .inl (cI, 1572, .inl v_history)), (a_text, .inl (cI, 60, .inl v_text))] H → va_D A [(a_t, .inr (5, [.ref a_now, .ref a_slot, .ref a_history, .ref a_text, .ref a_lines, .ref a_owners, .ref a_many, .ref a_ends, .ref a_over, .ref a_ahead, .ref a_behind, .ref a_done, .int v_kept, .int v_length, .int v_isFilled, .int v_at])), (a_now, .inl (cI, 393, .inl v_now)), (a_history, .inl (cI, 1572, .inl v_history)), (a_text, .inl (cI, 60, .inl v_text))] → va_S A s.heap H locs → lv_has ls 7 [(0, .ref a_t), (1, .int i1), (2, .int w2), (3, .int w3), (4, .int w4)] → W p l e rX5_putAll s m args below meth c H locs 0 0 Q (F0 m 21 ls [])) (H : Heap) (locs : List Loc) (ls : Array Slot), fX5_putAll_96 k21 i1 v_length v_text w2 w3 w5 v_kept v_at v_now v_history = some o → va_P D vwCl [(a_t, .inr (5, [.ref a_now, .ref a_slot, .ref a_history, .ref a_text, .ref a_lines, .ref a_owners, .ref a_many, .ref a_ends, .ref a_over, .ref a_ahead, .ref a_behind, .ref a_done, .int v_kept, .int v_length, .int v_isFilled, .int v_at])), (a_now, .inl (cI, 393, .inl v_now)), (a_history, .inl (cI, 1572, .inl v_history)), (a_text, .inl (cI, 60, .inl v_text))] H → va_D A [(a_t, .inr (5, [.ref a_now, .ref a_slot, .ref a_history, .ref a_text, .ref a_lines, .ref a_owners, .ref a_many, .ref a_ends, .ref a_over, .ref a_ahead, .ref a_behind, .ref a_done, .int v_kept, .int v_length, .int v_isFilled, .int v_at])), (a_now, .inl (cI, 393, .inl v_now)), (a_history, .inl (cI, 1572, .inl v_history)), (a_text, .inl (cI, 60, .inl v_text))] → va_S A s.heap H locs → lv_has ls 7 [(0, .ref a_t), (1, .int i1), (2, .int w2), (3, .int w3), (5, .int w5)] → W p l e rX5_putAll s m args below meth c H locs 0 0 Q (F0 m 96 ls []) := by
    intro k21 w2 w3 w5 v_kept v_at v_now v_history hk21 H locs ls hf hP hD hS hl
    unfold fX5_putAll_96 at hf
    refine lv_iconst (v := 1) hx hb dX5_putAll_96 (by decide) ?_
    refine lv_goto (tgt := 101) hx hb dX5_putAll_97 (by decide) ?_
    exact J101 k21 w2 w3 w5 1 v_kept v_at v_now v_history hk21 _ _ _ hf (hP.sub (ws' := [(a_t, .inr (5, [.ref a_now, .ref a_slot, .ref a_history, .ref a_text, .ref a_lines, .ref a_owners, .ref a_many, .ref a_ends, .ref a_over, .ref a_ahead, .ref a_behind, .ref a_done, .int v_kept, .int v_length, .int v_isFilled, .int v_at])), (a_now, .inl (cI, 393, .inl v_now)), (a_history, .inl (cI, 1572, .inl v_history)), (a_text, .inl (cI, 60, .inl v_text))]) [0, 1, 2, 3] rfl) (hD.sub (ws' := [(a_t, .inr (5, [.ref a_now, .ref a_slot, .ref a_history, .ref a_text, .ref a_lines, .ref a_owners, .ref a_many, .ref a_ends, .ref a_over, .ref a_ahead, .ref a_behind, .ref a_done, .int v_kept, .int v_length, .int v_isFilled, .int v_at])), (a_now, .inl (cI, 393, .inl v_now)), (a_history, .inl (cI, 1572, .inl v_history)), (a_text, .inl (cI, 60, .inl v_text))]) [0, 1, 2, 3] (by decide) rfl) hS (lv_sub hl [0, 1, 2, 3, 4] rfl)
  have J69 : ∀ (k21 : Int32 → Int32 → Int32 → Int32 → (Nat → Int32) → Option (Int32 × Int32 × Int32 × (Nat → Int32) × (Nat → Int32))) (w2 : Int32) (w3 : Int32) (w5 : Int32) (v_kept : Int32) (v_at : Int32) (v_now : Nat → Int32) (v_history : Nat → Int32) (hk21 : ∀ (w2 : Int32) (w3 : Int32) (w4 : Int32) (v_at : Int32) (v_now : Nat → Int32) (H : Heap) (locs : List Loc) (ls : Array Slot), k21 w2 w3 w4 v_at v_now = some o → va_P D vwCl [(a_t, .inr (5, [.ref a_now, .ref a_slot, .ref a_history, .ref a_text, .ref a_lines, .ref a_owners, .ref a_many, .ref a_ends, .ref a_over, .ref a_ahead, .ref a_behind, .ref a_done, .int v_kept, .int v_length, .int v_isFilled, .int v_at])), (a_now, .inl (cI, 393, .inl v_now)), (a_history, .inl (cI, 1572, .inl v_history)), (a_text, .inl (cI, 60, .inl v_text))] H → va_D A [(a_t, .inr (5, [.ref a_now, .ref a_slot, .ref a_history, .ref a_text, .ref a_lines, .ref a_owners, .ref a_many, .ref a_ends, .ref a_over, .ref a_ahead, .ref a_behind, .ref a_done, .int v_kept, .int v_length, .int v_isFilled, .int v_at])), (a_now, .inl (cI, 393, .inl v_now)), (a_history, .inl (cI, 1572, .inl v_history)), (a_text, .inl (cI, 60, .inl v_text))] → va_S A s.heap H locs → lv_has ls 7 [(0, .ref a_t), (1, .int i1), (2, .int w2), (3, .int w3), (4, .int w4)] → W p l e rX5_putAll s m args below meth c H locs 0 0 Q (F0 m 21 ls [])) (H : Heap) (locs : List Loc) (ls : Array Slot), fX5_putAll_69 k21 i1 v_length v_text w2 w3 w5 v_kept v_at v_now v_history = some o → va_P D vwCl [(a_t, .inr (5, [.ref a_now, .ref a_slot, .ref a_history, .ref a_text, .ref a_lines, .ref a_owners, .ref a_many, .ref a_ends, .ref a_over, .ref a_ahead, .ref a_behind, .ref a_done, .int v_kept, .int v_length, .int v_isFilled, .int v_at])), (a_now, .inl (cI, 393, .inl v_now)), (a_history, .inl (cI, 1572, .inl v_history)), (a_text, .inl (cI, 60, .inl v_text))] H → va_D A [(a_t, .inr (5, [.ref a_now, .ref a_slot, .ref a_history, .ref a_text, .ref a_lines, .ref a_owners, .ref a_many, .ref a_ends, .ref a_over, .ref a_ahead, .ref a_behind, .ref a_done, .int v_kept, .int v_length, .int v_isFilled, .int v_at])), (a_now, .inl (cI, 393, .inl v_now)), (a_history, .inl (cI, 1572, .inl v_history)), (a_text, .inl (cI, 60, .inl v_text))] → va_S A s.heap H locs → lv_has ls 7 [(0, .ref a_t), (1, .int i1), (2, .int w2), (3, .int w3), (5, .int w5)] → W p l e rX5_putAll s m args below meth c H locs 0 0 Q (F0 m 69 ls []) := by
    intro k21 w2 w3 w5 v_kept v_at v_now v_history hk21 H locs ls hf hP hD hS hl
    unfold fX5_putAll_69 at hf
    refine lv_aload_n hx hb dX5_putAll_69 rfl (lv_at hl 0 rfl) ?_
    refine va_get (D := D) (ci := 5) (v := .int v_at) (C := RX5) (T := TX5) (N := 16) hx hb hts hinX5 hown hK.1 hP 0 rfl rfl 15 (by decide) (hts (.fieldLink RX5 114 "BaselineGridModel" "at" "I") (List.mem_of_getElem? (i := 1) rfl)) (fun _ h9 => h9) rfl dX5_putAll_70 ?_
    refine lv_aload_n hx hb dX5_putAll_73 rfl (lv_at hl 0 rfl) ?_
    refine va_get (D := D) (ci := 5) (v := .int v_length) (C := RX5) (T := TX5) (N := 16) hx hb hts hinX5 hown hK.1 hP 0 rfl rfl 13 (by decide) (hts (.fieldLink RX5 117 "BaselineGridModel" "length" "I") (List.mem_of_getElem? (i := 2) rfl)) (fun _ h9 => h9) rfl dX5_putAll_74 ?_
    refine lv_icmp_lt (tgt := 96) hx hb dX5_putAll_77 (by decide) (fun hc => ?_) (fun hc => ?_)
    · replace hf := ip hc hf
      exact J96 k21 w2 w3 w5 v_kept v_at v_now v_history hk21 _ _ _ hf (hP.sub (ws' := [(a_t, .inr (5, [.ref a_now, .ref a_slot, .ref a_history, .ref a_text, .ref a_lines, .ref a_owners, .ref a_many, .ref a_ends, .ref a_over, .ref a_ahead, .ref a_behind, .ref a_done, .int v_kept, .int v_length, .int v_isFilled, .int v_at])), (a_now, .inl (cI, 393, .inl v_now)), (a_history, .inl (cI, 1572, .inl v_history)), (a_text, .inl (cI, 60, .inl v_text))]) [0, 1, 2, 3] rfl) (hD.sub (ws' := [(a_t, .inr (5, [.ref a_now, .ref a_slot, .ref a_history, .ref a_text, .ref a_lines, .ref a_owners, .ref a_many, .ref a_ends, .ref a_over, .ref a_ahead, .ref a_behind, .ref a_done, .int v_kept, .int v_length, .int v_isFilled, .int v_at])), (a_now, .inl (cI, 393, .inl v_now)), (a_history, .inl (cI, 1572, .inl v_history)), (a_text, .inl (cI, 60, .inl v_text))]) [0, 1, 2, 3] (by decide) rfl) hS (lv_sub hl [0, 1, 2, 3, 4] rfl)
    · replace hf := ineg hc hf
      refine lv_aload_n hx hb dX5_putAll_80 rfl (lv_at hl 0 rfl) ?_
      refine va_get (D := D) (ci := 5) (v := .ref a_text) (C := RX5) (T := TX5) (N := 16) hx hb hts hinX5 hown hK.1 hP 0 rfl rfl 3 (by decide) (hts (.fieldLink RX5 19 "BaselineGridModel" "text" "[I") (List.mem_of_getElem? (i := 3) rfl)) (fun _ h9 => h9) rfl dX5_putAll_81 ?_
      refine lv_aload_n hx hb dX5_putAll_84 rfl (lv_at hl 0 rfl) ?_
      refine va_get (D := D) (ci := 5) (v := .int v_at) (C := RX5) (T := TX5) (N := 16) hx hb hts hinX5 hown hK.1 hP 0 rfl rfl 15 (by decide) (hts (.fieldLink RX5 114 "BaselineGridModel" "at" "I") (List.mem_of_getElem? (i := 1) rfl)) (fun _ h9 => h9) rfl dX5_putAll_85 ?_
      refine lv_iconst (v := 1) hx hb dX5_putAll_88 (by decide) ?_
      refine lv_isub hx hb dX5_putAll_89 ?_
      refine g_iald hx hb hK.1 hP 3 0 rfl rfl hf dX5_putAll_90 (fun qx11 hf => ?_)
      refine lv_bipush (v := 59) hx hb dX5_putAll_91 (by decide) ?_
      refine lv_icmp_ne (tgt := 100) hx hb dX5_putAll_93 (by decide) (fun hc => ?_) (fun hc => ?_)
      · replace hf := ineg hc hf
        refine lv_iconst (v := 0) hx hb dX5_putAll_100 (by decide) ?_
        exact J101 k21 w2 w3 w5 0 v_kept v_at v_now v_history hk21 _ _ _ hf (hP.sub (ws' := [(a_t, .inr (5, [.ref a_now, .ref a_slot, .ref a_history, .ref a_text, .ref a_lines, .ref a_owners, .ref a_many, .ref a_ends, .ref a_over, .ref a_ahead, .ref a_behind, .ref a_done, .int v_kept, .int v_length, .int v_isFilled, .int v_at])), (a_now, .inl (cI, 393, .inl v_now)), (a_history, .inl (cI, 1572, .inl v_history)), (a_text, .inl (cI, 60, .inl v_text))]) [0, 1, 2, 3] rfl) (hD.sub (ws' := [(a_t, .inr (5, [.ref a_now, .ref a_slot, .ref a_history, .ref a_text, .ref a_lines, .ref a_owners, .ref a_many, .ref a_ends, .ref a_over, .ref a_ahead, .ref a_behind, .ref a_done, .int v_kept, .int v_length, .int v_isFilled, .int v_at])), (a_now, .inl (cI, 393, .inl v_now)), (a_history, .inl (cI, 1572, .inl v_history)), (a_text, .inl (cI, 60, .inl v_text))]) [0, 1, 2, 3] (by decide) rfl) hS (lv_sub hl [0, 1, 2, 3, 4] rfl)
      · replace hf := ip hc hf
        exact J96 k21 w2 w3 w5 v_kept v_at v_now v_history hk21 _ _ _ hf (hP.sub (ws' := [(a_t, .inr (5, [.ref a_now, .ref a_slot, .ref a_history, .ref a_text, .ref a_lines, .ref a_owners, .ref a_many, .ref a_ends, .ref a_over, .ref a_ahead, .ref a_behind, .ref a_done, .int v_kept, .int v_length, .int v_isFilled, .int v_at])), (a_now, .inl (cI, 393, .inl v_now)), (a_history, .inl (cI, 1572, .inl v_history)), (a_text, .inl (cI, 60, .inl v_text))]) [0, 1, 2, 3] rfl) (hD.sub (ws' := [(a_t, .inr (5, [.ref a_now, .ref a_slot, .ref a_history, .ref a_text, .ref a_lines, .ref a_owners, .ref a_many, .ref a_ends, .ref a_over, .ref a_ahead, .ref a_behind, .ref a_done, .int v_kept, .int v_length, .int v_isFilled, .int v_at])), (a_now, .inl (cI, 393, .inl v_now)), (a_history, .inl (cI, 1572, .inl v_history)), (a_text, .inl (cI, 60, .inl v_text))]) [0, 1, 2, 3] (by decide) rfl) hS (lv_sub hl [0, 1, 2, 3, 4] rfl)
  have J21 : ∀ (v_kept : Int32) (v_history : Nat → Int32)  (n : Nat) (w2 : Int32) (w3 : Int32) (w4 : Int32) (v_at : Int32) (v_now : Nat → Int32) (H : Heap) (locs : List Loc) (ls : Array Slot), fX5_putAll_21 i1 v_length v_text v_kept v_history n w2 w3 w4 v_at v_now = some o → va_P D vwCl [(a_t, .inr (5, [.ref a_now, .ref a_slot, .ref a_history, .ref a_text, .ref a_lines, .ref a_owners, .ref a_many, .ref a_ends, .ref a_over, .ref a_ahead, .ref a_behind, .ref a_done, .int v_kept, .int v_length, .int v_isFilled, .int v_at])), (a_now, .inl (cI, 393, .inl v_now)), (a_history, .inl (cI, 1572, .inl v_history)), (a_text, .inl (cI, 60, .inl v_text))] H → va_D A [(a_t, .inr (5, [.ref a_now, .ref a_slot, .ref a_history, .ref a_text, .ref a_lines, .ref a_owners, .ref a_many, .ref a_ends, .ref a_over, .ref a_ahead, .ref a_behind, .ref a_done, .int v_kept, .int v_length, .int v_isFilled, .int v_at])), (a_now, .inl (cI, 393, .inl v_now)), (a_history, .inl (cI, 1572, .inl v_history)), (a_text, .inl (cI, 60, .inl v_text))] → va_S A s.heap H locs → lv_has ls 7 [(0, .ref a_t), (1, .int i1), (2, .int w2), (3, .int w3), (4, .int w4)] → W p l e rX5_putAll s m args below meth c H locs 0 0 Q (F0 m 21 ls []) := by
    intro v_kept v_history n
    induction n with
    | zero =>
      intro w2 w3 w4 v_at v_now H locs ls hf
      have hf0 : (none : Option (Int32 × Int32 × Int32 × (Nat → Int32) × (Nat → Int32))) = some o := hf
      cases hf0
    | succ n hk21 =>
      intro w2 w3 w4 v_at v_now H locs ls hf hP hD hS hl
      rw [fX5_putAll_21] at hf
      refine lv_iload hx hb dX5_putAll_21 (lv_at hl 4 rfl) ?_
      refine lv_if_eq (tgt := 122) hx hb dX5_putAll_23 (by decide) (fun hc => ?_) (fun hc => ?_)
      · replace hf := ip hc hf
        refine lv_iload_n hx hb dX5_putAll_122 rfl (lv_at hl 3 rfl) ?_
        refine lv_if_ne (tgt := 129) hx hb dX5_putAll_123 (by decide) (fun hc => ?_) (fun hc => ?_)
        · replace hf := ineg hc hf
          refine lv_aload_n hx hb dX5_putAll_129 rfl (lv_at hl 0 rfl) ?_
          refine lv_iload_n hx hb dX5_putAll_130 rfl (lv_at hl 1 rfl) ?_
          replace hf := bd_some hf
          obtain ⟨qo2, hqo2, hf⟩ := hf
          refine g_Vi (As := [.int i1]) (rest := []) (wr := [(a_history, .inl (cI, 1572, .inl v_history)), (a_text, .inl (cI, 60, .inl v_text))]) ⟨hx, hb, hml, hown, hts⟩ (k_X5_blocks l D cI cC a_t a_now a_slot a_history a_text a_lines a_owners a_many a_ends a_over a_ahead a_behind a_done i1 v_kept v_length v_isFilled v_at v_now qo2 hqo2) (cwV 1 hts gX5_putAll_X5_blocks rfl rfl rfl (by decide +kernel) ⟨Nat.le_of_ble_eq_true rfl, Nat.le_of_ble_eq_true rfl⟩) hK hP hD hS hA 5 0 rfl rfl rfl [0, 1] [2, 3] rfl rfl rfl rfl rfl (by decide) rfl hl.1 rfl (Nat.le_of_ble_eq_true rfl) dX5_putAll_131 (Nat.zero_le _) (Nat.zero_le _) (fun H locs hP hD hS => ?_)
          have hP : va_P D vwCl [(a_history, .inl (cI, 1572, .inl v_history)), (a_text, .inl (cI, 60, .inl v_text)), (a_t, .inr (5, [.ref a_now, .ref a_slot, .ref a_history, .ref a_text, .ref a_lines, .ref a_owners, .ref a_many, .ref a_ends, .ref a_over, .ref a_ahead, .ref a_behind, .ref a_done, .int v_kept, .int v_length, .int v_isFilled, .int v_at])), (a_now, .inl (cI, 393, .inl v_now))] H := hP
          have hD : va_D A [(a_history, .inl (cI, 1572, .inl v_history)), (a_text, .inl (cI, 60, .inl v_text)), (a_t, .inr (5, [.ref a_now, .ref a_slot, .ref a_history, .ref a_text, .ref a_lines, .ref a_owners, .ref a_many, .ref a_ends, .ref a_over, .ref a_ahead, .ref a_behind, .ref a_done, .int v_kept, .int v_length, .int v_isFilled, .int v_at])), (a_now, .inl (cI, 393, .inl v_now))] := hD
          refine lv_iload_n hx hb dX5_putAll_134 rfl (lv_at hl 2 rfl) ?_
          refine lv_iadd hx hb dX5_putAll_135 ?_
          refine lv_bipush (v := 16) hx hb dX5_putAll_136 (by decide) ?_
          refine lv_icmp_le (tgt := 144) hx hb dX5_putAll_138 (by decide) (fun hc => ?_) (fun hc => ?_)
          · replace hf := ip hc hf
            refine lv_aload_n hx hb dX5_putAll_144 rfl (lv_at hl 0 rfl) ?_
            replace hf := bd_some hf
            obtain ⟨qo3, hqo3, hf⟩ := hf
            refine g_Vv (As := []) (rest := []) (wr := [(a_text, .inl (cI, 60, .inl v_text))]) ⟨hx, hb, hml, hown, hts⟩ (k_X5_record l D cI cC a_t a_now a_slot a_history a_text a_lines a_owners a_many a_ends a_over a_ahead a_behind a_done v_kept v_length v_isFilled v_at v_now v_history qo3 hqo3) (cwV 0 hts gX5_putAll_X5_record rfl rfl rfl (by decide +kernel) ⟨Nat.le_of_ble_eq_true rfl, Nat.le_of_ble_eq_true rfl⟩) hK hP hD hS hA 5 2 rfl rfl rfl [2, 3, 0] [1] rfl rfl rfl rfl rfl (by decide) rfl hl.1 rfl (Nat.le_of_ble_eq_true rfl) dX5_putAll_145 (Nat.zero_le _) (Nat.zero_le _) (fun H locs hP hD hS => ?_)
            have hP : va_P D vwCl [(a_text, .inl (cI, 60, .inl v_text)), (a_t, .inr (5, [.ref a_now, .ref a_slot, .ref a_history, .ref a_text, .ref a_lines, .ref a_owners, .ref a_many, .ref a_ends, .ref a_over, .ref a_ahead, .ref a_behind, .ref a_done, .int qo3.1, .int v_length, .int v_isFilled, .int v_at])), (a_now, .inl (cI, 393, .inl v_now)), (a_history, .inl (cI, 1572, .inl qo3.2))] H := hP
            have hD : va_D A [(a_text, .inl (cI, 60, .inl v_text)), (a_t, .inr (5, [.ref a_now, .ref a_slot, .ref a_history, .ref a_text, .ref a_lines, .ref a_owners, .ref a_many, .ref a_ends, .ref a_over, .ref a_ahead, .ref a_behind, .ref a_done, .int qo3.1, .int v_length, .int v_isFilled, .int v_at])), (a_now, .inl (cI, 393, .inl v_now)), (a_history, .inl (cI, 1572, .inl qo3.2))] := hD
            refine lv_aload_n hx hb dX5_putAll_148 rfl (lv_at hl 0 rfl) ?_
            refine lv_iconst (v := 0) hx hb dX5_putAll_149 (by decide) ?_
            refine va_put (D := D) (ci := 5) (v := .int 0) (ty := .int) (C := RX5) (T := TX5) (N := 16) hx hb hts hinX5 tyX5 tyX5_ok nmX5 hown hK.1 hP hD hS 1 rfl rfl 15 (by decide) (hts (.fieldLink RX5 114 "BaselineGridModel" "at" "I") (List.mem_of_getElem? (i := 1) rfl)) (fun _ h9 => h9) rfl (by decide +kernel) rfl rfl (Nat.le_of_ble_eq_true rfl) dX5_putAll_150 (fun H locs hP hD hS => ?_)
            have hP : va_P D vwCl [(a_text, .inl (cI, 60, .inl v_text)), (a_t, .inr (5, [.ref a_now, .ref a_slot, .ref a_history, .ref a_text, .ref a_lines, .ref a_owners, .ref a_many, .ref a_ends, .ref a_over, .ref a_ahead, .ref a_behind, .ref a_done, .int qo3.1, .int v_length, .int v_isFilled, .int 0])), (a_now, .inl (cI, 393, .inl v_now)), (a_history, .inl (cI, 1572, .inl qo3.2))] H := hP
            have hD : va_D A [(a_text, .inl (cI, 60, .inl v_text)), (a_t, .inr (5, [.ref a_now, .ref a_slot, .ref a_history, .ref a_text, .ref a_lines, .ref a_owners, .ref a_many, .ref a_ends, .ref a_over, .ref a_ahead, .ref a_behind, .ref a_done, .int qo3.1, .int v_length, .int v_isFilled, .int 0])), (a_now, .inl (cI, 393, .inl v_now)), (a_history, .inl (cI, 1572, .inl qo3.2))] := hD
            refine lv_iconst (v := 0) hx hb dX5_putAll_153 (by decide) ?_
            refine lv_istore (lv' := [(5, .int 0), (0, .ref a_t), (1, .int i1), (2, .int w2), (3, .int w3), (4, .int w4)]) hx hb dX5_putAll_154 hl (by decide) rfl (fun ls hl => ?_)
            exact J156 w2 qo3.1 qo3.2 Fu 0 0 v_now _ _ _ hf (hP.sub (ws' := [(a_t, .inr (5, [.ref a_now, .ref a_slot, .ref a_history, .ref a_text, .ref a_lines, .ref a_owners, .ref a_many, .ref a_ends, .ref a_over, .ref a_ahead, .ref a_behind, .ref a_done, .int qo3.1, .int v_length, .int v_isFilled, .int 0])), (a_now, .inl (cI, 393, .inl v_now)), (a_history, .inl (cI, 1572, .inl qo3.2)), (a_text, .inl (cI, 60, .inl v_text))]) [1, 2, 3, 0] rfl) (hD.sub (ws' := [(a_t, .inr (5, [.ref a_now, .ref a_slot, .ref a_history, .ref a_text, .ref a_lines, .ref a_owners, .ref a_many, .ref a_ends, .ref a_over, .ref a_ahead, .ref a_behind, .ref a_done, .int qo3.1, .int v_length, .int v_isFilled, .int 0])), (a_now, .inl (cI, 393, .inl v_now)), (a_history, .inl (cI, 1572, .inl qo3.2)), (a_text, .inl (cI, 60, .inl v_text))]) [1, 2, 3, 0] (by decide) rfl) hS (lv_sub hl [1, 2, 3, 0] rfl)
          · replace hf := ineg hc hf
            refine lv_bipush (v := (-3)) hx hb dX5_putAll_141 (by decide) ?_
            have ho := Option.some.inj hf
            subst ho
            exact hret dX5_putAll_143 rfl (hP.sub (ws' := [(a_t, .inr (5, [.ref a_now, .ref a_slot, .ref a_history, .ref a_text, .ref a_lines, .ref a_owners, .ref a_many, .ref a_ends, .ref a_over, .ref a_ahead, .ref a_behind, .ref a_done, .int v_kept, .int v_length, .int v_isFilled, .int v_at])), (a_now, .inl (cI, 393, .inl v_now)), (a_history, .inl (cI, 1572, .inl v_history)), (a_text, .inl (cI, 60, .inl v_text))]) [2, 3, 0, 1] rfl) (hD.sub (ws' := [(a_t, .inr (5, [.ref a_now, .ref a_slot, .ref a_history, .ref a_text, .ref a_lines, .ref a_owners, .ref a_many, .ref a_ends, .ref a_over, .ref a_ahead, .ref a_behind, .ref a_done, .int v_kept, .int v_length, .int v_isFilled, .int v_at])), (a_now, .inl (cI, 393, .inl v_now)), (a_history, .inl (cI, 1572, .inl v_history)), (a_text, .inl (cI, 60, .inl v_text))]) [2, 3, 0, 1] (by decide) rfl) hS
        · replace hf := ip hc hf
          refine lv_bipush (v := (-2)) hx hb dX5_putAll_126 (by decide) ?_
          have ho := Option.some.inj hf
          subst ho
          exact hret dX5_putAll_128 rfl (hP.sub (ws' := [(a_t, .inr (5, [.ref a_now, .ref a_slot, .ref a_history, .ref a_text, .ref a_lines, .ref a_owners, .ref a_many, .ref a_ends, .ref a_over, .ref a_ahead, .ref a_behind, .ref a_done, .int v_kept, .int v_length, .int v_isFilled, .int v_at])), (a_now, .inl (cI, 393, .inl v_now)), (a_history, .inl (cI, 1572, .inl v_history)), (a_text, .inl (cI, 60, .inl v_text))]) [0, 1, 2, 3] rfl) (hD.sub (ws' := [(a_t, .inr (5, [.ref a_now, .ref a_slot, .ref a_history, .ref a_text, .ref a_lines, .ref a_owners, .ref a_many, .ref a_ends, .ref a_over, .ref a_ahead, .ref a_behind, .ref a_done, .int v_kept, .int v_length, .int v_isFilled, .int v_at])), (a_now, .inl (cI, 393, .inl v_now)), (a_history, .inl (cI, 1572, .inl v_history)), (a_text, .inl (cI, 60, .inl v_text))]) [0, 1, 2, 3] (by decide) rfl) hS
      · replace hf := ineg hc hf
        refine lv_aload_n hx hb dX5_putAll_26 rfl (lv_at hl 0 rfl) ?_
        refine lv_iload_n hx hb dX5_putAll_27 rfl (lv_at hl 1 rfl) ?_
        refine lv_iconst (v := 0) hx hb dX5_putAll_28 (by decide) ?_
        replace hf := bd_some hf
        obtain ⟨qo8, hqo8, hf⟩ := hf
        refine g_Vi (As := [.int i1, .int 0]) (rest := []) (wr := [(a_history, .inl (cI, 1572, .inl v_history))]) ⟨hx, hb, hml, hown, hts⟩ (k_X5_reads l D cI cC a_t a_now a_slot a_history a_text a_lines a_owners a_many a_ends a_over a_ahead a_behind a_done i1 0 v_kept v_length v_isFilled v_at v_now v_text qo8 hqo8) (cwV 2 hts gX5_putAll_X5_reads rfl rfl rfl (by decide +kernel) ⟨Nat.le_of_ble_eq_true rfl, Nat.le_of_ble_eq_true rfl⟩) hK hP hD hS hA 5 0 rfl rfl rfl [0, 1, 3] [2] rfl rfl rfl rfl rfl (by decide) rfl hl.1 rfl (Nat.le_of_ble_eq_true rfl) dX5_putAll_29 (Nat.zero_le _) (Nat.zero_le _) (fun H locs hP hD hS => ?_)
        have hP : va_P D vwCl [(a_history, .inl (cI, 1572, .inl v_history)), (a_t, .inr (5, [.ref a_now, .ref a_slot, .ref a_history, .ref a_text, .ref a_lines, .ref a_owners, .ref a_many, .ref a_ends, .ref a_over, .ref a_ahead, .ref a_behind, .ref a_done, .int v_kept, .int v_length, .int v_isFilled, .int qo8.2.1])), (a_now, .inl (cI, 393, .inl qo8.2.2)), (a_text, .inl (cI, 60, .inl v_text))] H := hP
        have hD : va_D A [(a_history, .inl (cI, 1572, .inl v_history)), (a_t, .inr (5, [.ref a_now, .ref a_slot, .ref a_history, .ref a_text, .ref a_lines, .ref a_owners, .ref a_many, .ref a_ends, .ref a_over, .ref a_ahead, .ref a_behind, .ref a_done, .int v_kept, .int v_length, .int v_isFilled, .int qo8.2.1])), (a_now, .inl (cI, 393, .inl qo8.2.2)), (a_text, .inl (cI, 60, .inl v_text))] := hD
        refine lv_istore (lv' := [(5, .int qo8.1), (0, .ref a_t), (1, .int i1), (2, .int w2), (3, .int w3), (4, .int w4)]) hx hb dX5_putAll_32 hl (by decide) rfl (fun ls hl => ?_)
        refine lv_iload hx hb dX5_putAll_34 (lv_at hl 0 rfl) ?_
        refine lv_bipush (v := (-100)) hx hb dX5_putAll_36 (by decide) ?_
        refine lv_icmp_eq (tgt := 61) hx hb dX5_putAll_38 (by decide) (fun hc => ?_) (fun hc => ?_)
        · replace hf := ip hc hf
          exact J61 v_kept qo8.2.1 qo8.2.2 v_history _ _ _ hf (hP.sub (ws' := [(a_t, .inr (5, [.ref a_now, .ref a_slot, .ref a_history, .ref a_text, .ref a_lines, .ref a_owners, .ref a_many, .ref a_ends, .ref a_over, .ref a_ahead, .ref a_behind, .ref a_done, .int v_kept, .int v_length, .int v_isFilled, .int qo8.2.1])), (a_now, .inl (cI, 393, .inl qo8.2.2)), (a_history, .inl (cI, 1572, .inl v_history)), (a_text, .inl (cI, 60, .inl v_text))]) [1, 2, 0, 3] rfl) (hD.sub (ws' := [(a_t, .inr (5, [.ref a_now, .ref a_slot, .ref a_history, .ref a_text, .ref a_lines, .ref a_owners, .ref a_many, .ref a_ends, .ref a_over, .ref a_ahead, .ref a_behind, .ref a_done, .int v_kept, .int v_length, .int v_isFilled, .int qo8.2.1])), (a_now, .inl (cI, 393, .inl qo8.2.2)), (a_history, .inl (cI, 1572, .inl v_history)), (a_text, .inl (cI, 60, .inl v_text))]) [1, 2, 0, 3] (by decide) rfl) hS (lv_sub hl [1] rfl)
        · replace hf := ineg hc hf
          refine lv_aload_n hx hb dX5_putAll_41 rfl (lv_at hl 1 rfl) ?_
          refine va_get (D := D) (ci := 5) (v := .int qo8.2.1) (C := RX5) (T := TX5) (N := 16) hx hb hts hinX5 hown hK.1 hP 1 rfl rfl 15 (by decide) (hts (.fieldLink RX5 114 "BaselineGridModel" "at" "I") (List.mem_of_getElem? (i := 1) rfl)) (fun _ h9 => h9) rfl dX5_putAll_42 ?_
          refine lv_aload_n hx hb dX5_putAll_45 rfl (lv_at hl 1 rfl) ?_
          refine va_get (D := D) (ci := 5) (v := .int v_length) (C := RX5) (T := TX5) (N := 16) hx hb hts hinX5 hown hK.1 hP 1 rfl rfl 13 (by decide) (hts (.fieldLink RX5 117 "BaselineGridModel" "length" "I") (List.mem_of_getElem? (i := 2) rfl)) (fun _ h9 => h9) rfl dX5_putAll_46 ?_
          refine lv_icmp_ge (tgt := 69) hx hb dX5_putAll_49 (by decide) (fun hc => ?_) (fun hc => ?_)
          · replace hf := ip hc hf
            exact J69 (fX5_putAll_21 i1 v_length v_text v_kept v_history n) w2 w3 qo8.1 v_kept qo8.2.1 qo8.2.2 v_history hk21 _ _ _ hf (hP.sub (ws' := [(a_t, .inr (5, [.ref a_now, .ref a_slot, .ref a_history, .ref a_text, .ref a_lines, .ref a_owners, .ref a_many, .ref a_ends, .ref a_over, .ref a_ahead, .ref a_behind, .ref a_done, .int v_kept, .int v_length, .int v_isFilled, .int qo8.2.1])), (a_now, .inl (cI, 393, .inl qo8.2.2)), (a_history, .inl (cI, 1572, .inl v_history)), (a_text, .inl (cI, 60, .inl v_text))]) [1, 2, 0, 3] rfl) (hD.sub (ws' := [(a_t, .inr (5, [.ref a_now, .ref a_slot, .ref a_history, .ref a_text, .ref a_lines, .ref a_owners, .ref a_many, .ref a_ends, .ref a_over, .ref a_ahead, .ref a_behind, .ref a_done, .int v_kept, .int v_length, .int v_isFilled, .int qo8.2.1])), (a_now, .inl (cI, 393, .inl qo8.2.2)), (a_history, .inl (cI, 1572, .inl v_history)), (a_text, .inl (cI, 60, .inl v_text))]) [1, 2, 0, 3] (by decide) rfl) hS (lv_sub hl [1, 2, 3, 4, 0] rfl)
          · replace hf := ineg hc hf
            refine lv_aload_n hx hb dX5_putAll_52 rfl (lv_at hl 1 rfl) ?_
            refine lv_bipush (v := 59) hx hb dX5_putAll_53 (by decide) ?_
            replace hf := bd_some hf
            obtain ⟨qo12, hqo12, hf⟩ := hf
            refine g_Vi (As := [.int 59]) (rest := []) (wr := [(a_history, .inl (cI, 1572, .inl v_history)), (a_now, .inl (cI, 393, .inl qo8.2.2))]) ⟨hx, hb, hml, hown, hts⟩ (k_X5_stands l D cI cC a_t a_now a_slot a_history a_text a_lines a_owners a_many a_ends a_over a_ahead a_behind a_done 59 v_kept v_length v_isFilled qo8.2.1 v_text qo12 hqo12) (cwV 1 hts gX5_putAll_X5_stands rfl rfl rfl (by decide +kernel) ⟨Nat.le_of_ble_eq_true rfl, Nat.le_of_ble_eq_true rfl⟩) hK hP hD hS hA 5 1 rfl rfl rfl [1, 3] [0, 2] rfl rfl rfl rfl rfl (by decide) rfl hl.1 rfl (Nat.le_of_ble_eq_true rfl) dX5_putAll_55 (Nat.zero_le _) (Nat.zero_le _) (fun H locs hP hD hS => ?_)
            have hP : va_P D vwCl [(a_history, .inl (cI, 1572, .inl v_history)), (a_now, .inl (cI, 393, .inl qo8.2.2)), (a_t, .inr (5, [.ref a_now, .ref a_slot, .ref a_history, .ref a_text, .ref a_lines, .ref a_owners, .ref a_many, .ref a_ends, .ref a_over, .ref a_ahead, .ref a_behind, .ref a_done, .int v_kept, .int v_length, .int v_isFilled, .int qo12.2])), (a_text, .inl (cI, 60, .inl v_text))] H := hP
            have hD : va_D A [(a_history, .inl (cI, 1572, .inl v_history)), (a_now, .inl (cI, 393, .inl qo8.2.2)), (a_t, .inr (5, [.ref a_now, .ref a_slot, .ref a_history, .ref a_text, .ref a_lines, .ref a_owners, .ref a_many, .ref a_ends, .ref a_over, .ref a_ahead, .ref a_behind, .ref a_done, .int v_kept, .int v_length, .int v_isFilled, .int qo12.2])), (a_text, .inl (cI, 60, .inl v_text))] := hD
            refine lv_if_ne (tgt := 69) hx hb dX5_putAll_58 (by decide) (fun hc => ?_) (fun hc => ?_)
            · replace hf := ineg hc hf
              exact J69 (fX5_putAll_21 i1 v_length v_text v_kept v_history n) w2 w3 qo8.1 v_kept qo12.2 qo8.2.2 v_history hk21 _ _ _ hf (hP.sub (ws' := [(a_t, .inr (5, [.ref a_now, .ref a_slot, .ref a_history, .ref a_text, .ref a_lines, .ref a_owners, .ref a_many, .ref a_ends, .ref a_over, .ref a_ahead, .ref a_behind, .ref a_done, .int v_kept, .int v_length, .int v_isFilled, .int qo12.2])), (a_now, .inl (cI, 393, .inl qo8.2.2)), (a_history, .inl (cI, 1572, .inl v_history)), (a_text, .inl (cI, 60, .inl v_text))]) [2, 1, 0, 3] rfl) (hD.sub (ws' := [(a_t, .inr (5, [.ref a_now, .ref a_slot, .ref a_history, .ref a_text, .ref a_lines, .ref a_owners, .ref a_many, .ref a_ends, .ref a_over, .ref a_ahead, .ref a_behind, .ref a_done, .int v_kept, .int v_length, .int v_isFilled, .int qo12.2])), (a_now, .inl (cI, 393, .inl qo8.2.2)), (a_history, .inl (cI, 1572, .inl v_history)), (a_text, .inl (cI, 60, .inl v_text))]) [2, 1, 0, 3] (by decide) rfl) hS (lv_sub hl [1, 2, 3, 4, 0] rfl)
            · replace hf := ip hc hf
              exact J61 v_kept qo12.2 qo8.2.2 v_history _ _ _ hf (hP.sub (ws' := [(a_t, .inr (5, [.ref a_now, .ref a_slot, .ref a_history, .ref a_text, .ref a_lines, .ref a_owners, .ref a_many, .ref a_ends, .ref a_over, .ref a_ahead, .ref a_behind, .ref a_done, .int v_kept, .int v_length, .int v_isFilled, .int qo12.2])), (a_now, .inl (cI, 393, .inl qo8.2.2)), (a_history, .inl (cI, 1572, .inl v_history)), (a_text, .inl (cI, 60, .inl v_text))]) [2, 1, 0, 3] rfl) (hD.sub (ws' := [(a_t, .inr (5, [.ref a_now, .ref a_slot, .ref a_history, .ref a_text, .ref a_lines, .ref a_owners, .ref a_many, .ref a_ends, .ref a_over, .ref a_ahead, .ref a_behind, .ref a_done, .int v_kept, .int v_length, .int v_isFilled, .int qo12.2])), (a_now, .inl (cI, 393, .inl qo8.2.2)), (a_history, .inl (cI, 1572, .inl v_history)), (a_text, .inl (cI, 60, .inl v_text))]) [2, 1, 0, 3] (by decide) rfl) hS (lv_sub hl [1] rfl)
  unfold fX5_putAll at hf
  refine lv_iload_n hx hb dX5_putAll_0 rfl (lv_at hl 1 rfl) ?_
  replace hf := bd_some hf
  obtain ⟨qo1, hqo1, hf⟩ := hf
  refine g_Si (As := [.int i1]) (rest := []) (wr := [(a_t, .inr (5, [.ref a_now, .ref a_slot, .ref a_history, .ref a_text, .ref a_lines, .ref a_owners, .ref a_many, .ref a_ends, .ref a_over, .ref a_ahead, .ref a_behind, .ref a_done, .int v_kept, .int v_length, .int v_isFilled, .int v_at])), (a_now, .inl (cI, 393, .inl v_now)), (a_history, .inl (cI, 1572, .inl v_history)), (a_text, .inl (cI, 60, .inl v_text))]) ⟨hx, hb, hml, hown, hts⟩ (k_X5_isColumn l D cI cC i1 qo1 hqo1) (va_cwS 1 hts gX5_putAll_X5_isColumn rfl rfl rfl (by decide +kernel) ⟨Nat.le_of_ble_eq_true rfl, Nat.le_of_ble_eq_true rfl⟩) hK hP hD hS hA [] [0, 1, 2, 3] rfl rfl rfl rfl rfl (by decide) rfl hl.1 rfl (Nat.le_of_ble_eq_true rfl) dX5_putAll_1 (Nat.zero_le _) (Nat.zero_le _) (fun H locs hP hD hS => ?_)
  have hP : va_P D vwCl [(a_t, .inr (5, [.ref a_now, .ref a_slot, .ref a_history, .ref a_text, .ref a_lines, .ref a_owners, .ref a_many, .ref a_ends, .ref a_over, .ref a_ahead, .ref a_behind, .ref a_done, .int v_kept, .int v_length, .int v_isFilled, .int v_at])), (a_now, .inl (cI, 393, .inl v_now)), (a_history, .inl (cI, 1572, .inl v_history)), (a_text, .inl (cI, 60, .inl v_text))] H := hP
  have hD : va_D A [(a_t, .inr (5, [.ref a_now, .ref a_slot, .ref a_history, .ref a_text, .ref a_lines, .ref a_owners, .ref a_many, .ref a_ends, .ref a_over, .ref a_ahead, .ref a_behind, .ref a_done, .int v_kept, .int v_length, .int v_isFilled, .int v_at])), (a_now, .inl (cI, 393, .inl v_now)), (a_history, .inl (cI, 1572, .inl v_history)), (a_text, .inl (cI, 60, .inl v_text))] := hD
  refine lv_if_ne (tgt := 9) hx hb dX5_putAll_4 (by decide) (fun hc => ?_) (fun hc => ?_)
  · replace hf := ineg hc hf
    refine lv_iconst (v := 0) hx hb dX5_putAll_9 (by decide) ?_
    refine lv_istore_n (lv' := [(2, .int 0), (0, .ref a_t), (1, .int i1)]) hx hb dX5_putAll_10 rfl hl (by decide) rfl (fun ls hl => ?_)
    refine lv_iconst (v := 1) hx hb dX5_putAll_11 (by decide) ?_
    refine lv_istore_n (lv' := [(3, .int 1), (2, .int 0), (0, .ref a_t), (1, .int i1)]) hx hb dX5_putAll_12 rfl hl (by decide) rfl (fun ls hl => ?_)
    refine lv_iconst (v := 1) hx hb dX5_putAll_13 (by decide) ?_
    refine lv_istore (lv' := [(4, .int 1), (3, .int 1), (2, .int 0), (0, .ref a_t), (1, .int i1)]) hx hb dX5_putAll_14 hl (by decide) rfl (fun ls hl => ?_)
    refine lv_aload_n hx hb dX5_putAll_16 rfl (lv_at hl 3 rfl) ?_
    refine lv_iconst (v := 0) hx hb dX5_putAll_17 (by decide) ?_
    refine va_put (D := D) (ci := 5) (v := .int 0) (ty := .int) (C := RX5) (T := TX5) (N := 16) hx hb hts hinX5 tyX5 tyX5_ok nmX5 hown hK.1 hP hD hS 0 rfl rfl 15 (by decide) (hts (.fieldLink RX5 114 "BaselineGridModel" "at" "I") (List.mem_of_getElem? (i := 1) rfl)) (fun _ h9 => h9) rfl (by decide +kernel) rfl rfl (Nat.le_of_ble_eq_true rfl) dX5_putAll_18 (fun H locs hP hD hS => ?_)
    have hP : va_P D vwCl [(a_t, .inr (5, [.ref a_now, .ref a_slot, .ref a_history, .ref a_text, .ref a_lines, .ref a_owners, .ref a_many, .ref a_ends, .ref a_over, .ref a_ahead, .ref a_behind, .ref a_done, .int v_kept, .int v_length, .int v_isFilled, .int 0])), (a_now, .inl (cI, 393, .inl v_now)), (a_history, .inl (cI, 1572, .inl v_history)), (a_text, .inl (cI, 60, .inl v_text))] H := hP
    have hD : va_D A [(a_t, .inr (5, [.ref a_now, .ref a_slot, .ref a_history, .ref a_text, .ref a_lines, .ref a_owners, .ref a_many, .ref a_ends, .ref a_over, .ref a_ahead, .ref a_behind, .ref a_done, .int v_kept, .int v_length, .int v_isFilled, .int 0])), (a_now, .inl (cI, 393, .inl v_now)), (a_history, .inl (cI, 1572, .inl v_history)), (a_text, .inl (cI, 60, .inl v_text))] := hD
    exact J21 v_kept v_history Fu 0 1 1 0 v_now _ _ _ hf (hP.sub (ws' := [(a_t, .inr (5, [.ref a_now, .ref a_slot, .ref a_history, .ref a_text, .ref a_lines, .ref a_owners, .ref a_many, .ref a_ends, .ref a_over, .ref a_ahead, .ref a_behind, .ref a_done, .int v_kept, .int v_length, .int v_isFilled, .int 0])), (a_now, .inl (cI, 393, .inl v_now)), (a_history, .inl (cI, 1572, .inl v_history)), (a_text, .inl (cI, 60, .inl v_text))]) [0, 1, 2, 3] rfl) (hD.sub (ws' := [(a_t, .inr (5, [.ref a_now, .ref a_slot, .ref a_history, .ref a_text, .ref a_lines, .ref a_owners, .ref a_many, .ref a_ends, .ref a_over, .ref a_ahead, .ref a_behind, .ref a_done, .int v_kept, .int v_length, .int v_isFilled, .int 0])), (a_now, .inl (cI, 393, .inl v_now)), (a_history, .inl (cI, 1572, .inl v_history)), (a_text, .inl (cI, 60, .inl v_text))]) [0, 1, 2, 3] (by decide) rfl) hS (lv_sub hl [3, 4, 2, 1, 0] rfl)
  · replace hf := ip hc hf
    refine lv_iconst (v := (-1)) hx hb dX5_putAll_7 (by decide) ?_
    have ho := Option.some.inj hf
    subst ho
    exact hret dX5_putAll_8 rfl (hP.sub (ws' := [(a_t, .inr (5, [.ref a_now, .ref a_slot, .ref a_history, .ref a_text, .ref a_lines, .ref a_owners, .ref a_many, .ref a_ends, .ref a_over, .ref a_ahead, .ref a_behind, .ref a_done, .int v_kept, .int v_length, .int v_isFilled, .int v_at])), (a_now, .inl (cI, 393, .inl v_now)), (a_history, .inl (cI, 1572, .inl v_history)), (a_text, .inl (cI, 60, .inl v_text))]) [0, 1, 2, 3] rfl) (hD.sub (ws' := [(a_t, .inr (5, [.ref a_now, .ref a_slot, .ref a_history, .ref a_text, .ref a_lines, .ref a_owners, .ref a_many, .ref a_ends, .ref a_over, .ref a_ahead, .ref a_behind, .ref a_done, .int v_kept, .int v_length, .int v_isFilled, .int v_at])), (a_now, .inl (cI, 393, .inl v_now)), (a_history, .inl (cI, 1572, .inl v_history)), (a_text, .inl (cI, 60, .inl v_text))]) [0, 1, 2, 3] (by decide) rfl) hS
def fX5_type (i1 : Int32) (v_length : Int32) (v_text : Nat → Int32) : Option (Int32 × Int32 × (Nat → Int32)) :=
  if v_length = 60 then (some ((-3), v_length, v_text)) else (aset 60 v_text v_length i1 fun qg1 => nm (v_length + 1) fun qx2 => some (qx2, qx2, qg1))
def rX5_type : Room := { frames := 0, cells := 0, slots := 0, locals := 0 }
theorem hin_X5_type_X5 : ∀ w ∈ wsX50, w ∈ wsX5_type := fun _ h => List.mem_cons_of_mem _ (List.mem_append_right _ (h))
set_option maxHeartbeats 4000000 in
set_option maxRecDepth 100000 in
theorem k_X5_type (l : Launch) (D : va_G) (cI cC : ClassId) (a_t : Nat) (a_now : Nat) (a_slot : Nat) (a_history : Nat) (a_text : Nat) (a_lines : Nat) (a_owners : Nat) (a_many : Nat) (a_ends : Nat) (a_over : Nat) (a_ahead : Nat) (a_behind : Nat) (a_done : Nat) (i1 : Int32) (v_kept : Int32) (v_length : Int32) (v_isFilled : Int32) (v_at : Int32) (v_text : Nat → Int32) (o : Int32 × Int32 × (Nat → Int32)) (hf : fX5_type i1 v_length v_text = some o) : CTi l yX5_type wsX5_type rX5_type D cI cC [.ref a_t, .int i1] [(a_t, .inr (5, [.ref a_now, .ref a_slot, .ref a_history, .ref a_text, .ref a_lines, .ref a_owners, .ref a_many, .ref a_ends, .ref a_over, .ref a_ahead, .ref a_behind, .ref a_done, .int v_kept, .int v_length, .int v_isFilled, .int v_at])), (a_text, .inl (cI, 60, .inl v_text))] [(a_t, .inr (5, [.ref a_now, .ref a_slot, .ref a_history, .ref a_text, .ref a_lines, .ref a_owners, .ref a_many, .ref a_ends, .ref a_over, .ref a_ahead, .ref a_behind, .ref a_done, .int v_kept, .int o.2.1, .int v_isFilled, .int v_at])), (a_text, .inl (cI, 60, .inl o.2.2))] o.1 := by
  refine CTi_of (cc := cX5_type) (maxL := 2) (ty := .int) (by decide) rfl (Nat.le_of_ble_eq_true rfl) ?_
  intro p e s m args below meth c A Q ls C0 hA hP hD hl hret
  obtain ⟨hx, hb, hml, hts, hown, hK⟩ := C0
  have hown : s.vm.findClass RX5 = some m.cls := hown
  have hS : va_S A s.heap s.heap [] := va_S.rf
  have hl : lv_has ls 2 [(0, .ref a_t), (1, .int i1)] := hl
  have hinX5 := hin_X5_type_X5
  unfold fX5_type at hf
  refine lv_aload_n hx hb dX5_type_0 rfl (lv_at hl 0 rfl) ?_
  refine va_get (D := D) (ci := 5) (v := .int v_length) (C := RX5) (T := TX5) (N := 16) hx hb hts hinX5 hown hK.1 hP 0 rfl rfl 13 (by decide) (hts (.fieldLink RX5 117 "BaselineGridModel" "length" "I") (List.mem_of_getElem? (i := 1) rfl)) (fun _ h9 => h9) rfl dX5_type_1 ?_
  refine lv_bipush (v := 60) hx hb dX5_type_4 (by decide) ?_
  refine lv_icmp_ne (tgt := 12) hx hb dX5_type_6 (by decide) (fun hc => ?_) (fun hc => ?_)
  · replace hf := ineg hc hf
    refine lv_aload_n hx hb dX5_type_12 rfl (lv_at hl 0 rfl) ?_
    refine va_get (D := D) (ci := 5) (v := .ref a_text) (C := RX5) (T := TX5) (N := 16) hx hb hts hinX5 hown hK.1 hP 0 rfl rfl 3 (by decide) (hts (.fieldLink RX5 19 "BaselineGridModel" "text" "[I") (List.mem_of_getElem? (i := 2) rfl)) (fun _ h9 => h9) rfl dX5_type_13 ?_
    refine lv_aload_n hx hb dX5_type_16 rfl (lv_at hl 0 rfl) ?_
    refine va_get (D := D) (ci := 5) (v := .int v_length) (C := RX5) (T := TX5) (N := 16) hx hb hts hinX5 hown hK.1 hP 0 rfl rfl 13 (by decide) (hts (.fieldLink RX5 117 "BaselineGridModel" "length" "I") (List.mem_of_getElem? (i := 1) rfl)) (fun _ h9 => h9) rfl dX5_type_17 ?_
    refine lv_iload_n hx hb dX5_type_20 rfl (lv_at hl 1 rfl) ?_
    refine g_iast hx hb hK.1 hP hD hS 1 0 rfl rfl hf dX5_type_21 (fun qg1 H locs hf hP hD hS => ?_)
    have hP : va_P D vwCl [(a_t, .inr (5, [.ref a_now, .ref a_slot, .ref a_history, .ref a_text, .ref a_lines, .ref a_owners, .ref a_many, .ref a_ends, .ref a_over, .ref a_ahead, .ref a_behind, .ref a_done, .int v_kept, .int v_length, .int v_isFilled, .int v_at])), (a_text, .inl (cI, 60, .inl qg1))] H := hP
    have hD : va_D A [(a_t, .inr (5, [.ref a_now, .ref a_slot, .ref a_history, .ref a_text, .ref a_lines, .ref a_owners, .ref a_many, .ref a_ends, .ref a_over, .ref a_ahead, .ref a_behind, .ref a_done, .int v_kept, .int v_length, .int v_isFilled, .int v_at])), (a_text, .inl (cI, 60, .inl qg1))] := hD
    refine lv_aload_n hx hb dX5_type_22 rfl (lv_at hl 0 rfl) ?_
    refine lv_dup hx hb dX5_type_23 rfl ?_
    refine va_get (D := D) (ci := 5) (v := .int v_length) (C := RX5) (T := TX5) (N := 16) hx hb hts hinX5 hown hK.1 hP 0 rfl rfl 13 (by decide) (hts (.fieldLink RX5 117 "BaselineGridModel" "length" "I") (List.mem_of_getElem? (i := 1) rfl)) (fun _ h9 => h9) rfl dX5_type_24 ?_
    refine lv_iconst (v := 1) hx hb dX5_type_27 (by decide) ?_
    refine lv_iadd hx hb dX5_type_28 ?_
    refine g_nm hf (fun qx2 hf => ?_)
    refine va_put (D := D) (ci := 5) (v := .int qx2) (ty := .int) (C := RX5) (T := TX5) (N := 16) hx hb hts hinX5 tyX5 tyX5_ok nmX5 hown hK.1 hP hD hS 0 rfl rfl 13 (by decide) (hts (.fieldLink RX5 117 "BaselineGridModel" "length" "I") (List.mem_of_getElem? (i := 1) rfl)) (fun _ h9 => h9) rfl (by decide +kernel) rfl rfl (Nat.le_of_ble_eq_true rfl) dX5_type_29 (fun H locs hP hD hS => ?_)
    have hP : va_P D vwCl [(a_t, .inr (5, [.ref a_now, .ref a_slot, .ref a_history, .ref a_text, .ref a_lines, .ref a_owners, .ref a_many, .ref a_ends, .ref a_over, .ref a_ahead, .ref a_behind, .ref a_done, .int v_kept, .int qx2, .int v_isFilled, .int v_at])), (a_text, .inl (cI, 60, .inl qg1))] H := hP
    have hD : va_D A [(a_t, .inr (5, [.ref a_now, .ref a_slot, .ref a_history, .ref a_text, .ref a_lines, .ref a_owners, .ref a_many, .ref a_ends, .ref a_over, .ref a_ahead, .ref a_behind, .ref a_done, .int v_kept, .int qx2, .int v_isFilled, .int v_at])), (a_text, .inl (cI, 60, .inl qg1))] := hD
    refine lv_aload_n hx hb dX5_type_32 rfl (lv_at hl 0 rfl) ?_
    refine va_get (D := D) (ci := 5) (v := .int qx2) (C := RX5) (T := TX5) (N := 16) hx hb hts hinX5 hown hK.1 hP 0 rfl rfl 13 (by decide) (hts (.fieldLink RX5 117 "BaselineGridModel" "length" "I") (List.mem_of_getElem? (i := 1) rfl)) (fun _ h9 => h9) rfl dX5_type_33 ?_
    have ho := Option.some.inj hf
    subst ho
    exact hret dX5_type_36 rfl (hP.sub (ws' := [(a_t, .inr (5, [.ref a_now, .ref a_slot, .ref a_history, .ref a_text, .ref a_lines, .ref a_owners, .ref a_many, .ref a_ends, .ref a_over, .ref a_ahead, .ref a_behind, .ref a_done, .int v_kept, .int qx2, .int v_isFilled, .int v_at])), (a_text, .inl (cI, 60, .inl qg1))]) [0, 1] rfl) (hD.sub (ws' := [(a_t, .inr (5, [.ref a_now, .ref a_slot, .ref a_history, .ref a_text, .ref a_lines, .ref a_owners, .ref a_many, .ref a_ends, .ref a_over, .ref a_ahead, .ref a_behind, .ref a_done, .int v_kept, .int qx2, .int v_isFilled, .int v_at])), (a_text, .inl (cI, 60, .inl qg1))]) [0, 1] (by decide) rfl) hS
  · replace hf := ip hc hf
    refine lv_bipush (v := (-3)) hx hb dX5_type_9 (by decide) ?_
    have ho := Option.some.inj hf
    subst ho
    exact hret dX5_type_11 rfl (hP.sub (ws' := [(a_t, .inr (5, [.ref a_now, .ref a_slot, .ref a_history, .ref a_text, .ref a_lines, .ref a_owners, .ref a_many, .ref a_ends, .ref a_over, .ref a_ahead, .ref a_behind, .ref a_done, .int v_kept, .int v_length, .int v_isFilled, .int v_at])), (a_text, .inl (cI, 60, .inl v_text))]) [0, 1] rfl) (hD.sub (ws' := [(a_t, .inr (5, [.ref a_now, .ref a_slot, .ref a_history, .ref a_text, .ref a_lines, .ref a_owners, .ref a_many, .ref a_ends, .ref a_over, .ref a_ahead, .ref a_behind, .ref a_done, .int v_kept, .int v_length, .int v_isFilled, .int v_at])), (a_text, .inl (cI, 60, .inl v_text))]) [0, 1] (by decide) rfl) hS
def fX5_clearText (v_length : Int32) : Option (Int32 × Int32) :=
  some (v_length, 0)
def rX5_clearText : Room := { frames := 0, cells := 0, slots := 0, locals := 0 }
theorem hin_X5_clearText_X5 : ∀ w ∈ wsX50, w ∈ wsX5_clearText := fun _ h => List.mem_cons_of_mem _ (List.mem_append_right _ (h))
set_option maxHeartbeats 4000000 in
set_option maxRecDepth 100000 in
theorem k_X5_clearText (l : Launch) (D : va_G) (cI cC : ClassId) (a_t : Nat) (a_now : Nat) (a_slot : Nat) (a_history : Nat) (a_text : Nat) (a_lines : Nat) (a_owners : Nat) (a_many : Nat) (a_ends : Nat) (a_over : Nat) (a_ahead : Nat) (a_behind : Nat) (a_done : Nat) (v_kept : Int32) (v_length : Int32) (v_isFilled : Int32) (v_at : Int32) (o : Int32 × Int32) (hf : fX5_clearText v_length = some o) : CTi l yX5_clearText wsX5_clearText rX5_clearText D cI cC [.ref a_t] [(a_t, .inr (5, [.ref a_now, .ref a_slot, .ref a_history, .ref a_text, .ref a_lines, .ref a_owners, .ref a_many, .ref a_ends, .ref a_over, .ref a_ahead, .ref a_behind, .ref a_done, .int v_kept, .int v_length, .int v_isFilled, .int v_at]))] [(a_t, .inr (5, [.ref a_now, .ref a_slot, .ref a_history, .ref a_text, .ref a_lines, .ref a_owners, .ref a_many, .ref a_ends, .ref a_over, .ref a_ahead, .ref a_behind, .ref a_done, .int v_kept, .int o.2, .int v_isFilled, .int v_at]))] o.1 := by
  refine CTi_of (cc := cX5_clearText) (maxL := 2) (ty := .int) (by decide) rfl (Nat.le_of_ble_eq_true rfl) ?_
  intro p e s m args below meth c A Q ls C0 hA hP hD hl hret
  obtain ⟨hx, hb, hml, hts, hown, hK⟩ := C0
  have hown : s.vm.findClass RX5 = some m.cls := hown
  have hS : va_S A s.heap s.heap [] := va_S.rf
  have hl : lv_has ls 2 [(0, .ref a_t)] := hl
  have hinX5 := hin_X5_clearText_X5
  unfold fX5_clearText at hf
  refine lv_aload_n hx hb dX5_clearText_0 rfl (lv_at hl 0 rfl) ?_
  refine va_get (D := D) (ci := 5) (v := .int v_length) (C := RX5) (T := TX5) (N := 16) hx hb hts hinX5 hown hK.1 hP 0 rfl rfl 13 (by decide) (hts (.fieldLink RX5 117 "BaselineGridModel" "length" "I") (List.mem_of_getElem? (i := 1) rfl)) (fun _ h9 => h9) rfl dX5_clearText_1 ?_
  refine lv_istore_n (lv' := [(1, .int v_length), (0, .ref a_t)]) hx hb dX5_clearText_4 rfl hl (by decide) rfl (fun ls hl => ?_)
  refine lv_aload_n hx hb dX5_clearText_5 rfl (lv_at hl 1 rfl) ?_
  refine lv_iconst (v := 0) hx hb dX5_clearText_6 (by decide) ?_
  refine va_put (D := D) (ci := 5) (v := .int 0) (ty := .int) (C := RX5) (T := TX5) (N := 16) hx hb hts hinX5 tyX5 tyX5_ok nmX5 hown hK.1 hP hD hS 0 rfl rfl 13 (by decide) (hts (.fieldLink RX5 117 "BaselineGridModel" "length" "I") (List.mem_of_getElem? (i := 1) rfl)) (fun _ h9 => h9) rfl (by decide +kernel) rfl rfl (Nat.le_of_ble_eq_true rfl) dX5_clearText_7 (fun H locs hP hD hS => ?_)
  have hP : va_P D vwCl [(a_t, .inr (5, [.ref a_now, .ref a_slot, .ref a_history, .ref a_text, .ref a_lines, .ref a_owners, .ref a_many, .ref a_ends, .ref a_over, .ref a_ahead, .ref a_behind, .ref a_done, .int v_kept, .int 0, .int v_isFilled, .int v_at]))] H := hP
  have hD : va_D A [(a_t, .inr (5, [.ref a_now, .ref a_slot, .ref a_history, .ref a_text, .ref a_lines, .ref a_owners, .ref a_many, .ref a_ends, .ref a_over, .ref a_ahead, .ref a_behind, .ref a_done, .int v_kept, .int 0, .int v_isFilled, .int v_at]))] := hD
  refine lv_iload_n hx hb dX5_clearText_10 rfl (lv_at hl 0 rfl) ?_
  have ho := Option.some.inj hf
  subst ho
  exact hret dX5_clearText_11 rfl (hP.sub (ws' := [(a_t, .inr (5, [.ref a_now, .ref a_slot, .ref a_history, .ref a_text, .ref a_lines, .ref a_owners, .ref a_many, .ref a_ends, .ref a_over, .ref a_ahead, .ref a_behind, .ref a_done, .int v_kept, .int 0, .int v_isFilled, .int v_at]))]) [0] rfl) (hD.sub (ws' := [(a_t, .inr (5, [.ref a_now, .ref a_slot, .ref a_history, .ref a_text, .ref a_lines, .ref a_owners, .ref a_many, .ref a_ends, .ref a_over, .ref a_ahead, .ref a_behind, .ref a_done, .int v_kept, .int 0, .int v_isFilled, .int v_at]))]) [0] (by decide) rfl) hS
def fX5_undo_22 (v_history : Nat → Int32) (v_kept : Int32) : Nat → Int32 → (Nat → Int32) → Option (Int32 × Int32 × (Nat → Int32))
  | 0 => fun _ _ => none
  | n + 1 => fun w1 v_now =>
    if 393 ≤ w1 then (some (v_kept, v_kept, v_now)) else (aget 1572 v_history ((393 * v_kept) + w1) fun qx2 => aset 393 v_now w1 qx2 fun qg3 => nm (w1 + 1) fun qx4 => (fX5_undo_22 v_history v_kept n) qx4 qg3)
def fX5_undo (v_kept : Int32) (v_now : Nat → Int32) (v_history : Nat → Int32) : Option (Int32 × Int32 × (Nat → Int32)) :=
  if v_kept = 0 then (some ((-5), v_kept, v_now)) else (nm (v_kept - 1) fun qx1 => fX5_undo_22 v_history qx1 Fu 0 v_now)
def rX5_undo : Room := { frames := 0, cells := 0, slots := 0, locals := 0 }
theorem hin_X5_undo_X5 : ∀ w ∈ wsX50, w ∈ wsX5_undo := fun _ h => List.mem_cons_of_mem _ (List.mem_append_right _ (h))
set_option maxHeartbeats 4000000 in
set_option maxRecDepth 100000 in
theorem k_X5_undo (l : Launch) (D : va_G) (cI cC : ClassId) (a_t : Nat) (a_now : Nat) (a_slot : Nat) (a_history : Nat) (a_text : Nat) (a_lines : Nat) (a_owners : Nat) (a_many : Nat) (a_ends : Nat) (a_over : Nat) (a_ahead : Nat) (a_behind : Nat) (a_done : Nat) (v_kept : Int32) (v_length : Int32) (v_isFilled : Int32) (v_at : Int32) (v_now : Nat → Int32) (v_history : Nat → Int32) (o : Int32 × Int32 × (Nat → Int32)) (hf : fX5_undo v_kept v_now v_history = some o) : CTi l yX5_undo wsX5_undo rX5_undo D cI cC [.ref a_t] [(a_t, .inr (5, [.ref a_now, .ref a_slot, .ref a_history, .ref a_text, .ref a_lines, .ref a_owners, .ref a_many, .ref a_ends, .ref a_over, .ref a_ahead, .ref a_behind, .ref a_done, .int v_kept, .int v_length, .int v_isFilled, .int v_at])), (a_now, .inl (cI, 393, .inl v_now)), (a_history, .inl (cI, 1572, .inl v_history))] [(a_t, .inr (5, [.ref a_now, .ref a_slot, .ref a_history, .ref a_text, .ref a_lines, .ref a_owners, .ref a_many, .ref a_ends, .ref a_over, .ref a_ahead, .ref a_behind, .ref a_done, .int o.2.1, .int v_length, .int v_isFilled, .int v_at])), (a_now, .inl (cI, 393, .inl o.2.2)), (a_history, .inl (cI, 1572, .inl v_history))] o.1 := by
  refine CTi_of (cc := cX5_undo) (maxL := 2) (ty := .int) (by decide) rfl (Nat.le_of_ble_eq_true rfl) ?_
  intro p e s m args below meth c A Q ls C0 hA hP hD hl hret
  obtain ⟨hx, hb, hml, hts, hown, hK⟩ := C0
  have hown : s.vm.findClass RX5 = some m.cls := hown
  have hS : va_S A s.heap s.heap [] := va_S.rf
  have hl : lv_has ls 2 [(0, .ref a_t)] := hl
  have hinX5 := hin_X5_undo_X5
  have J22 : ∀ (v_kept : Int32)  (n : Nat) (w1 : Int32) (v_now : Nat → Int32) (H : Heap) (locs : List Loc) (ls : Array Slot), fX5_undo_22 v_history v_kept n w1 v_now = some o → va_P D vwCl [(a_t, .inr (5, [.ref a_now, .ref a_slot, .ref a_history, .ref a_text, .ref a_lines, .ref a_owners, .ref a_many, .ref a_ends, .ref a_over, .ref a_ahead, .ref a_behind, .ref a_done, .int v_kept, .int v_length, .int v_isFilled, .int v_at])), (a_now, .inl (cI, 393, .inl v_now)), (a_history, .inl (cI, 1572, .inl v_history))] H → va_D A [(a_t, .inr (5, [.ref a_now, .ref a_slot, .ref a_history, .ref a_text, .ref a_lines, .ref a_owners, .ref a_many, .ref a_ends, .ref a_over, .ref a_ahead, .ref a_behind, .ref a_done, .int v_kept, .int v_length, .int v_isFilled, .int v_at])), (a_now, .inl (cI, 393, .inl v_now)), (a_history, .inl (cI, 1572, .inl v_history))] → va_S A s.heap H locs → lv_has ls 2 [(0, .ref a_t), (1, .int w1)] → W p l e rX5_undo s m args below meth c H locs 0 0 Q (F0 m 22 ls []) := by
    intro v_kept n
    induction n with
    | zero =>
      intro w1 v_now H locs ls hf
      have hf0 : (none : Option (Int32 × Int32 × (Nat → Int32))) = some o := hf
      cases hf0
    | succ n hk22 =>
      intro w1 v_now H locs ls hf hP hD hS hl
      rw [fX5_undo_22] at hf
      refine lv_iload_n hx hb dX5_undo_22 rfl (lv_at hl 1 rfl) ?_
      refine lv_sipush (v := 393) hx hb dX5_undo_23 (by decide) ?_
      refine lv_icmp_ge (tgt := 56) hx hb dX5_undo_26 (by decide) (fun hc => ?_) (fun hc => ?_)
      · replace hf := ip hc hf
        refine lv_aload_n hx hb dX5_undo_56 rfl (lv_at hl 0 rfl) ?_
        refine va_get (D := D) (ci := 5) (v := .int v_kept) (C := RX5) (T := TX5) (N := 16) hx hb hts hinX5 hown hK.1 hP 0 rfl rfl 12 (by decide) (hts (.fieldLink RX5 50 "BaselineGridModel" "kept" "I") (List.mem_of_getElem? (i := 1) rfl)) (fun _ h9 => h9) rfl dX5_undo_57 ?_
        have ho := Option.some.inj hf
        subst ho
        exact hret dX5_undo_60 rfl (hP.sub (ws' := [(a_t, .inr (5, [.ref a_now, .ref a_slot, .ref a_history, .ref a_text, .ref a_lines, .ref a_owners, .ref a_many, .ref a_ends, .ref a_over, .ref a_ahead, .ref a_behind, .ref a_done, .int v_kept, .int v_length, .int v_isFilled, .int v_at])), (a_now, .inl (cI, 393, .inl v_now)), (a_history, .inl (cI, 1572, .inl v_history))]) [0, 1, 2] rfl) (hD.sub (ws' := [(a_t, .inr (5, [.ref a_now, .ref a_slot, .ref a_history, .ref a_text, .ref a_lines, .ref a_owners, .ref a_many, .ref a_ends, .ref a_over, .ref a_ahead, .ref a_behind, .ref a_done, .int v_kept, .int v_length, .int v_isFilled, .int v_at])), (a_now, .inl (cI, 393, .inl v_now)), (a_history, .inl (cI, 1572, .inl v_history))]) [0, 1, 2] (by decide) rfl) hS
      · replace hf := ineg hc hf
        refine lv_aload_n hx hb dX5_undo_29 rfl (lv_at hl 0 rfl) ?_
        refine va_get (D := D) (ci := 5) (v := .ref a_now) (C := RX5) (T := TX5) (N := 16) hx hb hts hinX5 hown hK.1 hP 0 rfl rfl 0 (by decide) (hts (.fieldLink RX5 7 "BaselineGridModel" "now" "[I") (List.mem_of_getElem? (i := 2) rfl)) (fun _ h9 => h9) rfl dX5_undo_30 ?_
        refine lv_iload_n hx hb dX5_undo_33 rfl (lv_at hl 1 rfl) ?_
        refine lv_aload_n hx hb dX5_undo_34 rfl (lv_at hl 0 rfl) ?_
        refine va_get (D := D) (ci := 5) (v := .ref a_history) (C := RX5) (T := TX5) (N := 16) hx hb hts hinX5 hown hK.1 hP 0 rfl rfl 2 (by decide) (hts (.fieldLink RX5 16 "BaselineGridModel" "history" "[I") (List.mem_of_getElem? (i := 3) rfl)) (fun _ h9 => h9) rfl dX5_undo_35 ?_
        refine lv_sipush (v := 393) hx hb dX5_undo_38 (by decide) ?_
        refine lv_aload_n hx hb dX5_undo_41 rfl (lv_at hl 0 rfl) ?_
        refine va_get (D := D) (ci := 5) (v := .int v_kept) (C := RX5) (T := TX5) (N := 16) hx hb hts hinX5 hown hK.1 hP 0 rfl rfl 12 (by decide) (hts (.fieldLink RX5 50 "BaselineGridModel" "kept" "I") (List.mem_of_getElem? (i := 1) rfl)) (fun _ h9 => h9) rfl dX5_undo_42 ?_
        refine lv_imul hx hb dX5_undo_45 ?_
        refine lv_iload_n hx hb dX5_undo_46 rfl (lv_at hl 1 rfl) ?_
        refine lv_iadd hx hb dX5_undo_47 ?_
        refine g_iald hx hb hK.1 hP 2 0 rfl rfl hf dX5_undo_48 (fun qx2 hf => ?_)
        refine g_iast hx hb hK.1 hP hD hS 1 0 rfl rfl hf dX5_undo_49 (fun qg3 H locs hf hP hD hS => ?_)
        have hP : va_P D vwCl [(a_t, .inr (5, [.ref a_now, .ref a_slot, .ref a_history, .ref a_text, .ref a_lines, .ref a_owners, .ref a_many, .ref a_ends, .ref a_over, .ref a_ahead, .ref a_behind, .ref a_done, .int v_kept, .int v_length, .int v_isFilled, .int v_at])), (a_now, .inl (cI, 393, .inl qg3)), (a_history, .inl (cI, 1572, .inl v_history))] H := hP
        have hD : va_D A [(a_t, .inr (5, [.ref a_now, .ref a_slot, .ref a_history, .ref a_text, .ref a_lines, .ref a_owners, .ref a_many, .ref a_ends, .ref a_over, .ref a_ahead, .ref a_behind, .ref a_done, .int v_kept, .int v_length, .int v_isFilled, .int v_at])), (a_now, .inl (cI, 393, .inl qg3)), (a_history, .inl (cI, 1572, .inl v_history))] := hD
        replace hf := nm_some hf
        obtain ⟨qx4, eqx4, hf⟩ := hf
        refine lv_iinc (v := qx4) (lv' := [(1, .int qx4), (0, .ref a_t)]) hx hb dX5_undo_50 hl (k := 1) rfl (by rw [eqx4]; rfl) (by decide) rfl (fun ls hl => ?_)
        refine lv_goto (tgt := 22) hx hb dX5_undo_53 (by decide) ?_
        exact hk22 qx4 qg3 _ _ _ hf (hP.sub (ws' := [(a_t, .inr (5, [.ref a_now, .ref a_slot, .ref a_history, .ref a_text, .ref a_lines, .ref a_owners, .ref a_many, .ref a_ends, .ref a_over, .ref a_ahead, .ref a_behind, .ref a_done, .int v_kept, .int v_length, .int v_isFilled, .int v_at])), (a_now, .inl (cI, 393, .inl qg3)), (a_history, .inl (cI, 1572, .inl v_history))]) [0, 1, 2] rfl) (hD.sub (ws' := [(a_t, .inr (5, [.ref a_now, .ref a_slot, .ref a_history, .ref a_text, .ref a_lines, .ref a_owners, .ref a_many, .ref a_ends, .ref a_over, .ref a_ahead, .ref a_behind, .ref a_done, .int v_kept, .int v_length, .int v_isFilled, .int v_at])), (a_now, .inl (cI, 393, .inl qg3)), (a_history, .inl (cI, 1572, .inl v_history))]) [0, 1, 2] (by decide) rfl) hS (lv_sub hl [1, 0] rfl)
  unfold fX5_undo at hf
  refine lv_aload_n hx hb dX5_undo_0 rfl (lv_at hl 0 rfl) ?_
  refine va_get (D := D) (ci := 5) (v := .int v_kept) (C := RX5) (T := TX5) (N := 16) hx hb hts hinX5 hown hK.1 hP 0 rfl rfl 12 (by decide) (hts (.fieldLink RX5 50 "BaselineGridModel" "kept" "I") (List.mem_of_getElem? (i := 1) rfl)) (fun _ h9 => h9) rfl dX5_undo_1 ?_
  refine lv_if_ne (tgt := 10) hx hb dX5_undo_4 (by decide) (fun hc => ?_) (fun hc => ?_)
  · replace hf := ineg hc hf
    refine lv_aload_n hx hb dX5_undo_10 rfl (lv_at hl 0 rfl) ?_
    refine lv_dup hx hb dX5_undo_11 rfl ?_
    refine va_get (D := D) (ci := 5) (v := .int v_kept) (C := RX5) (T := TX5) (N := 16) hx hb hts hinX5 hown hK.1 hP 0 rfl rfl 12 (by decide) (hts (.fieldLink RX5 50 "BaselineGridModel" "kept" "I") (List.mem_of_getElem? (i := 1) rfl)) (fun _ h9 => h9) rfl dX5_undo_12 ?_
    refine lv_iconst (v := 1) hx hb dX5_undo_15 (by decide) ?_
    refine lv_isub hx hb dX5_undo_16 ?_
    refine g_nm hf (fun qx1 hf => ?_)
    refine va_put (D := D) (ci := 5) (v := .int qx1) (ty := .int) (C := RX5) (T := TX5) (N := 16) hx hb hts hinX5 tyX5 tyX5_ok nmX5 hown hK.1 hP hD hS 0 rfl rfl 12 (by decide) (hts (.fieldLink RX5 50 "BaselineGridModel" "kept" "I") (List.mem_of_getElem? (i := 1) rfl)) (fun _ h9 => h9) rfl (by decide +kernel) rfl rfl (Nat.le_of_ble_eq_true rfl) dX5_undo_17 (fun H locs hP hD hS => ?_)
    have hP : va_P D vwCl [(a_t, .inr (5, [.ref a_now, .ref a_slot, .ref a_history, .ref a_text, .ref a_lines, .ref a_owners, .ref a_many, .ref a_ends, .ref a_over, .ref a_ahead, .ref a_behind, .ref a_done, .int qx1, .int v_length, .int v_isFilled, .int v_at])), (a_now, .inl (cI, 393, .inl v_now)), (a_history, .inl (cI, 1572, .inl v_history))] H := hP
    have hD : va_D A [(a_t, .inr (5, [.ref a_now, .ref a_slot, .ref a_history, .ref a_text, .ref a_lines, .ref a_owners, .ref a_many, .ref a_ends, .ref a_over, .ref a_ahead, .ref a_behind, .ref a_done, .int qx1, .int v_length, .int v_isFilled, .int v_at])), (a_now, .inl (cI, 393, .inl v_now)), (a_history, .inl (cI, 1572, .inl v_history))] := hD
    refine lv_iconst (v := 0) hx hb dX5_undo_20 (by decide) ?_
    refine lv_istore_n (lv' := [(1, .int 0), (0, .ref a_t)]) hx hb dX5_undo_21 rfl hl (by decide) rfl (fun ls hl => ?_)
    exact J22 qx1 Fu 0 v_now _ _ _ hf (hP.sub (ws' := [(a_t, .inr (5, [.ref a_now, .ref a_slot, .ref a_history, .ref a_text, .ref a_lines, .ref a_owners, .ref a_many, .ref a_ends, .ref a_over, .ref a_ahead, .ref a_behind, .ref a_done, .int qx1, .int v_length, .int v_isFilled, .int v_at])), (a_now, .inl (cI, 393, .inl v_now)), (a_history, .inl (cI, 1572, .inl v_history))]) [0, 1, 2] rfl) (hD.sub (ws' := [(a_t, .inr (5, [.ref a_now, .ref a_slot, .ref a_history, .ref a_text, .ref a_lines, .ref a_owners, .ref a_many, .ref a_ends, .ref a_over, .ref a_ahead, .ref a_behind, .ref a_done, .int qx1, .int v_length, .int v_isFilled, .int v_at])), (a_now, .inl (cI, 393, .inl v_now)), (a_history, .inl (cI, 1572, .inl v_history))]) [0, 1, 2] (by decide) rfl) hS (lv_sub hl [1, 0] rfl)
  · replace hf := ip hc hf
    refine lv_bipush (v := (-5)) hx hb dX5_undo_7 (by decide) ?_
    have ho := Option.some.inj hf
    subst ho
    exact hret dX5_undo_9 rfl (hP.sub (ws' := [(a_t, .inr (5, [.ref a_now, .ref a_slot, .ref a_history, .ref a_text, .ref a_lines, .ref a_owners, .ref a_many, .ref a_ends, .ref a_over, .ref a_ahead, .ref a_behind, .ref a_done, .int v_kept, .int v_length, .int v_isFilled, .int v_at])), (a_now, .inl (cI, 393, .inl v_now)), (a_history, .inl (cI, 1572, .inl v_history))]) [0, 1, 2] rfl) (hD.sub (ws' := [(a_t, .inr (5, [.ref a_now, .ref a_slot, .ref a_history, .ref a_text, .ref a_lines, .ref a_owners, .ref a_many, .ref a_ends, .ref a_over, .ref a_ahead, .ref a_behind, .ref a_done, .int v_kept, .int v_length, .int v_isFilled, .int v_at])), (a_now, .inl (cI, 393, .inl v_now)), (a_history, .inl (cI, 1572, .inl v_history))]) [0, 1, 2] (by decide) rfl) hS
