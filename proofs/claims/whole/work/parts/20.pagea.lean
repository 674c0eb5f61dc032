def fX2_settingOf (i1 : Int32) (v_cells : Nat → Int32) : Option (Int32) :=
  if i1 < 0 then (some 0) else (if i1 < 5 then (aget 393 v_cells i1 fun qx1 => some qx1) else (some 0))
def rX2_settingOf : Room := { frames := 0, cells := 0, slots := 0, locals := 0 }
theorem hin_X2_settingOf_X2 : ∀ w ∈ wsX20, w ∈ wsX2_settingOf := fun _ h => List.mem_cons_of_mem _ (List.mem_append_right _ (h))
set_option maxHeartbeats 4000000 in
set_option maxRecDepth 100000 in
theorem k_X2_settingOf (l : Launch) (D : va_G) (cI cC : ClassId) (a_t : Nat) (a_cells : Nat) (i1 : Int32) (v_cells : Nat → Int32) (o : Int32) (hf : fX2_settingOf i1 v_cells = some o) : CTi l yX2_settingOf wsX2_settingOf rX2_settingOf D cI cC [.ref a_t, .int i1] [(a_t, .inr (2, [.ref a_cells])), (a_cells, .inl (cI, 393, .inl v_cells))] [(a_t, .inr (2, [.ref a_cells])), (a_cells, .inl (cI, 393, .inl v_cells))] o := by
  refine CTi_of (cc := cX2_settingOf) (maxL := 2) (ty := .int) (by decide) rfl (Nat.le_of_ble_eq_true rfl) ?_
  intro p e s m args below meth c A Q ls C0 hA hP hD hl hret
  obtain ⟨hx, hb, hml, hts, hown, hK⟩ := C0
  have hown : s.vm.findClass RX2 = some m.cls := hown
  have hS : va_S A s.heap s.heap [] := va_S.rf
  have hl : lv_has ls 2 [(0, .ref a_t), (1, .int i1)] := hl
  have hinX2 := hin_X2_settingOf_X2
  unfold fX2_settingOf at hf
  refine lv_iload_n hx hb dX2_settingOf_0 rfl (lv_at hl 1 rfl) ?_
  refine lv_if_lt (tgt := 9) hx hb dX2_settingOf_1 (by decide) (fun hc => ?_) (fun hc => ?_)
  · replace hf := ip hc hf
    refine lv_iconst (v := 0) hx hb dX2_settingOf_9 (by decide) ?_
    refine lv_goto (tgt := 19) hx hb dX2_settingOf_10 (by decide) ?_
    have ho := Option.some.inj hf
    subst ho
    exact hret dX2_settingOf_19 rfl (hP.sub (ws' := [(a_t, .inr (2, [.ref a_cells])), (a_cells, .inl (cI, 393, .inl v_cells))]) [0, 1] rfl) (hD.sub (ws' := [(a_t, .inr (2, [.ref a_cells])), (a_cells, .inl (cI, 393, .inl v_cells))]) [0, 1] (by decide) rfl) hS
  · replace hf := ineg hc hf
    refine lv_iload_n hx hb dX2_settingOf_4 rfl (lv_at hl 1 rfl) ?_
    refine lv_iconst (v := 5) hx hb dX2_settingOf_5 (by decide) ?_
    refine lv_icmp_lt (tgt := 13) hx hb dX2_settingOf_6 (by decide) (fun hc => ?_) (fun hc => ?_)
    · replace hf := ip hc hf
      refine lv_aload_n hx hb dX2_settingOf_13 rfl (lv_at hl 0 rfl) ?_
      refine va_get (D := D) (ci := 2) (v := .ref a_cells) (C := RX2) (T := TX2) (N := 1) hx hb hts hinX2 hown hK.1 hP 0 rfl rfl 0 (by decide) (hts (.fieldLink RX2 9 "BaselineGrid$Page" "cells" "[I") (List.mem_of_getElem? (i := 1) rfl)) (fun _ h9 => h9) rfl dX2_settingOf_14 ?_
      refine lv_iload_n hx hb dX2_settingOf_17 rfl (lv_at hl 1 rfl) ?_
      refine g_iald hx hb hK.1 hP 1 0 rfl rfl hf dX2_settingOf_18 (fun qx1 hf => ?_)
      have ho := Option.some.inj hf
      subst ho
      exact hret dX2_settingOf_19 rfl (hP.sub (ws' := [(a_t, .inr (2, [.ref a_cells])), (a_cells, .inl (cI, 393, .inl v_cells))]) [0, 1] rfl) (hD.sub (ws' := [(a_t, .inr (2, [.ref a_cells])), (a_cells, .inl (cI, 393, .inl v_cells))]) [0, 1] (by decide) rfl) hS
    · replace hf := ineg hc hf
      refine lv_iconst (v := 0) hx hb dX2_settingOf_9 (by decide) ?_
      refine lv_goto (tgt := 19) hx hb dX2_settingOf_10 (by decide) ?_
      have ho := Option.some.inj hf
      subst ho
      exact hret dX2_settingOf_19 rfl (hP.sub (ws' := [(a_t, .inr (2, [.ref a_cells])), (a_cells, .inl (cI, 393, .inl v_cells))]) [0, 1] rfl) (hD.sub (ws' := [(a_t, .inr (2, [.ref a_cells])), (a_cells, .inl (cI, 393, .inl v_cells))]) [0, 1] (by decide) rfl) hS
def fX2_changeSetting (i1 : Int32) (i2 : Int32) (v_cells : Nat → Int32) : Option ((Nat → Int32)) :=
  if i1 < 0 then (some v_cells) else (if 5 ≤ i1 then (some v_cells) else (aset 393 v_cells i1 i2 fun qg1 => some qg1))
def rX2_changeSetting : Room := { frames := 0, cells := 0, slots := 0, locals := 0 }
theorem hin_X2_changeSetting_X2 : ∀ w ∈ wsX20, w ∈ wsX2_changeSetting := fun _ h => List.mem_cons_of_mem _ (List.mem_append_right _ (h))
set_option maxHeartbeats 4000000 in
set_option maxRecDepth 100000 in
theorem k_X2_changeSetting (l : Launch) (D : va_G) (cI cC : ClassId) (a_t : Nat) (a_cells : Nat) (i1 : Int32) (i2 : Int32) (v_cells : Nat → Int32) (o : (Nat → Int32)) (hf : fX2_changeSetting i1 i2 v_cells = some o) : CTv l yX2_changeSetting wsX2_changeSetting rX2_changeSetting D cI cC [.ref a_t, .int i1, .int i2] [(a_t, .inr (2, [.ref a_cells])), (a_cells, .inl (cI, 393, .inl v_cells))] [(a_t, .inr (2, [.ref a_cells])), (a_cells, .inl (cI, 393, .inl o))]  := by
  refine CTv_of (cc := cX2_changeSetting) (maxL := 3) (by decide) rfl (Nat.le_of_ble_eq_true rfl) ?_
  intro p e s m args below meth c A Q ls C0 hA hP hD hl hret
  obtain ⟨hx, hb, hml, hts, hown, hK⟩ := C0
  have hown : s.vm.findClass RX2 = some m.cls := hown
  have hS : va_S A s.heap s.heap [] := va_S.rf
  have hl : lv_has ls 3 [(0, .ref a_t), (1, .int i1), (2, .int i2)] := hl
  have hinX2 := hin_X2_changeSetting_X2
  unfold fX2_changeSetting at hf
  refine lv_iload_n hx hb dX2_changeSetting_0 rfl (lv_at hl 1 rfl) ?_
  refine lv_if_lt (tgt := 16) hx hb dX2_changeSetting_1 (by decide) (fun hc => ?_) (fun hc => ?_)
  · replace hf := ip hc hf
    have ho := Option.some.inj hf
    subst ho
    exact hret dX2_changeSetting_16 (hP.sub (ws' := [(a_t, .inr (2, [.ref a_cells])), (a_cells, .inl (cI, 393, .inl v_cells))]) [0, 1] rfl) (hD.sub (ws' := [(a_t, .inr (2, [.ref a_cells])), (a_cells, .inl (cI, 393, .inl v_cells))]) [0, 1] (by decide) rfl) hS
  · replace hf := ineg hc hf
    refine lv_iload_n hx hb dX2_changeSetting_4 rfl (lv_at hl 1 rfl) ?_
    refine lv_iconst (v := 5) hx hb dX2_changeSetting_5 (by decide) ?_
    refine lv_icmp_ge (tgt := 16) hx hb dX2_changeSetting_6 (by decide) (fun hc => ?_) (fun hc => ?_)
    · replace hf := ip hc hf
      have ho := Option.some.inj hf
      subst ho
      exact hret dX2_changeSetting_16 (hP.sub (ws' := [(a_t, .inr (2, [.ref a_cells])), (a_cells, .inl (cI, 393, .inl v_cells))]) [0, 1] rfl) (hD.sub (ws' := [(a_t, .inr (2, [.ref a_cells])), (a_cells, .inl (cI, 393, .inl v_cells))]) [0, 1] (by decide) rfl) hS
    · replace hf := ineg hc hf
      refine lv_aload_n hx hb dX2_changeSetting_9 rfl (lv_at hl 0 rfl) ?_
      refine va_get (D := D) (ci := 2) (v := .ref a_cells) (C := RX2) (T := TX2) (N := 1) hx hb hts hinX2 hown hK.1 hP 0 rfl rfl 0 (by decide) (hts (.fieldLink RX2 9 "BaselineGrid$Page" "cells" "[I") (List.mem_of_getElem? (i := 1) rfl)) (fun _ h9 => h9) rfl dX2_changeSetting_10 ?_
      refine lv_iload_n hx hb dX2_changeSetting_13 rfl (lv_at hl 1 rfl) ?_
      refine lv_iload_n hx hb dX2_changeSetting_14 rfl (lv_at hl 2 rfl) ?_
      refine g_iast hx hb hK.1 hP hD hS 1 0 rfl rfl hf dX2_changeSetting_15 (fun qg1 H locs hf hP hD hS => ?_)
      have hP : va_P D vwCl [(a_t, .inr (2, [.ref a_cells])), (a_cells, .inl (cI, 393, .inl qg1))] H := hP
      have hD : va_D A [(a_t, .inr (2, [.ref a_cells])), (a_cells, .inl (cI, 393, .inl qg1))] := hD
      have ho := Option.some.inj hf
      subst ho
      exact hret dX2_changeSetting_16 (hP.sub (ws' := [(a_t, .inr (2, [.ref a_cells])), (a_cells, .inl (cI, 393, .inl qg1))]) [0, 1] rfl) (hD.sub (ws' := [(a_t, .inr (2, [.ref a_cells])), (a_cells, .inl (cI, 393, .inl qg1))]) [0, 1] (by decide) rfl) hS
def fX4_isColumn (i0 : Int32) : Option (Int32) :=
  if i0 < 0 then (some 0) else (if 4 ≤ i0 then (some 0) else (some 1))
def rX4_isColumn : Room := { frames := 0, cells := 0, slots := 0, locals := 0 }
set_option maxHeartbeats 4000000 in
set_option maxRecDepth 100000 in
theorem k_X4_isColumn (l : Launch) (D : va_G) (cI cC : ClassId) (i0 : Int32) (o : Int32) (hf : fX4_isColumn i0 = some o) : CTi l yX4_isColumn wsX4_isColumn rX4_isColumn D cI cC [.int i0] [] [] o := by
  refine CTi_of (cc := cX4_isColumn) (maxL := 1) (ty := .boolean) (by decide) rfl (Nat.le_of_ble_eq_true rfl) ?_
  intro p e s m args below meth c A Q ls C0 hA hP hD hl hret
  obtain ⟨hx, hb, hml, hts, hown, hK⟩ := C0
  have hown : s.vm.findClass RX4 = some m.cls := hown
  have hS : va_S A s.heap s.heap [] := va_S.rf
  have hl : lv_has ls 1 [(0, .int i0)] := hl
  unfold fX4_isColumn at hf
  refine lv_iload_n hx hb dX4_isColumn_0 rfl (lv_at hl 0 rfl) ?_
  refine lv_if_lt (tgt := 13) hx hb dX4_isColumn_1 (by decide) (fun hc => ?_) (fun hc => ?_)
  · replace hf := ip hc hf
    refine lv_iconst (v := 0) hx hb dX4_isColumn_13 (by decide) ?_
    have ho := Option.some.inj hf
    subst ho
    exact hret dX4_isColumn_14 (nbool (Or.inl rfl)) (hP.sub (ws' := []) [] rfl) (hD.sub (ws' := []) [] (by decide) rfl) hS
  · replace hf := ineg hc hf
    refine lv_iload_n hx hb dX4_isColumn_4 rfl (lv_at hl 0 rfl) ?_
    refine lv_iconst (v := 4) hx hb dX4_isColumn_5 (by decide) ?_
    refine lv_icmp_ge (tgt := 13) hx hb dX4_isColumn_6 (by decide) (fun hc => ?_) (fun hc => ?_)
    · replace hf := ip hc hf
      refine lv_iconst (v := 0) hx hb dX4_isColumn_13 (by decide) ?_
      have ho := Option.some.inj hf
      subst ho
      exact hret dX4_isColumn_14 (nbool (Or.inl rfl)) (hP.sub (ws' := []) [] rfl) (hD.sub (ws' := []) [] (by decide) rfl) hS
    · replace hf := ineg hc hf
      refine lv_iconst (v := 1) hx hb dX4_isColumn_9 (by decide) ?_
      refine lv_goto (tgt := 14) hx hb dX4_isColumn_10 (by decide) ?_
      have ho := Option.some.inj hf
      subst ho
      exact hret dX4_isColumn_14 (nbool (Or.inr rfl)) (hP.sub (ws' := []) [] rfl) (hD.sub (ws' := []) [] (by decide) rfl) hS
def fX2_blocksOf (i1 : Int32) (v_cells : Nat → Int32) : Option (Int32) :=
  bd (fX4_isColumn i1) fun qo1 => if qo1 = 0 then (some 0) else (aget 393 v_cells (5 + i1) fun qx2 => some qx2)
def rX2_blocksOf : Room := { frames := 1, cells := 0, slots := 0, locals := 20 }
theorem hin_X2_blocksOf_X2 : ∀ w ∈ wsX20, w ∈ wsX2_blocksOf := fun _ h => List.mem_cons_of_mem _ (List.mem_append_right _ (h))
set_option maxHeartbeats 4000000 in
set_option maxRecDepth 100000 in
theorem k_X2_blocksOf (l : Launch) (D : va_G) (cI cC : ClassId) (a_t : Nat) (a_cells : Nat) (i1 : Int32) (v_cells : Nat → Int32) (o : Int32) (hf : fX2_blocksOf i1 v_cells = some o) : CTi l yX2_blocksOf wsX2_blocksOf rX2_blocksOf D cI cC [.ref a_t, .int i1] [(a_t, .inr (2, [.ref a_cells])), (a_cells, .inl (cI, 393, .inl v_cells))] [(a_t, .inr (2, [.ref a_cells])), (a_cells, .inl (cI, 393, .inl v_cells))] o := by
  refine CTi_of (cc := cX2_blocksOf) (maxL := 2) (ty := .int) (by decide) rfl (Nat.le_of_ble_eq_true rfl) ?_
  intro p e s m args below meth c A Q ls C0 hA hP hD hl hret
  obtain ⟨hx, hb, hml, hts, hown, hK⟩ := C0
  have hown : s.vm.findClass RX2 = some m.cls := hown
  have hS : va_S A s.heap s.heap [] := va_S.rf
  have hl : lv_has ls 2 [(0, .ref a_t), (1, .int i1)] := hl
  have hinX2 := hin_X2_blocksOf_X2
  unfold fX2_blocksOf at hf
  refine lv_iload_n hx hb dX2_blocksOf_0 rfl (lv_at hl 1 rfl) ?_
  replace hf := bd_some hf
  obtain ⟨qo1, hqo1, hf⟩ := hf
  refine g_Ni (As := [.int i1]) (rest := []) (wr := [(a_t, .inr (2, [.ref a_cells])), (a_cells, .inl (cI, 393, .inl v_cells))]) (host := RX4) ⟨hx, hb, hml, hown, hts⟩ (k_X4_isColumn l D cI cC i1 qo1 hqo1) (va_cnB 1 hts gX2_blocksOf_X4_isColumn_n18 rfl rfl rfl (hK.2.1 _ (List.mem_of_getElem? (i := 5) rfl)) (hts (.initialized RX4) (List.mem_of_getElem? (i := 3) rfl)) (by decide +kernel) ⟨Nat.le_of_ble_eq_true rfl, Nat.le_of_ble_eq_true rfl⟩) (hts (.static yX4_isColumn) (List.mem_of_getElem? (i := 2) rfl)) hK hP hD hS hA [] [0, 1] rfl rfl rfl rfl rfl (by decide) rfl hl.1 rfl (Nat.le_of_ble_eq_true rfl) dX2_blocksOf_1 (Nat.zero_le _) (Nat.zero_le _) (fun H locs hP hD hS => ?_)
  have hP : va_P D vwCl [(a_t, .inr (2, [.ref a_cells])), (a_cells, .inl (cI, 393, .inl v_cells))] H := hP
  have hD : va_D A [(a_t, .inr (2, [.ref a_cells])), (a_cells, .inl (cI, 393, .inl v_cells))] := hD
  refine lv_if_eq (tgt := 18) hx hb dX2_blocksOf_4 (by decide) (fun hc => ?_) (fun hc => ?_)
  · replace hf := ip hc hf
    refine lv_iconst (v := 0) hx hb dX2_blocksOf_18 (by decide) ?_
    have ho := Option.some.inj hf
    subst ho
    exact hret dX2_blocksOf_19 rfl (hP.sub (ws' := [(a_t, .inr (2, [.ref a_cells])), (a_cells, .inl (cI, 393, .inl v_cells))]) [0, 1] rfl) (hD.sub (ws' := [(a_t, .inr (2, [.ref a_cells])), (a_cells, .inl (cI, 393, .inl v_cells))]) [0, 1] (by decide) rfl) hS
  · replace hf := ineg hc hf
    refine lv_aload_n hx hb dX2_blocksOf_7 rfl (lv_at hl 0 rfl) ?_
    refine va_get (D := D) (ci := 2) (v := .ref a_cells) (C := RX2) (T := TX2) (N := 1) hx hb hts hinX2 hown hK.1 hP 0 rfl rfl 0 (by decide) (hts (.fieldLink RX2 9 "BaselineGrid$Page" "cells" "[I") (List.mem_of_getElem? (i := 1) rfl)) (fun _ h9 => h9) rfl dX2_blocksOf_8 ?_
    refine lv_iconst (v := 5) hx hb dX2_blocksOf_11 (by decide) ?_
    refine lv_iload_n hx hb dX2_blocksOf_12 rfl (lv_at hl 1 rfl) ?_
    refine lv_iadd hx hb dX2_blocksOf_13 ?_
    refine g_iald hx hb hK.1 hP 1 0 rfl rfl hf dX2_blocksOf_14 (fun qx2 hf => ?_)
    refine lv_goto (tgt := 19) hx hb dX2_blocksOf_15 (by decide) ?_
    have ho := Option.some.inj hf
    subst ho
    exact hret dX2_blocksOf_19 rfl (hP.sub (ws' := [(a_t, .inr (2, [.ref a_cells])), (a_cells, .inl (cI, 393, .inl v_cells))]) [0, 1] rfl) (hD.sub (ws' := [(a_t, .inr (2, [.ref a_cells])), (a_cells, .inl (cI, 393, .inl v_cells))]) [0, 1] (by decide) rfl) hS
def fX2_allBlocks_4 (v_cells : Nat → Int32) : Nat → Int32 → Int32 → Option (Int32)
  | 0 => fun _ _ => none
  | n + 1 => fun w1 w2 =>
    if 4 ≤ w2 then (some w1) else (bd (fX2_blocksOf w2 v_cells) fun qo1 => nm (w1 + qo1) fun qx2 => nm (w2 + 1) fun qx3 => (fX2_allBlocks_4 v_cells n) qx2 qx3)
def fX2_allBlocks (v_cells : Nat → Int32) : Option (Int32) :=
  fX2_allBlocks_4 v_cells Fu 0 0
def rX2_allBlocks : Room := { frames := 2, cells := 0, slots := 0, locals := 41 }
set_option maxHeartbeats 4000000 in
set_option maxRecDepth 100000 in
theorem k_X2_allBlocks (l : Launch) (D : va_G) (cI cC : ClassId) (a_t : Nat) (a_cells : Nat) (v_cells : Nat → Int32) (o : Int32) (hf : fX2_allBlocks v_cells = some o) : CTi l yX2_allBlocks wsX2_allBlocks rX2_allBlocks D cI cC [.ref a_t] [(a_t, .inr (2, [.ref a_cells])), (a_cells, .inl (cI, 393, .inl v_cells))] [(a_t, .inr (2, [.ref a_cells])), (a_cells, .inl (cI, 393, .inl v_cells))] o := by
  refine CTi_of (cc := cX2_allBlocks) (maxL := 3) (ty := .int) (by decide) rfl (Nat.le_of_ble_eq_true rfl) ?_
  intro p e s m args below meth c A Q ls C0 hA hP hD hl hret
  obtain ⟨hx, hb, hml, hts, hown, hK⟩ := C0
  have hown : s.vm.findClass RX2 = some m.cls := hown
  have hS : va_S A s.heap s.heap [] := va_S.rf
  have hl : lv_has ls 3 [(0, .ref a_t)] := hl
  have J4 : ∀   (n : Nat) (w1 : Int32) (w2 : Int32) (H : Heap) (locs : List Loc) (ls : Array Slot), fX2_allBlocks_4 v_cells n w1 w2 = some o → va_P D vwCl [(a_t, .inr (2, [.ref a_cells])), (a_cells, .inl (cI, 393, .inl v_cells))] H → va_D A [(a_t, .inr (2, [.ref a_cells])), (a_cells, .inl (cI, 393, .inl v_cells))] → va_S A s.heap H locs → lv_has ls 3 [(0, .ref a_t), (1, .int w1), (2, .int w2)] → W p l e rX2_allBlocks s m args below meth c H locs 0 0 Q (F0 m 4 ls []) := by
    intro  n
    induction n with
    | zero =>
      intro w1 w2 H locs ls hf
      have hf0 : (none : Option (Int32)) = some o := hf
      cases hf0
    | succ n hk4 =>
      intro w1 w2 H locs ls hf hP hD hS hl
      rw [fX2_allBlocks_4] at hf
      refine lv_iload_n hx hb dX2_allBlocks_4 rfl (lv_at hl 2 rfl) ?_
      refine lv_iconst (v := 4) hx hb dX2_allBlocks_5 (by decide) ?_
      refine lv_icmp_ge (tgt := 23) hx hb dX2_allBlocks_6 (by decide) (fun hc => ?_) (fun hc => ?_)
      · replace hf := ip hc hf
        refine lv_iload_n hx hb dX2_allBlocks_23 rfl (lv_at hl 1 rfl) ?_
        have ho := Option.some.inj hf
        subst ho
        exact hret dX2_allBlocks_24 rfl (hP.sub (ws' := [(a_t, .inr (2, [.ref a_cells])), (a_cells, .inl (cI, 393, .inl v_cells))]) [0, 1] rfl) (hD.sub (ws' := [(a_t, .inr (2, [.ref a_cells])), (a_cells, .inl (cI, 393, .inl v_cells))]) [0, 1] (by decide) rfl) hS
      · replace hf := ineg hc hf
        refine lv_iload_n hx hb dX2_allBlocks_9 rfl (lv_at hl 1 rfl) ?_
        refine lv_aload_n hx hb dX2_allBlocks_10 rfl (lv_at hl 0 rfl) ?_
        refine lv_iload_n hx hb dX2_allBlocks_11 rfl (lv_at hl 2 rfl) ?_
        replace hf := bd_some hf
        obtain ⟨qo1, hqo1, hf⟩ := hf
        refine g_Vi (As := [.int w2]) (rest := [.int w1]) (wr := []) ⟨hx, hb, hml, hown, hts⟩ (k_X2_blocksOf l D cI cC a_t a_cells w2 v_cells qo1 hqo1) (cwV 1 hts gX2_allBlocks_X2_blocksOf rfl rfl rfl (by decide +kernel) ⟨Nat.le_of_ble_eq_true rfl, Nat.le_of_ble_eq_true rfl⟩) hK hP hD hS hA 2 0 rfl rfl rfl [0, 1] [] rfl rfl rfl rfl rfl (by decide) rfl hl.1 rfl (Nat.le_of_ble_eq_true rfl) dX2_allBlocks_12 (Nat.zero_le _) (Nat.zero_le _) (fun H locs hP hD hS => ?_)
        have hP : va_P D vwCl [(a_t, .inr (2, [.ref a_cells])), (a_cells, .inl (cI, 393, .inl v_cells))] H := hP
        have hD : va_D A [(a_t, .inr (2, [.ref a_cells])), (a_cells, .inl (cI, 393, .inl v_cells))] := hD
        refine lv_iadd hx hb dX2_allBlocks_15 ?_
        refine g_nm hf (fun qx2 hf => ?_)
        refine lv_istore_n (lv' := [(1, .int qx2), (0, .ref a_t), (2, .int w2)]) hx hb dX2_allBlocks_16 rfl hl (by decide) rfl (fun ls hl => ?_)
        replace hf := nm_some hf
        obtain ⟨qx3, eqx3, hf⟩ := hf
        refine lv_iinc (v := qx3) (lv' := [(2, .int qx3), (1, .int qx2), (0, .ref a_t)]) hx hb dX2_allBlocks_17 hl (k := 2) rfl (by rw [eqx3]; rfl) (by decide) rfl (fun ls hl => ?_)
        refine lv_goto (tgt := 4) hx hb dX2_allBlocks_20 (by decide) ?_
        exact hk4 qx2 qx3 _ _ _ hf (hP.sub (ws' := [(a_t, .inr (2, [.ref a_cells])), (a_cells, .inl (cI, 393, .inl v_cells))]) [0, 1] rfl) (hD.sub (ws' := [(a_t, .inr (2, [.ref a_cells])), (a_cells, .inl (cI, 393, .inl v_cells))]) [0, 1] (by decide) rfl) hS (lv_sub hl [2, 1, 0] rfl)
  unfold fX2_allBlocks at hf
  refine lv_iconst (v := 0) hx hb dX2_allBlocks_0 (by decide) ?_
  refine lv_istore_n (lv' := [(1, .int 0), (0, .ref a_t)]) hx hb dX2_allBlocks_1 rfl hl (by decide) rfl (fun ls hl => ?_)
  refine lv_iconst (v := 0) hx hb dX2_allBlocks_2 (by decide) ?_
  refine lv_istore_n (lv' := [(2, .int 0), (1, .int 0), (0, .ref a_t)]) hx hb dX2_allBlocks_3 rfl hl (by decide) rfl (fun ls hl => ?_)
  exact J4 Fu 0 0 _ _ _ hf (hP.sub (ws' := [(a_t, .inr (2, [.ref a_cells])), (a_cells, .inl (cI, 393, .inl v_cells))]) [0, 1] rfl) (hD.sub (ws' := [(a_t, .inr (2, [.ref a_cells])), (a_cells, .inl (cI, 393, .inl v_cells))]) [0, 1] (by decide) rfl) hS (lv_sub hl [2, 1, 0] rfl)
def fX2_hasBlock (i1 : Int32) (i2 : Int32) (v_cells : Nat → Int32) : Option (Int32) :=
  if i2 < 0 then (some 0) else (bd (fX2_blocksOf i1 v_cells) fun qo1 => if qo1 ≤ i2 then (some 0) else (some 1))
def rX2_hasBlock : Room := { frames := 2, cells := 0, slots := 0, locals := 41 }
set_option maxHeartbeats 4000000 in
set_option maxRecDepth 100000 in
theorem k_X2_hasBlock (l : Launch) (D : va_G) (cI cC : ClassId) (a_t : Nat) (a_cells : Nat) (i1 : Int32) (i2 : Int32) (v_cells : Nat → Int32) (o : Int32) (hf : fX2_hasBlock i1 i2 v_cells = some o) : CTi l yX2_hasBlock wsX2_hasBlock rX2_hasBlock D cI cC [.ref a_t, .int i1, .int i2] [(a_t, .inr (2, [.ref a_cells])), (a_cells, .inl (cI, 393, .inl v_cells))] [(a_t, .inr (2, [.ref a_cells])), (a_cells, .inl (cI, 393, .inl v_cells))] o := by
  refine CTi_of (cc := cX2_hasBlock) (maxL := 3) (ty := .boolean) (by decide) rfl (Nat.le_of_ble_eq_true rfl) ?_
  intro p e s m args below meth c A Q ls C0 hA hP hD hl hret
  obtain ⟨hx, hb, hml, hts, hown, hK⟩ := C0
  have hown : s.vm.findClass RX2 = some m.cls := hown
  have hS : va_S A s.heap s.heap [] := va_S.rf
  have hl : lv_has ls 3 [(0, .ref a_t), (1, .int i1), (2, .int i2)] := hl
  unfold fX2_hasBlock at hf
  refine lv_iload_n hx hb dX2_hasBlock_0 rfl (lv_at hl 2 rfl) ?_
  refine lv_if_lt (tgt := 17) hx hb dX2_hasBlock_1 (by decide) (fun hc => ?_) (fun hc => ?_)
  · replace hf := ip hc hf
    refine lv_iconst (v := 0) hx hb dX2_hasBlock_17 (by decide) ?_
    have ho := Option.some.inj hf
    subst ho
    exact hret dX2_hasBlock_18 (nbool (Or.inl rfl)) (hP.sub (ws' := [(a_t, .inr (2, [.ref a_cells])), (a_cells, .inl (cI, 393, .inl v_cells))]) [0, 1] rfl) (hD.sub (ws' := [(a_t, .inr (2, [.ref a_cells])), (a_cells, .inl (cI, 393, .inl v_cells))]) [0, 1] (by decide) rfl) hS
  · replace hf := ineg hc hf
    refine lv_iload_n hx hb dX2_hasBlock_4 rfl (lv_at hl 2 rfl) ?_
    refine lv_aload_n hx hb dX2_hasBlock_5 rfl (lv_at hl 0 rfl) ?_
    refine lv_iload_n hx hb dX2_hasBlock_6 rfl (lv_at hl 1 rfl) ?_
    replace hf := bd_some hf
    obtain ⟨qo1, hqo1, hf⟩ := hf
    refine g_Vi (As := [.int i1]) (rest := [.int i2]) (wr := []) ⟨hx, hb, hml, hown, hts⟩ (k_X2_blocksOf l D cI cC a_t a_cells i1 v_cells qo1 hqo1) (cwV 1 hts gX2_hasBlock_X2_blocksOf rfl rfl rfl (by decide +kernel) ⟨Nat.le_of_ble_eq_true rfl, Nat.le_of_ble_eq_true rfl⟩) hK hP hD hS hA 2 0 rfl rfl rfl [0, 1] [] rfl rfl rfl rfl rfl (by decide) rfl hl.1 rfl (Nat.le_of_ble_eq_true rfl) dX2_hasBlock_7 (Nat.zero_le _) (Nat.zero_le _) (fun H locs hP hD hS => ?_)
    have hP : va_P D vwCl [(a_t, .inr (2, [.ref a_cells])), (a_cells, .inl (cI, 393, .inl v_cells))] H := hP
    have hD : va_D A [(a_t, .inr (2, [.ref a_cells])), (a_cells, .inl (cI, 393, .inl v_cells))] := hD
    refine lv_icmp_ge (tgt := 17) hx hb dX2_hasBlock_10 (by decide) (fun hc => ?_) (fun hc => ?_)
    · replace hf := ip hc hf
      refine lv_iconst (v := 0) hx hb dX2_hasBlock_17 (by decide) ?_
      have ho := Option.some.inj hf
      subst ho
      exact hret dX2_hasBlock_18 (nbool (Or.inl rfl)) (hP.sub (ws' := [(a_t, .inr (2, [.ref a_cells])), (a_cells, .inl (cI, 393, .inl v_cells))]) [0, 1] rfl) (hD.sub (ws' := [(a_t, .inr (2, [.ref a_cells])), (a_cells, .inl (cI, 393, .inl v_cells))]) [0, 1] (by decide) rfl) hS
    · replace hf := ineg hc hf
      refine lv_iconst (v := 1) hx hb dX2_hasBlock_13 (by decide) ?_
      refine lv_goto (tgt := 18) hx hb dX2_hasBlock_14 (by decide) ?_
      have ho := Option.some.inj hf
      subst ho
      exact hret dX2_hasBlock_18 (nbool (Or.inr rfl)) (hP.sub (ws' := [(a_t, .inr (2, [.ref a_cells])), (a_cells, .inl (cI, 393, .inl v_cells))]) [0, 1] rfl) (hD.sub (ws' := [(a_t, .inr (2, [.ref a_cells])), (a_cells, .inl (cI, 393, .inl v_cells))]) [0, 1] (by decide) rfl) hS
def fX2_isCell (i0 : Int32) (i1 : Int32) (i2 : Int32) : Option (Int32) :=
  bd (fX4_isColumn i0) fun qo1 => if qo1 = 0 then (some 0) else (if i1 < 0 then (some 0) else (if 16 ≤ i1 then (some 0) else (if i2 < 0 then (some 0) else (if 6 ≤ i2 then (some 0) else (some 1)))))
def rX2_isCell : Room := { frames := 1, cells := 0, slots := 0, locals := 20 }
set_option maxHeartbeats 4000000 in
set_option maxRecDepth 100000 in
theorem k_X2_isCell (l : Launch) (D : va_G) (cI cC : ClassId) (i0 : Int32) (i1 : Int32) (i2 : Int32) (o : Int32) (hf : fX2_isCell i0 i1 i2 = some o) : CTi l yX2_isCell wsX2_isCell rX2_isCell D cI cC [.int i0, .int i1, .int i2] [] [] o := by
  refine CTi_of (cc := cX2_isCell) (maxL := 3) (ty := .boolean) (by decide) rfl (Nat.le_of_ble_eq_true rfl) ?_
  intro p e s m args below meth c A Q ls C0 hA hP hD hl hret
  obtain ⟨hx, hb, hml, hts, hown, hK⟩ := C0
  have hown : s.vm.findClass RX2 = some m.cls := hown
  have hS : va_S A s.heap s.heap [] := va_S.rf
  have hl : lv_has ls 3 [(0, .int i0), (1, .int i1), (2, .int i2)] := hl
  unfold fX2_isCell at hf
  refine lv_iload_n hx hb dX2_isCell_0 rfl (lv_at hl 0 rfl) ?_
  replace hf := bd_some hf
  obtain ⟨qo1, hqo1, hf⟩ := hf
  refine g_Ni (As := [.int i0]) (rest := []) (wr := []) (host := RX4) ⟨hx, hb, hml, hown, hts⟩ (k_X4_isColumn l D cI cC i0 qo1 hqo1) (va_cnB 1 hts gX2_isCell_X4_isColumn_n18 rfl rfl rfl (hK.2.1 _ (List.mem_of_getElem? (i := 5) rfl)) (hts (.initialized RX4) (List.mem_of_getElem? (i := 2) rfl)) (by decide +kernel) ⟨Nat.le_of_ble_eq_true rfl, Nat.le_of_ble_eq_true rfl⟩) (hts (.static yX4_isColumn) (List.mem_of_getElem? (i := 1) rfl)) hK hP hD hS hA [] [] rfl rfl rfl rfl rfl (by decide) rfl hl.1 rfl (Nat.le_of_ble_eq_true rfl) dX2_isCell_1 (Nat.zero_le _) (Nat.zero_le _) (fun H locs hP hD hS => ?_)
  have hP : va_P D vwCl [] H := hP
  have hD : va_D A [] := hD
  refine lv_if_eq (tgt := 31) hx hb dX2_isCell_4 (by decide) (fun hc => ?_) (fun hc => ?_)
  · replace hf := ip hc hf
    refine lv_iconst (v := 0) hx hb dX2_isCell_31 (by decide) ?_
    have ho := Option.some.inj hf
    subst ho
    exact hret dX2_isCell_32 (nbool (Or.inl rfl)) (hP.sub (ws' := []) [] rfl) (hD.sub (ws' := []) [] (by decide) rfl) hS
  · replace hf := ineg hc hf
    refine lv_iload_n hx hb dX2_isCell_7 rfl (lv_at hl 1 rfl) ?_
    refine lv_if_lt (tgt := 31) hx hb dX2_isCell_8 (by decide) (fun hc => ?_) (fun hc => ?_)
    · replace hf := ip hc hf
      refine lv_iconst (v := 0) hx hb dX2_isCell_31 (by decide) ?_
      have ho := Option.some.inj hf
      subst ho
      exact hret dX2_isCell_32 (nbool (Or.inl rfl)) (hP.sub (ws' := []) [] rfl) (hD.sub (ws' := []) [] (by decide) rfl) hS
    · replace hf := ineg hc hf
      refine lv_iload_n hx hb dX2_isCell_11 rfl (lv_at hl 1 rfl) ?_
      refine lv_bipush (v := 16) hx hb dX2_isCell_12 (by decide) ?_
      refine lv_icmp_ge (tgt := 31) hx hb dX2_isCell_14 (by decide) (fun hc => ?_) (fun hc => ?_)
      · replace hf := ip hc hf
        refine lv_iconst (v := 0) hx hb dX2_isCell_31 (by decide) ?_
        have ho := Option.some.inj hf
        subst ho
        exact hret dX2_isCell_32 (nbool (Or.inl rfl)) (hP.sub (ws' := []) [] rfl) (hD.sub (ws' := []) [] (by decide) rfl) hS
      · replace hf := ineg hc hf
        refine lv_iload_n hx hb dX2_isCell_17 rfl (lv_at hl 2 rfl) ?_
        refine lv_if_lt (tgt := 31) hx hb dX2_isCell_18 (by decide) (fun hc => ?_) (fun hc => ?_)
        · replace hf := ip hc hf
          refine lv_iconst (v := 0) hx hb dX2_isCell_31 (by decide) ?_
          have ho := Option.some.inj hf
          subst ho
          exact hret dX2_isCell_32 (nbool (Or.inl rfl)) (hP.sub (ws' := []) [] rfl) (hD.sub (ws' := []) [] (by decide) rfl) hS
        · replace hf := ineg hc hf
          refine lv_iload_n hx hb dX2_isCell_21 rfl (lv_at hl 2 rfl) ?_
          refine lv_bipush (v := 6) hx hb dX2_isCell_22 (by decide) ?_
          refine lv_icmp_ge (tgt := 31) hx hb dX2_isCell_24 (by decide) (fun hc => ?_) (fun hc => ?_)
          · replace hf := ip hc hf
            refine lv_iconst (v := 0) hx hb dX2_isCell_31 (by decide) ?_
            have ho := Option.some.inj hf
            subst ho
            exact hret dX2_isCell_32 (nbool (Or.inl rfl)) (hP.sub (ws' := []) [] rfl) (hD.sub (ws' := []) [] (by decide) rfl) hS
          · replace hf := ineg hc hf
            refine lv_iconst (v := 1) hx hb dX2_isCell_27 (by decide) ?_
            refine lv_goto (tgt := 32) hx hb dX2_isCell_28 (by decide) ?_
            have ho := Option.some.inj hf
            subst ho
            exact hret dX2_isCell_32 (nbool (Or.inr rfl)) (hP.sub (ws' := []) [] rfl) (hD.sub (ws' := []) [] (by decide) rfl) hS
def fX2_cellAt (i0 : Int32) (i1 : Int32) : Option (Int32) :=
  some (9 + (((i0 * 16) + i1) * 6))
def rX2_cellAt : Room := { frames := 0, cells := 0, slots := 0, locals := 0 }
set_option maxHeartbeats 4000000 in
set_option maxRecDepth 100000 in
theorem k_X2_cellAt (l : Launch) (D : va_G) (cI cC : ClassId) (i0 : Int32) (i1 : Int32) (o : Int32) (hf : fX2_cellAt i0 i1 = some o) : CTi l yX2_cellAt wsX2_cellAt rX2_cellAt D cI cC [.int i0, .int i1] [] [] o := by
  refine CTi_of (cc := cX2_cellAt) (maxL := 2) (ty := .int) (by decide) rfl (Nat.le_of_ble_eq_true rfl) ?_
  intro p e s m args below meth c A Q ls C0 hA hP hD hl hret
  obtain ⟨hx, hb, hml, hts, hown, hK⟩ := C0
  have hown : s.vm.findClass RX2 = some m.cls := hown
  have hS : va_S A s.heap s.heap [] := va_S.rf
  have hl : lv_has ls 2 [(0, .int i0), (1, .int i1)] := hl
  unfold fX2_cellAt at hf
  refine lv_bipush (v := 9) hx hb dX2_cellAt_0 (by decide) ?_
  refine lv_iload_n hx hb dX2_cellAt_2 rfl (lv_at hl 0 rfl) ?_
  refine lv_bipush (v := 16) hx hb dX2_cellAt_3 (by decide) ?_
  refine lv_imul hx hb dX2_cellAt_5 ?_
  refine lv_iload_n hx hb dX2_cellAt_6 rfl (lv_at hl 1 rfl) ?_
  refine lv_iadd hx hb dX2_cellAt_7 ?_
  refine lv_bipush (v := 6) hx hb dX2_cellAt_8 (by decide) ?_
  refine lv_imul hx hb dX2_cellAt_10 ?_
  refine lv_iadd hx hb dX2_cellAt_11 ?_
  have ho := Option.some.inj hf
  subst ho
  exact hret dX2_cellAt_12 rfl (hP.sub (ws' := []) [] rfl) (hD.sub (ws' := []) [] (by decide) rfl) hS
def fX2_fieldOf (i1 : Int32) (i2 : Int32) (i3 : Int32) (v_cells : Nat → Int32) : Option (Int32) :=
  bd (fX2_isCell i1 i2 i3) fun qo1 => if qo1 = 0 then (some ((-5))) else (bd (fX2_cellAt i1 i2) fun qo2 => aget 393 v_cells (qo2 + i3) fun qx3 => some qx3)
def rX2_fieldOf : Room := { frames := 2, cells := 0, slots := 0, locals := 42 }
theorem hin_X2_fieldOf_X2 : ∀ w ∈ wsX20, w ∈ wsX2_fieldOf := fun _ h => List.mem_cons_of_mem _ (List.mem_append_right _ (h))
set_option maxHeartbeats 4000000 in
set_option maxRecDepth 100000 in
theorem k_X2_fieldOf (l : Launch) (D : va_G) (cI cC : ClassId) (a_t : Nat) (a_cells : Nat) (i1 : Int32) (i2 : Int32) (i3 : Int32) (v_cells : Nat → Int32) (o : Int32) (hf : fX2_fieldOf i1 i2 i3 v_cells = some o) : CTi l yX2_fieldOf wsX2_fieldOf rX2_fieldOf D cI cC [.ref a_t, .int i1, .int i2, .int i3] [(a_t, .inr (2, [.ref a_cells])), (a_cells, .inl (cI, 393, .inl v_cells))] [(a_t, .inr (2, [.ref a_cells])), (a_cells, .inl (cI, 393, .inl v_cells))] o := by
  refine CTi_of (cc := cX2_fieldOf) (maxL := 4) (ty := .int) (by decide) rfl (Nat.le_of_ble_eq_true rfl) ?_
  intro p e s m args below meth c A Q ls C0 hA hP hD hl hret
  obtain ⟨hx, hb, hml, hts, hown, hK⟩ := C0
  have hown : s.vm.findClass RX2 = some m.cls := hown
  have hS : va_S A s.heap s.heap [] := va_S.rf
  have hl : lv_has ls 4 [(0, .ref a_t), (1, .int i1), (2, .int i2), (3, .int i3)] := hl
  have hinX2 := hin_X2_fieldOf_X2
  unfold fX2_fieldOf at hf
  refine lv_iload_n hx hb dX2_fieldOf_0 rfl (lv_at hl 1 rfl) ?_
  refine lv_iload_n hx hb dX2_fieldOf_1 rfl (lv_at hl 2 rfl) ?_
  refine lv_iload_n hx hb dX2_fieldOf_2 rfl (lv_at hl 3 rfl) ?_
  replace hf := bd_some hf
  obtain ⟨qo1, hqo1, hf⟩ := hf
  refine g_Si (As := [.int i1, .int i2, .int i3]) (rest := []) (wr := [(a_t, .inr (2, [.ref a_cells])), (a_cells, .inl (cI, 393, .inl v_cells))]) ⟨hx, hb, hml, hown, hts⟩ (k_X2_isCell l D cI cC i1 i2 i3 qo1 hqo1) (va_cwS 3 hts gX2_fieldOf_X2_isCell rfl rfl rfl (by decide +kernel) ⟨Nat.le_of_ble_eq_true rfl, Nat.le_of_ble_eq_true rfl⟩) hK hP hD hS hA [] [0, 1] rfl rfl rfl rfl rfl (by decide) rfl hl.1 rfl (Nat.le_of_ble_eq_true rfl) dX2_fieldOf_3 (Nat.zero_le _) (Nat.zero_le _) (fun H locs hP hD hS => ?_)
  have hP : va_P D vwCl [(a_t, .inr (2, [.ref a_cells])), (a_cells, .inl (cI, 393, .inl v_cells))] H := hP
  have hD : va_D A [(a_t, .inr (2, [.ref a_cells])), (a_cells, .inl (cI, 393, .inl v_cells))] := hD
  refine lv_if_eq (tgt := 24) hx hb dX2_fieldOf_6 (by decide) (fun hc => ?_) (fun hc => ?_)
  · replace hf := ip hc hf
    refine lv_bipush (v := (-5)) hx hb dX2_fieldOf_24 (by decide) ?_
    have ho := Option.some.inj hf
    subst ho
    exact hret dX2_fieldOf_26 rfl (hP.sub (ws' := [(a_t, .inr (2, [.ref a_cells])), (a_cells, .inl (cI, 393, .inl v_cells))]) [0, 1] rfl) (hD.sub (ws' := [(a_t, .inr (2, [.ref a_cells])), (a_cells, .inl (cI, 393, .inl v_cells))]) [0, 1] (by decide) rfl) hS
  · replace hf := ineg hc hf
    refine lv_aload_n hx hb dX2_fieldOf_9 rfl (lv_at hl 0 rfl) ?_
    refine va_get (D := D) (ci := 2) (v := .ref a_cells) (C := RX2) (T := TX2) (N := 1) hx hb hts hinX2 hown hK.1 hP 0 rfl rfl 0 (by decide) (hts (.fieldLink RX2 9 "BaselineGrid$Page" "cells" "[I") (List.mem_of_getElem? (i := 1) rfl)) (fun _ h9 => h9) rfl dX2_fieldOf_10 ?_
    refine lv_iload_n hx hb dX2_fieldOf_13 rfl (lv_at hl 1 rfl) ?_
    refine lv_iload_n hx hb dX2_fieldOf_14 rfl (lv_at hl 2 rfl) ?_
    replace hf := bd_some hf
    obtain ⟨qo2, hqo2, hf⟩ := hf
    refine g_Si (As := [.int i1, .int i2]) (rest := [.ref a_cells]) (wr := [(a_t, .inr (2, [.ref a_cells])), (a_cells, .inl (cI, 393, .inl v_cells))]) ⟨hx, hb, hml, hown, hts⟩ (k_X2_cellAt l D cI cC i1 i2 qo2 hqo2) (va_cwS 2 hts gX2_fieldOf_X2_cellAt rfl rfl rfl (by decide +kernel) ⟨Nat.le_of_ble_eq_true rfl, Nat.le_of_ble_eq_true rfl⟩) hK hP hD hS hA [] [0, 1] rfl rfl rfl rfl rfl (by decide) rfl hl.1 rfl (Nat.le_of_ble_eq_true rfl) dX2_fieldOf_15 (Nat.zero_le _) (Nat.zero_le _) (fun H locs hP hD hS => ?_)
    have hP : va_P D vwCl [(a_t, .inr (2, [.ref a_cells])), (a_cells, .inl (cI, 393, .inl v_cells))] H := hP
    have hD : va_D A [(a_t, .inr (2, [.ref a_cells])), (a_cells, .inl (cI, 393, .inl v_cells))] := hD
    refine lv_iload_n hx hb dX2_fieldOf_18 rfl (lv_at hl 3 rfl) ?_
    refine lv_iadd hx hb dX2_fieldOf_19 ?_
    refine g_iald hx hb hK.1 hP 1 0 rfl rfl hf dX2_fieldOf_20 (fun qx3 hf => ?_)
    refine lv_goto (tgt := 26) hx hb dX2_fieldOf_21 (by decide) ?_
    have ho := Option.some.inj hf
    subst ho
    exact hret dX2_fieldOf_26 rfl (hP.sub (ws' := [(a_t, .inr (2, [.ref a_cells])), (a_cells, .inl (cI, 393, .inl v_cells))]) [0, 1] rfl) (hD.sub (ws' := [(a_t, .inr (2, [.ref a_cells])), (a_cells, .inl (cI, 393, .inl v_cells))]) [0, 1] (by decide) rfl) hS
def fX2_paragraphLinesOf_33 (k4 : Int32 → Int32 → Option (Int32)) (i1 : Int32) (v_cells : Nat → Int32) (w2 : Int32) (w3 : Int32) : Option (Int32) :=
    nm (w3 + 1) fun qx3 => k4 w2 qx3
def fX2_paragraphLinesOf_4 (i1 : Int32) (v_cells : Nat → Int32) : Nat → Int32 → Int32 → Option (Int32)
  | 0 => fun _ _ => none
  | n + 1 => fun w2 w3 =>
    bd (fX2_blocksOf i1 v_cells) fun qo1 => if qo1 ≤ w3 then (some w2) else (bd (fX2_fieldOf i1 w3 0 v_cells) fun qo2 => if qo2 = 0 then (bd (fX2_fieldOf i1 w3 1 v_cells) fun qo4 => nm (w2 + qo4) fun qx5 => fX2_paragraphLinesOf_33 (fX2_paragraphLinesOf_4 i1 v_cells n) i1 v_cells qx5 w3) else (fX2_paragraphLinesOf_33 (fX2_paragraphLinesOf_4 i1 v_cells n) i1 v_cells w2 w3))
def fX2_paragraphLinesOf (i1 : Int32) (v_cells : Nat → Int32) : Option (Int32) :=
  fX2_paragraphLinesOf_4 i1 v_cells Fu 0 0
def rX2_paragraphLinesOf : Room := { frames := 3, cells := 0, slots := 0, locals := 65 }
set_option maxHeartbeats 4000000 in
set_option maxRecDepth 100000 in
theorem k_X2_paragraphLinesOf (l : Launch) (D : va_G) (cI cC : ClassId) (a_t : Nat) (a_cells : Nat) (i1 : Int32) (v_cells : Nat → Int32) (o : Int32) (hf : fX2_paragraphLinesOf i1 v_cells = some o) : CTi l yX2_paragraphLinesOf wsX2_paragraphLinesOf rX2_paragraphLinesOf D cI cC [.ref a_t, .int i1] [(a_t, .inr (2, [.ref a_cells])), (a_cells, .inl (cI, 393, .inl v_cells))] [(a_t, .inr (2, [.ref a_cells])), (a_cells, .inl (cI, 393, .inl v_cells))] o := by
  refine CTi_of (cc := cX2_paragraphLinesOf) (maxL := 4) (ty := .int) (by decide) rfl (Nat.le_of_ble_eq_true rfl) ?_
  intro p e s m args below meth c A Q ls C0 hA hP hD hl hret
  obtain ⟨hx, hb, hml, hts, hown, hK⟩ := C0
  have hown : s.vm.findClass RX2 = some m.cls := hown
  have hS : va_S A s.heap s.heap [] := va_S.rf
  have hl : lv_has ls 4 [(0, .ref a_t), (1, .int i1)] := hl
  have J33 : ∀ (k4 : Int32 → Int32 → Option (Int32)) (w2 : Int32) (w3 : Int32) (hk4 : ∀ (w2 : Int32) (w3 : Int32) (H : Heap) (locs : List Loc) (ls : Array Slot), k4 w2 w3 = some o → va_P D vwCl [(a_t, .inr (2, [.ref a_cells])), (a_cells, .inl (cI, 393, .inl v_cells))] H → va_D A [(a_t, .inr (2, [.ref a_cells])), (a_cells, .inl (cI, 393, .inl v_cells))] → va_S A s.heap H locs → lv_has ls 4 [(0, .ref a_t), (1, .int i1), (2, .int w2), (3, .int w3)] → W p l e rX2_paragraphLinesOf s m args below meth c H locs 0 0 Q (F0 m 4 ls [])) (H : Heap) (locs : List Loc) (ls : Array Slot), fX2_paragraphLinesOf_33 k4 i1 v_cells w2 w3 = some o → va_P D vwCl [(a_t, .inr (2, [.ref a_cells])), (a_cells, .inl (cI, 393, .inl v_cells))] H → va_D A [(a_t, .inr (2, [.ref a_cells])), (a_cells, .inl (cI, 393, .inl v_cells))] → va_S A s.heap H locs → lv_has ls 4 [(0, .ref a_t), (1, .int i1), (2, .int w2), (3, .int w3)] → W p l e rX2_paragraphLinesOf s m args below meth c H locs 0 0 Q (F0 m 33 ls []) := by
    intro k4 w2 w3 hk4 H locs ls hf hP hD hS hl
    unfold fX2_paragraphLinesOf_33 at hf
    replace hf := nm_some hf
    obtain ⟨qx3, eqx3, hf⟩ := hf
    refine lv_iinc (v := qx3) (lv' := [(3, .int qx3), (0, .ref a_t), (1, .int i1), (2, .int w2)]) hx hb dX2_paragraphLinesOf_33 hl (k := 3) rfl (by rw [eqx3]; rfl) (by decide) rfl (fun ls hl => ?_)
    refine lv_goto (tgt := 4) hx hb dX2_paragraphLinesOf_36 (by decide) ?_
    exact hk4 w2 qx3 _ _ _ hf (hP.sub (ws' := [(a_t, .inr (2, [.ref a_cells])), (a_cells, .inl (cI, 393, .inl v_cells))]) [0, 1] rfl) (hD.sub (ws' := [(a_t, .inr (2, [.ref a_cells])), (a_cells, .inl (cI, 393, .inl v_cells))]) [0, 1] (by decide) rfl) hS (lv_sub hl [1, 2, 3, 0] rfl)
  have J4 : ∀   (n : Nat) (w2 : Int32) (w3 : Int32) (H : Heap) (locs : List Loc) (ls : Array Slot), fX2_paragraphLinesOf_4 i1 v_cells n w2 w3 = some o → va_P D vwCl [(a_t, .inr (2, [.ref a_cells])), (a_cells, .inl (cI, 393, .inl v_cells))] H → va_D A [(a_t, .inr (2, [.ref a_cells])), (a_cells, .inl (cI, 393, .inl v_cells))] → va_S A s.heap H locs → lv_has ls 4 [(0, .ref a_t), (1, .int i1), (2, .int w2), (3, .int w3)] → W p l e rX2_paragraphLinesOf s m args below meth c H locs 0 0 Q (F0 m 4 ls []) := by
    intro  n
    induction n with
    | zero =>
      intro w2 w3 H locs ls hf
      have hf0 : (none : Option (Int32)) = some o := hf
      cases hf0
    | succ n hk4 =>
      intro w2 w3 H locs ls hf hP hD hS hl
      rw [fX2_paragraphLinesOf_4] at hf
      refine lv_iload_n hx hb dX2_paragraphLinesOf_4 rfl (lv_at hl 3 rfl) ?_
      refine lv_aload_n hx hb dX2_paragraphLinesOf_5 rfl (lv_at hl 0 rfl) ?_
      refine lv_iload_n hx hb dX2_paragraphLinesOf_6 rfl (lv_at hl 1 rfl) ?_
      replace hf := bd_some hf
      obtain ⟨qo1, hqo1, hf⟩ := hf
      refine g_Vi (As := [.int i1]) (rest := [.int w3]) (wr := []) ⟨hx, hb, hml, hown, hts⟩ (k_X2_blocksOf l D cI cC a_t a_cells i1 v_cells qo1 hqo1) (cwV 1 hts gX2_paragraphLinesOf_X2_blocksOf rfl rfl rfl (by decide +kernel) ⟨Nat.le_of_ble_eq_true rfl, Nat.le_of_ble_eq_true rfl⟩) hK hP hD hS hA 2 0 rfl rfl rfl [0, 1] [] rfl rfl rfl rfl rfl (by decide) rfl hl.1 rfl (Nat.le_of_ble_eq_true rfl) dX2_paragraphLinesOf_7 (Nat.zero_le _) (Nat.zero_le _) (fun H locs hP hD hS => ?_)
      have hP : va_P D vwCl [(a_t, .inr (2, [.ref a_cells])), (a_cells, .inl (cI, 393, .inl v_cells))] H := hP
      have hD : va_D A [(a_t, .inr (2, [.ref a_cells])), (a_cells, .inl (cI, 393, .inl v_cells))] := hD
      refine lv_icmp_ge (tgt := 39) hx hb dX2_paragraphLinesOf_10 (by decide) (fun hc => ?_) (fun hc => ?_)
      · replace hf := ip hc hf
        refine lv_iload_n hx hb dX2_paragraphLinesOf_39 rfl (lv_at hl 2 rfl) ?_
        have ho := Option.some.inj hf
        subst ho
        exact hret dX2_paragraphLinesOf_40 rfl (hP.sub (ws' := [(a_t, .inr (2, [.ref a_cells])), (a_cells, .inl (cI, 393, .inl v_cells))]) [0, 1] rfl) (hD.sub (ws' := [(a_t, .inr (2, [.ref a_cells])), (a_cells, .inl (cI, 393, .inl v_cells))]) [0, 1] (by decide) rfl) hS
      · replace hf := ineg hc hf
        refine lv_aload_n hx hb dX2_paragraphLinesOf_13 rfl (lv_at hl 0 rfl) ?_
        refine lv_iload_n hx hb dX2_paragraphLinesOf_14 rfl (lv_at hl 1 rfl) ?_
        refine lv_iload_n hx hb dX2_paragraphLinesOf_15 rfl (lv_at hl 3 rfl) ?_
        refine lv_iconst (v := 0) hx hb dX2_paragraphLinesOf_16 (by decide) ?_
        replace hf := bd_some hf
        obtain ⟨qo2, hqo2, hf⟩ := hf
        refine g_Vi (As := [.int i1, .int w3, .int 0]) (rest := []) (wr := []) ⟨hx, hb, hml, hown, hts⟩ (k_X2_fieldOf l D cI cC a_t a_cells i1 w3 0 v_cells qo2 hqo2) (cwV 3 hts gX2_paragraphLinesOf_X2_fieldOf rfl rfl rfl (by decide +kernel) ⟨Nat.le_of_ble_eq_true rfl, Nat.le_of_ble_eq_true rfl⟩) hK hP hD hS hA 2 0 rfl rfl rfl [0, 1] [] rfl rfl rfl rfl rfl (by decide) rfl hl.1 rfl (Nat.le_of_ble_eq_true rfl) dX2_paragraphLinesOf_17 (Nat.zero_le _) (Nat.zero_le _) (fun H locs hP hD hS => ?_)
        have hP : va_P D vwCl [(a_t, .inr (2, [.ref a_cells])), (a_cells, .inl (cI, 393, .inl v_cells))] H := hP
        have hD : va_D A [(a_t, .inr (2, [.ref a_cells])), (a_cells, .inl (cI, 393, .inl v_cells))] := hD
        refine lv_if_ne (tgt := 33) hx hb dX2_paragraphLinesOf_20 (by decide) (fun hc => ?_) (fun hc => ?_)
        · replace hf := ineg hc hf
          exact J33 (fX2_paragraphLinesOf_4 i1 v_cells n) w2 w3 hk4 _ _ _ hf (hP.sub (ws' := [(a_t, .inr (2, [.ref a_cells])), (a_cells, .inl (cI, 393, .inl v_cells))]) [0, 1] rfl) (hD.sub (ws' := [(a_t, .inr (2, [.ref a_cells])), (a_cells, .inl (cI, 393, .inl v_cells))]) [0, 1] (by decide) rfl) hS (lv_sub hl [0, 1, 2, 3] rfl)
        · replace hf := ip hc hf
          refine lv_iload_n hx hb dX2_paragraphLinesOf_23 rfl (lv_at hl 2 rfl) ?_
          refine lv_aload_n hx hb dX2_paragraphLinesOf_24 rfl (lv_at hl 0 rfl) ?_
          refine lv_iload_n hx hb dX2_paragraphLinesOf_25 rfl (lv_at hl 1 rfl) ?_
          refine lv_iload_n hx hb dX2_paragraphLinesOf_26 rfl (lv_at hl 3 rfl) ?_
          refine lv_iconst (v := 1) hx hb dX2_paragraphLinesOf_27 (by decide) ?_
          replace hf := bd_some hf
          obtain ⟨qo4, hqo4, hf⟩ := hf
          refine g_Vi (As := [.int i1, .int w3, .int 1]) (rest := [.int w2]) (wr := []) ⟨hx, hb, hml, hown, hts⟩ (k_X2_fieldOf l D cI cC a_t a_cells i1 w3 1 v_cells qo4 hqo4) (cwV 3 hts gX2_paragraphLinesOf_X2_fieldOf rfl rfl rfl (by decide +kernel) ⟨Nat.le_of_ble_eq_true rfl, Nat.le_of_ble_eq_true rfl⟩) hK hP hD hS hA 2 0 rfl rfl rfl [0, 1] [] rfl rfl rfl rfl rfl (by decide) rfl hl.1 rfl (Nat.le_of_ble_eq_true rfl) dX2_paragraphLinesOf_28 (Nat.zero_le _) (Nat.zero_le _) (fun H locs hP hD hS => ?_)
          have hP : va_P D vwCl [(a_t, .inr (2, [.ref a_cells])), (a_cells, .inl (cI, 393, .inl v_cells))] H := hP
          have hD : va_D A [(a_t, .inr (2, [.ref a_cells])), (a_cells, .inl (cI, 393, .inl v_cells))] := hD
          refine lv_iadd hx hb dX2_paragraphLinesOf_31 ?_
          refine g_nm hf (fun qx5 hf => ?_)
          refine lv_istore_n (lv' := [(2, .int qx5), (0, .ref a_t), (1, .int i1), (3, .int w3)]) hx hb dX2_paragraphLinesOf_32 rfl hl (by decide) rfl (fun ls hl => ?_)
          exact J33 (fX2_paragraphLinesOf_4 i1 v_cells n) qx5 w3 hk4 _ _ _ hf (hP.sub (ws' := [(a_t, .inr (2, [.ref a_cells])), (a_cells, .inl (cI, 393, .inl v_cells))]) [0, 1] rfl) (hD.sub (ws' := [(a_t, .inr (2, [.ref a_cells])), (a_cells, .inl (cI, 393, .inl v_cells))]) [0, 1] (by decide) rfl) hS (lv_sub hl [1, 2, 0, 3] rfl)
  unfold fX2_paragraphLinesOf at hf
  refine lv_iconst (v := 0) hx hb dX2_paragraphLinesOf_0 (by decide) ?_
  refine lv_istore_n (lv' := [(2, .int 0), (0, .ref a_t), (1, .int i1)]) hx hb dX2_paragraphLinesOf_1 rfl hl (by decide) rfl (fun ls hl => ?_)
  refine lv_iconst (v := 0) hx hb dX2_paragraphLinesOf_2 (by decide) ?_
  refine lv_istore_n (lv' := [(3, .int 0), (2, .int 0), (0, .ref a_t), (1, .int i1)]) hx hb dX2_paragraphLinesOf_3 rfl hl (by decide) rfl (fun ls hl => ?_)
  exact J4 Fu 0 0 _ _ _ hf (hP.sub (ws' := [(a_t, .inr (2, [.ref a_cells])), (a_cells, .inl (cI, 393, .inl v_cells))]) [0, 1] rfl) (hD.sub (ws' := [(a_t, .inr (2, [.ref a_cells])), (a_cells, .inl (cI, 393, .inl v_cells))]) [0, 1] (by decide) rfl) hS (lv_sub hl [2, 3, 1, 0] rfl)
def fX2_changeField (i1 : Int32) (i2 : Int32) (i3 : Int32) (i4 : Int32) (v_cells : Nat → Int32) : Option ((Nat → Int32)) :=
  bd (fX2_isCell i1 i2 i3) fun qo1 => if qo1 = 0 then (some v_cells) else (bd (fX2_cellAt i1 i2) fun qo2 => aset 393 v_cells (qo2 + i3) i4 fun qg3 => some qg3)
def rX2_changeField : Room := { frames := 2, cells := 0, slots := 0, locals := 42 }
theorem hin_X2_changeField_X2 : ∀ w ∈ wsX20, w ∈ wsX2_changeField := fun _ h => List.mem_cons_of_mem _ (List.mem_append_right _ (h))
set_option maxHeartbeats 4000000 in
set_option maxRecDepth 100000 in
theorem k_X2_changeField (l : Launch) (D : va_G) (cI cC : ClassId) (a_t : Nat) (a_cells : Nat) (i1 : Int32) (i2 : Int32) (i3 : Int32) (i4 : Int32) (v_cells : Nat → Int32) (o : (Nat → Int32)) (hf : fX2_changeField i1 i2 i3 i4 v_cells = some o) : CTv l yX2_changeField wsX2_changeField rX2_changeField D cI cC [.ref a_t, .int i1, .int i2, .int i3, .int i4] [(a_t, .inr (2, [.ref a_cells])), (a_cells, .inl (cI, 393, .inl v_cells))] [(a_t, .inr (2, [.ref a_cells])), (a_cells, .inl (cI, 393, .inl o))]  := by
  refine CTv_of (cc := cX2_changeField) (maxL := 5) (by decide) rfl (Nat.le_of_ble_eq_true rfl) ?_
  intro p e s m args below meth c A Q ls C0 hA hP hD hl hret
  obtain ⟨hx, hb, hml, hts, hown, hK⟩ := C0
  have hown : s.vm.findClass RX2 = some m.cls := hown
  have hS : va_S A s.heap s.heap [] := va_S.rf
  have hl : lv_has ls 5 [(0, .ref a_t), (1, .int i1), (2, .int i2), (3, .int i3), (4, .int i4)] := hl
  have hinX2 := hin_X2_changeField_X2
  unfold fX2_changeField at hf
  refine lv_iload_n hx hb dX2_changeField_0 rfl (lv_at hl 1 rfl) ?_
  refine lv_iload_n hx hb dX2_changeField_1 rfl (lv_at hl 2 rfl) ?_
  refine lv_iload_n hx hb dX2_changeField_2 rfl (lv_at hl 3 rfl) ?_
  replace hf := bd_some hf
  obtain ⟨qo1, hqo1, hf⟩ := hf
  refine g_Si (As := [.int i1, .int i2, .int i3]) (rest := []) (wr := [(a_t, .inr (2, [.ref a_cells])), (a_cells, .inl (cI, 393, .inl v_cells))]) ⟨hx, hb, hml, hown, hts⟩ (k_X2_isCell l D cI cC i1 i2 i3 qo1 hqo1) (va_cwS 3 hts gX2_changeField_X2_isCell rfl rfl rfl (by decide +kernel) ⟨Nat.le_of_ble_eq_true rfl, Nat.le_of_ble_eq_true rfl⟩) hK hP hD hS hA [] [0, 1] rfl rfl rfl rfl rfl (by decide) rfl hl.1 rfl (Nat.le_of_ble_eq_true rfl) dX2_changeField_3 (Nat.zero_le _) (Nat.zero_le _) (fun H locs hP hD hS => ?_)
  have hP : va_P D vwCl [(a_t, .inr (2, [.ref a_cells])), (a_cells, .inl (cI, 393, .inl v_cells))] H := hP
  have hD : va_D A [(a_t, .inr (2, [.ref a_cells])), (a_cells, .inl (cI, 393, .inl v_cells))] := hD
  refine lv_if_eq (tgt := 23) hx hb dX2_changeField_6 (by decide) (fun hc => ?_) (fun hc => ?_)
  · replace hf := ip hc hf
    have ho := Option.some.inj hf
    subst ho
    exact hret dX2_changeField_23 (hP.sub (ws' := [(a_t, .inr (2, [.ref a_cells])), (a_cells, .inl (cI, 393, .inl v_cells))]) [0, 1] rfl) (hD.sub (ws' := [(a_t, .inr (2, [.ref a_cells])), (a_cells, .inl (cI, 393, .inl v_cells))]) [0, 1] (by decide) rfl) hS
  · replace hf := ineg hc hf
    refine lv_aload_n hx hb dX2_changeField_9 rfl (lv_at hl 0 rfl) ?_
    refine va_get (D := D) (ci := 2) (v := .ref a_cells) (C := RX2) (T := TX2) (N := 1) hx hb hts hinX2 hown hK.1 hP 0 rfl rfl 0 (by decide) (hts (.fieldLink RX2 9 "BaselineGrid$Page" "cells" "[I") (List.mem_of_getElem? (i := 1) rfl)) (fun _ h9 => h9) rfl dX2_changeField_10 ?_
    refine lv_iload_n hx hb dX2_changeField_13 rfl (lv_at hl 1 rfl) ?_
    refine lv_iload_n hx hb dX2_changeField_14 rfl (lv_at hl 2 rfl) ?_
    replace hf := bd_some hf
    obtain ⟨qo2, hqo2, hf⟩ := hf
    refine g_Si (As := [.int i1, .int i2]) (rest := [.ref a_cells]) (wr := [(a_t, .inr (2, [.ref a_cells])), (a_cells, .inl (cI, 393, .inl v_cells))]) ⟨hx, hb, hml, hown, hts⟩ (k_X2_cellAt l D cI cC i1 i2 qo2 hqo2) (va_cwS 2 hts gX2_changeField_X2_cellAt rfl rfl rfl (by decide +kernel) ⟨Nat.le_of_ble_eq_true rfl, Nat.le_of_ble_eq_true rfl⟩) hK hP hD hS hA [] [0, 1] rfl rfl rfl rfl rfl (by decide) rfl hl.1 rfl (Nat.le_of_ble_eq_true rfl) dX2_changeField_15 (Nat.zero_le _) (Nat.zero_le _) (fun H locs hP hD hS => ?_)
    have hP : va_P D vwCl [(a_t, .inr (2, [.ref a_cells])), (a_cells, .inl (cI, 393, .inl v_cells))] H := hP
    have hD : va_D A [(a_t, .inr (2, [.ref a_cells])), (a_cells, .inl (cI, 393, .inl v_cells))] := hD
    refine lv_iload_n hx hb dX2_changeField_18 rfl (lv_at hl 3 rfl) ?_
    refine lv_iadd hx hb dX2_changeField_19 ?_
    refine lv_iload hx hb dX2_changeField_20 (lv_at hl 4 rfl) ?_
    refine g_iast hx hb hK.1 hP hD hS 1 0 rfl rfl hf dX2_changeField_22 (fun qg3 H locs hf hP hD hS => ?_)
    have hP : va_P D vwCl [(a_t, .inr (2, [.ref a_cells])), (a_cells, .inl (cI, 393, .inl qg3))] H := hP
    have hD : va_D A [(a_t, .inr (2, [.ref a_cells])), (a_cells, .inl (cI, 393, .inl qg3))] := hD
    have ho := Option.some.inj hf
    subst ho
    exact hret dX2_changeField_23 (hP.sub (ws' := [(a_t, .inr (2, [.ref a_cells])), (a_cells, .inl (cI, 393, .inl qg3))]) [0, 1] rfl) (hD.sub (ws' := [(a_t, .inr (2, [.ref a_cells])), (a_cells, .inl (cI, 393, .inl qg3))]) [0, 1] (by decide) rfl) hS
def fX2_hasRoom (i1 : Int32) (v_cells : Nat → Int32) : Option (Int32) :=
  bd (fX4_isColumn i1) fun qo1 => if qo1 = 0 then (some 0) else (bd (fX2_blocksOf i1 v_cells) fun qo2 => if 16 ≤ qo2 then (some 0) else (some 1))
def rX2_hasRoom : Room := { frames := 2, cells := 0, slots := 0, locals := 41 }
set_option maxHeartbeats 4000000 in
set_option maxRecDepth 100000 in
theorem k_X2_hasRoom (l : Launch) (D : va_G) (cI cC : ClassId) (a_t : Nat) (a_cells : Nat) (i1 : Int32) (v_cells : Nat → Int32) (o : Int32) (hf : fX2_hasRoom i1 v_cells = some o) : CTi l yX2_hasRoom wsX2_hasRoom rX2_hasRoom D cI cC [.ref a_t, .int i1] [(a_t, .inr (2, [.ref a_cells])), (a_cells, .inl (cI, 393, .inl v_cells))] [(a_t, .inr (2, [.ref a_cells])), (a_cells, .inl (cI, 393, .inl v_cells))] o := by
  refine CTi_of (cc := cX2_hasRoom) (maxL := 2) (ty := .boolean) (by decide) rfl (Nat.le_of_ble_eq_true rfl) ?_
  intro p e s m args below meth c A Q ls C0 hA hP hD hl hret
  obtain ⟨hx, hb, hml, hts, hown, hK⟩ := C0
  have hown : s.vm.findClass RX2 = some m.cls := hown
  have hS : va_S A s.heap s.heap [] := va_S.rf
  have hl : lv_has ls 2 [(0, .ref a_t), (1, .int i1)] := hl
  unfold fX2_hasRoom at hf
  refine lv_iload_n hx hb dX2_hasRoom_0 rfl (lv_at hl 1 rfl) ?_
  replace hf := bd_some hf
  obtain ⟨qo1, hqo1, hf⟩ := hf
  refine g_Ni (As := [.int i1]) (rest := []) (wr := [(a_t, .inr (2, [.ref a_cells])), (a_cells, .inl (cI, 393, .inl v_cells))]) (host := RX4) ⟨hx, hb, hml, hown, hts⟩ (k_X4_isColumn l D cI cC i1 qo1 hqo1) (va_cnB 1 hts gX2_hasRoom_X4_isColumn_n18 rfl rfl rfl (hK.2.1 _ (List.mem_of_getElem? (i := 5) rfl)) (hts (.initialized RX4) (List.mem_of_getElem? (i := 2) rfl)) (by decide +kernel) ⟨Nat.le_of_ble_eq_true rfl, Nat.le_of_ble_eq_true rfl⟩) (hts (.static yX4_isColumn) (List.mem_of_getElem? (i := 1) rfl)) hK hP hD hS hA [] [0, 1] rfl rfl rfl rfl rfl (by decide) rfl hl.1 rfl (Nat.le_of_ble_eq_true rfl) dX2_hasRoom_1 (Nat.zero_le _) (Nat.zero_le _) (fun H locs hP hD hS => ?_)
  have hP : va_P D vwCl [(a_t, .inr (2, [.ref a_cells])), (a_cells, .inl (cI, 393, .inl v_cells))] H := hP
  have hD : va_D A [(a_t, .inr (2, [.ref a_cells])), (a_cells, .inl (cI, 393, .inl v_cells))] := hD
  refine lv_if_eq (tgt := 21) hx hb dX2_hasRoom_4 (by decide) (fun hc => ?_) (fun hc => ?_)
  · replace hf := ip hc hf
    refine lv_iconst (v := 0) hx hb dX2_hasRoom_21 (by decide) ?_
    have ho := Option.some.inj hf
    subst ho
    exact hret dX2_hasRoom_22 (nbool (Or.inl rfl)) (hP.sub (ws' := [(a_t, .inr (2, [.ref a_cells])), (a_cells, .inl (cI, 393, .inl v_cells))]) [0, 1] rfl) (hD.sub (ws' := [(a_t, .inr (2, [.ref a_cells])), (a_cells, .inl (cI, 393, .inl v_cells))]) [0, 1] (by decide) rfl) hS
  · replace hf := ineg hc hf
    refine lv_aload_n hx hb dX2_hasRoom_7 rfl (lv_at hl 0 rfl) ?_
    refine lv_iload_n hx hb dX2_hasRoom_8 rfl (lv_at hl 1 rfl) ?_
    replace hf := bd_some hf
    obtain ⟨qo2, hqo2, hf⟩ := hf
    refine g_Vi (As := [.int i1]) (rest := []) (wr := []) ⟨hx, hb, hml, hown, hts⟩ (k_X2_blocksOf l D cI cC a_t a_cells i1 v_cells qo2 hqo2) (cwV 1 hts gX2_hasRoom_X2_blocksOf rfl rfl rfl (by decide +kernel) ⟨Nat.le_of_ble_eq_true rfl, Nat.le_of_ble_eq_true rfl⟩) hK hP hD hS hA 2 0 rfl rfl rfl [0, 1] [] rfl rfl rfl rfl rfl (by decide) rfl hl.1 rfl (Nat.le_of_ble_eq_true rfl) dX2_hasRoom_9 (Nat.zero_le _) (Nat.zero_le _) (fun H locs hP hD hS => ?_)
    have hP : va_P D vwCl [(a_t, .inr (2, [.ref a_cells])), (a_cells, .inl (cI, 393, .inl v_cells))] H := hP
    have hD : va_D A [(a_t, .inr (2, [.ref a_cells])), (a_cells, .inl (cI, 393, .inl v_cells))] := hD
    refine lv_bipush (v := 16) hx hb dX2_hasRoom_12 (by decide) ?_
    refine lv_icmp_ge (tgt := 21) hx hb dX2_hasRoom_14 (by decide) (fun hc => ?_) (fun hc => ?_)
    · replace hf := ip hc hf
      refine lv_iconst (v := 0) hx hb dX2_hasRoom_21 (by decide) ?_
      have ho := Option.some.inj hf
      subst ho
      exact hret dX2_hasRoom_22 (nbool (Or.inl rfl)) (hP.sub (ws' := [(a_t, .inr (2, [.ref a_cells])), (a_cells, .inl (cI, 393, .inl v_cells))]) [0, 1] rfl) (hD.sub (ws' := [(a_t, .inr (2, [.ref a_cells])), (a_cells, .inl (cI, 393, .inl v_cells))]) [0, 1] (by decide) rfl) hS
    · replace hf := ineg hc hf
      refine lv_iconst (v := 1) hx hb dX2_hasRoom_17 (by decide) ?_
      refine lv_goto (tgt := 22) hx hb dX2_hasRoom_18 (by decide) ?_
      have ho := Option.some.inj hf
      subst ho
      exact hret dX2_hasRoom_22 (nbool (Or.inr rfl)) (hP.sub (ws' := [(a_t, .inr (2, [.ref a_cells])), (a_cells, .inl (cI, 393, .inl v_cells))]) [0, 1] rfl) (hD.sub (ws' := [(a_t, .inr (2, [.ref a_cells])), (a_cells, .inl (cI, 393, .inl v_cells))]) [0, 1] (by decide) rfl) hS
def fX4_writeParagraph_53 (n_p1 : Nat) (i1 : Int32) (s1 : Int32) (s2 : Int32) (v_p1 : Nat → Int32) : Option ((Nat → Int32)) :=
    aset n_p1 v_p1 s1 s2 fun qg5 => aset n_p1 qg5 (i1 + 5) ((-5)) fun qg6 => some qg6
def fX4_writeParagraph (n_p1 : Nat) (i1 : Int32) (i2 : Int32) (i3 : Int32) (i4 : Int32) (i5 : Int32) (v_p1 : Nat → Int32) : Option ((Nat → Int32)) :=
  if i1 < 0 then (some v_p1) else (if i1 ≤ ((Int32.ofNat n_p1) - 6) then (aset n_p1 v_p1 (i1 + 0) 0 fun qg1 => aset n_p1 qg1 (i1 + 1) i2 fun qg2 => aset n_p1 qg2 (i1 + 2) i3 fun qg3 => aset n_p1 qg3 (i1 + 3) i4 fun qg4 => if i5 = 0 then (fX4_writeParagraph_53 n_p1 i1 (i1 + 4) 0 qg4) else (fX4_writeParagraph_53 n_p1 i1 (i1 + 4) 1 qg4)) else (some v_p1))
def rX4_writeParagraph : Room := { frames := 0, cells := 0, slots := 0, locals := 0 }
set_option maxHeartbeats 4000000 in
set_option maxRecDepth 100000 in
theorem k_X4_writeParagraph (l : Launch) (D : va_G) (cI cC : ClassId) (a_p1 : Nat) (n_p1 : Nat) (i1 : Int32) (i2 : Int32) (i3 : Int32) (i4 : Int32) (i5 : Int32) (v_p1 : Nat → Int32) (o : (Nat → Int32)) (hf : fX4_writeParagraph n_p1 i1 i2 i3 i4 i5 v_p1 = some o) : CTv l yX4_writeParagraph wsX4_writeParagraph rX4_writeParagraph D cI cC [.ref a_p1, .int i1, .int i2, .int i3, .int i4, .int i5] [(a_p1, .inl (cI, n_p1, .inl v_p1))] [(a_p1, .inl (cI, n_p1, .inl o))]  := by
  refine CTv_of (cc := cX4_writeParagraph) (maxL := 6) (by decide) rfl (Nat.le_of_ble_eq_true rfl) ?_
  intro p e s m args below meth c A Q ls C0 hA hP hD hl hret
  obtain ⟨hx, hb, hml, hts, hown, hK⟩ := C0
  have hown : s.vm.findClass RX4 = some m.cls := hown
  have hS : va_S A s.heap s.heap [] := va_S.rf
  have hl : lv_has ls 6 [(0, .ref a_p1), (1, .int i1), (2, .int i2), (3, .int i3), (4, .int i4), (5, .int i5)] := hl
  have J53 : ∀ (s1 : Int32) (s2 : Int32) (v_p1 : Nat → Int32)  (H : Heap) (locs : List Loc) (ls : Array Slot), fX4_writeParagraph_53 n_p1 i1 s1 s2 v_p1 = some o → va_P D vwCl [(a_p1, .inl (cI, n_p1, .inl v_p1))] H → va_D A [(a_p1, .inl (cI, n_p1, .inl v_p1))] → va_S A s.heap H locs → lv_has ls 6 [(0, .ref a_p1), (1, .int i1)] → W p l e rX4_writeParagraph s m args below meth c H locs 0 0 Q (F0 m 53 ls [.int s2, .int s1, .ref a_p1]) := by
    intro s1 s2 v_p1 H locs ls hf hP hD hS hl
    unfold fX4_writeParagraph_53 at hf
    refine g_iast hx hb hK.1 hP hD hS 0 0 rfl rfl hf dX4_writeParagraph_53 (fun qg5 H locs hf hP hD hS => ?_)
    have hP : va_P D vwCl [(a_p1, .inl (cI, n_p1, .inl qg5))] H := hP
    have hD : va_D A [(a_p1, .inl (cI, n_p1, .inl qg5))] := hD
    refine lv_aload_n hx hb dX4_writeParagraph_54 rfl (lv_at hl 0 rfl) ?_
    refine lv_iload_n hx hb dX4_writeParagraph_55 rfl (lv_at hl 1 rfl) ?_
    refine lv_iconst (v := 5) hx hb dX4_writeParagraph_56 (by decide) ?_
    refine lv_iadd hx hb dX4_writeParagraph_57 ?_
    refine lv_bipush (v := (-5)) hx hb dX4_writeParagraph_58 (by decide) ?_
    refine g_iast hx hb hK.1 hP hD hS 0 0 rfl rfl hf dX4_writeParagraph_60 (fun qg6 H locs hf hP hD hS => ?_)
    have hP : va_P D vwCl [(a_p1, .inl (cI, n_p1, .inl qg6))] H := hP
    have hD : va_D A [(a_p1, .inl (cI, n_p1, .inl qg6))] := hD
    have ho := Option.some.inj hf
    subst ho
    exact hret dX4_writeParagraph_61 (hP.sub (ws' := [(a_p1, .inl (cI, n_p1, .inl qg6))]) [0] rfl) (hD.sub (ws' := [(a_p1, .inl (cI, n_p1, .inl qg6))]) [0] (by decide) rfl) hS
  unfold fX4_writeParagraph at hf
  refine lv_iload_n hx hb dX4_writeParagraph_0 rfl (lv_at hl 1 rfl) ?_
  refine lv_if_lt (tgt := 13) hx hb dX4_writeParagraph_1 (by decide) (fun hc => ?_) (fun hc => ?_)
  · replace hf := ip hc hf
    have ho := Option.some.inj hf
    subst ho
    exact hret dX4_writeParagraph_13 (hP.sub (ws' := [(a_p1, .inl (cI, n_p1, .inl v_p1))]) [0] rfl) (hD.sub (ws' := [(a_p1, .inl (cI, n_p1, .inl v_p1))]) [0] (by decide) rfl) hS
  · replace hf := ineg hc hf
    refine lv_iload_n hx hb dX4_writeParagraph_4 rfl (lv_at hl 1 rfl) ?_
    refine lv_aload_n hx hb dX4_writeParagraph_5 rfl (lv_at hl 0 rfl) ?_
    refine va_alen hx hb hK.1 hP 0 0 rfl rfl rfl dX4_writeParagraph_6 ?_
    refine lv_bipush (v := 6) hx hb dX4_writeParagraph_7 (by decide) ?_
    refine lv_isub hx hb dX4_writeParagraph_9 ?_
    refine lv_icmp_le (tgt := 14) hx hb dX4_writeParagraph_10 (by decide) (fun hc => ?_) (fun hc => ?_)
    · replace hf := ip hc hf
      refine lv_aload_n hx hb dX4_writeParagraph_14 rfl (lv_at hl 0 rfl) ?_
      refine lv_iload_n hx hb dX4_writeParagraph_15 rfl (lv_at hl 1 rfl) ?_
      refine lv_iconst (v := 0) hx hb dX4_writeParagraph_16 (by decide) ?_
      refine lv_iadd hx hb dX4_writeParagraph_17 ?_
      refine lv_iconst (v := 0) hx hb dX4_writeParagraph_18 (by decide) ?_
      refine g_iast hx hb hK.1 hP hD hS 0 0 rfl rfl hf dX4_writeParagraph_19 (fun qg1 H locs hf hP hD hS => ?_)
      have hP : va_P D vwCl [(a_p1, .inl (cI, n_p1, .inl qg1))] H := hP
      have hD : va_D A [(a_p1, .inl (cI, n_p1, .inl qg1))] := hD
      refine lv_aload_n hx hb dX4_writeParagraph_20 rfl (lv_at hl 0 rfl) ?_
      refine lv_iload_n hx hb dX4_writeParagraph_21 rfl (lv_at hl 1 rfl) ?_
      refine lv_iconst (v := 1) hx hb dX4_writeParagraph_22 (by decide) ?_
      refine lv_iadd hx hb dX4_writeParagraph_23 ?_
      refine lv_iload_n hx hb dX4_writeParagraph_24 rfl (lv_at hl 2 rfl) ?_
      refine g_iast hx hb hK.1 hP hD hS 0 0 rfl rfl hf dX4_writeParagraph_25 (fun qg2 H locs hf hP hD hS => ?_)
      have hP : va_P D vwCl [(a_p1, .inl (cI, n_p1, .inl qg2))] H := hP
      have hD : va_D A [(a_p1, .inl (cI, n_p1, .inl qg2))] := hD
      refine lv_aload_n hx hb dX4_writeParagraph_26 rfl (lv_at hl 0 rfl) ?_
      refine lv_iload_n hx hb dX4_writeParagraph_27 rfl (lv_at hl 1 rfl) ?_
      refine lv_iconst (v := 2) hx hb dX4_writeParagraph_28 (by decide) ?_
      refine lv_iadd hx hb dX4_writeParagraph_29 ?_
      refine lv_iload_n hx hb dX4_writeParagraph_30 rfl (lv_at hl 3 rfl) ?_
      refine g_iast hx hb hK.1 hP hD hS 0 0 rfl rfl hf dX4_writeParagraph_31 (fun qg3 H locs hf hP hD hS => ?_)
      have hP : va_P D vwCl [(a_p1, .inl (cI, n_p1, .inl qg3))] H := hP
      have hD : va_D A [(a_p1, .inl (cI, n_p1, .inl qg3))] := hD
      refine lv_aload_n hx hb dX4_writeParagraph_32 rfl (lv_at hl 0 rfl) ?_
      refine lv_iload_n hx hb dX4_writeParagraph_33 rfl (lv_at hl 1 rfl) ?_
      refine lv_iconst (v := 3) hx hb dX4_writeParagraph_34 (by decide) ?_
      refine lv_iadd hx hb dX4_writeParagraph_35 ?_
      refine lv_iload hx hb dX4_writeParagraph_36 (lv_at hl 4 rfl) ?_
      refine g_iast hx hb hK.1 hP hD hS 0 0 rfl rfl hf dX4_writeParagraph_38 (fun qg4 H locs hf hP hD hS => ?_)
      have hP : va_P D vwCl [(a_p1, .inl (cI, n_p1, .inl qg4))] H := hP
      have hD : va_D A [(a_p1, .inl (cI, n_p1, .inl qg4))] := hD
      refine lv_aload_n hx hb dX4_writeParagraph_39 rfl (lv_at hl 0 rfl) ?_
      refine lv_iload_n hx hb dX4_writeParagraph_40 rfl (lv_at hl 1 rfl) ?_
      refine lv_iconst (v := 4) hx hb dX4_writeParagraph_41 (by decide) ?_
      refine lv_iadd hx hb dX4_writeParagraph_42 ?_
      refine lv_iload hx hb dX4_writeParagraph_43 (lv_at hl 5 rfl) ?_
      refine lv_if_eq (tgt := 52) hx hb dX4_writeParagraph_45 (by decide) (fun hc => ?_) (fun hc => ?_)
      · replace hf := ip hc hf
        refine lv_iconst (v := 0) hx hb dX4_writeParagraph_52 (by decide) ?_
        exact J53 (i1 + 4) 0 qg4 _ _ _ hf (hP.sub (ws' := [(a_p1, .inl (cI, n_p1, .inl qg4))]) [0] rfl) (hD.sub (ws' := [(a_p1, .inl (cI, n_p1, .inl qg4))]) [0] (by decide) rfl) hS (lv_sub hl [0, 1] rfl)
      · replace hf := ineg hc hf
        refine lv_iconst (v := 1) hx hb dX4_writeParagraph_48 (by decide) ?_
        refine lv_goto (tgt := 53) hx hb dX4_writeParagraph_49 (by decide) ?_
        exact J53 (i1 + 4) 1 qg4 _ _ _ hf (hP.sub (ws' := [(a_p1, .inl (cI, n_p1, .inl qg4))]) [0] rfl) (hD.sub (ws' := [(a_p1, .inl (cI, n_p1, .inl qg4))]) [0] (by decide) rfl) hS (lv_sub hl [0, 1] rfl)
    · replace hf := ineg hc hf
      have ho := Option.some.inj hf
      subst ho
      exact hret dX4_writeParagraph_13 (hP.sub (ws' := [(a_p1, .inl (cI, n_p1, .inl v_p1))]) [0] rfl) (hD.sub (ws' := [(a_p1, .inl (cI, n_p1, .inl v_p1))]) [0] (by decide) rfl) hS
def fX2_changeBlocks (i1 : Int32) (i2 : Int32) (v_cells : Nat → Int32) : Option ((Nat → Int32)) :=
  bd (fX4_isColumn i1) fun qo1 => if qo1 = 0 then (some v_cells) else (if i2 < 0 then (some v_cells) else (if 16 < i2 then (some v_cells) else (aset 393 v_cells (5 + i1) i2 fun qg2 => some qg2)))
def rX2_changeBlocks : Room := { frames := 1, cells := 0, slots := 0, locals := 20 }
theorem hin_X2_changeBlocks_X2 : ∀ w ∈ wsX20, w ∈ wsX2_changeBlocks := fun _ h => List.mem_cons_of_mem _ (List.mem_append_right _ (h))
set_option maxHeartbeats 4000000 in
set_option maxRecDepth 100000 in
theorem k_X2_changeBlocks (l : Launch) (D : va_G) (cI cC : ClassId) (a_t : Nat) (a_cells : Nat) (i1 : Int32) (i2 : Int32) (v_cells : Nat → Int32) (o : (Nat → Int32)) (hf : fX2_changeBlocks i1 i2 v_cells = some o) : CTv l yX2_changeBlocks wsX2_changeBlocks rX2_changeBlocks D cI cC [.ref a_t, .int i1, .int i2] [(a_t, .inr (2, [.ref a_cells])), (a_cells, .inl (cI, 393, .inl v_cells))] [(a_t, .inr (2, [.ref a_cells])), (a_cells, .inl (cI, 393, .inl o))]  := by
  refine CTv_of (cc := cX2_changeBlocks) (maxL := 3) (by decide) rfl (Nat.le_of_ble_eq_true rfl) ?_
  intro p e s m args below meth c A Q ls C0 hA hP hD hl hret
  obtain ⟨hx, hb, hml, hts, hown, hK⟩ := C0
  have hown : s.vm.findClass RX2 = some m.cls := hown
  have hS : va_S A s.heap s.heap [] := va_S.rf
  have hl : lv_has ls 3 [(0, .ref a_t), (1, .int i1), (2, .int i2)] := hl
  have hinX2 := hin_X2_changeBlocks_X2
  unfold fX2_changeBlocks at hf
  refine lv_iload_n hx hb dX2_changeBlocks_0 rfl (lv_at hl 1 rfl) ?_
  replace hf := bd_some hf
  obtain ⟨qo1, hqo1, hf⟩ := hf
  refine g_Ni (As := [.int i1]) (rest := []) (wr := [(a_t, .inr (2, [.ref a_cells])), (a_cells, .inl (cI, 393, .inl v_cells))]) (host := RX4) ⟨hx, hb, hml, hown, hts⟩ (k_X4_isColumn l D cI cC i1 qo1 hqo1) (va_cnB 1 hts gX2_changeBlocks_X4_isColumn_n18 rfl rfl rfl (hK.2.1 _ (List.mem_of_getElem? (i := 5) rfl)) (hts (.initialized RX4) (List.mem_of_getElem? (i := 3) rfl)) (by decide +kernel) ⟨Nat.le_of_ble_eq_true rfl, Nat.le_of_ble_eq_true rfl⟩) (hts (.static yX4_isColumn) (List.mem_of_getElem? (i := 2) rfl)) hK hP hD hS hA [] [0, 1] rfl rfl rfl rfl rfl (by decide) rfl hl.1 rfl (Nat.le_of_ble_eq_true rfl) dX2_changeBlocks_1 (Nat.zero_le _) (Nat.zero_le _) (fun H locs hP hD hS => ?_)
  have hP : va_P D vwCl [(a_t, .inr (2, [.ref a_cells])), (a_cells, .inl (cI, 393, .inl v_cells))] H := hP
  have hD : va_D A [(a_t, .inr (2, [.ref a_cells])), (a_cells, .inl (cI, 393, .inl v_cells))] := hD
  refine lv_if_eq (tgt := 26) hx hb dX2_changeBlocks_4 (by decide) (fun hc => ?_) (fun hc => ?_)
  · replace hf := ip hc hf
    have ho := Option.some.inj hf
    subst ho
    exact hret dX2_changeBlocks_26 (hP.sub (ws' := [(a_t, .inr (2, [.ref a_cells])), (a_cells, .inl (cI, 393, .inl v_cells))]) [0, 1] rfl) (hD.sub (ws' := [(a_t, .inr (2, [.ref a_cells])), (a_cells, .inl (cI, 393, .inl v_cells))]) [0, 1] (by decide) rfl) hS
  · replace hf := ineg hc hf
    refine lv_iload_n hx hb dX2_changeBlocks_7 rfl (lv_at hl 2 rfl) ?_
    refine lv_if_lt (tgt := 26) hx hb dX2_changeBlocks_8 (by decide) (fun hc => ?_) (fun hc => ?_)
    · replace hf := ip hc hf
      have ho := Option.some.inj hf
      subst ho
      exact hret dX2_changeBlocks_26 (hP.sub (ws' := [(a_t, .inr (2, [.ref a_cells])), (a_cells, .inl (cI, 393, .inl v_cells))]) [0, 1] rfl) (hD.sub (ws' := [(a_t, .inr (2, [.ref a_cells])), (a_cells, .inl (cI, 393, .inl v_cells))]) [0, 1] (by decide) rfl) hS
    · replace hf := ineg hc hf
      refine lv_iload_n hx hb dX2_changeBlocks_11 rfl (lv_at hl 2 rfl) ?_
      refine lv_bipush (v := 16) hx hb dX2_changeBlocks_12 (by decide) ?_
      refine lv_icmp_gt (tgt := 26) hx hb dX2_changeBlocks_14 (by decide) (fun hc => ?_) (fun hc => ?_)
      · replace hf := ip hc hf
        have ho := Option.some.inj hf
        subst ho
        exact hret dX2_changeBlocks_26 (hP.sub (ws' := [(a_t, .inr (2, [.ref a_cells])), (a_cells, .inl (cI, 393, .inl v_cells))]) [0, 1] rfl) (hD.sub (ws' := [(a_t, .inr (2, [.ref a_cells])), (a_cells, .inl (cI, 393, .inl v_cells))]) [0, 1] (by decide) rfl) hS
      · replace hf := ineg hc hf
        refine lv_aload_n hx hb dX2_changeBlocks_17 rfl (lv_at hl 0 rfl) ?_
        refine va_get (D := D) (ci := 2) (v := .ref a_cells) (C := RX2) (T := TX2) (N := 1) hx hb hts hinX2 hown hK.1 hP 0 rfl rfl 0 (by decide) (hts (.fieldLink RX2 9 "BaselineGrid$Page" "cells" "[I") (List.mem_of_getElem? (i := 1) rfl)) (fun _ h9 => h9) rfl dX2_changeBlocks_18 ?_
        refine lv_iconst (v := 5) hx hb dX2_changeBlocks_21 (by decide) ?_
        refine lv_iload_n hx hb dX2_changeBlocks_22 rfl (lv_at hl 1 rfl) ?_
        refine lv_iadd hx hb dX2_changeBlocks_23 ?_
        refine lv_iload_n hx hb dX2_changeBlocks_24 rfl (lv_at hl 2 rfl) ?_
        refine g_iast hx hb hK.1 hP hD hS 1 0 rfl rfl hf dX2_changeBlocks_25 (fun qg2 H locs hf hP hD hS => ?_)
        have hP : va_P D vwCl [(a_t, .inr (2, [.ref a_cells])), (a_cells, .inl (cI, 393, .inl qg2))] H := hP
        have hD : va_D A [(a_t, .inr (2, [.ref a_cells])), (a_cells, .inl (cI, 393, .inl qg2))] := hD
        have ho := Option.some.inj hf
        subst ho
        exact hret dX2_changeBlocks_26 (hP.sub (ws' := [(a_t, .inr (2, [.ref a_cells])), (a_cells, .inl (cI, 393, .inl qg2))]) [0, 1] rfl) (hD.sub (ws' := [(a_t, .inr (2, [.ref a_cells])), (a_cells, .inl (cI, 393, .inl qg2))]) [0, 1] (by decide) rfl) hS
def fX2_appendParagraph (i1 : Int32) (i2 : Int32) (i3 : Int32) (i4 : Int32) (i5 : Int32) (v_cells : Nat → Int32) : Option ((Nat → Int32)) :=
  bd (fX2_hasRoom i1 v_cells) fun qo1 => if qo1 = 0 then (some v_cells) else (bd (fX2_blocksOf i1 v_cells) fun qo2 => bd (fX2_cellAt i1 qo2) fun qo3 => bd (fX4_writeParagraph 393 qo3 i2 i3 i4 i5 v_cells) fun qo4 => bd (fX2_blocksOf i1 qo4) fun qo5 => bd (fX2_changeBlocks i1 (qo5 + 1) qo4) fun qo6 => some qo6)
def rX2_appendParagraph : Room := { frames := 3, cells := 0, slots := 0, locals := 62 }
theorem hin_X2_appendParagraph_X2 : ∀ w ∈ wsX20, w ∈ wsX2_appendParagraph := fun _ h => List.mem_cons_of_mem _ (List.mem_append_right _ (h))
set_option maxHeartbeats 4000000 in
set_option maxRecDepth 100000 in
theorem k_X2_appendParagraph (l : Launch) (D : va_G) (cI cC : ClassId) (a_t : Nat) (a_cells : Nat) (i1 : Int32) (i2 : Int32) (i3 : Int32) (i4 : Int32) (i5 : Int32) (v_cells : Nat → Int32) (o : (Nat → Int32)) (hf : fX2_appendParagraph i1 i2 i3 i4 i5 v_cells = some o) : CTv l yX2_appendParagraph wsX2_appendParagraph rX2_appendParagraph D cI cC [.ref a_t, .int i1, .int i2, .int i3, .int i4, .int i5] [(a_t, .inr (2, [.ref a_cells])), (a_cells, .inl (cI, 393, .inl v_cells))] [(a_t, .inr (2, [.ref a_cells])), (a_cells, .inl (cI, 393, .inl o))]  := by
  refine CTv_of (cc := cX2_appendParagraph) (maxL := 6) (by decide) rfl (Nat.le_of_ble_eq_true rfl) ?_
  intro p e s m args below meth c A Q ls C0 hA hP hD hl hret
  obtain ⟨hx, hb, hml, hts, hown, hK⟩ := C0
  have hown : s.vm.findClass RX2 = some m.cls := hown
  have hS : va_S A s.heap s.heap [] := va_S.rf
  have hl : lv_has ls 6 [(0, .ref a_t), (1, .int i1), (2, .int i2), (3, .int i3), (4, .int i4), (5, .int i5)] := hl
  have hinX2 := hin_X2_appendParagraph_X2
  unfold fX2_appendParagraph at hf
  refine lv_aload_n hx hb dX2_appendParagraph_0 rfl (lv_at hl 0 rfl) ?_
  refine lv_iload_n hx hb dX2_appendParagraph_1 rfl (lv_at hl 1 rfl) ?_
  replace hf := bd_some hf
  obtain ⟨qo1, hqo1, hf⟩ := hf
  refine g_Vi (As := [.int i1]) (rest := []) (wr := []) ⟨hx, hb, hml, hown, hts⟩ (k_X2_hasRoom l D cI cC a_t a_cells i1 v_cells qo1 hqo1) (cwV 1 hts gX2_appendParagraph_X2_hasRoom rfl rfl rfl (by decide +kernel) ⟨Nat.le_of_ble_eq_true rfl, Nat.le_of_ble_eq_true rfl⟩) hK hP hD hS hA 2 0 rfl rfl rfl [0, 1] [] rfl rfl rfl rfl rfl (by decide) rfl hl.1 rfl (Nat.le_of_ble_eq_true rfl) dX2_appendParagraph_2 (Nat.zero_le _) (Nat.zero_le _) (fun H locs hP hD hS => ?_)
  have hP : va_P D vwCl [(a_t, .inr (2, [.ref a_cells])), (a_cells, .inl (cI, 393, .inl v_cells))] H := hP
  have hD : va_D A [(a_t, .inr (2, [.ref a_cells])), (a_cells, .inl (cI, 393, .inl v_cells))] := hD
  refine lv_if_eq (tgt := 42) hx hb dX2_appendParagraph_5 (by decide) (fun hc => ?_) (fun hc => ?_)
  · replace hf := ip hc hf
    have ho := Option.some.inj hf
    subst ho
    exact hret dX2_appendParagraph_42 (hP.sub (ws' := [(a_t, .inr (2, [.ref a_cells])), (a_cells, .inl (cI, 393, .inl v_cells))]) [0, 1] rfl) (hD.sub (ws' := [(a_t, .inr (2, [.ref a_cells])), (a_cells, .inl (cI, 393, .inl v_cells))]) [0, 1] (by decide) rfl) hS
  · replace hf := ineg hc hf
    refine lv_aload_n hx hb dX2_appendParagraph_8 rfl (lv_at hl 0 rfl) ?_
    refine va_get (D := D) (ci := 2) (v := .ref a_cells) (C := RX2) (T := TX2) (N := 1) hx hb hts hinX2 hown hK.1 hP 0 rfl rfl 0 (by decide) (hts (.fieldLink RX2 9 "BaselineGrid$Page" "cells" "[I") (List.mem_of_getElem? (i := 1) rfl)) (fun _ h9 => h9) rfl dX2_appendParagraph_9 ?_
    refine lv_iload_n hx hb dX2_appendParagraph_12 rfl (lv_at hl 1 rfl) ?_
    refine lv_aload_n hx hb dX2_appendParagraph_13 rfl (lv_at hl 0 rfl) ?_
    refine lv_iload_n hx hb dX2_appendParagraph_14 rfl (lv_at hl 1 rfl) ?_
    replace hf := bd_some hf
    obtain ⟨qo2, hqo2, hf⟩ := hf
    refine g_Vi (As := [.int i1]) (rest := [.int i1, .ref a_cells]) (wr := []) ⟨hx, hb, hml, hown, hts⟩ (k_X2_blocksOf l D cI cC a_t a_cells i1 v_cells qo2 hqo2) (cwV 1 hts gX2_appendParagraph_X2_blocksOf rfl rfl rfl (by decide +kernel) ⟨Nat.le_of_ble_eq_true rfl, Nat.le_of_ble_eq_true rfl⟩) hK hP hD hS hA 2 0 rfl rfl rfl [0, 1] [] rfl rfl rfl rfl rfl (by decide) rfl hl.1 rfl (Nat.le_of_ble_eq_true rfl) dX2_appendParagraph_15 (Nat.zero_le _) (Nat.zero_le _) (fun H locs hP hD hS => ?_)
    have hP : va_P D vwCl [(a_t, .inr (2, [.ref a_cells])), (a_cells, .inl (cI, 393, .inl v_cells))] H := hP
    have hD : va_D A [(a_t, .inr (2, [.ref a_cells])), (a_cells, .inl (cI, 393, .inl v_cells))] := hD
    replace hf := bd_some hf
    obtain ⟨qo3, hqo3, hf⟩ := hf
    refine g_Si (As := [.int i1, .int qo2]) (rest := [.ref a_cells]) (wr := [(a_t, .inr (2, [.ref a_cells])), (a_cells, .inl (cI, 393, .inl v_cells))]) ⟨hx, hb, hml, hown, hts⟩ (k_X2_cellAt l D cI cC i1 qo2 qo3 hqo3) (va_cwS 2 hts gX2_appendParagraph_X2_cellAt rfl rfl rfl (by decide +kernel) ⟨Nat.le_of_ble_eq_true rfl, Nat.le_of_ble_eq_true rfl⟩) hK hP hD hS hA [] [0, 1] rfl rfl rfl rfl rfl (by decide) rfl hl.1 rfl (Nat.le_of_ble_eq_true rfl) dX2_appendParagraph_18 (Nat.zero_le _) (Nat.zero_le _) (fun H locs hP hD hS => ?_)
    have hP : va_P D vwCl [(a_t, .inr (2, [.ref a_cells])), (a_cells, .inl (cI, 393, .inl v_cells))] H := hP
    have hD : va_D A [(a_t, .inr (2, [.ref a_cells])), (a_cells, .inl (cI, 393, .inl v_cells))] := hD
    refine lv_iload_n hx hb dX2_appendParagraph_21 rfl (lv_at hl 2 rfl) ?_
    refine lv_iload_n hx hb dX2_appendParagraph_22 rfl (lv_at hl 3 rfl) ?_
    refine lv_iload hx hb dX2_appendParagraph_23 (lv_at hl 4 rfl) ?_
    refine lv_iload hx hb dX2_appendParagraph_25 (lv_at hl 5 rfl) ?_
    replace hf := bd_some hf
    obtain ⟨qo4, hqo4, hf⟩ := hf
    refine g_Nv (As := [.ref a_cells, .int qo3, .int i2, .int i3, .int i4, .int i5]) (rest := []) (wr := [(a_t, .inr (2, [.ref a_cells]))]) (host := RX4) ⟨hx, hb, hml, hown, hts⟩ (k_X4_writeParagraph l D cI cC a_cells 393 qo3 i2 i3 i4 i5 v_cells qo4 hqo4) (va_cnB 6 hts gX2_appendParagraph_X4_writeParagraph_n41 rfl rfl rfl (hK.2.1 _ (List.mem_of_getElem? (i := 6) rfl)) (hts (.initialized RX4) (List.mem_of_getElem? (i := 8) rfl)) (by decide +kernel) ⟨Nat.le_of_ble_eq_true rfl, Nat.le_of_ble_eq_true rfl⟩) (hts (.static yX4_writeParagraph) (List.mem_of_getElem? (i := 17) rfl)) hK hP hD hS hA [1] [0] rfl rfl rfl rfl rfl (by decide) rfl hl.1 rfl (Nat.le_of_ble_eq_true rfl) dX2_appendParagraph_27 (Nat.zero_le _) (Nat.zero_le _) (fun H locs hP hD hS => ?_)
    have hP : va_P D vwCl [(a_t, .inr (2, [.ref a_cells])), (a_cells, .inl (cI, 393, .inl qo4))] H := hP
    have hD : va_D A [(a_t, .inr (2, [.ref a_cells])), (a_cells, .inl (cI, 393, .inl qo4))] := hD
    refine lv_aload_n hx hb dX2_appendParagraph_30 rfl (lv_at hl 0 rfl) ?_
    refine lv_iload_n hx hb dX2_appendParagraph_31 rfl (lv_at hl 1 rfl) ?_
    refine lv_aload_n hx hb dX2_appendParagraph_32 rfl (lv_at hl 0 rfl) ?_
    refine lv_iload_n hx hb dX2_appendParagraph_33 rfl (lv_at hl 1 rfl) ?_
    replace hf := bd_some hf
    obtain ⟨qo5, hqo5, hf⟩ := hf
    refine g_Vi (As := [.int i1]) (rest := [.int i1, .ref a_t]) (wr := []) ⟨hx, hb, hml, hown, hts⟩ (k_X2_blocksOf l D cI cC a_t a_cells i1 qo4 qo5 hqo5) (cwV 1 hts gX2_appendParagraph_X2_blocksOf rfl rfl rfl (by decide +kernel) ⟨Nat.le_of_ble_eq_true rfl, Nat.le_of_ble_eq_true rfl⟩) hK hP hD hS hA 2 0 rfl rfl rfl [0, 1] [] rfl rfl rfl rfl rfl (by decide) rfl hl.1 rfl (Nat.le_of_ble_eq_true rfl) dX2_appendParagraph_34 (Nat.zero_le _) (Nat.zero_le _) (fun H locs hP hD hS => ?_)
    have hP : va_P D vwCl [(a_t, .inr (2, [.ref a_cells])), (a_cells, .inl (cI, 393, .inl qo4))] H := hP
    have hD : va_D A [(a_t, .inr (2, [.ref a_cells])), (a_cells, .inl (cI, 393, .inl qo4))] := hD
    refine lv_iconst (v := 1) hx hb dX2_appendParagraph_37 (by decide) ?_
    refine lv_iadd hx hb dX2_appendParagraph_38 ?_
    replace hf := bd_some hf
    obtain ⟨qo6, hqo6, hf⟩ := hf
    refine g_Vv (As := [.int i1, .int (qo5 + 1)]) (rest := []) (wr := []) ⟨hx, hb, hml, hown, hts⟩ (k_X2_changeBlocks l D cI cC a_t a_cells i1 (qo5 + 1) qo4 qo6 hqo6) (cwV 2 hts gX2_appendParagraph_X2_changeBlocks rfl rfl rfl (by decide +kernel) ⟨Nat.le_of_ble_eq_true rfl, Nat.le_of_ble_eq_true rfl⟩) hK hP hD hS hA 2 0 rfl rfl rfl [0, 1] [] rfl rfl rfl rfl rfl (by decide) rfl hl.1 rfl (Nat.le_of_ble_eq_true rfl) dX2_appendParagraph_39 (Nat.zero_le _) (Nat.zero_le _) (fun H locs hP hD hS => ?_)
    have hP : va_P D vwCl [(a_t, .inr (2, [.ref a_cells])), (a_cells, .inl (cI, 393, .inl qo6))] H := hP
    have hD : va_D A [(a_t, .inr (2, [.ref a_cells])), (a_cells, .inl (cI, 393, .inl qo6))] := hD
    have ho := Option.some.inj hf
    subst ho
    exact hret dX2_appendParagraph_42 (hP.sub (ws' := [(a_t, .inr (2, [.ref a_cells])), (a_cells, .inl (cI, 393, .inl qo6))]) [0, 1] rfl) (hD.sub (ws' := [(a_t, .inr (2, [.ref a_cells])), (a_cells, .inl (cI, 393, .inl qo6))]) [0, 1] (by decide) rfl) hS
def fX4_writeLineless (n_p1 : Nat) (i1 : Int32) (i2 : Int32) (i3 : Int32) (v_p1 : Nat → Int32) : Option ((Nat → Int32)) :=
  if i1 < 0 then (some v_p1) else (if i1 ≤ ((Int32.ofNat n_p1) - 6) then (aset n_p1 v_p1 (i1 + 0) i2 fun qg1 => aset n_p1 qg1 (i1 + 1) ((-5)) fun qg2 => aset n_p1 qg2 (i1 + 2) ((-5)) fun qg3 => aset n_p1 qg3 (i1 + 3) ((-5)) fun qg4 => aset n_p1 qg4 (i1 + 4) ((-5)) fun qg5 => aset n_p1 qg5 (i1 + 5) i3 fun qg6 => some qg6) else (some v_p1))
def rX4_writeLineless : Room := { frames := 0, cells := 0, slots := 0, locals := 0 }
set_option maxHeartbeats 4000000 in
set_option maxRecDepth 100000 in
theorem k_X4_writeLineless (l : Launch) (D : va_G) (cI cC : ClassId) (a_p1 : Nat) (n_p1 : Nat) (i1 : Int32) (i2 : Int32) (i3 : Int32) (v_p1 : Nat → Int32) (o : (Nat → Int32)) (hf : fX4_writeLineless n_p1 i1 i2 i3 v_p1 = some o) : CTv l yX4_writeLineless wsX4_writeLineless rX4_writeLineless D cI cC [.ref a_p1, .int i1, .int i2, .int i3] [(a_p1, .inl (cI, n_p1, .inl v_p1))] [(a_p1, .inl (cI, n_p1, .inl o))]  := by
  refine CTv_of (cc := cX4_writeLineless) (maxL := 4) (by decide) rfl (Nat.le_of_ble_eq_true rfl) ?_
  intro p e s m args below meth c A Q ls C0 hA hP hD hl hret
  obtain ⟨hx, hb, hml, hts, hown, hK⟩ := C0
  have hown : s.vm.findClass RX4 = some m.cls := hown
  have hS : va_S A s.heap s.heap [] := va_S.rf
  have hl : lv_has ls 4 [(0, .ref a_p1), (1, .int i1), (2, .int i2), (3, .int i3)] := hl
  unfold fX4_writeLineless at hf
  refine lv_iload_n hx hb dX4_writeLineless_0 rfl (lv_at hl 1 rfl) ?_
  refine lv_if_lt (tgt := 13) hx hb dX4_writeLineless_1 (by decide) (fun hc => ?_) (fun hc => ?_)
  · replace hf := ip hc hf
    have ho := Option.some.inj hf
    subst ho
    exact hret dX4_writeLineless_13 (hP.sub (ws' := [(a_p1, .inl (cI, n_p1, .inl v_p1))]) [0] rfl) (hD.sub (ws' := [(a_p1, .inl (cI, n_p1, .inl v_p1))]) [0] (by decide) rfl) hS
  · replace hf := ineg hc hf
    refine lv_iload_n hx hb dX4_writeLineless_4 rfl (lv_at hl 1 rfl) ?_
    refine lv_aload_n hx hb dX4_writeLineless_5 rfl (lv_at hl 0 rfl) ?_
    refine va_alen hx hb hK.1 hP 0 0 rfl rfl rfl dX4_writeLineless_6 ?_
    refine lv_bipush (v := 6) hx hb dX4_writeLineless_7 (by decide) ?_
    refine lv_isub hx hb dX4_writeLineless_9 ?_
    refine lv_icmp_le (tgt := 14) hx hb dX4_writeLineless_10 (by decide) (fun hc => ?_) (fun hc => ?_)
    · replace hf := ip hc hf
      refine lv_aload_n hx hb dX4_writeLineless_14 rfl (lv_at hl 0 rfl) ?_
      refine lv_iload_n hx hb dX4_writeLineless_15 rfl (lv_at hl 1 rfl) ?_
      refine lv_iconst (v := 0) hx hb dX4_writeLineless_16 (by decide) ?_
      refine lv_iadd hx hb dX4_writeLineless_17 ?_
      refine lv_iload_n hx hb dX4_writeLineless_18 rfl (lv_at hl 2 rfl) ?_
      refine g_iast hx hb hK.1 hP hD hS 0 0 rfl rfl hf dX4_writeLineless_19 (fun qg1 H locs hf hP hD hS => ?_)
      have hP : va_P D vwCl [(a_p1, .inl (cI, n_p1, .inl qg1))] H := hP
      have hD : va_D A [(a_p1, .inl (cI, n_p1, .inl qg1))] := hD
      refine lv_aload_n hx hb dX4_writeLineless_20 rfl (lv_at hl 0 rfl) ?_
      refine lv_iload_n hx hb dX4_writeLineless_21 rfl (lv_at hl 1 rfl) ?_
      refine lv_iconst (v := 1) hx hb dX4_writeLineless_22 (by decide) ?_
      refine lv_iadd hx hb dX4_writeLineless_23 ?_
      refine lv_bipush (v := (-5)) hx hb dX4_writeLineless_24 (by decide) ?_
      refine g_iast hx hb hK.1 hP hD hS 0 0 rfl rfl hf dX4_writeLineless_26 (fun qg2 H locs hf hP hD hS => ?_)
      have hP : va_P D vwCl [(a_p1, .inl (cI, n_p1, .inl qg2))] H := hP
      have hD : va_D A [(a_p1, .inl (cI, n_p1, .inl qg2))] := hD
      refine lv_aload_n hx hb dX4_writeLineless_27 rfl (lv_at hl 0 rfl) ?_
      refine lv_iload_n hx hb dX4_writeLineless_28 rfl (lv_at hl 1 rfl) ?_
      refine lv_iconst (v := 2) hx hb dX4_writeLineless_29 (by decide) ?_
      refine lv_iadd hx hb dX4_writeLineless_30 ?_
      refine lv_bipush (v := (-5)) hx hb dX4_writeLineless_31 (by decide) ?_
      refine g_iast hx hb hK.1 hP hD hS 0 0 rfl rfl hf dX4_writeLineless_33 (fun qg3 H locs hf hP hD hS => ?_)
      have hP : va_P D vwCl [(a_p1, .inl (cI, n_p1, .inl qg3))] H := hP
      have hD : va_D A [(a_p1, .inl (cI, n_p1, .inl qg3))] := hD
      refine lv_aload_n hx hb dX4_writeLineless_34 rfl (lv_at hl 0 rfl) ?_
      refine lv_iload_n hx hb dX4_writeLineless_35 rfl (lv_at hl 1 rfl) ?_
      refine lv_iconst (v := 3) hx hb dX4_writeLineless_36 (by decide) ?_
      refine lv_iadd hx hb dX4_writeLineless_37 ?_
      refine lv_bipush (v := (-5)) hx hb dX4_writeLineless_38 (by decide) ?_
      refine g_iast hx hb hK.1 hP hD hS 0 0 rfl rfl hf dX4_writeLineless_40 (fun qg4 H locs hf hP hD hS => ?_)
      have hP : va_P D vwCl [(a_p1, .inl (cI, n_p1, .inl qg4))] H := hP
      have hD : va_D A [(a_p1, .inl (cI, n_p1, .inl qg4))] := hD
      refine lv_aload_n hx hb dX4_writeLineless_41 rfl (lv_at hl 0 rfl) ?_
      refine lv_iload_n hx hb dX4_writeLineless_42 rfl (lv_at hl 1 rfl) ?_
      refine lv_iconst (v := 4) hx hb dX4_writeLineless_43 (by decide) ?_
      refine lv_iadd hx hb dX4_writeLineless_44 ?_
      refine lv_bipush (v := (-5)) hx hb dX4_writeLineless_45 (by decide) ?_
      refine g_iast hx hb hK.1 hP hD hS 0 0 rfl rfl hf dX4_writeLineless_47 (fun qg5 H locs hf hP hD hS => ?_)
      have hP : va_P D vwCl [(a_p1, .inl (cI, n_p1, .inl qg5))] H := hP
      have hD : va_D A [(a_p1, .inl (cI, n_p1, .inl qg5))] := hD
      refine lv_aload_n hx hb dX4_writeLineless_48 rfl (lv_at hl 0 rfl) ?_
      refine lv_iload_n hx hb dX4_writeLineless_49 rfl (lv_at hl 1 rfl) ?_
      refine lv_iconst (v := 5) hx hb dX4_writeLineless_50 (by decide) ?_
      refine lv_iadd hx hb dX4_writeLineless_51 ?_
      refine lv_iload_n hx hb dX4_writeLineless_52 rfl (lv_at hl 3 rfl) ?_
      refine g_iast hx hb hK.1 hP hD hS 0 0 rfl rfl hf dX4_writeLineless_53 (fun qg6 H locs hf hP hD hS => ?_)
      have hP : va_P D vwCl [(a_p1, .inl (cI, n_p1, .inl qg6))] H := hP
      have hD : va_D A [(a_p1, .inl (cI, n_p1, .inl qg6))] := hD
      have ho := Option.some.inj hf
      subst ho
      exact hret dX4_writeLineless_54 (hP.sub (ws' := [(a_p1, .inl (cI, n_p1, .inl qg6))]) [0] rfl) (hD.sub (ws' := [(a_p1, .inl (cI, n_p1, .inl qg6))]) [0] (by decide) rfl) hS
    · replace hf := ineg hc hf
      have ho := Option.some.inj hf
      subst ho
      exact hret dX4_writeLineless_13 (hP.sub (ws' := [(a_p1, .inl (cI, n_p1, .inl v_p1))]) [0] rfl) (hD.sub (ws' := [(a_p1, .inl (cI, n_p1, .inl v_p1))]) [0] (by decide) rfl) hS
def fX2_appendLineless (i1 : Int32) (i2 : Int32) (i3 : Int32) (v_cells : Nat → Int32) : Option ((Nat → Int32)) :=
  bd (fX2_hasRoom i1 v_cells) fun qo1 => if qo1 = 0 then (some v_cells) else (bd (fX2_blocksOf i1 v_cells) fun qo2 => bd (fX2_cellAt i1 qo2) fun qo3 => bd (fX4_writeLineless 393 qo3 i2 i3 v_cells) fun qo4 => bd (fX2_blocksOf i1 qo4) fun qo5 => bd (fX2_changeBlocks i1 (qo5 + 1) qo4) fun qo6 => some qo6)
def rX2_appendLineless : Room := { frames := 3, cells := 0, slots := 0, locals := 62 }
theorem hin_X2_appendLineless_X2 : ∀ w ∈ wsX20, w ∈ wsX2_appendLineless := fun _ h => List.mem_cons_of_mem _ (List.mem_append_right _ (h))
set_option maxHeartbeats 4000000 in
set_option maxRecDepth 100000 in
theorem k_X2_appendLineless (l : Launch) (D : va_G) (cI cC : ClassId) (a_t : Nat) (a_cells : Nat) (i1 : Int32) (i2 : Int32) (i3 : Int32) (v_cells : Nat → Int32) (o : (Nat → Int32)) (hf : fX2_appendLineless i1 i2 i3 v_cells = some o) : CTv l yX2_appendLineless wsX2_appendLineless rX2_appendLineless D cI cC [.ref a_t, .int i1, .int i2, .int i3] [(a_t, .inr (2, [.ref a_cells])), (a_cells, .inl (cI, 393, .inl v_cells))] [(a_t, .inr (2, [.ref a_cells])), (a_cells, .inl (cI, 393, .inl o))]  := by
  refine CTv_of (cc := cX2_appendLineless) (maxL := 4) (by decide) rfl (Nat.le_of_ble_eq_true rfl) ?_
  intro p e s m args below meth c A Q ls C0 hA hP hD hl hret
  obtain ⟨hx, hb, hml, hts, hown, hK⟩ := C0
  have hown : s.vm.findClass RX2 = some m.cls := hown
  have hS : va_S A s.heap s.heap [] := va_S.rf
  have hl : lv_has ls 4 [(0, .ref a_t), (1, .int i1), (2, .int i2), (3, .int i3)] := hl
  have hinX2 := hin_X2_appendLineless_X2
  unfold fX2_appendLineless at hf
  refine lv_aload_n hx hb dX2_appendLineless_0 rfl (lv_at hl 0 rfl) ?_
  refine lv_iload_n hx hb dX2_appendLineless_1 rfl (lv_at hl 1 rfl) ?_
  replace hf := bd_some hf
  obtain ⟨qo1, hqo1, hf⟩ := hf
  refine g_Vi (As := [.int i1]) (rest := []) (wr := []) ⟨hx, hb, hml, hown, hts⟩ (k_X2_hasRoom l D cI cC a_t a_cells i1 v_cells qo1 hqo1) (cwV 1 hts gX2_appendLineless_X2_hasRoom rfl rfl rfl (by decide +kernel) ⟨Nat.le_of_ble_eq_true rfl, Nat.le_of_ble_eq_true rfl⟩) hK hP hD hS hA 2 0 rfl rfl rfl [0, 1] [] rfl rfl rfl rfl rfl (by decide) rfl hl.1 rfl (Nat.le_of_ble_eq_true rfl) dX2_appendLineless_2 (Nat.zero_le _) (Nat.zero_le _) (fun H locs hP hD hS => ?_)
  have hP : va_P D vwCl [(a_t, .inr (2, [.ref a_cells])), (a_cells, .inl (cI, 393, .inl v_cells))] H := hP
  have hD : va_D A [(a_t, .inr (2, [.ref a_cells])), (a_cells, .inl (cI, 393, .inl v_cells))] := hD
  refine lv_if_eq (tgt := 38) hx hb dX2_appendLineless_5 (by decide) (fun hc => ?_) (fun hc => ?_)
  · replace hf := ip hc hf
    have ho := Option.some.inj hf
    subst ho
    exact hret dX2_appendLineless_38 (hP.sub (ws' := [(a_t, .inr (2, [.ref a_cells])), (a_cells, .inl (cI, 393, .inl v_cells))]) [0, 1] rfl) (hD.sub (ws' := [(a_t, .inr (2, [.ref a_cells])), (a_cells, .inl (cI, 393, .inl v_cells))]) [0, 1] (by decide) rfl) hS
  · replace hf := ineg hc hf
    refine lv_aload_n hx hb dX2_appendLineless_8 rfl (lv_at hl 0 rfl) ?_
    refine va_get (D := D) (ci := 2) (v := .ref a_cells) (C := RX2) (T := TX2) (N := 1) hx hb hts hinX2 hown hK.1 hP 0 rfl rfl 0 (by decide) (hts (.fieldLink RX2 9 "BaselineGrid$Page" "cells" "[I") (List.mem_of_getElem? (i := 1) rfl)) (fun _ h9 => h9) rfl dX2_appendLineless_9 ?_
    refine lv_iload_n hx hb dX2_appendLineless_12 rfl (lv_at hl 1 rfl) ?_
    refine lv_aload_n hx hb dX2_appendLineless_13 rfl (lv_at hl 0 rfl) ?_
    refine lv_iload_n hx hb dX2_appendLineless_14 rfl (lv_at hl 1 rfl) ?_
    replace hf := bd_some hf
    obtain ⟨qo2, hqo2, hf⟩ := hf
    refine g_Vi (As := [.int i1]) (rest := [.int i1, .ref a_cells]) (wr := []) ⟨hx, hb, hml, hown, hts⟩ (k_X2_blocksOf l D cI cC a_t a_cells i1 v_cells qo2 hqo2) (cwV 1 hts gX2_appendLineless_X2_blocksOf rfl rfl rfl (by decide +kernel) ⟨Nat.le_of_ble_eq_true rfl, Nat.le_of_ble_eq_true rfl⟩) hK hP hD hS hA 2 0 rfl rfl rfl [0, 1] [] rfl rfl rfl rfl rfl (by decide) rfl hl.1 rfl (Nat.le_of_ble_eq_true rfl) dX2_appendLineless_15 (Nat.zero_le _) (Nat.zero_le _) (fun H locs hP hD hS => ?_)
    have hP : va_P D vwCl [(a_t, .inr (2, [.ref a_cells])), (a_cells, .inl (cI, 393, .inl v_cells))] H := hP
    have hD : va_D A [(a_t, .inr (2, [.ref a_cells])), (a_cells, .inl (cI, 393, .inl v_cells))] := hD
    replace hf := bd_some hf
    obtain ⟨qo3, hqo3, hf⟩ := hf
    refine g_Si (As := [.int i1, .int qo2]) (rest := [.ref a_cells]) (wr := [(a_t, .inr (2, [.ref a_cells])), (a_cells, .inl (cI, 393, .inl v_cells))]) ⟨hx, hb, hml, hown, hts⟩ (k_X2_cellAt l D cI cC i1 qo2 qo3 hqo3) (va_cwS 2 hts gX2_appendLineless_X2_cellAt rfl rfl rfl (by decide +kernel) ⟨Nat.le_of_ble_eq_true rfl, Nat.le_of_ble_eq_true rfl⟩) hK hP hD hS hA [] [0, 1] rfl rfl rfl rfl rfl (by decide) rfl hl.1 rfl (Nat.le_of_ble_eq_true rfl) dX2_appendLineless_18 (Nat.zero_le _) (Nat.zero_le _) (fun H locs hP hD hS => ?_)
    have hP : va_P D vwCl [(a_t, .inr (2, [.ref a_cells])), (a_cells, .inl (cI, 393, .inl v_cells))] H := hP
    have hD : va_D A [(a_t, .inr (2, [.ref a_cells])), (a_cells, .inl (cI, 393, .inl v_cells))] := hD
    refine lv_iload_n hx hb dX2_appendLineless_21 rfl (lv_at hl 2 rfl) ?_
    refine lv_iload_n hx hb dX2_appendLineless_22 rfl (lv_at hl 3 rfl) ?_
    replace hf := bd_some hf
    obtain ⟨qo4, hqo4, hf⟩ := hf
    refine g_Nv (As := [.ref a_cells, .int qo3, .int i2, .int i3]) (rest := []) (wr := [(a_t, .inr (2, [.ref a_cells]))]) (host := RX4) ⟨hx, hb, hml, hown, hts⟩ (k_X4_writeLineless l D cI cC a_cells 393 qo3 i2 i3 v_cells qo4 hqo4) (va_cnB 4 hts gX2_appendLineless_X4_writeLineless_n49 rfl rfl rfl (hK.2.1 _ (List.mem_of_getElem? (i := 7) rfl)) (hts (.initialized RX4) (List.mem_of_getElem? (i := 8) rfl)) (by decide +kernel) ⟨Nat.le_of_ble_eq_true rfl, Nat.le_of_ble_eq_true rfl⟩) (hts (.static yX4_writeLineless) (List.mem_of_getElem? (i := 17) rfl)) hK hP hD hS hA [1] [0] rfl rfl rfl rfl rfl (by decide) rfl hl.1 rfl (Nat.le_of_ble_eq_true rfl) dX2_appendLineless_23 (Nat.zero_le _) (Nat.zero_le _) (fun H locs hP hD hS => ?_)
    have hP : va_P D vwCl [(a_t, .inr (2, [.ref a_cells])), (a_cells, .inl (cI, 393, .inl qo4))] H := hP
    have hD : va_D A [(a_t, .inr (2, [.ref a_cells])), (a_cells, .inl (cI, 393, .inl qo4))] := hD
    refine lv_aload_n hx hb dX2_appendLineless_26 rfl (lv_at hl 0 rfl) ?_
    refine lv_iload_n hx hb dX2_appendLineless_27 rfl (lv_at hl 1 rfl) ?_
    refine lv_aload_n hx hb dX2_appendLineless_28 rfl (lv_at hl 0 rfl) ?_
    refine lv_iload_n hx hb dX2_appendLineless_29 rfl (lv_at hl 1 rfl) ?_
    replace hf := bd_some hf
    obtain ⟨qo5, hqo5, hf⟩ := hf
    refine g_Vi (As := [.int i1]) (rest := [.int i1, .ref a_t]) (wr := []) ⟨hx, hb, hml, hown, hts⟩ (k_X2_blocksOf l D cI cC a_t a_cells i1 qo4 qo5 hqo5) (cwV 1 hts gX2_appendLineless_X2_blocksOf rfl rfl rfl (by decide +kernel) ⟨Nat.le_of_ble_eq_true rfl, Nat.le_of_ble_eq_true rfl⟩) hK hP hD hS hA 2 0 rfl rfl rfl [0, 1] [] rfl rfl rfl rfl rfl (by decide) rfl hl.1 rfl (Nat.le_of_ble_eq_true rfl) dX2_appendLineless_30 (Nat.zero_le _) (Nat.zero_le _) (fun H locs hP hD hS => ?_)
    have hP : va_P D vwCl [(a_t, .inr (2, [.ref a_cells])), (a_cells, .inl (cI, 393, .inl qo4))] H := hP
    have hD : va_D A [(a_t, .inr (2, [.ref a_cells])), (a_cells, .inl (cI, 393, .inl qo4))] := hD
    refine lv_iconst (v := 1) hx hb dX2_appendLineless_33 (by decide) ?_
    refine lv_iadd hx hb dX2_appendLineless_34 ?_
    replace hf := bd_some hf
    obtain ⟨qo6, hqo6, hf⟩ := hf
    refine g_Vv (As := [.int i1, .int (qo5 + 1)]) (rest := []) (wr := []) ⟨hx, hb, hml, hown, hts⟩ (k_X2_changeBlocks l D cI cC a_t a_cells i1 (qo5 + 1) qo4 qo6 hqo6) (cwV 2 hts gX2_appendLineless_X2_changeBlocks rfl rfl rfl (by decide +kernel) ⟨Nat.le_of_ble_eq_true rfl, Nat.le_of_ble_eq_true rfl⟩) hK hP hD hS hA 2 0 rfl rfl rfl [0, 1] [] rfl rfl rfl rfl rfl (by decide) rfl hl.1 rfl (Nat.le_of_ble_eq_true rfl) dX2_appendLineless_35 (Nat.zero_le _) (Nat.zero_le _) (fun H locs hP hD hS => ?_)
    have hP : va_P D vwCl [(a_t, .inr (2, [.ref a_cells])), (a_cells, .inl (cI, 393, .inl qo6))] H := hP
    have hD : va_D A [(a_t, .inr (2, [.ref a_cells])), (a_cells, .inl (cI, 393, .inl qo6))] := hD
    have ho := Option.some.inj hf
    subst ho
    exact hret dX2_appendLineless_38 (hP.sub (ws' := [(a_t, .inr (2, [.ref a_cells])), (a_cells, .inl (cI, 393, .inl qo6))]) [0, 1] rfl) (hD.sub (ws' := [(a_t, .inr (2, [.ref a_cells])), (a_cells, .inl (cI, 393, .inl qo6))]) [0, 1] (by decide) rfl) hS
def fX4_copyCells (n_p1 : Nat) (n_p3 : Nat) (i1 : Int32) (i3 : Int32) (i4 : Int32) (v_p1 : Nat → Int32) (v_p3 : Nat → Int32) : Option ((Nat → Int32)) :=
  if i4 < 0 then (some v_p3) else (if i1 < 0 then (some v_p3) else (if i3 < 0 then (some v_p3) else (if ((Int32.ofNat n_p1) - i4) < i1 then (some v_p3) else (if i3 ≤ ((Int32.ofNat n_p3) - i4) then (acpy n_p1 n_p3 v_p1 v_p3 i1 i3 i4 fun qg1 => some qg1) else (some v_p3)))))
def rX4_copyCells : Room := { frames := 1, cells := 0, slots := 0, locals := 26 }
set_option maxHeartbeats 4000000 in
set_option maxRecDepth 100000 in
theorem k_X4_copyCells (l : Launch) (D : va_G) (cI cC : ClassId) (a_p1 : Nat) (a_p3 : Nat) (n_p1 : Nat) (n_p3 : Nat) (i1 : Int32) (i3 : Int32) (i4 : Int32) (v_p1 : Nat → Int32) (v_p3 : Nat → Int32) (o : (Nat → Int32)) (hf : fX4_copyCells n_p1 n_p3 i1 i3 i4 v_p1 v_p3 = some o) : CTv l yX4_copyCells wsX4_copyCells rX4_copyCells D cI cC [.ref a_p1, .int i1, .ref a_p3, .int i3, .int i4] [(a_p1, .inl (cI, n_p1, .inl v_p1)), (a_p3, .inl (cI, n_p3, .inl v_p3))] [(a_p1, .inl (cI, n_p1, .inl v_p1)), (a_p3, .inl (cI, n_p3, .inl o))]  := by
  refine CTv_of (cc := cX4_copyCells) (maxL := 5) (by decide) rfl (Nat.le_of_ble_eq_true rfl) ?_
  intro p e s m args below meth c A Q ls C0 hA hP hD hl hret
  obtain ⟨hx, hb, hml, hts, hown, hK⟩ := C0
  have hown : s.vm.findClass RX4 = some m.cls := hown
  have hS : va_S A s.heap s.heap [] := va_S.rf
  have hl : lv_has ls 5 [(0, .ref a_p1), (1, .int i1), (2, .ref a_p3), (3, .int i3), (4, .int i4)] := hl
  unfold fX4_copyCells at hf
  refine lv_iload hx hb dX4_copyCells_0 (lv_at hl 4 rfl) ?_
  refine lv_if_lt (tgt := 31) hx hb dX4_copyCells_2 (by decide) (fun hc => ?_) (fun hc => ?_)
  · replace hf := ip hc hf
    have ho := Option.some.inj hf
    subst ho
    exact hret dX4_copyCells_31 (hP.sub (ws' := [(a_p1, .inl (cI, n_p1, .inl v_p1)), (a_p3, .inl (cI, n_p3, .inl v_p3))]) [0, 1] rfl) (hD.sub (ws' := [(a_p1, .inl (cI, n_p1, .inl v_p1)), (a_p3, .inl (cI, n_p3, .inl v_p3))]) [0, 1] (by decide) rfl) hS
  · replace hf := ineg hc hf
    refine lv_iload_n hx hb dX4_copyCells_5 rfl (lv_at hl 1 rfl) ?_
    refine lv_if_lt (tgt := 31) hx hb dX4_copyCells_6 (by decide) (fun hc => ?_) (fun hc => ?_)
    · replace hf := ip hc hf
      have ho := Option.some.inj hf
      subst ho
      exact hret dX4_copyCells_31 (hP.sub (ws' := [(a_p1, .inl (cI, n_p1, .inl v_p1)), (a_p3, .inl (cI, n_p3, .inl v_p3))]) [0, 1] rfl) (hD.sub (ws' := [(a_p1, .inl (cI, n_p1, .inl v_p1)), (a_p3, .inl (cI, n_p3, .inl v_p3))]) [0, 1] (by decide) rfl) hS
    · replace hf := ineg hc hf
      refine lv_iload_n hx hb dX4_copyCells_9 rfl (lv_at hl 3 rfl) ?_
      refine lv_if_lt (tgt := 31) hx hb dX4_copyCells_10 (by decide) (fun hc => ?_) (fun hc => ?_)
      · replace hf := ip hc hf
        have ho := Option.some.inj hf
        subst ho
        exact hret dX4_copyCells_31 (hP.sub (ws' := [(a_p1, .inl (cI, n_p1, .inl v_p1)), (a_p3, .inl (cI, n_p3, .inl v_p3))]) [0, 1] rfl) (hD.sub (ws' := [(a_p1, .inl (cI, n_p1, .inl v_p1)), (a_p3, .inl (cI, n_p3, .inl v_p3))]) [0, 1] (by decide) rfl) hS
      · replace hf := ineg hc hf
        refine lv_iload_n hx hb dX4_copyCells_13 rfl (lv_at hl 1 rfl) ?_
        refine lv_aload_n hx hb dX4_copyCells_14 rfl (lv_at hl 0 rfl) ?_
        refine va_alen hx hb hK.1 hP 0 0 rfl rfl rfl dX4_copyCells_15 ?_
        refine lv_iload hx hb dX4_copyCells_16 (lv_at hl 4 rfl) ?_
        refine lv_isub hx hb dX4_copyCells_18 ?_
        refine lv_icmp_gt (tgt := 31) hx hb dX4_copyCells_19 (by decide) (fun hc => ?_) (fun hc => ?_)
        · replace hf := ip hc hf
          have ho := Option.some.inj hf
          subst ho
          exact hret dX4_copyCells_31 (hP.sub (ws' := [(a_p1, .inl (cI, n_p1, .inl v_p1)), (a_p3, .inl (cI, n_p3, .inl v_p3))]) [0, 1] rfl) (hD.sub (ws' := [(a_p1, .inl (cI, n_p1, .inl v_p1)), (a_p3, .inl (cI, n_p3, .inl v_p3))]) [0, 1] (by decide) rfl) hS
        · replace hf := ineg hc hf
          refine lv_iload_n hx hb dX4_copyCells_22 rfl (lv_at hl 3 rfl) ?_
          refine lv_aload_n hx hb dX4_copyCells_23 rfl (lv_at hl 2 rfl) ?_
          refine va_alen hx hb hK.1 hP 1 0 rfl rfl rfl dX4_copyCells_24 ?_
          refine lv_iload hx hb dX4_copyCells_25 (lv_at hl 4 rfl) ?_
          refine lv_isub hx hb dX4_copyCells_27 ?_
          refine lv_icmp_le (tgt := 32) hx hb dX4_copyCells_28 (by decide) (fun hc => ?_) (fun hc => ?_)
          · replace hf := ip hc hf
            refine lv_aload_n hx hb dX4_copyCells_32 rfl (lv_at hl 0 rfl) ?_
            refine lv_iload_n hx hb dX4_copyCells_33 rfl (lv_at hl 1 rfl) ?_
            refine lv_aload_n hx hb dX4_copyCells_34 rfl (lv_at hl 2 rfl) ?_
            refine lv_iload_n hx hb dX4_copyCells_35 rfl (lv_at hl 3 rfl) ?_
            refine lv_iload hx hb dX4_copyCells_36 (lv_at hl 4 rfl) ?_
            refine g_copy hx hb (hml.trans hl.1.symm) hown (hts (.methodLink RX4 262 arraycopyName) (List.mem_of_getElem? (i := 1) rfl)) (hts (.native arraycopyName) (List.mem_of_getElem? (i := 2) rfl)) (hts (.static arraycopyName) (List.mem_of_getElem? (i := 3) rfl)) (hts (.initialized "java/lang/System") (List.mem_of_getElem? (i := 4) rfl)) hK.1 hP hD hS 0 1 0 rfl rfl rfl hf (Nat.le_of_ble_eq_true rfl) (Nat.le_of_ble_eq_true rfl) dX4_copyCells_38 (fun qg1 H locs hf hP hD hS => ?_)
            have hP : va_P D vwCl [(a_p1, .inl (cI, n_p1, .inl v_p1)), (a_p3, .inl (cI, n_p3, .inl qg1))] H := hP
            have hD : va_D A [(a_p1, .inl (cI, n_p1, .inl v_p1)), (a_p3, .inl (cI, n_p3, .inl qg1))] := hD
            have ho := Option.some.inj hf
            subst ho
            exact hret dX4_copyCells_41 (hP.sub (ws' := [(a_p1, .inl (cI, n_p1, .inl v_p1)), (a_p3, .inl (cI, n_p3, .inl qg1))]) [0, 1] rfl) (hD.sub (ws' := [(a_p1, .inl (cI, n_p1, .inl v_p1)), (a_p3, .inl (cI, n_p3, .inl qg1))]) [0, 1] (by decide) rfl) hS
          · replace hf := ineg hc hf
            have ho := Option.some.inj hf
            subst ho
            exact hret dX4_copyCells_31 (hP.sub (ws' := [(a_p1, .inl (cI, n_p1, .inl v_p1)), (a_p3, .inl (cI, n_p3, .inl v_p3))]) [0, 1] rfl) (hD.sub (ws' := [(a_p1, .inl (cI, n_p1, .inl v_p1)), (a_p3, .inl (cI, n_p3, .inl v_p3))]) [0, 1] (by decide) rfl) hS
def fX2_appendRows (n_p2 : Nat) (i1 : Int32) (i3 : Int32) (v_cells : Nat → Int32) (v_p2 : Nat → Int32) : Option ((Nat → Int32)) :=
  bd (fX4_isColumn i1) fun qo1 => if qo1 = 0 then (some v_cells) else (if i3 < 0 then (some v_cells) else (bd (fX2_blocksOf i1 v_cells) fun qo2 => if (16 - qo2) < i3 then (some v_cells) else (bd (fX2_blocksOf i1 v_cells) fun qo3 => bd (fX2_cellAt i1 qo3) fun qo4 => bd (fX4_copyCells n_p2 393 0 qo4 (i3 * 6) v_p2 v_cells) fun qo5 => bd (fX2_blocksOf i1 qo5) fun qo6 => bd (fX2_changeBlocks i1 (qo6 + i3) qo5) fun qo7 => some qo7)))
def rX2_appendRows : Room := { frames := 2, cells := 0, slots := 0, locals := 50 }
theorem hin_X2_appendRows_X2 : ∀ w ∈ wsX20, w ∈ wsX2_appendRows := fun _ h => List.mem_cons_of_mem _ (List.mem_append_right _ (h))
set_option maxHeartbeats 4000000 in
set_option maxRecDepth 100000 in
theorem k_X2_appendRows (l : Launch) (D : va_G) (cI cC : ClassId) (a_t : Nat) (a_cells : Nat) (a_p2 : Nat) (n_p2 : Nat) (i1 : Int32) (i3 : Int32) (v_cells : Nat → Int32) (v_p2 : Nat → Int32) (o : (Nat → Int32)) (hf : fX2_appendRows n_p2 i1 i3 v_cells v_p2 = some o) : CTv l yX2_appendRows wsX2_appendRows rX2_appendRows D cI cC [.ref a_t, .int i1, .ref a_p2, .int i3] [(a_t, .inr (2, [.ref a_cells])), (a_cells, .inl (cI, 393, .inl v_cells)), (a_p2, .inl (cI, n_p2, .inl v_p2))] [(a_t, .inr (2, [.ref a_cells])), (a_cells, .inl (cI, 393, .inl o)), (a_p2, .inl (cI, n_p2, .inl v_p2))]  := by
  refine CTv_of (cc := cX2_appendRows) (maxL := 4) (by decide) rfl (Nat.le_of_ble_eq_true rfl) ?_
  intro p e s m args below meth c A Q ls C0 hA hP hD hl hret
  obtain ⟨hx, hb, hml, hts, hown, hK⟩ := C0
  have hown : s.vm.findClass RX2 = some m.cls := hown
  have hS : va_S A s.heap s.heap [] := va_S.rf
  have hl : lv_has ls 4 [(0, .ref a_t), (1, .int i1), (2, .ref a_p2), (3, .int i3)] := hl
  have hinX2 := hin_X2_appendRows_X2
  unfold fX2_appendRows at hf
  refine lv_iload_n hx hb dX2_appendRows_0 rfl (lv_at hl 1 rfl) ?_
  replace hf := bd_some hf
  obtain ⟨qo1, hqo1, hf⟩ := hf
  refine g_Ni (As := [.int i1]) (rest := []) (wr := [(a_t, .inr (2, [.ref a_cells])), (a_cells, .inl (cI, 393, .inl v_cells)), (a_p2, .inl (cI, n_p2, .inl v_p2))]) (host := RX4) ⟨hx, hb, hml, hown, hts⟩ (k_X4_isColumn l D cI cC i1 qo1 hqo1) (va_cnB 1 hts gX2_appendRows_X4_isColumn_n18 rfl rfl rfl (hK.2.1 _ (List.mem_of_getElem? (i := 5) rfl)) (hts (.initialized RX4) (List.mem_of_getElem? (i := 3) rfl)) (by decide +kernel) ⟨Nat.le_of_ble_eq_true rfl, Nat.le_of_ble_eq_true rfl⟩) (hts (.static yX4_isColumn) (List.mem_of_getElem? (i := 2) rfl)) hK hP hD hS hA [] [0, 1, 2] rfl rfl rfl rfl rfl (by decide) rfl hl.1 rfl (Nat.le_of_ble_eq_true rfl) dX2_appendRows_1 (Nat.zero_le _) (Nat.zero_le _) (fun H locs hP hD hS => ?_)
  have hP : va_P D vwCl [(a_t, .inr (2, [.ref a_cells])), (a_cells, .inl (cI, 393, .inl v_cells)), (a_p2, .inl (cI, n_p2, .inl v_p2))] H := hP
  have hD : va_D A [(a_t, .inr (2, [.ref a_cells])), (a_cells, .inl (cI, 393, .inl v_cells)), (a_p2, .inl (cI, n_p2, .inl v_p2))] := hD
  refine lv_if_eq (tgt := 57) hx hb dX2_appendRows_4 (by decide) (fun hc => ?_) (fun hc => ?_)
  · replace hf := ip hc hf
    have ho := Option.some.inj hf
    subst ho
    exact hret dX2_appendRows_57 (hP.sub (ws' := [(a_t, .inr (2, [.ref a_cells])), (a_cells, .inl (cI, 393, .inl v_cells)), (a_p2, .inl (cI, n_p2, .inl v_p2))]) [0, 1, 2] rfl) (hD.sub (ws' := [(a_t, .inr (2, [.ref a_cells])), (a_cells, .inl (cI, 393, .inl v_cells)), (a_p2, .inl (cI, n_p2, .inl v_p2))]) [0, 1, 2] (by decide) rfl) hS
  · replace hf := ineg hc hf
    refine lv_iload_n hx hb dX2_appendRows_7 rfl (lv_at hl 3 rfl) ?_
    refine lv_if_lt (tgt := 57) hx hb dX2_appendRows_8 (by decide) (fun hc => ?_) (fun hc => ?_)
    · replace hf := ip hc hf
      have ho := Option.some.inj hf
      subst ho
      exact hret dX2_appendRows_57 (hP.sub (ws' := [(a_t, .inr (2, [.ref a_cells])), (a_cells, .inl (cI, 393, .inl v_cells)), (a_p2, .inl (cI, n_p2, .inl v_p2))]) [0, 1, 2] rfl) (hD.sub (ws' := [(a_t, .inr (2, [.ref a_cells])), (a_cells, .inl (cI, 393, .inl v_cells)), (a_p2, .inl (cI, n_p2, .inl v_p2))]) [0, 1, 2] (by decide) rfl) hS
    · replace hf := ineg hc hf
      refine lv_iload_n hx hb dX2_appendRows_11 rfl (lv_at hl 3 rfl) ?_
      refine lv_bipush (v := 16) hx hb dX2_appendRows_12 (by decide) ?_
      refine lv_aload_n hx hb dX2_appendRows_14 rfl (lv_at hl 0 rfl) ?_
      refine lv_iload_n hx hb dX2_appendRows_15 rfl (lv_at hl 1 rfl) ?_
      replace hf := bd_some hf
      obtain ⟨qo2, hqo2, hf⟩ := hf
      refine g_Vi (As := [.int i1]) (rest := [.int 16, .int i3]) (wr := [(a_p2, .inl (cI, n_p2, .inl v_p2))]) ⟨hx, hb, hml, hown, hts⟩ (k_X2_blocksOf l D cI cC a_t a_cells i1 v_cells qo2 hqo2) (cwV 1 hts gX2_appendRows_X2_blocksOf rfl rfl rfl (by decide +kernel) ⟨Nat.le_of_ble_eq_true rfl, Nat.le_of_ble_eq_true rfl⟩) hK hP hD hS hA 2 0 rfl rfl rfl [0, 1] [2] rfl rfl rfl rfl rfl (by decide) rfl hl.1 rfl (Nat.le_of_ble_eq_true rfl) dX2_appendRows_16 (Nat.zero_le _) (Nat.zero_le _) (fun H locs hP hD hS => ?_)
      have hP : va_P D vwCl [(a_p2, .inl (cI, n_p2, .inl v_p2)), (a_t, .inr (2, [.ref a_cells])), (a_cells, .inl (cI, 393, .inl v_cells))] H := hP
      have hD : va_D A [(a_p2, .inl (cI, n_p2, .inl v_p2)), (a_t, .inr (2, [.ref a_cells])), (a_cells, .inl (cI, 393, .inl v_cells))] := hD
      refine lv_isub hx hb dX2_appendRows_19 ?_
      refine lv_icmp_gt (tgt := 57) hx hb dX2_appendRows_20 (by decide) (fun hc => ?_) (fun hc => ?_)
      · replace hf := ip hc hf
        have ho := Option.some.inj hf
        subst ho
        exact hret dX2_appendRows_57 (hP.sub (ws' := [(a_t, .inr (2, [.ref a_cells])), (a_cells, .inl (cI, 393, .inl v_cells)), (a_p2, .inl (cI, n_p2, .inl v_p2))]) [1, 2, 0] rfl) (hD.sub (ws' := [(a_t, .inr (2, [.ref a_cells])), (a_cells, .inl (cI, 393, .inl v_cells)), (a_p2, .inl (cI, n_p2, .inl v_p2))]) [1, 2, 0] (by decide) rfl) hS
      · replace hf := ineg hc hf
        refine lv_aload_n hx hb dX2_appendRows_23 rfl (lv_at hl 2 rfl) ?_
        refine lv_iconst (v := 0) hx hb dX2_appendRows_24 (by decide) ?_
        refine lv_aload_n hx hb dX2_appendRows_25 rfl (lv_at hl 0 rfl) ?_
        refine va_get (D := D) (ci := 2) (v := .ref a_cells) (C := RX2) (T := TX2) (N := 1) hx hb hts hinX2 hown hK.1 hP 1 rfl rfl 0 (by decide) (hts (.fieldLink RX2 9 "BaselineGrid$Page" "cells" "[I") (List.mem_of_getElem? (i := 1) rfl)) (fun _ h9 => h9) rfl dX2_appendRows_26 ?_
        refine lv_iload_n hx hb dX2_appendRows_29 rfl (lv_at hl 1 rfl) ?_
        refine lv_aload_n hx hb dX2_appendRows_30 rfl (lv_at hl 0 rfl) ?_
        refine lv_iload_n hx hb dX2_appendRows_31 rfl (lv_at hl 1 rfl) ?_
        replace hf := bd_some hf
        obtain ⟨qo3, hqo3, hf⟩ := hf
        refine g_Vi (As := [.int i1]) (rest := [.int i1, .ref a_cells, .int 0, .ref a_p2]) (wr := [(a_p2, .inl (cI, n_p2, .inl v_p2))]) ⟨hx, hb, hml, hown, hts⟩ (k_X2_blocksOf l D cI cC a_t a_cells i1 v_cells qo3 hqo3) (cwV 1 hts gX2_appendRows_X2_blocksOf rfl rfl rfl (by decide +kernel) ⟨Nat.le_of_ble_eq_true rfl, Nat.le_of_ble_eq_true rfl⟩) hK hP hD hS hA 2 1 rfl rfl rfl [1, 2] [0] rfl rfl rfl rfl rfl (by decide) rfl hl.1 rfl (Nat.le_of_ble_eq_true rfl) dX2_appendRows_32 (Nat.zero_le _) (Nat.zero_le _) (fun H locs hP hD hS => ?_)
        have hP : va_P D vwCl [(a_p2, .inl (cI, n_p2, .inl v_p2)), (a_t, .inr (2, [.ref a_cells])), (a_cells, .inl (cI, 393, .inl v_cells))] H := hP
        have hD : va_D A [(a_p2, .inl (cI, n_p2, .inl v_p2)), (a_t, .inr (2, [.ref a_cells])), (a_cells, .inl (cI, 393, .inl v_cells))] := hD
        replace hf := bd_some hf
        obtain ⟨qo4, hqo4, hf⟩ := hf
        refine g_Si (As := [.int i1, .int qo3]) (rest := [.ref a_cells, .int 0, .ref a_p2]) (wr := [(a_p2, .inl (cI, n_p2, .inl v_p2)), (a_t, .inr (2, [.ref a_cells])), (a_cells, .inl (cI, 393, .inl v_cells))]) ⟨hx, hb, hml, hown, hts⟩ (k_X2_cellAt l D cI cC i1 qo3 qo4 hqo4) (va_cwS 2 hts gX2_appendRows_X2_cellAt rfl rfl rfl (by decide +kernel) ⟨Nat.le_of_ble_eq_true rfl, Nat.le_of_ble_eq_true rfl⟩) hK hP hD hS hA [] [0, 1, 2] rfl rfl rfl rfl rfl (by decide) rfl hl.1 rfl (Nat.le_of_ble_eq_true rfl) dX2_appendRows_35 (Nat.zero_le _) (Nat.zero_le _) (fun H locs hP hD hS => ?_)
        have hP : va_P D vwCl [(a_p2, .inl (cI, n_p2, .inl v_p2)), (a_t, .inr (2, [.ref a_cells])), (a_cells, .inl (cI, 393, .inl v_cells))] H := hP
        have hD : va_D A [(a_p2, .inl (cI, n_p2, .inl v_p2)), (a_t, .inr (2, [.ref a_cells])), (a_cells, .inl (cI, 393, .inl v_cells))] := hD
        refine lv_iload_n hx hb dX2_appendRows_38 rfl (lv_at hl 3 rfl) ?_
        refine lv_bipush (v := 6) hx hb dX2_appendRows_39 (by decide) ?_
        refine lv_imul hx hb dX2_appendRows_41 ?_
        replace hf := bd_some hf
        obtain ⟨qo5, hqo5, hf⟩ := hf
        refine g_Nv (As := [.ref a_p2, .int 0, .ref a_cells, .int qo4, .int (i3 * 6)]) (rest := []) (wr := [(a_t, .inr (2, [.ref a_cells]))]) (host := RX4) ⟨hx, hb, hml, hown, hts⟩ (k_X4_copyCells l D cI cC a_p2 a_cells n_p2 393 0 qo4 (i3 * 6) v_p2 v_cells qo5 hqo5) (va_cnB 5 hts gX2_appendRows_X4_copyCells_n53 rfl rfl rfl (hK.2.1 _ (List.mem_of_getElem? (i := 8) rfl)) (hts (.initialized RX4) (List.mem_of_getElem? (i := 3) rfl)) (by decide +kernel) ⟨Nat.le_of_ble_eq_true rfl, Nat.le_of_ble_eq_true rfl⟩) (hts (.static yX4_copyCells) (List.mem_of_getElem? (i := 13) rfl)) hK hP hD hS hA [0, 2] [1] rfl rfl rfl rfl rfl (by decide) rfl hl.1 rfl (Nat.le_of_ble_eq_true rfl) dX2_appendRows_42 (Nat.zero_le _) (Nat.zero_le _) (fun H locs hP hD hS => ?_)
        have hP : va_P D vwCl [(a_t, .inr (2, [.ref a_cells])), (a_p2, .inl (cI, n_p2, .inl v_p2)), (a_cells, .inl (cI, 393, .inl qo5))] H := hP
        have hD : va_D A [(a_t, .inr (2, [.ref a_cells])), (a_p2, .inl (cI, n_p2, .inl v_p2)), (a_cells, .inl (cI, 393, .inl qo5))] := hD
        refine lv_aload_n hx hb dX2_appendRows_45 rfl (lv_at hl 0 rfl) ?_
        refine lv_iload_n hx hb dX2_appendRows_46 rfl (lv_at hl 1 rfl) ?_
        refine lv_aload_n hx hb dX2_appendRows_47 rfl (lv_at hl 0 rfl) ?_
        refine lv_iload_n hx hb dX2_appendRows_48 rfl (lv_at hl 1 rfl) ?_
        replace hf := bd_some hf
        obtain ⟨qo6, hqo6, hf⟩ := hf
        refine g_Vi (As := [.int i1]) (rest := [.int i1, .ref a_t]) (wr := [(a_p2, .inl (cI, n_p2, .inl v_p2))]) ⟨hx, hb, hml, hown, hts⟩ (k_X2_blocksOf l D cI cC a_t a_cells i1 qo5 qo6 hqo6) (cwV 1 hts gX2_appendRows_X2_blocksOf rfl rfl rfl (by decide +kernel) ⟨Nat.le_of_ble_eq_true rfl, Nat.le_of_ble_eq_true rfl⟩) hK hP hD hS hA 2 0 rfl rfl rfl [0, 2] [1] rfl rfl rfl rfl rfl (by decide) rfl hl.1 rfl (Nat.le_of_ble_eq_true rfl) dX2_appendRows_49 (Nat.zero_le _) (Nat.zero_le _) (fun H locs hP hD hS => ?_)
        have hP : va_P D vwCl [(a_p2, .inl (cI, n_p2, .inl v_p2)), (a_t, .inr (2, [.ref a_cells])), (a_cells, .inl (cI, 393, .inl qo5))] H := hP
        have hD : va_D A [(a_p2, .inl (cI, n_p2, .inl v_p2)), (a_t, .inr (2, [.ref a_cells])), (a_cells, .inl (cI, 393, .inl qo5))] := hD
        refine lv_iload_n hx hb dX2_appendRows_52 rfl (lv_at hl 3 rfl) ?_
        refine lv_iadd hx hb dX2_appendRows_53 ?_
        replace hf := bd_some hf
        obtain ⟨qo7, hqo7, hf⟩ := hf
        refine g_Vv (As := [.int i1, .int (qo6 + i3)]) (rest := []) (wr := [(a_p2, .inl (cI, n_p2, .inl v_p2))]) ⟨hx, hb, hml, hown, hts⟩ (k_X2_changeBlocks l D cI cC a_t a_cells i1 (qo6 + i3) qo5 qo7 hqo7) (cwV 2 hts gX2_appendRows_X2_changeBlocks rfl rfl rfl (by decide +kernel) ⟨Nat.le_of_ble_eq_true rfl, Nat.le_of_ble_eq_true rfl⟩) hK hP hD hS hA 2 1 rfl rfl rfl [1, 2] [0] rfl rfl rfl rfl rfl (by decide) rfl hl.1 rfl (Nat.le_of_ble_eq_true rfl) dX2_appendRows_54 (Nat.zero_le _) (Nat.zero_le _) (fun H locs hP hD hS => ?_)
        have hP : va_P D vwCl [(a_p2, .inl (cI, n_p2, .inl v_p2)), (a_t, .inr (2, [.ref a_cells])), (a_cells, .inl (cI, 393, .inl qo7))] H := hP
        have hD : va_D A [(a_p2, .inl (cI, n_p2, .inl v_p2)), (a_t, .inr (2, [.ref a_cells])), (a_cells, .inl (cI, 393, .inl qo7))] := hD
        have ho := Option.some.inj hf
        subst ho
        exact hret dX2_appendRows_57 (hP.sub (ws' := [(a_t, .inr (2, [.ref a_cells])), (a_cells, .inl (cI, 393, .inl qo7)), (a_p2, .inl (cI, n_p2, .inl v_p2))]) [1, 2, 0] rfl) (hD.sub (ws' := [(a_t, .inr (2, [.ref a_cells])), (a_cells, .inl (cI, 393, .inl qo7)), (a_p2, .inl (cI, n_p2, .inl v_p2))]) [1, 2, 0] (by decide) rfl) hS
def fX4_copyCells_same (n_p1 : Nat) (i1 : Int32) (i3 : Int32) (i4 : Int32) (v_p1 : Nat → Int32) : Option ((Nat → Int32)) :=
  if i4 < 0 then (some v_p1) else (if i1 < 0 then (some v_p1) else (if i3 < 0 then (some v_p1) else (if ((Int32.ofNat n_p1) - i4) < i1 then (some v_p1) else (if i3 ≤ ((Int32.ofNat n_p1) - i4) then (acpy n_p1 n_p1 v_p1 v_p1 i1 i3 i4 fun qg1 => some qg1) else (some v_p1)))))
def rX4_copyCells_same : Room := { frames := 1, cells := 0, slots := 0, locals := 26 }
set_option maxHeartbeats 4000000 in
set_option maxRecDepth 100000 in
theorem k_X4_copyCells_same (l : Launch) (D : va_G) (cI cC : ClassId) (a_p1 : Nat) (n_p1 : Nat) (i1 : Int32) (i3 : Int32) (i4 : Int32) (v_p1 : Nat → Int32) (o : (Nat → Int32)) (hf : fX4_copyCells_same n_p1 i1 i3 i4 v_p1 = some o) : CTv l yX4_copyCells wsX4_copyCells rX4_copyCells_same D cI cC [.ref a_p1, .int i1, .ref a_p1, .int i3, .int i4] [(a_p1, .inl (cI, n_p1, .inl v_p1))] [(a_p1, .inl (cI, n_p1, .inl o))]  := by
  refine CTv_of (cc := cX4_copyCells) (maxL := 5) (by decide) rfl (Nat.le_of_ble_eq_true rfl) ?_
  intro p e s m args below meth c A Q ls C0 hA hP hD hl hret
  obtain ⟨hx, hb, hml, hts, hown, hK⟩ := C0
  have hown : s.vm.findClass RX4 = some m.cls := hown
  have hS : va_S A s.heap s.heap [] := va_S.rf
  have hl : lv_has ls 5 [(0, .ref a_p1), (1, .int i1), (2, .ref a_p1), (3, .int i3), (4, .int i4)] := hl
  unfold fX4_copyCells_same at hf
  refine lv_iload hx hb dX4_copyCells_0 (lv_at hl 4 rfl) ?_
  refine lv_if_lt (tgt := 31) hx hb dX4_copyCells_2 (by decide) (fun hc => ?_) (fun hc => ?_)
  · replace hf := ip hc hf
    have ho := Option.some.inj hf
    subst ho
    exact hret dX4_copyCells_31 (hP.sub (ws' := [(a_p1, .inl (cI, n_p1, .inl v_p1))]) [0] rfl) (hD.sub (ws' := [(a_p1, .inl (cI, n_p1, .inl v_p1))]) [0] (by decide) rfl) hS
  · replace hf := ineg hc hf
    refine lv_iload_n hx hb dX4_copyCells_5 rfl (lv_at hl 1 rfl) ?_
    refine lv_if_lt (tgt := 31) hx hb dX4_copyCells_6 (by decide) (fun hc => ?_) (fun hc => ?_)
    · replace hf := ip hc hf
      have ho := Option.some.inj hf
      subst ho
      exact hret dX4_copyCells_31 (hP.sub (ws' := [(a_p1, .inl (cI, n_p1, .inl v_p1))]) [0] rfl) (hD.sub (ws' := [(a_p1, .inl (cI, n_p1, .inl v_p1))]) [0] (by decide) rfl) hS
    · replace hf := ineg hc hf
      refine lv_iload_n hx hb dX4_copyCells_9 rfl (lv_at hl 3 rfl) ?_
      refine lv_if_lt (tgt := 31) hx hb dX4_copyCells_10 (by decide) (fun hc => ?_) (fun hc => ?_)
      · replace hf := ip hc hf
        have ho := Option.some.inj hf
        subst ho
        exact hret dX4_copyCells_31 (hP.sub (ws' := [(a_p1, .inl (cI, n_p1, .inl v_p1))]) [0] rfl) (hD.sub (ws' := [(a_p1, .inl (cI, n_p1, .inl v_p1))]) [0] (by decide) rfl) hS
      · replace hf := ineg hc hf
        refine lv_iload_n hx hb dX4_copyCells_13 rfl (lv_at hl 1 rfl) ?_
        refine lv_aload_n hx hb dX4_copyCells_14 rfl (lv_at hl 0 rfl) ?_
        refine va_alen hx hb hK.1 hP 0 0 rfl rfl rfl dX4_copyCells_15 ?_
        refine lv_iload hx hb dX4_copyCells_16 (lv_at hl 4 rfl) ?_
        refine lv_isub hx hb dX4_copyCells_18 ?_
        refine lv_icmp_gt (tgt := 31) hx hb dX4_copyCells_19 (by decide) (fun hc => ?_) (fun hc => ?_)
        · replace hf := ip hc hf
          have ho := Option.some.inj hf
          subst ho
          exact hret dX4_copyCells_31 (hP.sub (ws' := [(a_p1, .inl (cI, n_p1, .inl v_p1))]) [0] rfl) (hD.sub (ws' := [(a_p1, .inl (cI, n_p1, .inl v_p1))]) [0] (by decide) rfl) hS
        · replace hf := ineg hc hf
          refine lv_iload_n hx hb dX4_copyCells_22 rfl (lv_at hl 3 rfl) ?_
          refine lv_aload_n hx hb dX4_copyCells_23 rfl (lv_at hl 2 rfl) ?_
          refine va_alen hx hb hK.1 hP 0 0 rfl rfl rfl dX4_copyCells_24 ?_
          refine lv_iload hx hb dX4_copyCells_25 (lv_at hl 4 rfl) ?_
          refine lv_isub hx hb dX4_copyCells_27 ?_
          refine lv_icmp_le (tgt := 32) hx hb dX4_copyCells_28 (by decide) (fun hc => ?_) (fun hc => ?_)
          · replace hf := ip hc hf
            refine lv_aload_n hx hb dX4_copyCells_32 rfl (lv_at hl 0 rfl) ?_
            refine lv_iload_n hx hb dX4_copyCells_33 rfl (lv_at hl 1 rfl) ?_
            refine lv_aload_n hx hb dX4_copyCells_34 rfl (lv_at hl 2 rfl) ?_
            refine lv_iload_n hx hb dX4_copyCells_35 rfl (lv_at hl 3 rfl) ?_
            refine lv_iload hx hb dX4_copyCells_36 (lv_at hl 4 rfl) ?_
            refine g_copy hx hb (hml.trans hl.1.symm) hown (hts (.methodLink RX4 262 arraycopyName) (List.mem_of_getElem? (i := 1) rfl)) (hts (.native arraycopyName) (List.mem_of_getElem? (i := 2) rfl)) (hts (.static arraycopyName) (List.mem_of_getElem? (i := 3) rfl)) (hts (.initialized "java/lang/System") (List.mem_of_getElem? (i := 4) rfl)) hK.1 hP hD hS 0 0 0 rfl rfl rfl hf (Nat.le_of_ble_eq_true rfl) (Nat.le_of_ble_eq_true rfl) dX4_copyCells_38 (fun qg1 H locs hf hP hD hS => ?_)
            have hP : va_P D vwCl [(a_p1, .inl (cI, n_p1, .inl qg1))] H := hP
            have hD : va_D A [(a_p1, .inl (cI, n_p1, .inl qg1))] := hD
            have ho := Option.some.inj hf
            subst ho
            exact hret dX4_copyCells_41 (hP.sub (ws' := [(a_p1, .inl (cI, n_p1, .inl qg1))]) [0] rfl) (hD.sub (ws' := [(a_p1, .inl (cI, n_p1, .inl qg1))]) [0] (by decide) rfl) hS
          · replace hf := ineg hc hf
            have ho := Option.some.inj hf
            subst ho
            exact hret dX4_copyCells_31 (hP.sub (ws' := [(a_p1, .inl (cI, n_p1, .inl v_p1))]) [0] rfl) (hD.sub (ws' := [(a_p1, .inl (cI, n_p1, .inl v_p1))]) [0] (by decide) rfl) hS
def fX2_moveBlocks (i1 : Int32) (i2 : Int32) (i3 : Int32) (v_cells : Nat → Int32) : Option ((Nat → Int32)) :=
  bd (fX4_copyCells_same 393 i1 i2 (i3 * 6) v_cells) fun qo1 => some qo1
def rX2_moveBlocks : Room := { frames := 2, cells := 0, slots := 0, locals := 50 }
theorem hin_X2_moveBlocks_X2 : ∀ w ∈ wsX20, w ∈ wsX2_moveBlocks := fun _ h => List.mem_cons_of_mem _ (List.mem_append_right _ (h))
set_option maxHeartbeats 4000000 in
set_option maxRecDepth 100000 in
theorem k_X2_moveBlocks (l : Launch) (D : va_G) (cI cC : ClassId) (a_t : Nat) (a_cells : Nat) (i1 : Int32) (i2 : Int32) (i3 : Int32) (v_cells : Nat → Int32) (o : (Nat → Int32)) (hf : fX2_moveBlocks i1 i2 i3 v_cells = some o) : CTv l yX2_moveBlocks wsX2_moveBlocks rX2_moveBlocks D cI cC [.ref a_t, .int i1, .int i2, .int i3] [(a_t, .inr (2, [.ref a_cells])), (a_cells, .inl (cI, 393, .inl v_cells))] [(a_t, .inr (2, [.ref a_cells])), (a_cells, .inl (cI, 393, .inl o))]  := by
  refine CTv_of (cc := cX2_moveBlocks) (maxL := 4) (by decide) rfl (Nat.le_of_ble_eq_true rfl) ?_
  intro p e s m args below meth c A Q ls C0 hA hP hD hl hret
  obtain ⟨hx, hb, hml, hts, hown, hK⟩ := C0
  have hown : s.vm.findClass RX2 = some m.cls := hown
  have hS : va_S A s.heap s.heap [] := va_S.rf
  have hl : lv_has ls 4 [(0, .ref a_t), (1, .int i1), (2, .int i2), (3, .int i3)] := hl
  have hinX2 := hin_X2_moveBlocks_X2
  unfold fX2_moveBlocks at hf
  refine lv_aload_n hx hb dX2_moveBlocks_0 rfl (lv_at hl 0 rfl) ?_
  refine va_get (D := D) (ci := 2) (v := .ref a_cells) (C := RX2) (T := TX2) (N := 1) hx hb hts hinX2 hown hK.1 hP 0 rfl rfl 0 (by decide) (hts (.fieldLink RX2 9 "BaselineGrid$Page" "cells" "[I") (List.mem_of_getElem? (i := 1) rfl)) (fun _ h9 => h9) rfl dX2_moveBlocks_1 ?_
  refine lv_iload_n hx hb dX2_moveBlocks_4 rfl (lv_at hl 1 rfl) ?_
  refine lv_aload_n hx hb dX2_moveBlocks_5 rfl (lv_at hl 0 rfl) ?_
  refine va_get (D := D) (ci := 2) (v := .ref a_cells) (C := RX2) (T := TX2) (N := 1) hx hb hts hinX2 hown hK.1 hP 0 rfl rfl 0 (by decide) (hts (.fieldLink RX2 9 "BaselineGrid$Page" "cells" "[I") (List.mem_of_getElem? (i := 1) rfl)) (fun _ h9 => h9) rfl dX2_moveBlocks_6 ?_
  refine lv_iload_n hx hb dX2_moveBlocks_9 rfl (lv_at hl 2 rfl) ?_
  refine lv_iload_n hx hb dX2_moveBlocks_10 rfl (lv_at hl 3 rfl) ?_
  refine lv_bipush (v := 6) hx hb dX2_moveBlocks_11 (by decide) ?_
  refine lv_imul hx hb dX2_moveBlocks_13 ?_
  replace hf := bd_some hf
  obtain ⟨qo1, hqo1, hf⟩ := hf
  refine g_Nv (As := [.ref a_cells, .int i1, .ref a_cells, .int i2, .int (i3 * 6)]) (rest := []) (wr := [(a_t, .inr (2, [.ref a_cells]))]) (host := RX4) ⟨hx, hb, hml, hown, hts⟩ (k_X4_copyCells_same l D cI cC a_cells 393 i1 i2 (i3 * 6) v_cells qo1 hqo1) (va_cnB 5 hts gX2_moveBlocks_X4_copyCells_n53 rfl rfl rfl (hK.2.1 _ (List.mem_of_getElem? (i := 8) rfl)) (hts (.initialized RX4) (List.mem_of_getElem? (i := 3) rfl)) (by decide +kernel) ⟨Nat.le_of_ble_eq_true rfl, Nat.le_of_ble_eq_true rfl⟩) (hts (.static yX4_copyCells) (List.mem_of_getElem? (i := 2) rfl)) hK hP hD hS hA [1] [0] rfl rfl rfl rfl rfl (by decide) rfl hl.1 rfl (Nat.le_of_ble_eq_true rfl) dX2_moveBlocks_14 (Nat.zero_le _) (Nat.zero_le _) (fun H locs hP hD hS => ?_)
  have hP : va_P D vwCl [(a_t, .inr (2, [.ref a_cells])), (a_cells, .inl (cI, 393, .inl qo1))] H := hP
  have hD : va_D A [(a_t, .inr (2, [.ref a_cells])), (a_cells, .inl (cI, 393, .inl qo1))] := hD
  have ho := Option.some.inj hf
  subst ho
  exact hret dX2_moveBlocks_17 (hP.sub (ws' := [(a_t, .inr (2, [.ref a_cells])), (a_cells, .inl (cI, 393, .inl qo1))]) [0, 1] rfl) (hD.sub (ws' := [(a_t, .inr (2, [.ref a_cells])), (a_cells, .inl (cI, 393, .inl qo1))]) [0, 1] (by decide) rfl) hS
def fX2_takeOut (i1 : Int32) (i2 : Int32) (v_cells : Nat → Int32) : Option ((Nat → Int32)) :=
  bd (fX2_hasBlock i1 i2 v_cells) fun qo1 => if qo1 = 0 then (some v_cells) else (bd (fX2_blocksOf i1 v_cells) fun qo2 => nm ((qo2 - 1) - i2) fun qx3 => bd (fX2_cellAt i1 (i2 + 1)) fun qo4 => bd (fX2_cellAt i1 i2) fun qo5 => bd (fX2_moveBlocks qo4 qo5 qx3 v_cells) fun qo6 => bd (fX2_blocksOf i1 qo6) fun qo7 => bd (fX2_changeBlocks i1 (qo7 - 1) qo6) fun qo8 => some qo8)
def rX2_takeOut : Room := { frames := 3, cells := 0, slots := 0, locals := 73 }
set_option maxHeartbeats 4000000 in
set_option maxRecDepth 100000 in
theorem k_X2_takeOut (l : Launch) (D : va_G) (cI cC : ClassId) (a_t : Nat) (a_cells : Nat) (i1 : Int32) (i2 : Int32) (v_cells : Nat → Int32) (o : (Nat → Int32)) (hf : fX2_takeOut i1 i2 v_cells = some o) : CTv l yX2_takeOut wsX2_takeOut rX2_takeOut D cI cC [.ref a_t, .int i1, .int i2] [(a_t, .inr (2, [.ref a_cells])), (a_cells, .inl (cI, 393, .inl v_cells))] [(a_t, .inr (2, [.ref a_cells])), (a_cells, .inl (cI, 393, .inl o))]  := by
  refine CTv_of (cc := cX2_takeOut) (maxL := 4) (by decide) rfl (Nat.le_of_ble_eq_true rfl) ?_
  intro p e s m args below meth c A Q ls C0 hA hP hD hl hret
  obtain ⟨hx, hb, hml, hts, hown, hK⟩ := C0
  have hown : s.vm.findClass RX2 = some m.cls := hown
  have hS : va_S A s.heap s.heap [] := va_S.rf
  have hl : lv_has ls 4 [(0, .ref a_t), (1, .int i1), (2, .int i2)] := hl
  unfold fX2_takeOut at hf
  refine lv_aload_n hx hb dX2_takeOut_0 rfl (lv_at hl 0 rfl) ?_
  refine lv_iload_n hx hb dX2_takeOut_1 rfl (lv_at hl 1 rfl) ?_
  refine lv_iload_n hx hb dX2_takeOut_2 rfl (lv_at hl 2 rfl) ?_
  replace hf := bd_some hf
  obtain ⟨qo1, hqo1, hf⟩ := hf
  refine g_Vi (As := [.int i1, .int i2]) (rest := []) (wr := []) ⟨hx, hb, hml, hown, hts⟩ (k_X2_hasBlock l D cI cC a_t a_cells i1 i2 v_cells qo1 hqo1) (cwV 2 hts gX2_takeOut_X2_hasBlock rfl rfl rfl (by decide +kernel) ⟨Nat.le_of_ble_eq_true rfl, Nat.le_of_ble_eq_true rfl⟩) hK hP hD hS hA 2 0 rfl rfl rfl [0, 1] [] rfl rfl rfl rfl rfl (by decide) rfl hl.1 rfl (Nat.le_of_ble_eq_true rfl) dX2_takeOut_3 (Nat.zero_le _) (Nat.zero_le _) (fun H locs hP hD hS => ?_)
  have hP : va_P D vwCl [(a_t, .inr (2, [.ref a_cells])), (a_cells, .inl (cI, 393, .inl v_cells))] H := hP
  have hD : va_D A [(a_t, .inr (2, [.ref a_cells])), (a_cells, .inl (cI, 393, .inl v_cells))] := hD
  refine lv_if_eq (tgt := 48) hx hb dX2_takeOut_6 (by decide) (fun hc => ?_) (fun hc => ?_)
  · replace hf := ip hc hf
    have ho := Option.some.inj hf
    subst ho
    exact hret dX2_takeOut_48 (hP.sub (ws' := [(a_t, .inr (2, [.ref a_cells])), (a_cells, .inl (cI, 393, .inl v_cells))]) [0, 1] rfl) (hD.sub (ws' := [(a_t, .inr (2, [.ref a_cells])), (a_cells, .inl (cI, 393, .inl v_cells))]) [0, 1] (by decide) rfl) hS
  · replace hf := ineg hc hf
    refine lv_aload_n hx hb dX2_takeOut_9 rfl (lv_at hl 0 rfl) ?_
    refine lv_iload_n hx hb dX2_takeOut_10 rfl (lv_at hl 1 rfl) ?_
    replace hf := bd_some hf
    obtain ⟨qo2, hqo2, hf⟩ := hf
    refine g_Vi (As := [.int i1]) (rest := []) (wr := []) ⟨hx, hb, hml, hown, hts⟩ (k_X2_blocksOf l D cI cC a_t a_cells i1 v_cells qo2 hqo2) (cwV 1 hts gX2_takeOut_X2_blocksOf rfl rfl rfl (by decide +kernel) ⟨Nat.le_of_ble_eq_true rfl, Nat.le_of_ble_eq_true rfl⟩) hK hP hD hS hA 2 0 rfl rfl rfl [0, 1] [] rfl rfl rfl rfl rfl (by decide) rfl hl.1 rfl (Nat.le_of_ble_eq_true rfl) dX2_takeOut_11 (Nat.zero_le _) (Nat.zero_le _) (fun H locs hP hD hS => ?_)
    have hP : va_P D vwCl [(a_t, .inr (2, [.ref a_cells])), (a_cells, .inl (cI, 393, .inl v_cells))] H := hP
    have hD : va_D A [(a_t, .inr (2, [.ref a_cells])), (a_cells, .inl (cI, 393, .inl v_cells))] := hD
    refine lv_iconst (v := 1) hx hb dX2_takeOut_14 (by decide) ?_
    refine lv_isub hx hb dX2_takeOut_15 ?_
    refine lv_iload_n hx hb dX2_takeOut_16 rfl (lv_at hl 2 rfl) ?_
    refine lv_isub hx hb dX2_takeOut_17 ?_
    refine g_nm hf (fun qx3 hf => ?_)
    refine lv_istore_n (lv' := [(3, .int qx3), (0, .ref a_t), (1, .int i1), (2, .int i2)]) hx hb dX2_takeOut_18 rfl hl (by decide) rfl (fun ls hl => ?_)
    refine lv_aload_n hx hb dX2_takeOut_19 rfl (lv_at hl 1 rfl) ?_
    refine lv_iload_n hx hb dX2_takeOut_20 rfl (lv_at hl 2 rfl) ?_
    refine lv_iload_n hx hb dX2_takeOut_21 rfl (lv_at hl 3 rfl) ?_
    refine lv_iconst (v := 1) hx hb dX2_takeOut_22 (by decide) ?_
    refine lv_iadd hx hb dX2_takeOut_23 ?_
    replace hf := bd_some hf
    obtain ⟨qo4, hqo4, hf⟩ := hf
    refine g_Si (As := [.int i1, .int (i2 + 1)]) (rest := [.ref a_t]) (wr := [(a_t, .inr (2, [.ref a_cells])), (a_cells, .inl (cI, 393, .inl v_cells))]) ⟨hx, hb, hml, hown, hts⟩ (k_X2_cellAt l D cI cC i1 (i2 + 1) qo4 hqo4) (va_cwS 2 hts gX2_takeOut_X2_cellAt rfl rfl rfl (by decide +kernel) ⟨Nat.le_of_ble_eq_true rfl, Nat.le_of_ble_eq_true rfl⟩) hK hP hD hS hA [] [0, 1] rfl rfl rfl rfl rfl (by decide) rfl hl.1 rfl (Nat.le_of_ble_eq_true rfl) dX2_takeOut_24 (Nat.zero_le _) (Nat.zero_le _) (fun H locs hP hD hS => ?_)
    have hP : va_P D vwCl [(a_t, .inr (2, [.ref a_cells])), (a_cells, .inl (cI, 393, .inl v_cells))] H := hP
    have hD : va_D A [(a_t, .inr (2, [.ref a_cells])), (a_cells, .inl (cI, 393, .inl v_cells))] := hD
    refine lv_iload_n hx hb dX2_takeOut_27 rfl (lv_at hl 2 rfl) ?_
    refine lv_iload_n hx hb dX2_takeOut_28 rfl (lv_at hl 3 rfl) ?_
    replace hf := bd_some hf
    obtain ⟨qo5, hqo5, hf⟩ := hf
    refine g_Si (As := [.int i1, .int i2]) (rest := [.int qo4, .ref a_t]) (wr := [(a_t, .inr (2, [.ref a_cells])), (a_cells, .inl (cI, 393, .inl v_cells))]) ⟨hx, hb, hml, hown, hts⟩ (k_X2_cellAt l D cI cC i1 i2 qo5 hqo5) (va_cwS 2 hts gX2_takeOut_X2_cellAt rfl rfl rfl (by decide +kernel) ⟨Nat.le_of_ble_eq_true rfl, Nat.le_of_ble_eq_true rfl⟩) hK hP hD hS hA [] [0, 1] rfl rfl rfl rfl rfl (by decide) rfl hl.1 rfl (Nat.le_of_ble_eq_true rfl) dX2_takeOut_29 (Nat.zero_le _) (Nat.zero_le _) (fun H locs hP hD hS => ?_)
    have hP : va_P D vwCl [(a_t, .inr (2, [.ref a_cells])), (a_cells, .inl (cI, 393, .inl v_cells))] H := hP
    have hD : va_D A [(a_t, .inr (2, [.ref a_cells])), (a_cells, .inl (cI, 393, .inl v_cells))] := hD
    refine lv_iload_n hx hb dX2_takeOut_32 rfl (lv_at hl 0 rfl) ?_
    replace hf := bd_some hf
    obtain ⟨qo6, hqo6, hf⟩ := hf
    refine g_Vv (As := [.int qo4, .int qo5, .int qx3]) (rest := []) (wr := []) ⟨hx, hb, hml, hown, hts⟩ (k_X2_moveBlocks l D cI cC a_t a_cells qo4 qo5 qx3 v_cells qo6 hqo6) (cwV 3 hts gX2_takeOut_X2_moveBlocks rfl rfl rfl (by decide +kernel) ⟨Nat.le_of_ble_eq_true rfl, Nat.le_of_ble_eq_true rfl⟩) hK hP hD hS hA 2 0 rfl rfl rfl [0, 1] [] rfl rfl rfl rfl rfl (by decide) rfl hl.1 rfl (Nat.le_of_ble_eq_true rfl) dX2_takeOut_33 (Nat.zero_le _) (Nat.zero_le _) (fun H locs hP hD hS => ?_)
    have hP : va_P D vwCl [(a_t, .inr (2, [.ref a_cells])), (a_cells, .inl (cI, 393, .inl qo6))] H := hP
    have hD : va_D A [(a_t, .inr (2, [.ref a_cells])), (a_cells, .inl (cI, 393, .inl qo6))] := hD
    refine lv_aload_n hx hb dX2_takeOut_36 rfl (lv_at hl 1 rfl) ?_
    refine lv_iload_n hx hb dX2_takeOut_37 rfl (lv_at hl 2 rfl) ?_
    refine lv_aload_n hx hb dX2_takeOut_38 rfl (lv_at hl 1 rfl) ?_
    refine lv_iload_n hx hb dX2_takeOut_39 rfl (lv_at hl 2 rfl) ?_
    replace hf := bd_some hf
    obtain ⟨qo7, hqo7, hf⟩ := hf
    refine g_Vi (As := [.int i1]) (rest := [.int i1, .ref a_t]) (wr := []) ⟨hx, hb, hml, hown, hts⟩ (k_X2_blocksOf l D cI cC a_t a_cells i1 qo6 qo7 hqo7) (cwV 1 hts gX2_takeOut_X2_blocksOf rfl rfl rfl (by decide +kernel) ⟨Nat.le_of_ble_eq_true rfl, Nat.le_of_ble_eq_true rfl⟩) hK hP hD hS hA 2 0 rfl rfl rfl [0, 1] [] rfl rfl rfl rfl rfl (by decide) rfl hl.1 rfl (Nat.le_of_ble_eq_true rfl) dX2_takeOut_40 (Nat.zero_le _) (Nat.zero_le _) (fun H locs hP hD hS => ?_)
    have hP : va_P D vwCl [(a_t, .inr (2, [.ref a_cells])), (a_cells, .inl (cI, 393, .inl qo6))] H := hP
    have hD : va_D A [(a_t, .inr (2, [.ref a_cells])), (a_cells, .inl (cI, 393, .inl qo6))] := hD
    refine lv_iconst (v := 1) hx hb dX2_takeOut_43 (by decide) ?_
    refine lv_isub hx hb dX2_takeOut_44 ?_
    replace hf := bd_some hf
    obtain ⟨qo8, hqo8, hf⟩ := hf
    refine g_Vv (As := [.int i1, .int (qo7 - 1)]) (rest := []) (wr := []) ⟨hx, hb, hml, hown, hts⟩ (k_X2_changeBlocks l D cI cC a_t a_cells i1 (qo7 - 1) qo6 qo8 hqo8) (cwV 2 hts gX2_takeOut_X2_changeBlocks rfl rfl rfl (by decide +kernel) ⟨Nat.le_of_ble_eq_true rfl, Nat.le_of_ble_eq_true rfl⟩) hK hP hD hS hA 2 0 rfl rfl rfl [0, 1] [] rfl rfl rfl rfl rfl (by decide) rfl hl.1 rfl (Nat.le_of_ble_eq_true rfl) dX2_takeOut_45 (Nat.zero_le _) (Nat.zero_le _) (fun H locs hP hD hS => ?_)
    have hP : va_P D vwCl [(a_t, .inr (2, [.ref a_cells])), (a_cells, .inl (cI, 393, .inl qo8))] H := hP
    have hD : va_D A [(a_t, .inr (2, [.ref a_cells])), (a_cells, .inl (cI, 393, .inl qo8))] := hD
    have ho := Option.some.inj hf
    subst ho
    exact hret dX2_takeOut_48 (hP.sub (ws' := [(a_t, .inr (2, [.ref a_cells])), (a_cells, .inl (cI, 393, .inl qo8))]) [0, 1] rfl) (hD.sub (ws' := [(a_t, .inr (2, [.ref a_cells])), (a_cells, .inl (cI, 393, .inl qo8))]) [0, 1] (by decide) rfl) hS
def fX2_moveToNext (i1 : Int32) (i2 : Int32) (i3 : Int32) (v_cells : Nat → Int32) : Option ((Nat → Int32)) :=
  nm (i1 + 1) fun qx1 => bd (fX2_blocksOf i1 v_cells) fun qo2 => nm (qo2 - i2) fun qx3 => bd (fX4_isColumn qx1) fun qo4 => if qo4 = 0 then (some v_cells) else (bd (fX2_hasBlock i1 i2 v_cells) fun qo5 => if qo5 = 0 then (some v_cells) else (bd (fX2_blocksOf qx1 v_cells) fun qo6 => if (qo6 + qx3) ≤ 16 then (bd (fX2_cellAt qx1 0) fun qo7 => bd (fX2_cellAt qx1 qx3) fun qo8 => bd (fX2_blocksOf qx1 v_cells) fun qo9 => bd (fX2_moveBlocks qo7 qo8 qo9 v_cells) fun qo10 => bd (fX2_cellAt i1 i2) fun qo11 => bd (fX2_cellAt qx1 0) fun qo12 => bd (fX2_moveBlocks qo11 qo12 qx3 qo10) fun qo13 => bd (fX2_blocksOf qx1 qo13) fun qo14 => bd (fX2_changeBlocks qx1 (qo14 + qx3) qo13) fun qo15 => bd (fX2_changeBlocks i1 i2 qo15) fun qo16 => if i3 ≤ 0 then (some qo16) else (bd (fX2_changeBlocks i1 (i2 + 1) qo16) fun qo17 => bd (fX2_fieldOf qx1 0 1 qo17) fun qo18 => bd (fX2_changeField qx1 0 1 (qo18 - i3) qo17) fun qo19 => bd (fX2_changeField i1 i2 1 i3 qo19) fun qo20 => some qo20)) else (some v_cells)))
def rX2_moveToNext : Room := { frames := 3, cells := 0, slots := 0, locals := 73 }
set_option maxHeartbeats 4000000 in
set_option maxRecDepth 100000 in
theorem k_X2_moveToNext (l : Launch) (D : va_G) (cI cC : ClassId) (a_t : Nat) (a_cells : Nat) (i1 : Int32) (i2 : Int32) (i3 : Int32) (v_cells : Nat → Int32) (o : (Nat → Int32)) (hf : fX2_moveToNext i1 i2 i3 v_cells = some o) : CTv l yX2_moveToNext wsX2_moveToNext rX2_moveToNext D cI cC [.ref a_t, .int i1, .int i2, .int i3] [(a_t, .inr (2, [.ref a_cells])), (a_cells, .inl (cI, 393, .inl v_cells))] [(a_t, .inr (2, [.ref a_cells])), (a_cells, .inl (cI, 393, .inl o))]  := by
  refine CTv_of (cc := cX2_moveToNext) (maxL := 6) (by decide) rfl (Nat.le_of_ble_eq_true rfl) ?_
  intro p e s m args below meth c A Q ls C0 hA hP hD hl hret
  obtain ⟨hx, hb, hml, hts, hown, hK⟩ := C0
  have hown : s.vm.findClass RX2 = some m.cls := hown
  have hS : va_S A s.heap s.heap [] := va_S.rf
  have hl : lv_has ls 6 [(0, .ref a_t), (1, .int i1), (2, .int i2), (3, .int i3)] := hl
  unfold fX2_moveToNext at hf
  refine lv_iload_n hx hb dX2_moveToNext_0 rfl (lv_at hl 1 rfl) ?_
  refine lv_iconst (v := 1) hx hb dX2_moveToNext_1 (by decide) ?_
  refine lv_iadd hx hb dX2_moveToNext_2 ?_
  refine g_nm hf (fun qx1 hf => ?_)
  refine lv_istore (lv' := [(4, .int qx1), (0, .ref a_t), (1, .int i1), (2, .int i2), (3, .int i3)]) hx hb dX2_moveToNext_3 hl (by decide) rfl (fun ls hl => ?_)
  refine lv_aload_n hx hb dX2_moveToNext_5 rfl (lv_at hl 1 rfl) ?_
  refine lv_iload_n hx hb dX2_moveToNext_6 rfl (lv_at hl 2 rfl) ?_
  replace hf := bd_some hf
  obtain ⟨qo2, hqo2, hf⟩ := hf
  refine g_Vi (As := [.int i1]) (rest := []) (wr := []) ⟨hx, hb, hml, hown, hts⟩ (k_X2_blocksOf l D cI cC a_t a_cells i1 v_cells qo2 hqo2) (cwV 1 hts gX2_moveToNext_X2_blocksOf rfl rfl rfl (by decide +kernel) ⟨Nat.le_of_ble_eq_true rfl, Nat.le_of_ble_eq_true rfl⟩) hK hP hD hS hA 2 0 rfl rfl rfl [0, 1] [] rfl rfl rfl rfl rfl (by decide) rfl hl.1 rfl (Nat.le_of_ble_eq_true rfl) dX2_moveToNext_7 (Nat.zero_le _) (Nat.zero_le _) (fun H locs hP hD hS => ?_)
  have hP : va_P D vwCl [(a_t, .inr (2, [.ref a_cells])), (a_cells, .inl (cI, 393, .inl v_cells))] H := hP
  have hD : va_D A [(a_t, .inr (2, [.ref a_cells])), (a_cells, .inl (cI, 393, .inl v_cells))] := hD
  refine lv_iload_n hx hb dX2_moveToNext_10 rfl (lv_at hl 3 rfl) ?_
  refine lv_isub hx hb dX2_moveToNext_11 ?_
  refine g_nm hf (fun qx3 hf => ?_)
  refine lv_istore (lv' := [(5, .int qx3), (4, .int qx1), (0, .ref a_t), (1, .int i1), (2, .int i2), (3, .int i3)]) hx hb dX2_moveToNext_12 hl (by decide) rfl (fun ls hl => ?_)
  refine lv_iload hx hb dX2_moveToNext_14 (lv_at hl 1 rfl) ?_
  replace hf := bd_some hf
  obtain ⟨qo4, hqo4, hf⟩ := hf
  refine g_Ni (As := [.int qx1]) (rest := []) (wr := [(a_t, .inr (2, [.ref a_cells])), (a_cells, .inl (cI, 393, .inl v_cells))]) (host := RX4) ⟨hx, hb, hml, hown, hts⟩ (k_X4_isColumn l D cI cC qx1 qo4 hqo4) (va_cnB 1 hts gX2_moveToNext_X4_isColumn_n18 rfl rfl rfl (hK.2.1 _ (List.mem_of_getElem? (i := 5) rfl)) (hts (.initialized RX4) (List.mem_of_getElem? (i := 8) rfl)) (by decide +kernel) ⟨Nat.le_of_ble_eq_true rfl, Nat.le_of_ble_eq_true rfl⟩) (hts (.static yX4_isColumn) (List.mem_of_getElem? (i := 7) rfl)) hK hP hD hS hA [] [0, 1] rfl rfl rfl rfl rfl (by decide) rfl hl.1 rfl (Nat.le_of_ble_eq_true rfl) dX2_moveToNext_16 (Nat.zero_le _) (Nat.zero_le _) (fun H locs hP hD hS => ?_)
  have hP : va_P D vwCl [(a_t, .inr (2, [.ref a_cells])), (a_cells, .inl (cI, 393, .inl v_cells))] H := hP
  have hD : va_D A [(a_t, .inr (2, [.ref a_cells])), (a_cells, .inl (cI, 393, .inl v_cells))] := hD
  refine lv_if_eq (tgt := 45) hx hb dX2_moveToNext_19 (by decide) (fun hc => ?_) (fun hc => ?_)
  · replace hf := ip hc hf
    have ho := Option.some.inj hf
    subst ho
    exact hret dX2_moveToNext_45 (hP.sub (ws' := [(a_t, .inr (2, [.ref a_cells])), (a_cells, .inl (cI, 393, .inl v_cells))]) [0, 1] rfl) (hD.sub (ws' := [(a_t, .inr (2, [.ref a_cells])), (a_cells, .inl (cI, 393, .inl v_cells))]) [0, 1] (by decide) rfl) hS
  · replace hf := ineg hc hf
    refine lv_aload_n hx hb dX2_moveToNext_22 rfl (lv_at hl 2 rfl) ?_
    refine lv_iload_n hx hb dX2_moveToNext_23 rfl (lv_at hl 3 rfl) ?_
    refine lv_iload_n hx hb dX2_moveToNext_24 rfl (lv_at hl 4 rfl) ?_
    replace hf := bd_some hf
    obtain ⟨qo5, hqo5, hf⟩ := hf
    refine g_Vi (As := [.int i1, .int i2]) (rest := []) (wr := []) ⟨hx, hb, hml, hown, hts⟩ (k_X2_hasBlock l D cI cC a_t a_cells i1 i2 v_cells qo5 hqo5) (cwV 2 hts gX2_moveToNext_X2_hasBlock rfl rfl rfl (by decide +kernel) ⟨Nat.le_of_ble_eq_true rfl, Nat.le_of_ble_eq_true rfl⟩) hK hP hD hS hA 2 0 rfl rfl rfl [0, 1] [] rfl rfl rfl rfl rfl (by decide) rfl hl.1 rfl (Nat.le_of_ble_eq_true rfl) dX2_moveToNext_25 (Nat.zero_le _) (Nat.zero_le _) (fun H locs hP hD hS => ?_)
    have hP : va_P D vwCl [(a_t, .inr (2, [.ref a_cells])), (a_cells, .inl (cI, 393, .inl v_cells))] H := hP
    have hD : va_D A [(a_t, .inr (2, [.ref a_cells])), (a_cells, .inl (cI, 393, .inl v_cells))] := hD
    refine lv_if_eq (tgt := 45) hx hb dX2_moveToNext_28 (by decide) (fun hc => ?_) (fun hc => ?_)
    · replace hf := ip hc hf
      have ho := Option.some.inj hf
      subst ho
      exact hret dX2_moveToNext_45 (hP.sub (ws' := [(a_t, .inr (2, [.ref a_cells])), (a_cells, .inl (cI, 393, .inl v_cells))]) [0, 1] rfl) (hD.sub (ws' := [(a_t, .inr (2, [.ref a_cells])), (a_cells, .inl (cI, 393, .inl v_cells))]) [0, 1] (by decide) rfl) hS
    · replace hf := ineg hc hf
      refine lv_aload_n hx hb dX2_moveToNext_31 rfl (lv_at hl 2 rfl) ?_
      refine lv_iload hx hb dX2_moveToNext_32 (lv_at hl 1 rfl) ?_
      replace hf := bd_some hf
      obtain ⟨qo6, hqo6, hf⟩ := hf
      refine g_Vi (As := [.int qx1]) (rest := []) (wr := []) ⟨hx, hb, hml, hown, hts⟩ (k_X2_blocksOf l D cI cC a_t a_cells qx1 v_cells qo6 hqo6) (cwV 1 hts gX2_moveToNext_X2_blocksOf rfl rfl rfl (by decide +kernel) ⟨Nat.le_of_ble_eq_true rfl, Nat.le_of_ble_eq_true rfl⟩) hK hP hD hS hA 2 0 rfl rfl rfl [0, 1] [] rfl rfl rfl rfl rfl (by decide) rfl hl.1 rfl (Nat.le_of_ble_eq_true rfl) dX2_moveToNext_34 (Nat.zero_le _) (Nat.zero_le _) (fun H locs hP hD hS => ?_)
      have hP : va_P D vwCl [(a_t, .inr (2, [.ref a_cells])), (a_cells, .inl (cI, 393, .inl v_cells))] H := hP
      have hD : va_D A [(a_t, .inr (2, [.ref a_cells])), (a_cells, .inl (cI, 393, .inl v_cells))] := hD
      refine lv_iload hx hb dX2_moveToNext_37 (lv_at hl 0 rfl) ?_
      refine lv_iadd hx hb dX2_moveToNext_39 ?_
      refine lv_bipush (v := 16) hx hb dX2_moveToNext_40 (by decide) ?_
      refine lv_icmp_le (tgt := 46) hx hb dX2_moveToNext_42 (by decide) (fun hc => ?_) (fun hc => ?_)
      · replace hf := ip hc hf
        refine lv_aload_n hx hb dX2_moveToNext_46 rfl (lv_at hl 2 rfl) ?_
        refine lv_iload hx hb dX2_moveToNext_47 (lv_at hl 1 rfl) ?_
        refine lv_iconst (v := 0) hx hb dX2_moveToNext_49 (by decide) ?_
        replace hf := bd_some hf
        obtain ⟨qo7, hqo7, hf⟩ := hf
        refine g_Si (As := [.int qx1, .int 0]) (rest := [.ref a_t]) (wr := [(a_t, .inr (2, [.ref a_cells])), (a_cells, .inl (cI, 393, .inl v_cells))]) ⟨hx, hb, hml, hown, hts⟩ (k_X2_cellAt l D cI cC qx1 0 qo7 hqo7) (va_cwS 2 hts gX2_moveToNext_X2_cellAt rfl rfl rfl (by decide +kernel) ⟨Nat.le_of_ble_eq_true rfl, Nat.le_of_ble_eq_true rfl⟩) hK hP hD hS hA [] [0, 1] rfl rfl rfl rfl rfl (by decide) rfl hl.1 rfl (Nat.le_of_ble_eq_true rfl) dX2_moveToNext_50 (Nat.zero_le _) (Nat.zero_le _) (fun H locs hP hD hS => ?_)
        have hP : va_P D vwCl [(a_t, .inr (2, [.ref a_cells])), (a_cells, .inl (cI, 393, .inl v_cells))] H := hP
        have hD : va_D A [(a_t, .inr (2, [.ref a_cells])), (a_cells, .inl (cI, 393, .inl v_cells))] := hD
        refine lv_iload hx hb dX2_moveToNext_53 (lv_at hl 1 rfl) ?_
        refine lv_iload hx hb dX2_moveToNext_55 (lv_at hl 0 rfl) ?_
        replace hf := bd_some hf
        obtain ⟨qo8, hqo8, hf⟩ := hf
        refine g_Si (As := [.int qx1, .int qx3]) (rest := [.int qo7, .ref a_t]) (wr := [(a_t, .inr (2, [.ref a_cells])), (a_cells, .inl (cI, 393, .inl v_cells))]) ⟨hx, hb, hml, hown, hts⟩ (k_X2_cellAt l D cI cC qx1 qx3 qo8 hqo8) (va_cwS 2 hts gX2_moveToNext_X2_cellAt rfl rfl rfl (by decide +kernel) ⟨Nat.le_of_ble_eq_true rfl, Nat.le_of_ble_eq_true rfl⟩) hK hP hD hS hA [] [0, 1] rfl rfl rfl rfl rfl (by decide) rfl hl.1 rfl (Nat.le_of_ble_eq_true rfl) dX2_moveToNext_57 (Nat.zero_le _) (Nat.zero_le _) (fun H locs hP hD hS => ?_)
        have hP : va_P D vwCl [(a_t, .inr (2, [.ref a_cells])), (a_cells, .inl (cI, 393, .inl v_cells))] H := hP
        have hD : va_D A [(a_t, .inr (2, [.ref a_cells])), (a_cells, .inl (cI, 393, .inl v_cells))] := hD
        refine lv_aload_n hx hb dX2_moveToNext_60 rfl (lv_at hl 2 rfl) ?_
        refine lv_iload hx hb dX2_moveToNext_61 (lv_at hl 1 rfl) ?_
        replace hf := bd_some hf
        obtain ⟨qo9, hqo9, hf⟩ := hf
        refine g_Vi (As := [.int qx1]) (rest := [.int qo8, .int qo7, .ref a_t]) (wr := []) ⟨hx, hb, hml, hown, hts⟩ (k_X2_blocksOf l D cI cC a_t a_cells qx1 v_cells qo9 hqo9) (cwV 1 hts gX2_moveToNext_X2_blocksOf rfl rfl rfl (by decide +kernel) ⟨Nat.le_of_ble_eq_true rfl, Nat.le_of_ble_eq_true rfl⟩) hK hP hD hS hA 2 0 rfl rfl rfl [0, 1] [] rfl rfl rfl rfl rfl (by decide) rfl hl.1 rfl (Nat.le_of_ble_eq_true rfl) dX2_moveToNext_63 (Nat.zero_le _) (Nat.zero_le _) (fun H locs hP hD hS => ?_)
        have hP : va_P D vwCl [(a_t, .inr (2, [.ref a_cells])), (a_cells, .inl (cI, 393, .inl v_cells))] H := hP
        have hD : va_D A [(a_t, .inr (2, [.ref a_cells])), (a_cells, .inl (cI, 393, .inl v_cells))] := hD
        replace hf := bd_some hf
        obtain ⟨qo10, hqo10, hf⟩ := hf
        refine g_Vv (As := [.int qo7, .int qo8, .int qo9]) (rest := []) (wr := []) ⟨hx, hb, hml, hown, hts⟩ (k_X2_moveBlocks l D cI cC a_t a_cells qo7 qo8 qo9 v_cells qo10 hqo10) (cwV 3 hts gX2_moveToNext_X2_moveBlocks rfl rfl rfl (by decide +kernel) ⟨Nat.le_of_ble_eq_true rfl, Nat.le_of_ble_eq_true rfl⟩) hK hP hD hS hA 2 0 rfl rfl rfl [0, 1] [] rfl rfl rfl rfl rfl (by decide) rfl hl.1 rfl (Nat.le_of_ble_eq_true rfl) dX2_moveToNext_66 (Nat.zero_le _) (Nat.zero_le _) (fun H locs hP hD hS => ?_)
        have hP : va_P D vwCl [(a_t, .inr (2, [.ref a_cells])), (a_cells, .inl (cI, 393, .inl qo10))] H := hP
        have hD : va_D A [(a_t, .inr (2, [.ref a_cells])), (a_cells, .inl (cI, 393, .inl qo10))] := hD
        refine lv_aload_n hx hb dX2_moveToNext_69 rfl (lv_at hl 2 rfl) ?_
        refine lv_iload_n hx hb dX2_moveToNext_70 rfl (lv_at hl 3 rfl) ?_
        refine lv_iload_n hx hb dX2_moveToNext_71 rfl (lv_at hl 4 rfl) ?_
        replace hf := bd_some hf
        obtain ⟨qo11, hqo11, hf⟩ := hf
        refine g_Si (As := [.int i1, .int i2]) (rest := [.ref a_t]) (wr := [(a_t, .inr (2, [.ref a_cells])), (a_cells, .inl (cI, 393, .inl qo10))]) ⟨hx, hb, hml, hown, hts⟩ (k_X2_cellAt l D cI cC i1 i2 qo11 hqo11) (va_cwS 2 hts gX2_moveToNext_X2_cellAt rfl rfl rfl (by decide +kernel) ⟨Nat.le_of_ble_eq_true rfl, Nat.le_of_ble_eq_true rfl⟩) hK hP hD hS hA [] [0, 1] rfl rfl rfl rfl rfl (by decide) rfl hl.1 rfl (Nat.le_of_ble_eq_true rfl) dX2_moveToNext_72 (Nat.zero_le _) (Nat.zero_le _) (fun H locs hP hD hS => ?_)
        have hP : va_P D vwCl [(a_t, .inr (2, [.ref a_cells])), (a_cells, .inl (cI, 393, .inl qo10))] H := hP
        have hD : va_D A [(a_t, .inr (2, [.ref a_cells])), (a_cells, .inl (cI, 393, .inl qo10))] := hD
        refine lv_iload hx hb dX2_moveToNext_75 (lv_at hl 1 rfl) ?_
        refine lv_iconst (v := 0) hx hb dX2_moveToNext_77 (by decide) ?_
        replace hf := bd_some hf
        obtain ⟨qo12, hqo12, hf⟩ := hf
        refine g_Si (As := [.int qx1, .int 0]) (rest := [.int qo11, .ref a_t]) (wr := [(a_t, .inr (2, [.ref a_cells])), (a_cells, .inl (cI, 393, .inl qo10))]) ⟨hx, hb, hml, hown, hts⟩ (k_X2_cellAt l D cI cC qx1 0 qo12 hqo12) (va_cwS 2 hts gX2_moveToNext_X2_cellAt rfl rfl rfl (by decide +kernel) ⟨Nat.le_of_ble_eq_true rfl, Nat.le_of_ble_eq_true rfl⟩) hK hP hD hS hA [] [0, 1] rfl rfl rfl rfl rfl (by decide) rfl hl.1 rfl (Nat.le_of_ble_eq_true rfl) dX2_moveToNext_78 (Nat.zero_le _) (Nat.zero_le _) (fun H locs hP hD hS => ?_)
        have hP : va_P D vwCl [(a_t, .inr (2, [.ref a_cells])), (a_cells, .inl (cI, 393, .inl qo10))] H := hP
        have hD : va_D A [(a_t, .inr (2, [.ref a_cells])), (a_cells, .inl (cI, 393, .inl qo10))] := hD
        refine lv_iload hx hb dX2_moveToNext_81 (lv_at hl 0 rfl) ?_
        replace hf := bd_some hf
        obtain ⟨qo13, hqo13, hf⟩ := hf
        refine g_Vv (As := [.int qo11, .int qo12, .int qx3]) (rest := []) (wr := []) ⟨hx, hb, hml, hown, hts⟩ (k_X2_moveBlocks l D cI cC a_t a_cells qo11 qo12 qx3 qo10 qo13 hqo13) (cwV 3 hts gX2_moveToNext_X2_moveBlocks rfl rfl rfl (by decide +kernel) ⟨Nat.le_of_ble_eq_true rfl, Nat.le_of_ble_eq_true rfl⟩) hK hP hD hS hA 2 0 rfl rfl rfl [0, 1] [] rfl rfl rfl rfl rfl (by decide) rfl hl.1 rfl (Nat.le_of_ble_eq_true rfl) dX2_moveToNext_83 (Nat.zero_le _) (Nat.zero_le _) (fun H locs hP hD hS => ?_)
        have hP : va_P D vwCl [(a_t, .inr (2, [.ref a_cells])), (a_cells, .inl (cI, 393, .inl qo13))] H := hP
        have hD : va_D A [(a_t, .inr (2, [.ref a_cells])), (a_cells, .inl (cI, 393, .inl qo13))] := hD
        refine lv_aload_n hx hb dX2_moveToNext_86 rfl (lv_at hl 2 rfl) ?_
        refine lv_iload hx hb dX2_moveToNext_87 (lv_at hl 1 rfl) ?_
        refine lv_aload_n hx hb dX2_moveToNext_89 rfl (lv_at hl 2 rfl) ?_
        refine lv_iload hx hb dX2_moveToNext_90 (lv_at hl 1 rfl) ?_
        replace hf := bd_some hf
        obtain ⟨qo14, hqo14, hf⟩ := hf
        refine g_Vi (As := [.int qx1]) (rest := [.int qx1, .ref a_t]) (wr := []) ⟨hx, hb, hml, hown, hts⟩ (k_X2_blocksOf l D cI cC a_t a_cells qx1 qo13 qo14 hqo14) (cwV 1 hts gX2_moveToNext_X2_blocksOf rfl rfl rfl (by decide +kernel) ⟨Nat.le_of_ble_eq_true rfl, Nat.le_of_ble_eq_true rfl⟩) hK hP hD hS hA 2 0 rfl rfl rfl [0, 1] [] rfl rfl rfl rfl rfl (by decide) rfl hl.1 rfl (Nat.le_of_ble_eq_true rfl) dX2_moveToNext_92 (Nat.zero_le _) (Nat.zero_le _) (fun H locs hP hD hS => ?_)
        have hP : va_P D vwCl [(a_t, .inr (2, [.ref a_cells])), (a_cells, .inl (cI, 393, .inl qo13))] H := hP
        have hD : va_D A [(a_t, .inr (2, [.ref a_cells])), (a_cells, .inl (cI, 393, .inl qo13))] := hD
        refine lv_iload hx hb dX2_moveToNext_95 (lv_at hl 0 rfl) ?_
        refine lv_iadd hx hb dX2_moveToNext_97 ?_
        replace hf := bd_some hf
        obtain ⟨qo15, hqo15, hf⟩ := hf
        refine g_Vv (As := [.int qx1, .int (qo14 + qx3)]) (rest := []) (wr := []) ⟨hx, hb, hml, hown, hts⟩ (k_X2_changeBlocks l D cI cC a_t a_cells qx1 (qo14 + qx3) qo13 qo15 hqo15) (cwV 2 hts gX2_moveToNext_X2_changeBlocks rfl rfl rfl (by decide +kernel) ⟨Nat.le_of_ble_eq_true rfl, Nat.le_of_ble_eq_true rfl⟩) hK hP hD hS hA 2 0 rfl rfl rfl [0, 1] [] rfl rfl rfl rfl rfl (by decide) rfl hl.1 rfl (Nat.le_of_ble_eq_true rfl) dX2_moveToNext_98 (Nat.zero_le _) (Nat.zero_le _) (fun H locs hP hD hS => ?_)
        have hP : va_P D vwCl [(a_t, .inr (2, [.ref a_cells])), (a_cells, .inl (cI, 393, .inl qo15))] H := hP
        have hD : va_D A [(a_t, .inr (2, [.ref a_cells])), (a_cells, .inl (cI, 393, .inl qo15))] := hD
        refine lv_aload_n hx hb dX2_moveToNext_101 rfl (lv_at hl 2 rfl) ?_
        refine lv_iload_n hx hb dX2_moveToNext_102 rfl (lv_at hl 3 rfl) ?_
        refine lv_iload_n hx hb dX2_moveToNext_103 rfl (lv_at hl 4 rfl) ?_
        replace hf := bd_some hf
        obtain ⟨qo16, hqo16, hf⟩ := hf
        refine g_Vv (As := [.int i1, .int i2]) (rest := []) (wr := []) ⟨hx, hb, hml, hown, hts⟩ (k_X2_changeBlocks l D cI cC a_t a_cells i1 i2 qo15 qo16 hqo16) (cwV 2 hts gX2_moveToNext_X2_changeBlocks rfl rfl rfl (by decide +kernel) ⟨Nat.le_of_ble_eq_true rfl, Nat.le_of_ble_eq_true rfl⟩) hK hP hD hS hA 2 0 rfl rfl rfl [0, 1] [] rfl rfl rfl rfl rfl (by decide) rfl hl.1 rfl (Nat.le_of_ble_eq_true rfl) dX2_moveToNext_104 (Nat.zero_le _) (Nat.zero_le _) (fun H locs hP hD hS => ?_)
        have hP : va_P D vwCl [(a_t, .inr (2, [.ref a_cells])), (a_cells, .inl (cI, 393, .inl qo16))] H := hP
        have hD : va_D A [(a_t, .inr (2, [.ref a_cells])), (a_cells, .inl (cI, 393, .inl qo16))] := hD
        refine lv_iload_n hx hb dX2_moveToNext_107 rfl (lv_at hl 5 rfl) ?_
        refine lv_if_le (tgt := 145) hx hb dX2_moveToNext_108 (by decide) (fun hc => ?_) (fun hc => ?_)
        · replace hf := ip hc hf
          have ho := Option.some.inj hf
          subst ho
          exact hret dX2_moveToNext_145 (hP.sub (ws' := [(a_t, .inr (2, [.ref a_cells])), (a_cells, .inl (cI, 393, .inl qo16))]) [0, 1] rfl) (hD.sub (ws' := [(a_t, .inr (2, [.ref a_cells])), (a_cells, .inl (cI, 393, .inl qo16))]) [0, 1] (by decide) rfl) hS
        · replace hf := ineg hc hf
          refine lv_aload_n hx hb dX2_moveToNext_111 rfl (lv_at hl 2 rfl) ?_
          refine lv_iload_n hx hb dX2_moveToNext_112 rfl (lv_at hl 3 rfl) ?_
          refine lv_iload_n hx hb dX2_moveToNext_113 rfl (lv_at hl 4 rfl) ?_
          refine lv_iconst (v := 1) hx hb dX2_moveToNext_114 (by decide) ?_
          refine lv_iadd hx hb dX2_moveToNext_115 ?_
          replace hf := bd_some hf
          obtain ⟨qo17, hqo17, hf⟩ := hf
          refine g_Vv (As := [.int i1, .int (i2 + 1)]) (rest := []) (wr := []) ⟨hx, hb, hml, hown, hts⟩ (k_X2_changeBlocks l D cI cC a_t a_cells i1 (i2 + 1) qo16 qo17 hqo17) (cwV 2 hts gX2_moveToNext_X2_changeBlocks rfl rfl rfl (by decide +kernel) ⟨Nat.le_of_ble_eq_true rfl, Nat.le_of_ble_eq_true rfl⟩) hK hP hD hS hA 2 0 rfl rfl rfl [0, 1] [] rfl rfl rfl rfl rfl (by decide) rfl hl.1 rfl (Nat.le_of_ble_eq_true rfl) dX2_moveToNext_116 (Nat.zero_le _) (Nat.zero_le _) (fun H locs hP hD hS => ?_)
          have hP : va_P D vwCl [(a_t, .inr (2, [.ref a_cells])), (a_cells, .inl (cI, 393, .inl qo17))] H := hP
          have hD : va_D A [(a_t, .inr (2, [.ref a_cells])), (a_cells, .inl (cI, 393, .inl qo17))] := hD
          refine lv_aload_n hx hb dX2_moveToNext_119 rfl (lv_at hl 2 rfl) ?_
          refine lv_iload hx hb dX2_moveToNext_120 (lv_at hl 1 rfl) ?_
          refine lv_iconst (v := 0) hx hb dX2_moveToNext_122 (by decide) ?_
          refine lv_iconst (v := 1) hx hb dX2_moveToNext_123 (by decide) ?_
          refine lv_aload_n hx hb dX2_moveToNext_124 rfl (lv_at hl 2 rfl) ?_
          refine lv_iload hx hb dX2_moveToNext_125 (lv_at hl 1 rfl) ?_
          refine lv_iconst (v := 0) hx hb dX2_moveToNext_127 (by decide) ?_
          refine lv_iconst (v := 1) hx hb dX2_moveToNext_128 (by decide) ?_
          replace hf := bd_some hf
          obtain ⟨qo18, hqo18, hf⟩ := hf
          refine g_Vi (As := [.int qx1, .int 0, .int 1]) (rest := [.int 1, .int 0, .int qx1, .ref a_t]) (wr := []) ⟨hx, hb, hml, hown, hts⟩ (k_X2_fieldOf l D cI cC a_t a_cells qx1 0 1 qo17 qo18 hqo18) (cwV 3 hts gX2_moveToNext_X2_fieldOf rfl rfl rfl (by decide +kernel) ⟨Nat.le_of_ble_eq_true rfl, Nat.le_of_ble_eq_true rfl⟩) hK hP hD hS hA 2 0 rfl rfl rfl [0, 1] [] rfl rfl rfl rfl rfl (by decide) rfl hl.1 rfl (Nat.le_of_ble_eq_true rfl) dX2_moveToNext_129 (Nat.zero_le _) (Nat.zero_le _) (fun H locs hP hD hS => ?_)
          have hP : va_P D vwCl [(a_t, .inr (2, [.ref a_cells])), (a_cells, .inl (cI, 393, .inl qo17))] H := hP
          have hD : va_D A [(a_t, .inr (2, [.ref a_cells])), (a_cells, .inl (cI, 393, .inl qo17))] := hD
          refine lv_iload_n hx hb dX2_moveToNext_132 rfl (lv_at hl 5 rfl) ?_
          refine lv_isub hx hb dX2_moveToNext_133 ?_
          replace hf := bd_some hf
          obtain ⟨qo19, hqo19, hf⟩ := hf
          refine g_Vv (As := [.int qx1, .int 0, .int 1, .int (qo18 - i3)]) (rest := []) (wr := []) ⟨hx, hb, hml, hown, hts⟩ (k_X2_changeField l D cI cC a_t a_cells qx1 0 1 (qo18 - i3) qo17 qo19 hqo19) (cwV 4 hts gX2_moveToNext_X2_changeField rfl rfl rfl (by decide +kernel) ⟨Nat.le_of_ble_eq_true rfl, Nat.le_of_ble_eq_true rfl⟩) hK hP hD hS hA 2 0 rfl rfl rfl [0, 1] [] rfl rfl rfl rfl rfl (by decide) rfl hl.1 rfl (Nat.le_of_ble_eq_true rfl) dX2_moveToNext_134 (Nat.zero_le _) (Nat.zero_le _) (fun H locs hP hD hS => ?_)
          have hP : va_P D vwCl [(a_t, .inr (2, [.ref a_cells])), (a_cells, .inl (cI, 393, .inl qo19))] H := hP
          have hD : va_D A [(a_t, .inr (2, [.ref a_cells])), (a_cells, .inl (cI, 393, .inl qo19))] := hD
          refine lv_aload_n hx hb dX2_moveToNext_137 rfl (lv_at hl 2 rfl) ?_
          refine lv_iload_n hx hb dX2_moveToNext_138 rfl (lv_at hl 3 rfl) ?_
          refine lv_iload_n hx hb dX2_moveToNext_139 rfl (lv_at hl 4 rfl) ?_
          refine lv_iconst (v := 1) hx hb dX2_moveToNext_140 (by decide) ?_
          refine lv_iload_n hx hb dX2_moveToNext_141 rfl (lv_at hl 5 rfl) ?_
          replace hf := bd_some hf
          obtain ⟨qo20, hqo20, hf⟩ := hf
          refine g_Vv (As := [.int i1, .int i2, .int 1, .int i3]) (rest := []) (wr := []) ⟨hx, hb, hml, hown, hts⟩ (k_X2_changeField l D cI cC a_t a_cells i1 i2 1 i3 qo19 qo20 hqo20) (cwV 4 hts gX2_moveToNext_X2_changeField rfl rfl rfl (by decide +kernel) ⟨Nat.le_of_ble_eq_true rfl, Nat.le_of_ble_eq_true rfl⟩) hK hP hD hS hA 2 0 rfl rfl rfl [0, 1] [] rfl rfl rfl rfl rfl (by decide) rfl hl.1 rfl (Nat.le_of_ble_eq_true rfl) dX2_moveToNext_142 (Nat.zero_le _) (Nat.zero_le _) (fun H locs hP hD hS => ?_)
          have hP : va_P D vwCl [(a_t, .inr (2, [.ref a_cells])), (a_cells, .inl (cI, 393, .inl qo20))] H := hP
          have hD : va_D A [(a_t, .inr (2, [.ref a_cells])), (a_cells, .inl (cI, 393, .inl qo20))] := hD
          have ho := Option.some.inj hf
          subst ho
          exact hret dX2_moveToNext_145 (hP.sub (ws' := [(a_t, .inr (2, [.ref a_cells])), (a_cells, .inl (cI, 393, .inl qo20))]) [0, 1] rfl) (hD.sub (ws' := [(a_t, .inr (2, [.ref a_cells])), (a_cells, .inl (cI, 393, .inl qo20))]) [0, 1] (by decide) rfl) hS
      · replace hf := ineg hc hf
        have ho := Option.some.inj hf
        subst ho
        exact hret dX2_moveToNext_45 (hP.sub (ws' := [(a_t, .inr (2, [.ref a_cells])), (a_cells, .inl (cI, 393, .inl v_cells))]) [0, 1] rfl) (hD.sub (ws' := [(a_t, .inr (2, [.ref a_cells])), (a_cells, .inl (cI, 393, .inl v_cells))]) [0, 1] (by decide) rfl) hS
def fX2_copyTo (n_p1 : Nat) (i2 : Int32) (v_cells : Nat → Int32) (v_p1 : Nat → Int32) : Option ((Nat → Int32)) :=
  bd (fX4_copyCells 393 n_p1 0 i2 393 v_cells v_p1) fun qo1 => some qo1
def rX2_copyTo : Room := { frames := 2, cells := 0, slots := 0, locals := 50 }
theorem hin_X2_copyTo_X2 : ∀ w ∈ wsX20, w ∈ wsX2_copyTo := fun _ h => List.mem_cons_of_mem _ (List.mem_append_right _ (h))
set_option maxHeartbeats 4000000 in
set_option maxRecDepth 100000 in
theorem k_X2_copyTo (l : Launch) (D : va_G) (cI cC : ClassId) (a_t : Nat) (a_cells : Nat) (a_p1 : Nat) (n_p1 : Nat) (i2 : Int32) (v_cells : Nat → Int32) (v_p1 : Nat → Int32) (o : (Nat → Int32)) (hf : fX2_copyTo n_p1 i2 v_cells v_p1 = some o) : CTv l yX2_copyTo wsX2_copyTo rX2_copyTo D cI cC [.ref a_t, .ref a_p1, .int i2] [(a_t, .inr (2, [.ref a_cells])), (a_cells, .inl (cI, 393, .inl v_cells)), (a_p1, .inl (cI, n_p1, .inl v_p1))] [(a_t, .inr (2, [.ref a_cells])), (a_cells, .inl (cI, 393, .inl v_cells)), (a_p1, .inl (cI, n_p1, .inl o))]  := by
  refine CTv_of (cc := cX2_copyTo) (maxL := 3) (by decide) rfl (Nat.le_of_ble_eq_true rfl) ?_
  intro p e s m args below meth c A Q ls C0 hA hP hD hl hret
  obtain ⟨hx, hb, hml, hts, hown, hK⟩ := C0
  have hown : s.vm.findClass RX2 = some m.cls := hown
  have hS : va_S A s.heap s.heap [] := va_S.rf
  have hl : lv_has ls 3 [(0, .ref a_t), (1, .ref a_p1), (2, .int i2)] := hl
  have hinX2 := hin_X2_copyTo_X2
  unfold fX2_copyTo at hf
  refine lv_aload_n hx hb dX2_copyTo_0 rfl (lv_at hl 0 rfl) ?_
  refine va_get (D := D) (ci := 2) (v := .ref a_cells) (C := RX2) (T := TX2) (N := 1) hx hb hts hinX2 hown hK.1 hP 0 rfl rfl 0 (by decide) (hts (.fieldLink RX2 9 "BaselineGrid$Page" "cells" "[I") (List.mem_of_getElem? (i := 1) rfl)) (fun _ h9 => h9) rfl dX2_copyTo_1 ?_
  refine lv_iconst (v := 0) hx hb dX2_copyTo_4 (by decide) ?_
  refine lv_aload_n hx hb dX2_copyTo_5 rfl (lv_at hl 1 rfl) ?_
  refine lv_iload_n hx hb dX2_copyTo_6 rfl (lv_at hl 2 rfl) ?_
  refine lv_sipush (v := 393) hx hb dX2_copyTo_7 (by decide) ?_
  replace hf := bd_some hf
  obtain ⟨qo1, hqo1, hf⟩ := hf
  refine g_Nv (As := [.ref a_cells, .int 0, .ref a_p1, .int i2, .int 393]) (rest := []) (wr := [(a_t, .inr (2, [.ref a_cells]))]) (host := RX4) ⟨hx, hb, hml, hown, hts⟩ (k_X4_copyCells l D cI cC a_cells a_p1 393 n_p1 0 i2 393 v_cells v_p1 qo1 hqo1) (va_cnB 5 hts gX2_copyTo_X4_copyCells_n53 rfl rfl rfl (hK.2.1 _ (List.mem_of_getElem? (i := 8) rfl)) (hts (.initialized RX4) (List.mem_of_getElem? (i := 3) rfl)) (by decide +kernel) ⟨Nat.le_of_ble_eq_true rfl, Nat.le_of_ble_eq_true rfl⟩) (hts (.static yX4_copyCells) (List.mem_of_getElem? (i := 2) rfl)) hK hP hD hS hA [1, 2] [0] rfl rfl rfl rfl rfl (by decide) rfl hl.1 rfl (Nat.le_of_ble_eq_true rfl) dX2_copyTo_10 (Nat.zero_le _) (Nat.zero_le _) (fun H locs hP hD hS => ?_)
  have hP : va_P D vwCl [(a_t, .inr (2, [.ref a_cells])), (a_cells, .inl (cI, 393, .inl v_cells)), (a_p1, .inl (cI, n_p1, .inl qo1))] H := hP
  have hD : va_D A [(a_t, .inr (2, [.ref a_cells])), (a_cells, .inl (cI, 393, .inl v_cells)), (a_p1, .inl (cI, n_p1, .inl qo1))] := hD
  have ho := Option.some.inj hf
  subst ho
  exact hret dX2_copyTo_13 (hP.sub (ws' := [(a_t, .inr (2, [.ref a_cells])), (a_cells, .inl (cI, 393, .inl v_cells)), (a_p1, .inl (cI, n_p1, .inl qo1))]) [0, 1, 2] rfl) (hD.sub (ws' := [(a_t, .inr (2, [.ref a_cells])), (a_cells, .inl (cI, 393, .inl v_cells)), (a_p1, .inl (cI, n_p1, .inl qo1))]) [0, 1, 2] (by decide) rfl) hS
def fX2_copyFrom (n_p1 : Nat) (i2 : Int32) (v_cells : Nat → Int32) (v_p1 : Nat → Int32) : Option ((Nat → Int32)) :=
  bd (fX4_copyCells n_p1 393 i2 0 393 v_p1 v_cells) fun qo1 => some qo1
def rX2_copyFrom : Room := { frames := 2, cells := 0, slots := 0, locals := 50 }
theorem hin_X2_copyFrom_X2 : ∀ w ∈ wsX20, w ∈ wsX2_copyFrom := fun _ h => List.mem_cons_of_mem _ (List.mem_append_right _ (h))
set_option maxHeartbeats 4000000 in
set_option maxRecDepth 100000 in
theorem k_X2_copyFrom (l : Launch) (D : va_G) (cI cC : ClassId) (a_t : Nat) (a_cells : Nat) (a_p1 : Nat) (n_p1 : Nat) (i2 : Int32) (v_cells : Nat → Int32) (v_p1 : Nat → Int32) (o : (Nat → Int32)) (hf : fX2_copyFrom n_p1 i2 v_cells v_p1 = some o) : CTv l yX2_copyFrom wsX2_copyFrom rX2_copyFrom D cI cC [.ref a_t, .ref a_p1, .int i2] [(a_t, .inr (2, [.ref a_cells])), (a_cells, .inl (cI, 393, .inl v_cells)), (a_p1, .inl (cI, n_p1, .inl v_p1))] [(a_t, .inr (2, [.ref a_cells])), (a_cells, .inl (cI, 393, .inl o)), (a_p1, .inl (cI, n_p1, .inl v_p1))]  := by
  refine CTv_of (cc := cX2_copyFrom) (maxL := 3) (by decide) rfl (Nat.le_of_ble_eq_true rfl) ?_
  intro p e s m args below meth c A Q ls C0 hA hP hD hl hret
  obtain ⟨hx, hb, hml, hts, hown, hK⟩ := C0
  have hown : s.vm.findClass RX2 = some m.cls := hown
  have hS : va_S A s.heap s.heap [] := va_S.rf
  have hl : lv_has ls 3 [(0, .ref a_t), (1, .ref a_p1), (2, .int i2)] := hl
  have hinX2 := hin_X2_copyFrom_X2
  unfold fX2_copyFrom at hf
  refine lv_aload_n hx hb dX2_copyFrom_0 rfl (lv_at hl 1 rfl) ?_
  refine lv_iload_n hx hb dX2_copyFrom_1 rfl (lv_at hl 2 rfl) ?_
  refine lv_aload_n hx hb dX2_copyFrom_2 rfl (lv_at hl 0 rfl) ?_
  refine va_get (D := D) (ci := 2) (v := .ref a_cells) (C := RX2) (T := TX2) (N := 1) hx hb hts hinX2 hown hK.1 hP 0 rfl rfl 0 (by decide) (hts (.fieldLink RX2 9 "BaselineGrid$Page" "cells" "[I") (List.mem_of_getElem? (i := 1) rfl)) (fun _ h9 => h9) rfl dX2_copyFrom_3 ?_
  refine lv_iconst (v := 0) hx hb dX2_copyFrom_6 (by decide) ?_
  refine lv_sipush (v := 393) hx hb dX2_copyFrom_7 (by decide) ?_
  replace hf := bd_some hf
  obtain ⟨qo1, hqo1, hf⟩ := hf
  refine g_Nv (As := [.ref a_p1, .int i2, .ref a_cells, .int 0, .int 393]) (rest := []) (wr := [(a_t, .inr (2, [.ref a_cells]))]) (host := RX4) ⟨hx, hb, hml, hown, hts⟩ (k_X4_copyCells l D cI cC a_p1 a_cells n_p1 393 i2 0 393 v_p1 v_cells qo1 hqo1) (va_cnB 5 hts gX2_copyFrom_X4_copyCells_n53 rfl rfl rfl (hK.2.1 _ (List.mem_of_getElem? (i := 8) rfl)) (hts (.initialized RX4) (List.mem_of_getElem? (i := 3) rfl)) (by decide +kernel) ⟨Nat.le_of_ble_eq_true rfl, Nat.le_of_ble_eq_true rfl⟩) (hts (.static yX4_copyCells) (List.mem_of_getElem? (i := 2) rfl)) hK hP hD hS hA [2, 1] [0] rfl rfl rfl rfl rfl (by decide) rfl hl.1 rfl (Nat.le_of_ble_eq_true rfl) dX2_copyFrom_10 (Nat.zero_le _) (Nat.zero_le _) (fun H locs hP hD hS => ?_)
  have hP : va_P D vwCl [(a_t, .inr (2, [.ref a_cells])), (a_p1, .inl (cI, n_p1, .inl v_p1)), (a_cells, .inl (cI, 393, .inl qo1))] H := hP
  have hD : va_D A [(a_t, .inr (2, [.ref a_cells])), (a_p1, .inl (cI, n_p1, .inl v_p1)), (a_cells, .inl (cI, 393, .inl qo1))] := hD
  have ho := Option.some.inj hf
  subst ho
  exact hret dX2_copyFrom_13 (hP.sub (ws' := [(a_t, .inr (2, [.ref a_cells])), (a_cells, .inl (cI, 393, .inl qo1)), (a_p1, .inl (cI, n_p1, .inl v_p1))]) [0, 2, 1] rfl) (hD.sub (ws' := [(a_t, .inr (2, [.ref a_cells])), (a_cells, .inl (cI, 393, .inl qo1)), (a_p1, .inl (cI, n_p1, .inl v_p1))]) [0, 2, 1] (by decide) rfl) hS
