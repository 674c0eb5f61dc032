def fX1_metLines_48 (k4 : Int32 → Int32 → Option (Int32)) (i1 : Int32) (v_lineCounts : Nat → Int32) (v_baselines : Nat → Int32) (w2 : Int32) (w3 : Int32) : Option (Int32) :=
    nm (w3 + 1) fun qx5 => k4 w2 qx5
def fX1_metLines_45 (k4 : Int32 → Int32 → Option (Int32)) (i1 : Int32) (v_lineCounts : Nat → Int32) (v_baselines : Nat → Int32) (w2 : Int32) (w3 : Int32) : Option (Int32) :=
    nm (w2 + 1) fun qx4 => fX1_metLines_48 k4 i1 v_lineCounts v_baselines qx4 w3
def fX1_metLines_4 (i1 : Int32) (v_lineCounts : Nat → Int32) (v_baselines : Nat → Int32) : Nat → Int32 → Int32 → Option (Int32)
  | 0 => fun _ _ => none
  | n + 1 => fun w2 w3 =>
    bd (fX1_linesOf i1 v_lineCounts) fun qo1 => if qo1 ≤ w3 then (some w2) else (bd (fX1_baselineOf i1 w3 v_baselines) fun qo2 => bd (fX1_hasLineAt (i1 - 1) qo2 v_lineCounts v_baselines) fun qo3 => if qo3 = 0 then (bd (fX1_hasLineAt (i1 + 1) qo2 v_lineCounts v_baselines) fun qo6 => if qo6 = 0 then (fX1_metLines_48 (fX1_metLines_4 i1 v_lineCounts v_baselines n) i1 v_lineCounts v_baselines w2 w3) else (fX1_metLines_45 (fX1_metLines_4 i1 v_lineCounts v_baselines n) i1 v_lineCounts v_baselines w2 w3)) else (fX1_metLines_45 (fX1_metLines_4 i1 v_lineCounts v_baselines n) i1 v_lineCounts v_baselines w2 w3))
def fX1_metLines (i1 : Int32) (v_lineCounts : Nat → Int32) (v_baselines : Nat → Int32) : Option (Int32) :=
  fX1_metLines_4 i1 v_lineCounts v_baselines Fu 0 0
def rX1_metLines : Room := { frames := 4, cells := 0, slots := 0, locals := 86 }
set_option maxHeartbeats 4000000 in
set_option maxRecDepth 100000 in
theorem k_X1_metLines (l : Launch) (D : va_G) (cI cC : ClassId) (a_t : Nat) (a_lineCounts : Nat) (a_ends : Nat) (a_overflowing : Nat) (a_ahead : Nat) (a_behind : Nat) (a_setParts : Nat) (a_baselines : Nat) (a_lineBlocks : Nat) (a_reached : Nat) (i1 : Int32) (v_height : Int32) (v_first : Int32) (v_step : Int32) (v_rounding : Int32) (v_cursor : Int32) (v_lineCounts : Nat → Int32) (v_baselines : Nat → Int32) (o : Int32) (hf : fX1_metLines i1 v_lineCounts v_baselines = some o) : CTi l yX1_metLines wsX1_metLines rX1_metLines D cI cC [.ref a_t, .int i1] [(a_t, .inr (1, [.ref a_lineCounts, .ref a_ends, .ref a_overflowing, .ref a_ahead, .ref a_behind, .ref a_setParts, .ref a_baselines, .ref a_lineBlocks, .ref a_reached, .int v_height, .int v_first, .int v_step, .int v_rounding, .int v_cursor])), (a_lineCounts, .inl (cI, 4, .inl v_lineCounts)), (a_baselines, .inl (cI, 2560, .inl v_baselines))] [(a_t, .inr (1, [.ref a_lineCounts, .ref a_ends, .ref a_overflowing, .ref a_ahead, .ref a_behind, .ref a_setParts, .ref a_baselines, .ref a_lineBlocks, .ref a_reached, .int v_height, .int v_first, .int v_step, .int v_rounding, .int v_cursor])), (a_lineCounts, .inl (cI, 4, .inl v_lineCounts)), (a_baselines, .inl (cI, 2560, .inl v_baselines))] o := by
  refine CTi_of (cc := cX1_metLines) (maxL := 5) (ty := .int) (by decide) rfl (Nat.le_of_ble_eq_true rfl) ?_
  intro p e s m args below meth c A Q ls C0 hA hP hD hl hret
  obtain ⟨hx, hb, hml, hts, hown, hK⟩ := C0
  have hown : s.vm.findClass RX1 = some m.cls := hown
  have hS : va_S A s.heap s.heap [] := va_S.rf
  have hl : lv_has ls 5 [(0, .ref a_t), (1, .int i1)] := hl
  have J48 : ∀ (k4 : Int32 → Int32 → Option (Int32)) (w2 : Int32) (w3 : Int32) (hk4 : ∀ (w2 : Int32) (w3 : Int32) (H : Heap) (locs : List Loc) (ls : Array Slot), k4 w2 w3 = some o → va_P D vwCl [(a_t, .inr (1, [.ref a_lineCounts, .ref a_ends, .ref a_overflowing, .ref a_ahead, .ref a_behind, .ref a_setParts, .ref a_baselines, .ref a_lineBlocks, .ref a_reached, .int v_height, .int v_first, .int v_step, .int v_rounding, .int v_cursor])), (a_lineCounts, .inl (cI, 4, .inl v_lineCounts)), (a_baselines, .inl (cI, 2560, .inl v_baselines))] H → va_D A [(a_t, .inr (1, [.ref a_lineCounts, .ref a_ends, .ref a_overflowing, .ref a_ahead, .ref a_behind, .ref a_setParts, .ref a_baselines, .ref a_lineBlocks, .ref a_reached, .int v_height, .int v_first, .int v_step, .int v_rounding, .int v_cursor])), (a_lineCounts, .inl (cI, 4, .inl v_lineCounts)), (a_baselines, .inl (cI, 2560, .inl v_baselines))] → va_S A s.heap H locs → lv_has ls 5 [(0, .ref a_t), (1, .int i1), (2, .int w2), (3, .int w3)] → W p l e rX1_metLines s m args below meth c H locs 0 0 Q (F0 m 4 ls [])) (H : Heap) (locs : List Loc) (ls : Array Slot), fX1_metLines_48 k4 i1 v_lineCounts v_baselines w2 w3 = some o → va_P D vwCl [(a_t, .inr (1, [.ref a_lineCounts, .ref a_ends, .ref a_overflowing, .ref a_ahead, .ref a_behind, .ref a_setParts, .ref a_baselines, .ref a_lineBlocks, .ref a_reached, .int v_height, .int v_first, .int v_step, .int v_rounding, .int v_cursor])), (a_lineCounts, .inl (cI, 4, .inl v_lineCounts)), (a_baselines, .inl (cI, 2560, .inl v_baselines))] H → va_D A [(a_t, .inr (1, [.ref a_lineCounts, .ref a_ends, .ref a_overflowing, .ref a_ahead, .ref a_behind, .ref a_setParts, .ref a_baselines, .ref a_lineBlocks, .ref a_reached, .int v_height, .int v_first, .int v_step, .int v_rounding, .int v_cursor])), (a_lineCounts, .inl (cI, 4, .inl v_lineCounts)), (a_baselines, .inl (cI, 2560, .inl v_baselines))] → va_S A s.heap H locs → lv_has ls 5 [(0, .ref a_t), (1, .int i1), (2, .int w2), (3, .int w3)] → W p l e rX1_metLines s m args below meth c H locs 0 0 Q (F0 m 48 ls []) := by
    intro k4 w2 w3 hk4 H locs ls hf hP hD hS hl
    unfold fX1_metLines_48 at hf
    replace hf := nm_some hf
    obtain ⟨qx5, eqx5, hf⟩ := hf
    refine lv_iinc (v := qx5) (lv' := [(3, .int qx5), (0, .ref a_t), (1, .int i1), (2, .int w2)]) hx hb dX1_metLines_48 hl (k := 3) rfl (by rw [eqx5]; rfl) (by decide) rfl (fun ls hl => ?_)
    refine lv_goto (tgt := 4) hx hb dX1_metLines_51 (by decide) ?_
    exact hk4 w2 qx5 _ _ _ hf (hP.sub (ws' := [(a_t, .inr (1, [.ref a_lineCounts, .ref a_ends, .ref a_overflowing, .ref a_ahead, .ref a_behind, .ref a_setParts, .ref a_baselines, .ref a_lineBlocks, .ref a_reached, .int v_height, .int v_first, .int v_step, .int v_rounding, .int v_cursor])), (a_lineCounts, .inl (cI, 4, .inl v_lineCounts)), (a_baselines, .inl (cI, 2560, .inl v_baselines))]) [0, 1, 2] rfl) (hD.sub (ws' := [(a_t, .inr (1, [.ref a_lineCounts, .ref a_ends, .ref a_overflowing, .ref a_ahead, .ref a_behind, .ref a_setParts, .ref a_baselines, .ref a_lineBlocks, .ref a_reached, .int v_height, .int v_first, .int v_step, .int v_rounding, .int v_cursor])), (a_lineCounts, .inl (cI, 4, .inl v_lineCounts)), (a_baselines, .inl (cI, 2560, .inl v_baselines))]) [0, 1, 2] (by decide) rfl) hS (lv_sub hl [1, 2, 3, 0] rfl)
  have J45 : ∀ (k4 : Int32 → Int32 → Option (Int32)) (w2 : Int32) (w3 : Int32) (hk4 : ∀ (w2 : Int32) (w3 : Int32) (H : Heap) (locs : List Loc) (ls : Array Slot), k4 w2 w3 = some o → va_P D vwCl [(a_t, .inr (1, [.ref a_lineCounts, .ref a_ends, .ref a_overflowing, .ref a_ahead, .ref a_behind, .ref a_setParts, .ref a_baselines, .ref a_lineBlocks, .ref a_reached, .int v_height, .int v_first, .int v_step, .int v_rounding, .int v_cursor])), (a_lineCounts, .inl (cI, 4, .inl v_lineCounts)), (a_baselines, .inl (cI, 2560, .inl v_baselines))] H → va_D A [(a_t, .inr (1, [.ref a_lineCounts, .ref a_ends, .ref a_overflowing, .ref a_ahead, .ref a_behind, .ref a_setParts, .ref a_baselines, .ref a_lineBlocks, .ref a_reached, .int v_height, .int v_first, .int v_step, .int v_rounding, .int v_cursor])), (a_lineCounts, .inl (cI, 4, .inl v_lineCounts)), (a_baselines, .inl (cI, 2560, .inl v_baselines))] → va_S A s.heap H locs → lv_has ls 5 [(0, .ref a_t), (1, .int i1), (2, .int w2), (3, .int w3)] → W p l e rX1_metLines s m args below meth c H locs 0 0 Q (F0 m 4 ls [])) (H : Heap) (locs : List Loc) (ls : Array Slot), fX1_metLines_45 k4 i1 v_lineCounts v_baselines w2 w3 = some o → va_P D vwCl [(a_t, .inr (1, [.ref a_lineCounts, .ref a_ends, .ref a_overflowing, .ref a_ahead, .ref a_behind, .ref a_setParts, .ref a_baselines, .ref a_lineBlocks, .ref a_reached, .int v_height, .int v_first, .int v_step, .int v_rounding, .int v_cursor])), (a_lineCounts, .inl (cI, 4, .inl v_lineCounts)), (a_baselines, .inl (cI, 2560, .inl v_baselines))] H → va_D A [(a_t, .inr (1, [.ref a_lineCounts, .ref a_ends, .ref a_overflowing, .ref a_ahead, .ref a_behind, .ref a_setParts, .ref a_baselines, .ref a_lineBlocks, .ref a_reached, .int v_height, .int v_first, .int v_step, .int v_rounding, .int v_cursor])), (a_lineCounts, .inl (cI, 4, .inl v_lineCounts)), (a_baselines, .inl (cI, 2560, .inl v_baselines))] → va_S A s.heap H locs → lv_has ls 5 [(0, .ref a_t), (1, .int i1), (2, .int w2), (3, .int w3)] → W p l e rX1_metLines s m args below meth c H locs 0 0 Q (F0 m 45 ls []) := by
    intro k4 w2 w3 hk4 H locs ls hf hP hD hS hl
    unfold fX1_metLines_45 at hf
    replace hf := nm_some hf
    obtain ⟨qx4, eqx4, hf⟩ := hf
    refine lv_iinc (v := qx4) (lv' := [(2, .int qx4), (0, .ref a_t), (1, .int i1), (3, .int w3)]) hx hb dX1_metLines_45 hl (k := 2) rfl (by rw [eqx4]; rfl) (by decide) rfl (fun ls hl => ?_)
    exact J48 k4 qx4 w3 hk4 _ _ _ hf (hP.sub (ws' := [(a_t, .inr (1, [.ref a_lineCounts, .ref a_ends, .ref a_overflowing, .ref a_ahead, .ref a_behind, .ref a_setParts, .ref a_baselines, .ref a_lineBlocks, .ref a_reached, .int v_height, .int v_first, .int v_step, .int v_rounding, .int v_cursor])), (a_lineCounts, .inl (cI, 4, .inl v_lineCounts)), (a_baselines, .inl (cI, 2560, .inl v_baselines))]) [0, 1, 2] rfl) (hD.sub (ws' := [(a_t, .inr (1, [.ref a_lineCounts, .ref a_ends, .ref a_overflowing, .ref a_ahead, .ref a_behind, .ref a_setParts, .ref a_baselines, .ref a_lineBlocks, .ref a_reached, .int v_height, .int v_first, .int v_step, .int v_rounding, .int v_cursor])), (a_lineCounts, .inl (cI, 4, .inl v_lineCounts)), (a_baselines, .inl (cI, 2560, .inl v_baselines))]) [0, 1, 2] (by decide) rfl) hS (lv_sub hl [1, 2, 0, 3] rfl)
  have J4 : ∀   (n : Nat) (w2 : Int32) (w3 : Int32) (H : Heap) (locs : List Loc) (ls : Array Slot), fX1_metLines_4 i1 v_lineCounts v_baselines n w2 w3 = some o → va_P D vwCl [(a_t, .inr (1, [.ref a_lineCounts, .ref a_ends, .ref a_overflowing, .ref a_ahead, .ref a_behind, .ref a_setParts, .ref a_baselines, .ref a_lineBlocks, .ref a_reached, .int v_height, .int v_first, .int v_step, .int v_rounding, .int v_cursor])), (a_lineCounts, .inl (cI, 4, .inl v_lineCounts)), (a_baselines, .inl (cI, 2560, .inl v_baselines))] H → va_D A [(a_t, .inr (1, [.ref a_lineCounts, .ref a_ends, .ref a_overflowing, .ref a_ahead, .ref a_behind, .ref a_setParts, .ref a_baselines, .ref a_lineBlocks, .ref a_reached, .int v_height, .int v_first, .int v_step, .int v_rounding, .int v_cursor])), (a_lineCounts, .inl (cI, 4, .inl v_lineCounts)), (a_baselines, .inl (cI, 2560, .inl v_baselines))] → va_S A s.heap H locs → lv_has ls 5 [(0, .ref a_t), (1, .int i1), (2, .int w2), (3, .int w3)] → W p l e rX1_metLines s m args below meth c H locs 0 0 Q (F0 m 4 ls []) := by
    intro  n
    induction n with
    | zero =>
      intro w2 w3 H locs ls hf
      have hf0 : (none : Option (Int32)) = some o := hf
      cases hf0
    | succ n hk4 =>
      intro w2 w3 H locs ls hf hP hD hS hl
      rw [fX1_metLines_4] at hf
      refine lv_iload_n hx hb dX1_metLines_4 rfl (lv_at hl 3 rfl) ?_
      refine lv_aload_n hx hb dX1_metLines_5 rfl (lv_at hl 0 rfl) ?_
      refine lv_iload_n hx hb dX1_metLines_6 rfl (lv_at hl 1 rfl) ?_
      replace hf := bd_some hf
      obtain ⟨qo1, hqo1, hf⟩ := hf
      refine g_Vi (As := [.int i1]) (rest := [.int w3]) (wr := [(a_baselines, .inl (cI, 2560, .inl v_baselines))]) ⟨hx, hb, hml, hown, hts⟩ (k_X1_linesOf l D cI cC a_t a_lineCounts a_ends a_overflowing a_ahead a_behind a_setParts a_baselines a_lineBlocks a_reached i1 v_height v_first v_step v_rounding v_cursor v_lineCounts qo1 hqo1) (cwV 1 hts gX1_metLines_X1_linesOf rfl rfl rfl (by decide +kernel) ⟨Nat.le_of_ble_eq_true rfl, Nat.le_of_ble_eq_true rfl⟩) hK hP hD hS hA 1 0 rfl rfl rfl [0, 1] [2] rfl rfl rfl rfl rfl (by decide) rfl hl.1 rfl (Nat.le_of_ble_eq_true rfl) dX1_metLines_7 (Nat.zero_le _) (Nat.zero_le _) (fun H locs hP hD hS => ?_)
      have hP : va_P D vwCl [(a_baselines, .inl (cI, 2560, .inl v_baselines)), (a_t, .inr (1, [.ref a_lineCounts, .ref a_ends, .ref a_overflowing, .ref a_ahead, .ref a_behind, .ref a_setParts, .ref a_baselines, .ref a_lineBlocks, .ref a_reached, .int v_height, .int v_first, .int v_step, .int v_rounding, .int v_cursor])), (a_lineCounts, .inl (cI, 4, .inl v_lineCounts))] H := hP
      have hD : va_D A [(a_baselines, .inl (cI, 2560, .inl v_baselines)), (a_t, .inr (1, [.ref a_lineCounts, .ref a_ends, .ref a_overflowing, .ref a_ahead, .ref a_behind, .ref a_setParts, .ref a_baselines, .ref a_lineBlocks, .ref a_reached, .int v_height, .int v_first, .int v_step, .int v_rounding, .int v_cursor])), (a_lineCounts, .inl (cI, 4, .inl v_lineCounts))] := hD
      refine lv_icmp_ge (tgt := 54) hx hb dX1_metLines_10 (by decide) (fun hc => ?_) (fun hc => ?_)
      · replace hf := ip hc hf
        refine lv_iload_n hx hb dX1_metLines_54 rfl (lv_at hl 2 rfl) ?_
        have ho := Option.some.inj hf
        subst ho
        exact hret dX1_metLines_55 rfl (hP.sub (ws' := [(a_t, .inr (1, [.ref a_lineCounts, .ref a_ends, .ref a_overflowing, .ref a_ahead, .ref a_behind, .ref a_setParts, .ref a_baselines, .ref a_lineBlocks, .ref a_reached, .int v_height, .int v_first, .int v_step, .int v_rounding, .int v_cursor])), (a_lineCounts, .inl (cI, 4, .inl v_lineCounts)), (a_baselines, .inl (cI, 2560, .inl v_baselines))]) [1, 2, 0] rfl) (hD.sub (ws' := [(a_t, .inr (1, [.ref a_lineCounts, .ref a_ends, .ref a_overflowing, .ref a_ahead, .ref a_behind, .ref a_setParts, .ref a_baselines, .ref a_lineBlocks, .ref a_reached, .int v_height, .int v_first, .int v_step, .int v_rounding, .int v_cursor])), (a_lineCounts, .inl (cI, 4, .inl v_lineCounts)), (a_baselines, .inl (cI, 2560, .inl v_baselines))]) [1, 2, 0] (by decide) rfl) hS
      · replace hf := ineg hc hf
        refine lv_aload_n hx hb dX1_metLines_13 rfl (lv_at hl 0 rfl) ?_
        refine lv_iload_n hx hb dX1_metLines_14 rfl (lv_at hl 1 rfl) ?_
        refine lv_iload_n hx hb dX1_metLines_15 rfl (lv_at hl 3 rfl) ?_
        replace hf := bd_some hf
        obtain ⟨qo2, hqo2, hf⟩ := hf
        refine g_Vi (As := [.int i1, .int w3]) (rest := []) (wr := [(a_lineCounts, .inl (cI, 4, .inl v_lineCounts))]) ⟨hx, hb, hml, hown, hts⟩ (k_X1_baselineOf l D cI cC a_t a_lineCounts a_ends a_overflowing a_ahead a_behind a_setParts a_baselines a_lineBlocks a_reached i1 w3 v_height v_first v_step v_rounding v_cursor v_baselines qo2 hqo2) (cwV 2 hts gX1_metLines_X1_baselineOf rfl rfl rfl (by decide +kernel) ⟨Nat.le_of_ble_eq_true rfl, Nat.le_of_ble_eq_true rfl⟩) hK hP hD hS hA 1 1 rfl rfl rfl [1, 0] [2] rfl rfl rfl rfl rfl (by decide) rfl hl.1 rfl (Nat.le_of_ble_eq_true rfl) dX1_metLines_16 (Nat.zero_le _) (Nat.zero_le _) (fun H locs hP hD hS => ?_)
        have hP : va_P D vwCl [(a_lineCounts, .inl (cI, 4, .inl v_lineCounts)), (a_t, .inr (1, [.ref a_lineCounts, .ref a_ends, .ref a_overflowing, .ref a_ahead, .ref a_behind, .ref a_setParts, .ref a_baselines, .ref a_lineBlocks, .ref a_reached, .int v_height, .int v_first, .int v_step, .int v_rounding, .int v_cursor])), (a_baselines, .inl (cI, 2560, .inl v_baselines))] H := hP
        have hD : va_D A [(a_lineCounts, .inl (cI, 4, .inl v_lineCounts)), (a_t, .inr (1, [.ref a_lineCounts, .ref a_ends, .ref a_overflowing, .ref a_ahead, .ref a_behind, .ref a_setParts, .ref a_baselines, .ref a_lineBlocks, .ref a_reached, .int v_height, .int v_first, .int v_step, .int v_rounding, .int v_cursor])), (a_baselines, .inl (cI, 2560, .inl v_baselines))] := hD
        refine lv_istore (lv' := [(4, .int qo2), (0, .ref a_t), (1, .int i1), (2, .int w2), (3, .int w3)]) hx hb dX1_metLines_19 hl (by decide) rfl (fun ls hl => ?_)
        refine lv_aload_n hx hb dX1_metLines_21 rfl (lv_at hl 1 rfl) ?_
        refine lv_iload_n hx hb dX1_metLines_22 rfl (lv_at hl 2 rfl) ?_
        refine lv_iconst (v := 1) hx hb dX1_metLines_23 (by decide) ?_
        refine lv_isub hx hb dX1_metLines_24 ?_
        refine lv_iload hx hb dX1_metLines_25 (lv_at hl 0 rfl) ?_
        replace hf := bd_some hf
        obtain ⟨qo3, hqo3, hf⟩ := hf
        refine g_Vi (As := [.int (i1 - 1), .int qo2]) (rest := []) (wr := []) ⟨hx, hb, hml, hown, hts⟩ (k_X1_hasLineAt l D cI cC a_t a_lineCounts a_ends a_overflowing a_ahead a_behind a_setParts a_baselines a_lineBlocks a_reached (i1 - 1) qo2 v_height v_first v_step v_rounding v_cursor v_lineCounts v_baselines qo3 hqo3) (cwV 2 hts gX1_metLines_X1_hasLineAt rfl rfl rfl (by decide +kernel) ⟨Nat.le_of_ble_eq_true rfl, Nat.le_of_ble_eq_true rfl⟩) hK hP hD hS hA 1 1 rfl rfl rfl [1, 0, 2] [] rfl rfl rfl rfl rfl (by decide) rfl hl.1 rfl (Nat.le_of_ble_eq_true rfl) dX1_metLines_27 (Nat.zero_le _) (Nat.zero_le _) (fun H locs hP hD hS => ?_)
        have hP : va_P D vwCl [(a_t, .inr (1, [.ref a_lineCounts, .ref a_ends, .ref a_overflowing, .ref a_ahead, .ref a_behind, .ref a_setParts, .ref a_baselines, .ref a_lineBlocks, .ref a_reached, .int v_height, .int v_first, .int v_step, .int v_rounding, .int v_cursor])), (a_lineCounts, .inl (cI, 4, .inl v_lineCounts)), (a_baselines, .inl (cI, 2560, .inl v_baselines))] H := hP
        have hD : va_D A [(a_t, .inr (1, [.ref a_lineCounts, .ref a_ends, .ref a_overflowing, .ref a_ahead, .ref a_behind, .ref a_setParts, .ref a_baselines, .ref a_lineBlocks, .ref a_reached, .int v_height, .int v_first, .int v_step, .int v_rounding, .int v_cursor])), (a_lineCounts, .inl (cI, 4, .inl v_lineCounts)), (a_baselines, .inl (cI, 2560, .inl v_baselines))] := hD
        refine lv_if_ne (tgt := 45) hx hb dX1_metLines_30 (by decide) (fun hc => ?_) (fun hc => ?_)
        · replace hf := ineg hc hf
          exact J45 (fX1_metLines_4 i1 v_lineCounts v_baselines n) w2 w3 hk4 _ _ _ hf (hP.sub (ws' := [(a_t, .inr (1, [.ref a_lineCounts, .ref a_ends, .ref a_overflowing, .ref a_ahead, .ref a_behind, .ref a_setParts, .ref a_baselines, .ref a_lineBlocks, .ref a_reached, .int v_height, .int v_first, .int v_step, .int v_rounding, .int v_cursor])), (a_lineCounts, .inl (cI, 4, .inl v_lineCounts)), (a_baselines, .inl (cI, 2560, .inl v_baselines))]) [0, 1, 2] rfl) (hD.sub (ws' := [(a_t, .inr (1, [.ref a_lineCounts, .ref a_ends, .ref a_overflowing, .ref a_ahead, .ref a_behind, .ref a_setParts, .ref a_baselines, .ref a_lineBlocks, .ref a_reached, .int v_height, .int v_first, .int v_step, .int v_rounding, .int v_cursor])), (a_lineCounts, .inl (cI, 4, .inl v_lineCounts)), (a_baselines, .inl (cI, 2560, .inl v_baselines))]) [0, 1, 2] (by decide) rfl) hS (lv_sub hl [1, 2, 3, 4] rfl)
        · replace hf := ip hc hf
          refine lv_aload_n hx hb dX1_metLines_33 rfl (lv_at hl 1 rfl) ?_
          refine lv_iload_n hx hb dX1_metLines_34 rfl (lv_at hl 2 rfl) ?_
          refine lv_iconst (v := 1) hx hb dX1_metLines_35 (by decide) ?_
          refine lv_iadd hx hb dX1_metLines_36 ?_
          refine lv_iload hx hb dX1_metLines_37 (lv_at hl 0 rfl) ?_
          replace hf := bd_some hf
          obtain ⟨qo6, hqo6, hf⟩ := hf
          refine g_Vi (As := [.int (i1 + 1), .int qo2]) (rest := []) (wr := []) ⟨hx, hb, hml, hown, hts⟩ (k_X1_hasLineAt l D cI cC a_t a_lineCounts a_ends a_overflowing a_ahead a_behind a_setParts a_baselines a_lineBlocks a_reached (i1 + 1) qo2 v_height v_first v_step v_rounding v_cursor v_lineCounts v_baselines qo6 hqo6) (cwV 2 hts gX1_metLines_X1_hasLineAt rfl rfl rfl (by decide +kernel) ⟨Nat.le_of_ble_eq_true rfl, Nat.le_of_ble_eq_true rfl⟩) hK hP hD hS hA 1 0 rfl rfl rfl [0, 1, 2] [] rfl rfl rfl rfl rfl (by decide) rfl hl.1 rfl (Nat.le_of_ble_eq_true rfl) dX1_metLines_39 (Nat.zero_le _) (Nat.zero_le _) (fun H locs hP hD hS => ?_)
          have hP : va_P D vwCl [(a_t, .inr (1, [.ref a_lineCounts, .ref a_ends, .ref a_overflowing, .ref a_ahead, .ref a_behind, .ref a_setParts, .ref a_baselines, .ref a_lineBlocks, .ref a_reached, .int v_height, .int v_first, .int v_step, .int v_rounding, .int v_cursor])), (a_lineCounts, .inl (cI, 4, .inl v_lineCounts)), (a_baselines, .inl (cI, 2560, .inl v_baselines))] H := hP
          have hD : va_D A [(a_t, .inr (1, [.ref a_lineCounts, .ref a_ends, .ref a_overflowing, .ref a_ahead, .ref a_behind, .ref a_setParts, .ref a_baselines, .ref a_lineBlocks, .ref a_reached, .int v_height, .int v_first, .int v_step, .int v_rounding, .int v_cursor])), (a_lineCounts, .inl (cI, 4, .inl v_lineCounts)), (a_baselines, .inl (cI, 2560, .inl v_baselines))] := hD
          refine lv_if_eq (tgt := 48) hx hb dX1_metLines_42 (by decide) (fun hc => ?_) (fun hc => ?_)
          · replace hf := ip hc hf
            exact J48 (fX1_metLines_4 i1 v_lineCounts v_baselines n) w2 w3 hk4 _ _ _ hf (hP.sub (ws' := [(a_t, .inr (1, [.ref a_lineCounts, .ref a_ends, .ref a_overflowing, .ref a_ahead, .ref a_behind, .ref a_setParts, .ref a_baselines, .ref a_lineBlocks, .ref a_reached, .int v_height, .int v_first, .int v_step, .int v_rounding, .int v_cursor])), (a_lineCounts, .inl (cI, 4, .inl v_lineCounts)), (a_baselines, .inl (cI, 2560, .inl v_baselines))]) [0, 1, 2] rfl) (hD.sub (ws' := [(a_t, .inr (1, [.ref a_lineCounts, .ref a_ends, .ref a_overflowing, .ref a_ahead, .ref a_behind, .ref a_setParts, .ref a_baselines, .ref a_lineBlocks, .ref a_reached, .int v_height, .int v_first, .int v_step, .int v_rounding, .int v_cursor])), (a_lineCounts, .inl (cI, 4, .inl v_lineCounts)), (a_baselines, .inl (cI, 2560, .inl v_baselines))]) [0, 1, 2] (by decide) rfl) hS (lv_sub hl [1, 2, 3, 4] rfl)
          · replace hf := ineg hc hf
            exact J45 (fX1_metLines_4 i1 v_lineCounts v_baselines n) w2 w3 hk4 _ _ _ hf (hP.sub (ws' := [(a_t, .inr (1, [.ref a_lineCounts, .ref a_ends, .ref a_overflowing, .ref a_ahead, .ref a_behind, .ref a_setParts, .ref a_baselines, .ref a_lineBlocks, .ref a_reached, .int v_height, .int v_first, .int v_step, .int v_rounding, .int v_cursor])), (a_lineCounts, .inl (cI, 4, .inl v_lineCounts)), (a_baselines, .inl (cI, 2560, .inl v_baselines))]) [0, 1, 2] rfl) (hD.sub (ws' := [(a_t, .inr (1, [.ref a_lineCounts, .ref a_ends, .ref a_overflowing, .ref a_ahead, .ref a_behind, .ref a_setParts, .ref a_baselines, .ref a_lineBlocks, .ref a_reached, .int v_height, .int v_first, .int v_step, .int v_rounding, .int v_cursor])), (a_lineCounts, .inl (cI, 4, .inl v_lineCounts)), (a_baselines, .inl (cI, 2560, .inl v_baselines))]) [0, 1, 2] (by decide) rfl) hS (lv_sub hl [1, 2, 3, 4] rfl)
  unfold fX1_metLines at hf
  refine lv_iconst (v := 0) hx hb dX1_metLines_0 (by decide) ?_
  refine lv_istore_n (lv' := [(2, .int 0), (0, .ref a_t), (1, .int i1)]) hx hb dX1_metLines_1 rfl hl (by decide) rfl (fun ls hl => ?_)
  refine lv_iconst (v := 0) hx hb dX1_metLines_2 (by decide) ?_
  refine lv_istore_n (lv' := [(3, .int 0), (2, .int 0), (0, .ref a_t), (1, .int i1)]) hx hb dX1_metLines_3 rfl hl (by decide) rfl (fun ls hl => ?_)
  exact J4 Fu 0 0 _ _ _ hf (hP.sub (ws' := [(a_t, .inr (1, [.ref a_lineCounts, .ref a_ends, .ref a_overflowing, .ref a_ahead, .ref a_behind, .ref a_setParts, .ref a_baselines, .ref a_lineBlocks, .ref a_reached, .int v_height, .int v_first, .int v_step, .int v_rounding, .int v_cursor])), (a_lineCounts, .inl (cI, 4, .inl v_lineCounts)), (a_baselines, .inl (cI, 2560, .inl v_baselines))]) [0, 1, 2] rfl) (hD.sub (ws' := [(a_t, .inr (1, [.ref a_lineCounts, .ref a_ends, .ref a_overflowing, .ref a_ahead, .ref a_behind, .ref a_setParts, .ref a_baselines, .ref a_lineBlocks, .ref a_reached, .int v_height, .int v_first, .int v_step, .int v_rounding, .int v_cursor])), (a_lineCounts, .inl (cI, 4, .inl v_lineCounts)), (a_baselines, .inl (cI, 2560, .inl v_baselines))]) [0, 1, 2] (by decide) rfl) hS (lv_sub hl [2, 3, 1, 0] rfl)
def fX1_allLines_4 (v_lineCounts : Nat → Int32) : Nat → Int32 → Int32 → Option (Int32)
  | 0 => fun _ _ => none
  | n + 1 => fun w1 w2 =>
    if 4 ≤ w2 then (some w1) else (bd (fX1_linesOf w2 v_lineCounts) fun qo1 => nm (w1 + qo1) fun qx2 => nm (w2 + 1) fun qx3 => (fX1_allLines_4 v_lineCounts n) qx2 qx3)
def fX1_allLines (v_lineCounts : Nat → Int32) : Option (Int32) :=
  fX1_allLines_4 v_lineCounts Fu 0 0
def rX1_allLines : Room := { frames := 2, cells := 0, slots := 0, locals := 41 }
set_option maxHeartbeats 4000000 in
set_option maxRecDepth 100000 in
theorem k_X1_allLines (l : Launch) (D : va_G) (cI cC : ClassId) (a_t : Nat) (a_lineCounts : Nat) (a_ends : Nat) (a_overflowing : Nat) (a_ahead : Nat) (a_behind : Nat) (a_setParts : Nat) (a_baselines : Nat) (a_lineBlocks : Nat) (a_reached : Nat) (v_height : Int32) (v_first : Int32) (v_step : Int32) (v_rounding : Int32) (v_cursor : Int32) (v_lineCounts : Nat → Int32) (o : Int32) (hf : fX1_allLines v_lineCounts = some o) : CTi l yX1_allLines wsX1_allLines rX1_allLines D cI cC [.ref a_t] [(a_t, .inr (1, [.ref a_lineCounts, .ref a_ends, .ref a_overflowing, .ref a_ahead, .ref a_behind, .ref a_setParts, .ref a_baselines, .ref a_lineBlocks, .ref a_reached, .int v_height, .int v_first, .int v_step, .int v_rounding, .int v_cursor])), (a_lineCounts, .inl (cI, 4, .inl v_lineCounts))] [(a_t, .inr (1, [.ref a_lineCounts, .ref a_ends, .ref a_overflowing, .ref a_ahead, .ref a_behind, .ref a_setParts, .ref a_baselines, .ref a_lineBlocks, .ref a_reached, .int v_height, .int v_first, .int v_step, .int v_rounding, .int v_cursor])), (a_lineCounts, .inl (cI, 4, .inl v_lineCounts))] o := by
  refine CTi_of (cc := cX1_allLines) (maxL := 3) (ty := .int) (by decide) rfl (Nat.le_of_ble_eq_true rfl) ?_
  intro p e s m args below meth c A Q ls C0 hA hP hD hl hret
  obtain ⟨hx, hb, hml, hts, hown, hK⟩ := C0
  have hown : s.vm.findClass RX1 = some m.cls := hown
  have hS : va_S A s.heap s.heap [] := va_S.rf
  have hl : lv_has ls 3 [(0, .ref a_t)] := hl
  have J4 : ∀   (n : Nat) (w1 : Int32) (w2 : Int32) (H : Heap) (locs : List Loc) (ls : Array Slot), fX1_allLines_4 v_lineCounts n w1 w2 = some o → va_P D vwCl [(a_t, .inr (1, [.ref a_lineCounts, .ref a_ends, .ref a_overflowing, .ref a_ahead, .ref a_behind, .ref a_setParts, .ref a_baselines, .ref a_lineBlocks, .ref a_reached, .int v_height, .int v_first, .int v_step, .int v_rounding, .int v_cursor])), (a_lineCounts, .inl (cI, 4, .inl v_lineCounts))] H → va_D A [(a_t, .inr (1, [.ref a_lineCounts, .ref a_ends, .ref a_overflowing, .ref a_ahead, .ref a_behind, .ref a_setParts, .ref a_baselines, .ref a_lineBlocks, .ref a_reached, .int v_height, .int v_first, .int v_step, .int v_rounding, .int v_cursor])), (a_lineCounts, .inl (cI, 4, .inl v_lineCounts))] → va_S A s.heap H locs → lv_has ls 3 [(0, .ref a_t), (1, .int w1), (2, .int w2)] → W p l e rX1_allLines s m args below meth c H locs 0 0 Q (F0 m 4 ls []) := by
    intro  n
    induction n with
    | zero =>
      intro w1 w2 H locs ls hf
      have hf0 : (none : Option (Int32)) = some o := hf
      cases hf0
    | succ n hk4 =>
      intro w1 w2 H locs ls hf hP hD hS hl
      rw [fX1_allLines_4] at hf
      refine lv_iload_n hx hb dX1_allLines_4 rfl (lv_at hl 2 rfl) ?_
      refine lv_iconst (v := 4) hx hb dX1_allLines_5 (by decide) ?_
      refine lv_icmp_ge (tgt := 23) hx hb dX1_allLines_6 (by decide) (fun hc => ?_) (fun hc => ?_)
      · replace hf := ip hc hf
        refine lv_iload_n hx hb dX1_allLines_23 rfl (lv_at hl 1 rfl) ?_
        have ho := Option.some.inj hf
        subst ho
        exact hret dX1_allLines_24 rfl (hP.sub (ws' := [(a_t, .inr (1, [.ref a_lineCounts, .ref a_ends, .ref a_overflowing, .ref a_ahead, .ref a_behind, .ref a_setParts, .ref a_baselines, .ref a_lineBlocks, .ref a_reached, .int v_height, .int v_first, .int v_step, .int v_rounding, .int v_cursor])), (a_lineCounts, .inl (cI, 4, .inl v_lineCounts))]) [0, 1] rfl) (hD.sub (ws' := [(a_t, .inr (1, [.ref a_lineCounts, .ref a_ends, .ref a_overflowing, .ref a_ahead, .ref a_behind, .ref a_setParts, .ref a_baselines, .ref a_lineBlocks, .ref a_reached, .int v_height, .int v_first, .int v_step, .int v_rounding, .int v_cursor])), (a_lineCounts, .inl (cI, 4, .inl v_lineCounts))]) [0, 1] (by decide) rfl) hS
      · replace hf := ineg hc hf
        refine lv_iload_n hx hb dX1_allLines_9 rfl (lv_at hl 1 rfl) ?_
        refine lv_aload_n hx hb dX1_allLines_10 rfl (lv_at hl 0 rfl) ?_
        refine lv_iload_n hx hb dX1_allLines_11 rfl (lv_at hl 2 rfl) ?_
        replace hf := bd_some hf
        obtain ⟨qo1, hqo1, hf⟩ := hf
        refine g_Vi (As := [.int w2]) (rest := [.int w1]) (wr := []) ⟨hx, hb, hml, hown, hts⟩ (k_X1_linesOf l D cI cC a_t a_lineCounts a_ends a_overflowing a_ahead a_behind a_setParts a_baselines a_lineBlocks a_reached w2 v_height v_first v_step v_rounding v_cursor v_lineCounts qo1 hqo1) (cwV 1 hts gX1_allLines_X1_linesOf rfl rfl rfl (by decide +kernel) ⟨Nat.le_of_ble_eq_true rfl, Nat.le_of_ble_eq_true rfl⟩) hK hP hD hS hA 1 0 rfl rfl rfl [0, 1] [] rfl rfl rfl rfl rfl (by decide) rfl hl.1 rfl (Nat.le_of_ble_eq_true rfl) dX1_allLines_12 (Nat.zero_le _) (Nat.zero_le _) (fun H locs hP hD hS => ?_)
        have hP : va_P D vwCl [(a_t, .inr (1, [.ref a_lineCounts, .ref a_ends, .ref a_overflowing, .ref a_ahead, .ref a_behind, .ref a_setParts, .ref a_baselines, .ref a_lineBlocks, .ref a_reached, .int v_height, .int v_first, .int v_step, .int v_rounding, .int v_cursor])), (a_lineCounts, .inl (cI, 4, .inl v_lineCounts))] H := hP
        have hD : va_D A [(a_t, .inr (1, [.ref a_lineCounts, .ref a_ends, .ref a_overflowing, .ref a_ahead, .ref a_behind, .ref a_setParts, .ref a_baselines, .ref a_lineBlocks, .ref a_reached, .int v_height, .int v_first, .int v_step, .int v_rounding, .int v_cursor])), (a_lineCounts, .inl (cI, 4, .inl v_lineCounts))] := hD
        refine lv_iadd hx hb dX1_allLines_15 ?_
        refine g_nm hf (fun qx2 hf => ?_)
        refine lv_istore_n (lv' := [(1, .int qx2), (0, .ref a_t), (2, .int w2)]) hx hb dX1_allLines_16 rfl hl (by decide) rfl (fun ls hl => ?_)
        replace hf := nm_some hf
        obtain ⟨qx3, eqx3, hf⟩ := hf
        refine lv_iinc (v := qx3) (lv' := [(2, .int qx3), (1, .int qx2), (0, .ref a_t)]) hx hb dX1_allLines_17 hl (k := 2) rfl (by rw [eqx3]; rfl) (by decide) rfl (fun ls hl => ?_)
        refine lv_goto (tgt := 4) hx hb dX1_allLines_20 (by decide) ?_
        exact hk4 qx2 qx3 _ _ _ hf (hP.sub (ws' := [(a_t, .inr (1, [.ref a_lineCounts, .ref a_ends, .ref a_overflowing, .ref a_ahead, .ref a_behind, .ref a_setParts, .ref a_baselines, .ref a_lineBlocks, .ref a_reached, .int v_height, .int v_first, .int v_step, .int v_rounding, .int v_cursor])), (a_lineCounts, .inl (cI, 4, .inl v_lineCounts))]) [0, 1] rfl) (hD.sub (ws' := [(a_t, .inr (1, [.ref a_lineCounts, .ref a_ends, .ref a_overflowing, .ref a_ahead, .ref a_behind, .ref a_setParts, .ref a_baselines, .ref a_lineBlocks, .ref a_reached, .int v_height, .int v_first, .int v_step, .int v_rounding, .int v_cursor])), (a_lineCounts, .inl (cI, 4, .inl v_lineCounts))]) [0, 1] (by decide) rfl) hS (lv_sub hl [2, 1, 0] rfl)
  unfold fX1_allLines at hf
  refine lv_iconst (v := 0) hx hb dX1_allLines_0 (by decide) ?_
  refine lv_istore_n (lv' := [(1, .int 0), (0, .ref a_t)]) hx hb dX1_allLines_1 rfl hl (by decide) rfl (fun ls hl => ?_)
  refine lv_iconst (v := 0) hx hb dX1_allLines_2 (by decide) ?_
  refine lv_istore_n (lv' := [(2, .int 0), (1, .int 0), (0, .ref a_t)]) hx hb dX1_allLines_3 rfl hl (by decide) rfl (fun ls hl => ?_)
  exact J4 Fu 0 0 _ _ _ hf (hP.sub (ws' := [(a_t, .inr (1, [.ref a_lineCounts, .ref a_ends, .ref a_overflowing, .ref a_ahead, .ref a_behind, .ref a_setParts, .ref a_baselines, .ref a_lineBlocks, .ref a_reached, .int v_height, .int v_first, .int v_step, .int v_rounding, .int v_cursor])), (a_lineCounts, .inl (cI, 4, .inl v_lineCounts))]) [0, 1] rfl) (hD.sub (ws' := [(a_t, .inr (1, [.ref a_lineCounts, .ref a_ends, .ref a_overflowing, .ref a_ahead, .ref a_behind, .ref a_setParts, .ref a_baselines, .ref a_lineBlocks, .ref a_reached, .int v_height, .int v_first, .int v_step, .int v_rounding, .int v_cursor])), (a_lineCounts, .inl (cI, 4, .inl v_lineCounts))]) [0, 1] (by decide) rfl) hS (lv_sub hl [2, 1, 0] rfl)
def fX1_sumOfAllDrifts_4 (v_first : Int32) (v_step : Int32) (v_lineCounts : Nat → Int32) (v_baselines : Nat → Int32) : Nat → Int32 → Int32 → Option (Int32)
  | 0 => fun _ _ => none
  | n + 1 => fun w1 w2 =>
    if 4 ≤ w2 then (some w1) else (bd (fX1_sumOfDrifts w2 v_first v_step v_lineCounts v_baselines) fun qo1 => nm (w1 + qo1) fun qx2 => nm (w2 + 1) fun qx3 => (fX1_sumOfAllDrifts_4 v_first v_step v_lineCounts v_baselines n) qx2 qx3)
def fX1_sumOfAllDrifts (v_first : Int32) (v_step : Int32) (v_lineCounts : Nat → Int32) (v_baselines : Nat → Int32) : Option (Int32) :=
  fX1_sumOfAllDrifts_4 v_first v_step v_lineCounts v_baselines Fu 0 0
def rX1_sumOfAllDrifts : Room := { frames := 4, cells := 0, slots := 0, locals := 86 }
set_option maxHeartbeats 4000000 in
set_option maxRecDepth 100000 in
theorem k_X1_sumOfAllDrifts (l : Launch) (D : va_G) (cI cC : ClassId) (a_t : Nat) (a_lineCounts : Nat) (a_ends : Nat) (a_overflowing : Nat) (a_ahead : Nat) (a_behind : Nat) (a_setParts : Nat) (a_baselines : Nat) (a_lineBlocks : Nat) (a_reached : Nat) (v_height : Int32) (v_first : Int32) (v_step : Int32) (v_rounding : Int32) (v_cursor : Int32) (v_lineCounts : Nat → Int32) (v_baselines : Nat → Int32) (o : Int32) (hf : fX1_sumOfAllDrifts v_first v_step v_lineCounts v_baselines = some o) : CTi l yX1_sumOfAllDrifts wsX1_sumOfAllDrifts rX1_sumOfAllDrifts D cI cC [.ref a_t] [(a_t, .inr (1, [.ref a_lineCounts, .ref a_ends, .ref a_overflowing, .ref a_ahead, .ref a_behind, .ref a_setParts, .ref a_baselines, .ref a_lineBlocks, .ref a_reached, .int v_height, .int v_first, .int v_step, .int v_rounding, .int v_cursor])), (a_lineCounts, .inl (cI, 4, .inl v_lineCounts)), (a_baselines, .inl (cI, 2560, .inl v_baselines))] [(a_t, .inr (1, [.ref a_lineCounts, .ref a_ends, .ref a_overflowing, .ref a_ahead, .ref a_behind, .ref a_setParts, .ref a_baselines, .ref a_lineBlocks, .ref a_reached, .int v_height, .int v_first, .int v_step, .int v_rounding, .int v_cursor])), (a_lineCounts, .inl (cI, 4, .inl v_lineCounts)), (a_baselines, .inl (cI, 2560, .inl v_baselines))] o := by
  refine CTi_of (cc := cX1_sumOfAllDrifts) (maxL := 3) (ty := .int) (by decide) rfl (Nat.le_of_ble_eq_true rfl) ?_
  intro p e s m args below meth c A Q ls C0 hA hP hD hl hret
  obtain ⟨hx, hb, hml, hts, hown, hK⟩ := C0
  have hown : s.vm.findClass RX1 = some m.cls := hown
  have hS : va_S A s.heap s.heap [] := va_S.rf
  have hl : lv_has ls 3 [(0, .ref a_t)] := hl
  have J4 : ∀   (n : Nat) (w1 : Int32) (w2 : Int32) (H : Heap) (locs : List Loc) (ls : Array Slot), fX1_sumOfAllDrifts_4 v_first v_step v_lineCounts v_baselines n w1 w2 = some o → va_P D vwCl [(a_t, .inr (1, [.ref a_lineCounts, .ref a_ends, .ref a_overflowing, .ref a_ahead, .ref a_behind, .ref a_setParts, .ref a_baselines, .ref a_lineBlocks, .ref a_reached, .int v_height, .int v_first, .int v_step, .int v_rounding, .int v_cursor])), (a_lineCounts, .inl (cI, 4, .inl v_lineCounts)), (a_baselines, .inl (cI, 2560, .inl v_baselines))] H → va_D A [(a_t, .inr (1, [.ref a_lineCounts, .ref a_ends, .ref a_overflowing, .ref a_ahead, .ref a_behind, .ref a_setParts, .ref a_baselines, .ref a_lineBlocks, .ref a_reached, .int v_height, .int v_first, .int v_step, .int v_rounding, .int v_cursor])), (a_lineCounts, .inl (cI, 4, .inl v_lineCounts)), (a_baselines, .inl (cI, 2560, .inl v_baselines))] → va_S A s.heap H locs → lv_has ls 3 [(0, .ref a_t), (1, .int w1), (2, .int w2)] → W p l e rX1_sumOfAllDrifts s m args below meth c H locs 0 0 Q (F0 m 4 ls []) := by
    intro  n
    induction n with
    | zero =>
      intro w1 w2 H locs ls hf
      have hf0 : (none : Option (Int32)) = some o := hf
      cases hf0
    | succ n hk4 =>
      intro w1 w2 H locs ls hf hP hD hS hl
      rw [fX1_sumOfAllDrifts_4] at hf
      refine lv_iload_n hx hb dX1_sumOfAllDrifts_4 rfl (lv_at hl 2 rfl) ?_
      refine lv_iconst (v := 4) hx hb dX1_sumOfAllDrifts_5 (by decide) ?_
      refine lv_icmp_ge (tgt := 23) hx hb dX1_sumOfAllDrifts_6 (by decide) (fun hc => ?_) (fun hc => ?_)
      · replace hf := ip hc hf
        refine lv_iload_n hx hb dX1_sumOfAllDrifts_23 rfl (lv_at hl 1 rfl) ?_
        have ho := Option.some.inj hf
        subst ho
        exact hret dX1_sumOfAllDrifts_24 rfl (hP.sub (ws' := [(a_t, .inr (1, [.ref a_lineCounts, .ref a_ends, .ref a_overflowing, .ref a_ahead, .ref a_behind, .ref a_setParts, .ref a_baselines, .ref a_lineBlocks, .ref a_reached, .int v_height, .int v_first, .int v_step, .int v_rounding, .int v_cursor])), (a_lineCounts, .inl (cI, 4, .inl v_lineCounts)), (a_baselines, .inl (cI, 2560, .inl v_baselines))]) [0, 1, 2] rfl) (hD.sub (ws' := [(a_t, .inr (1, [.ref a_lineCounts, .ref a_ends, .ref a_overflowing, .ref a_ahead, .ref a_behind, .ref a_setParts, .ref a_baselines, .ref a_lineBlocks, .ref a_reached, .int v_height, .int v_first, .int v_step, .int v_rounding, .int v_cursor])), (a_lineCounts, .inl (cI, 4, .inl v_lineCounts)), (a_baselines, .inl (cI, 2560, .inl v_baselines))]) [0, 1, 2] (by decide) rfl) hS
      · replace hf := ineg hc hf
        refine lv_iload_n hx hb dX1_sumOfAllDrifts_9 rfl (lv_at hl 1 rfl) ?_
        refine lv_aload_n hx hb dX1_sumOfAllDrifts_10 rfl (lv_at hl 0 rfl) ?_
        refine lv_iload_n hx hb dX1_sumOfAllDrifts_11 rfl (lv_at hl 2 rfl) ?_
        replace hf := bd_some hf
        obtain ⟨qo1, hqo1, hf⟩ := hf
        refine g_Vi (As := [.int w2]) (rest := [.int w1]) (wr := []) ⟨hx, hb, hml, hown, hts⟩ (k_X1_sumOfDrifts l D cI cC a_t a_lineCounts a_ends a_overflowing a_ahead a_behind a_setParts a_baselines a_lineBlocks a_reached w2 v_height v_first v_step v_rounding v_cursor v_lineCounts v_baselines qo1 hqo1) (cwV 1 hts gX1_sumOfAllDrifts_X1_sumOfDrifts rfl rfl rfl (by decide +kernel) ⟨Nat.le_of_ble_eq_true rfl, Nat.le_of_ble_eq_true rfl⟩) hK hP hD hS hA 1 0 rfl rfl rfl [0, 1, 2] [] rfl rfl rfl rfl rfl (by decide) rfl hl.1 rfl (Nat.le_of_ble_eq_true rfl) dX1_sumOfAllDrifts_12 (Nat.zero_le _) (Nat.zero_le _) (fun H locs hP hD hS => ?_)
        have hP : va_P D vwCl [(a_t, .inr (1, [.ref a_lineCounts, .ref a_ends, .ref a_overflowing, .ref a_ahead, .ref a_behind, .ref a_setParts, .ref a_baselines, .ref a_lineBlocks, .ref a_reached, .int v_height, .int v_first, .int v_step, .int v_rounding, .int v_cursor])), (a_lineCounts, .inl (cI, 4, .inl v_lineCounts)), (a_baselines, .inl (cI, 2560, .inl v_baselines))] H := hP
        have hD : va_D A [(a_t, .inr (1, [.ref a_lineCounts, .ref a_ends, .ref a_overflowing, .ref a_ahead, .ref a_behind, .ref a_setParts, .ref a_baselines, .ref a_lineBlocks, .ref a_reached, .int v_height, .int v_first, .int v_step, .int v_rounding, .int v_cursor])), (a_lineCounts, .inl (cI, 4, .inl v_lineCounts)), (a_baselines, .inl (cI, 2560, .inl v_baselines))] := hD
        refine lv_iadd hx hb dX1_sumOfAllDrifts_15 ?_
        refine g_nm hf (fun qx2 hf => ?_)
        refine lv_istore_n (lv' := [(1, .int qx2), (0, .ref a_t), (2, .int w2)]) hx hb dX1_sumOfAllDrifts_16 rfl hl (by decide) rfl (fun ls hl => ?_)
        replace hf := nm_some hf
        obtain ⟨qx3, eqx3, hf⟩ := hf
        refine lv_iinc (v := qx3) (lv' := [(2, .int qx3), (1, .int qx2), (0, .ref a_t)]) hx hb dX1_sumOfAllDrifts_17 hl (k := 2) rfl (by rw [eqx3]; rfl) (by decide) rfl (fun ls hl => ?_)
        refine lv_goto (tgt := 4) hx hb dX1_sumOfAllDrifts_20 (by decide) ?_
        exact hk4 qx2 qx3 _ _ _ hf (hP.sub (ws' := [(a_t, .inr (1, [.ref a_lineCounts, .ref a_ends, .ref a_overflowing, .ref a_ahead, .ref a_behind, .ref a_setParts, .ref a_baselines, .ref a_lineBlocks, .ref a_reached, .int v_height, .int v_first, .int v_step, .int v_rounding, .int v_cursor])), (a_lineCounts, .inl (cI, 4, .inl v_lineCounts)), (a_baselines, .inl (cI, 2560, .inl v_baselines))]) [0, 1, 2] rfl) (hD.sub (ws' := [(a_t, .inr (1, [.ref a_lineCounts, .ref a_ends, .ref a_overflowing, .ref a_ahead, .ref a_behind, .ref a_setParts, .ref a_baselines, .ref a_lineBlocks, .ref a_reached, .int v_height, .int v_first, .int v_step, .int v_rounding, .int v_cursor])), (a_lineCounts, .inl (cI, 4, .inl v_lineCounts)), (a_baselines, .inl (cI, 2560, .inl v_baselines))]) [0, 1, 2] (by decide) rfl) hS (lv_sub hl [2, 1, 0] rfl)
  unfold fX1_sumOfAllDrifts at hf
  refine lv_iconst (v := 0) hx hb dX1_sumOfAllDrifts_0 (by decide) ?_
  refine lv_istore_n (lv' := [(1, .int 0), (0, .ref a_t)]) hx hb dX1_sumOfAllDrifts_1 rfl hl (by decide) rfl (fun ls hl => ?_)
  refine lv_iconst (v := 0) hx hb dX1_sumOfAllDrifts_2 (by decide) ?_
  refine lv_istore_n (lv' := [(2, .int 0), (1, .int 0), (0, .ref a_t)]) hx hb dX1_sumOfAllDrifts_3 rfl hl (by decide) rfl (fun ls hl => ?_)
  exact J4 Fu 0 0 _ _ _ hf (hP.sub (ws' := [(a_t, .inr (1, [.ref a_lineCounts, .ref a_ends, .ref a_overflowing, .ref a_ahead, .ref a_behind, .ref a_setParts, .ref a_baselines, .ref a_lineBlocks, .ref a_reached, .int v_height, .int v_first, .int v_step, .int v_rounding, .int v_cursor])), (a_lineCounts, .inl (cI, 4, .inl v_lineCounts)), (a_baselines, .inl (cI, 2560, .inl v_baselines))]) [0, 1, 2] rfl) (hD.sub (ws' := [(a_t, .inr (1, [.ref a_lineCounts, .ref a_ends, .ref a_overflowing, .ref a_ahead, .ref a_behind, .ref a_setParts, .ref a_baselines, .ref a_lineBlocks, .ref a_reached, .int v_height, .int v_first, .int v_step, .int v_rounding, .int v_cursor])), (a_lineCounts, .inl (cI, 4, .inl v_lineCounts)), (a_baselines, .inl (cI, 2560, .inl v_baselines))]) [0, 1, 2] (by decide) rfl) hS (lv_sub hl [2, 1, 0] rfl)
def fX1_allLinesOnGrid_4 (v_first : Int32) (v_step : Int32) (v_lineCounts : Nat → Int32) (v_baselines : Nat → Int32) : Nat → Int32 → Int32 → Option (Int32)
  | 0 => fun _ _ => none
  | n + 1 => fun w1 w2 =>
    if 4 ≤ w2 then (some w1) else (bd (fX1_linesOnGrid w2 v_first v_step v_lineCounts v_baselines) fun qo1 => nm (w1 + qo1) fun qx2 => nm (w2 + 1) fun qx3 => (fX1_allLinesOnGrid_4 v_first v_step v_lineCounts v_baselines n) qx2 qx3)
def fX1_allLinesOnGrid (v_first : Int32) (v_step : Int32) (v_lineCounts : Nat → Int32) (v_baselines : Nat → Int32) : Option (Int32) :=
  fX1_allLinesOnGrid_4 v_first v_step v_lineCounts v_baselines Fu 0 0
def rX1_allLinesOnGrid : Room := { frames := 4, cells := 0, slots := 0, locals := 87 }
set_option maxHeartbeats 4000000 in
set_option maxRecDepth 100000 in
theorem k_X1_allLinesOnGrid (l : Launch) (D : va_G) (cI cC : ClassId) (a_t : Nat) (a_lineCounts : Nat) (a_ends : Nat) (a_overflowing : Nat) (a_ahead : Nat) (a_behind : Nat) (a_setParts : Nat) (a_baselines : Nat) (a_lineBlocks : Nat) (a_reached : Nat) (v_height : Int32) (v_first : Int32) (v_step : Int32) (v_rounding : Int32) (v_cursor : Int32) (v_lineCounts : Nat → Int32) (v_baselines : Nat → Int32) (o : Int32) (hf : fX1_allLinesOnGrid v_first v_step v_lineCounts v_baselines = some o) : CTi l yX1_allLinesOnGrid wsX1_allLinesOnGrid rX1_allLinesOnGrid D cI cC [.ref a_t] [(a_t, .inr (1, [.ref a_lineCounts, .ref a_ends, .ref a_overflowing, .ref a_ahead, .ref a_behind, .ref a_setParts, .ref a_baselines, .ref a_lineBlocks, .ref a_reached, .int v_height, .int v_first, .int v_step, .int v_rounding, .int v_cursor])), (a_lineCounts, .inl (cI, 4, .inl v_lineCounts)), (a_baselines, .inl (cI, 2560, .inl v_baselines))] [(a_t, .inr (1, [.ref a_lineCounts, .ref a_ends, .ref a_overflowing, .ref a_ahead, .ref a_behind, .ref a_setParts, .ref a_baselines, .ref a_lineBlocks, .ref a_reached, .int v_height, .int v_first, .int v_step, .int v_rounding, .int v_cursor])), (a_lineCounts, .inl (cI, 4, .inl v_lineCounts)), (a_baselines, .inl (cI, 2560, .inl v_baselines))] o := by
  refine CTi_of (cc := cX1_allLinesOnGrid) (maxL := 3) (ty := .int) (by decide) rfl (Nat.le_of_ble_eq_true rfl) ?_
  intro p e s m args below meth c A Q ls C0 hA hP hD hl hret
  obtain ⟨hx, hb, hml, hts, hown, hK⟩ := C0
  have hown : s.vm.findClass RX1 = some m.cls := hown
  have hS : va_S A s.heap s.heap [] := va_S.rf
  have hl : lv_has ls 3 [(0, .ref a_t)] := hl
  have J4 : ∀   (n : Nat) (w1 : Int32) (w2 : Int32) (H : Heap) (locs : List Loc) (ls : Array Slot), fX1_allLinesOnGrid_4 v_first v_step v_lineCounts v_baselines n w1 w2 = some o → va_P D vwCl [(a_t, .inr (1, [.ref a_lineCounts, .ref a_ends, .ref a_overflowing, .ref a_ahead, .ref a_behind, .ref a_setParts, .ref a_baselines, .ref a_lineBlocks, .ref a_reached, .int v_height, .int v_first, .int v_step, .int v_rounding, .int v_cursor])), (a_lineCounts, .inl (cI, 4, .inl v_lineCounts)), (a_baselines, .inl (cI, 2560, .inl v_baselines))] H → va_D A [(a_t, .inr (1, [.ref a_lineCounts, .ref a_ends, .ref a_overflowing, .ref a_ahead, .ref a_behind, .ref a_setParts, .ref a_baselines, .ref a_lineBlocks, .ref a_reached, .int v_height, .int v_first, .int v_step, .int v_rounding, .int v_cursor])), (a_lineCounts, .inl (cI, 4, .inl v_lineCounts)), (a_baselines, .inl (cI, 2560, .inl v_baselines))] → va_S A s.heap H locs → lv_has ls 3 [(0, .ref a_t), (1, .int w1), (2, .int w2)] → W p l e rX1_allLinesOnGrid s m args below meth c H locs 0 0 Q (F0 m 4 ls []) := by
    intro  n
    induction n with
    | zero =>
      intro w1 w2 H locs ls hf
      have hf0 : (none : Option (Int32)) = some o := hf
      cases hf0
    | succ n hk4 =>
      intro w1 w2 H locs ls hf hP hD hS hl
      rw [fX1_allLinesOnGrid_4] at hf
      refine lv_iload_n hx hb dX1_allLinesOnGrid_4 rfl (lv_at hl 2 rfl) ?_
      refine lv_iconst (v := 4) hx hb dX1_allLinesOnGrid_5 (by decide) ?_
      refine lv_icmp_ge (tgt := 23) hx hb dX1_allLinesOnGrid_6 (by decide) (fun hc => ?_) (fun hc => ?_)
      · replace hf := ip hc hf
        refine lv_iload_n hx hb dX1_allLinesOnGrid_23 rfl (lv_at hl 1 rfl) ?_
        have ho := Option.some.inj hf
        subst ho
        exact hret dX1_allLinesOnGrid_24 rfl (hP.sub (ws' := [(a_t, .inr (1, [.ref a_lineCounts, .ref a_ends, .ref a_overflowing, .ref a_ahead, .ref a_behind, .ref a_setParts, .ref a_baselines, .ref a_lineBlocks, .ref a_reached, .int v_height, .int v_first, .int v_step, .int v_rounding, .int v_cursor])), (a_lineCounts, .inl (cI, 4, .inl v_lineCounts)), (a_baselines, .inl (cI, 2560, .inl v_baselines))]) [0, 1, 2] rfl) (hD.sub (ws' := [(a_t, .inr (1, [.ref a_lineCounts, .ref a_ends, .ref a_overflowing, .ref a_ahead, .ref a_behind, .ref a_setParts, .ref a_baselines, .ref a_lineBlocks, .ref a_reached, .int v_height, .int v_first, .int v_step, .int v_rounding, .int v_cursor])), (a_lineCounts, .inl (cI, 4, .inl v_lineCounts)), (a_baselines, .inl (cI, 2560, .inl v_baselines))]) [0, 1, 2] (by decide) rfl) hS
      · replace hf := ineg hc hf
        refine lv_iload_n hx hb dX1_allLinesOnGrid_9 rfl (lv_at hl 1 rfl) ?_
        refine lv_aload_n hx hb dX1_allLinesOnGrid_10 rfl (lv_at hl 0 rfl) ?_
        refine lv_iload_n hx hb dX1_allLinesOnGrid_11 rfl (lv_at hl 2 rfl) ?_
        replace hf := bd_some hf
        obtain ⟨qo1, hqo1, hf⟩ := hf
        refine g_Vi (As := [.int w2]) (rest := [.int w1]) (wr := []) ⟨hx, hb, hml, hown, hts⟩ (k_X1_linesOnGrid l D cI cC a_t a_lineCounts a_ends a_overflowing a_ahead a_behind a_setParts a_baselines a_lineBlocks a_reached w2 v_height v_first v_step v_rounding v_cursor v_lineCounts v_baselines qo1 hqo1) (cwV 1 hts gX1_allLinesOnGrid_X1_linesOnGrid rfl rfl rfl (by decide +kernel) ⟨Nat.le_of_ble_eq_true rfl, Nat.le_of_ble_eq_true rfl⟩) hK hP hD hS hA 1 0 rfl rfl rfl [0, 1, 2] [] rfl rfl rfl rfl rfl (by decide) rfl hl.1 rfl (Nat.le_of_ble_eq_true rfl) dX1_allLinesOnGrid_12 (Nat.zero_le _) (Nat.zero_le _) (fun H locs hP hD hS => ?_)
        have hP : va_P D vwCl [(a_t, .inr (1, [.ref a_lineCounts, .ref a_ends, .ref a_overflowing, .ref a_ahead, .ref a_behind, .ref a_setParts, .ref a_baselines, .ref a_lineBlocks, .ref a_reached, .int v_height, .int v_first, .int v_step, .int v_rounding, .int v_cursor])), (a_lineCounts, .inl (cI, 4, .inl v_lineCounts)), (a_baselines, .inl (cI, 2560, .inl v_baselines))] H := hP
        have hD : va_D A [(a_t, .inr (1, [.ref a_lineCounts, .ref a_ends, .ref a_overflowing, .ref a_ahead, .ref a_behind, .ref a_setParts, .ref a_baselines, .ref a_lineBlocks, .ref a_reached, .int v_height, .int v_first, .int v_step, .int v_rounding, .int v_cursor])), (a_lineCounts, .inl (cI, 4, .inl v_lineCounts)), (a_baselines, .inl (cI, 2560, .inl v_baselines))] := hD
        refine lv_iadd hx hb dX1_allLinesOnGrid_15 ?_
        refine g_nm hf (fun qx2 hf => ?_)
        refine lv_istore_n (lv' := [(1, .int qx2), (0, .ref a_t), (2, .int w2)]) hx hb dX1_allLinesOnGrid_16 rfl hl (by decide) rfl (fun ls hl => ?_)
        replace hf := nm_some hf
        obtain ⟨qx3, eqx3, hf⟩ := hf
        refine lv_iinc (v := qx3) (lv' := [(2, .int qx3), (1, .int qx2), (0, .ref a_t)]) hx hb dX1_allLinesOnGrid_17 hl (k := 2) rfl (by rw [eqx3]; rfl) (by decide) rfl (fun ls hl => ?_)
        refine lv_goto (tgt := 4) hx hb dX1_allLinesOnGrid_20 (by decide) ?_
        exact hk4 qx2 qx3 _ _ _ hf (hP.sub (ws' := [(a_t, .inr (1, [.ref a_lineCounts, .ref a_ends, .ref a_overflowing, .ref a_ahead, .ref a_behind, .ref a_setParts, .ref a_baselines, .ref a_lineBlocks, .ref a_reached, .int v_height, .int v_first, .int v_step, .int v_rounding, .int v_cursor])), (a_lineCounts, .inl (cI, 4, .inl v_lineCounts)), (a_baselines, .inl (cI, 2560, .inl v_baselines))]) [0, 1, 2] rfl) (hD.sub (ws' := [(a_t, .inr (1, [.ref a_lineCounts, .ref a_ends, .ref a_overflowing, .ref a_ahead, .ref a_behind, .ref a_setParts, .ref a_baselines, .ref a_lineBlocks, .ref a_reached, .int v_height, .int v_first, .int v_step, .int v_rounding, .int v_cursor])), (a_lineCounts, .inl (cI, 4, .inl v_lineCounts)), (a_baselines, .inl (cI, 2560, .inl v_baselines))]) [0, 1, 2] (by decide) rfl) hS (lv_sub hl [2, 1, 0] rfl)
  unfold fX1_allLinesOnGrid at hf
  refine lv_iconst (v := 0) hx hb dX1_allLinesOnGrid_0 (by decide) ?_
  refine lv_istore_n (lv' := [(1, .int 0), (0, .ref a_t)]) hx hb dX1_allLinesOnGrid_1 rfl hl (by decide) rfl (fun ls hl => ?_)
  refine lv_iconst (v := 0) hx hb dX1_allLinesOnGrid_2 (by decide) ?_
  refine lv_istore_n (lv' := [(2, .int 0), (1, .int 0), (0, .ref a_t)]) hx hb dX1_allLinesOnGrid_3 rfl hl (by decide) rfl (fun ls hl => ?_)
  exact J4 Fu 0 0 _ _ _ hf (hP.sub (ws' := [(a_t, .inr (1, [.ref a_lineCounts, .ref a_ends, .ref a_overflowing, .ref a_ahead, .ref a_behind, .ref a_setParts, .ref a_baselines, .ref a_lineBlocks, .ref a_reached, .int v_height, .int v_first, .int v_step, .int v_rounding, .int v_cursor])), (a_lineCounts, .inl (cI, 4, .inl v_lineCounts)), (a_baselines, .inl (cI, 2560, .inl v_baselines))]) [0, 1, 2] rfl) (hD.sub (ws' := [(a_t, .inr (1, [.ref a_lineCounts, .ref a_ends, .ref a_overflowing, .ref a_ahead, .ref a_behind, .ref a_setParts, .ref a_baselines, .ref a_lineBlocks, .ref a_reached, .int v_height, .int v_first, .int v_step, .int v_rounding, .int v_cursor])), (a_lineCounts, .inl (cI, 4, .inl v_lineCounts)), (a_baselines, .inl (cI, 2560, .inl v_baselines))]) [0, 1, 2] (by decide) rfl) hS (lv_sub hl [2, 1, 0] rfl)
def fX1_overflowingColumns_22 (k4 : Int32 → Int32 → Option (Int32)) (v_overflowing : Nat → Int32) (w1 : Int32) (w2 : Int32) : Option (Int32) :=
    nm (w2 + 1) fun qx2 => k4 w1 qx2
def fX1_overflowingColumns_4 (v_overflowing : Nat → Int32) : Nat → Int32 → Int32 → Option (Int32)
  | 0 => fun _ _ => none
  | n + 1 => fun w1 w2 =>
    if 4 ≤ w2 then (some w1) else (bd (fX1_overflowingBlockOf w2 v_overflowing) fun qo1 => if qo1 = ((-5)) then (fX1_overflowingColumns_22 (fX1_overflowingColumns_4 v_overflowing n) v_overflowing w1 w2) else (nm (w1 + 1) fun qx3 => fX1_overflowingColumns_22 (fX1_overflowingColumns_4 v_overflowing n) v_overflowing qx3 w2))
def fX1_overflowingColumns (v_overflowing : Nat → Int32) : Option (Int32) :=
  fX1_overflowingColumns_4 v_overflowing Fu 0 0
def rX1_overflowingColumns : Room := { frames := 2, cells := 0, slots := 0, locals := 41 }
set_option maxHeartbeats 4000000 in
set_option maxRecDepth 100000 in
theorem k_X1_overflowingColumns (l : Launch) (D : va_G) (cI cC : ClassId) (a_t : Nat) (a_lineCounts : Nat) (a_ends : Nat) (a_overflowing : Nat) (a_ahead : Nat) (a_behind : Nat) (a_setParts : Nat) (a_baselines : Nat) (a_lineBlocks : Nat) (a_reached : Nat) (v_height : Int32) (v_first : Int32) (v_step : Int32) (v_rounding : Int32) (v_cursor : Int32) (v_overflowing : Nat → Int32) (o : Int32) (hf : fX1_overflowingColumns v_overflowing = some o) : CTi l yX1_overflowingColumns wsX1_overflowingColumns rX1_overflowingColumns D cI cC [.ref a_t] [(a_t, .inr (1, [.ref a_lineCounts, .ref a_ends, .ref a_overflowing, .ref a_ahead, .ref a_behind, .ref a_setParts, .ref a_baselines, .ref a_lineBlocks, .ref a_reached, .int v_height, .int v_first, .int v_step, .int v_rounding, .int v_cursor])), (a_overflowing, .inl (cI, 4, .inl v_overflowing))] [(a_t, .inr (1, [.ref a_lineCounts, .ref a_ends, .ref a_overflowing, .ref a_ahead, .ref a_behind, .ref a_setParts, .ref a_baselines, .ref a_lineBlocks, .ref a_reached, .int v_height, .int v_first, .int v_step, .int v_rounding, .int v_cursor])), (a_overflowing, .inl (cI, 4, .inl v_overflowing))] o := by
  refine CTi_of (cc := cX1_overflowingColumns) (maxL := 3) (ty := .int) (by decide) rfl (Nat.le_of_ble_eq_true rfl) ?_
  intro p e s m args below meth c A Q ls C0 hA hP hD hl hret
  obtain ⟨hx, hb, hml, hts, hown, hK⟩ := C0
  have hown : s.vm.findClass RX1 = some m.cls := hown
  have hS : va_S A s.heap s.heap [] := va_S.rf
  have hl : lv_has ls 3 [(0, .ref a_t)] := hl
  have J22 : ∀ (k4 : Int32 → Int32 → Option (Int32)) (w1 : Int32) (w2 : Int32) (hk4 : ∀ (w1 : Int32) (w2 : Int32) (H : Heap) (locs : List Loc) (ls : Array Slot), k4 w1 w2 = some o → va_P D vwCl [(a_t, .inr (1, [.ref a_lineCounts, .ref a_ends, .ref a_overflowing, .ref a_ahead, .ref a_behind, .ref a_setParts, .ref a_baselines, .ref a_lineBlocks, .ref a_reached, .int v_height, .int v_first, .int v_step, .int v_rounding, .int v_cursor])), (a_overflowing, .inl (cI, 4, .inl v_overflowing))] H → va_D A [(a_t, .inr (1, [.ref a_lineCounts, .ref a_ends, .ref a_overflowing, .ref a_ahead, .ref a_behind, .ref a_setParts, .ref a_baselines, .ref a_lineBlocks, .ref a_reached, .int v_height, .int v_first, .int v_step, .int v_rounding, .int v_cursor])), (a_overflowing, .inl (cI, 4, .inl v_overflowing))] → va_S A s.heap H locs → lv_has ls 3 [(0, .ref a_t), (1, .int w1), (2, .int w2)] → W p l e rX1_overflowingColumns s m args below meth c H locs 0 0 Q (F0 m 4 ls [])) (H : Heap) (locs : List Loc) (ls : Array Slot), fX1_overflowingColumns_22 k4 v_overflowing w1 w2 = some o → va_P D vwCl [(a_t, .inr (1, [.ref a_lineCounts, .ref a_ends, .ref a_overflowing, .ref a_ahead, .ref a_behind, .ref a_setParts, .ref a_baselines, .ref a_lineBlocks, .ref a_reached, .int v_height, .int v_first, .int v_step, .int v_rounding, .int v_cursor])), (a_overflowing, .inl (cI, 4, .inl v_overflowing))] H → va_D A [(a_t, .inr (1, [.ref a_lineCounts, .ref a_ends, .ref a_overflowing, .ref a_ahead, .ref a_behind, .ref a_setParts, .ref a_baselines, .ref a_lineBlocks, .ref a_reached, .int v_height, .int v_first, .int v_step, .int v_rounding, .int v_cursor])), (a_overflowing, .inl (cI, 4, .inl v_overflowing))] → va_S A s.heap H locs → lv_has ls 3 [(0, .ref a_t), (1, .int w1), (2, .int w2)] → W p l e rX1_overflowingColumns s m args below meth c H locs 0 0 Q (F0 m 22 ls []) := by
    intro k4 w1 w2 hk4 H locs ls hf hP hD hS hl
    unfold fX1_overflowingColumns_22 at hf
    replace hf := nm_some hf
    obtain ⟨qx2, eqx2, hf⟩ := hf
    refine lv_iinc (v := qx2) (lv' := [(2, .int qx2), (0, .ref a_t), (1, .int w1)]) hx hb dX1_overflowingColumns_22 hl (k := 2) rfl (by rw [eqx2]; rfl) (by decide) rfl (fun ls hl => ?_)
    refine lv_goto (tgt := 4) hx hb dX1_overflowingColumns_25 (by decide) ?_
    exact hk4 w1 qx2 _ _ _ hf (hP.sub (ws' := [(a_t, .inr (1, [.ref a_lineCounts, .ref a_ends, .ref a_overflowing, .ref a_ahead, .ref a_behind, .ref a_setParts, .ref a_baselines, .ref a_lineBlocks, .ref a_reached, .int v_height, .int v_first, .int v_step, .int v_rounding, .int v_cursor])), (a_overflowing, .inl (cI, 4, .inl v_overflowing))]) [0, 1] rfl) (hD.sub (ws' := [(a_t, .inr (1, [.ref a_lineCounts, .ref a_ends, .ref a_overflowing, .ref a_ahead, .ref a_behind, .ref a_setParts, .ref a_baselines, .ref a_lineBlocks, .ref a_reached, .int v_height, .int v_first, .int v_step, .int v_rounding, .int v_cursor])), (a_overflowing, .inl (cI, 4, .inl v_overflowing))]) [0, 1] (by decide) rfl) hS (lv_sub hl [1, 2, 0] rfl)
  have J4 : ∀   (n : Nat) (w1 : Int32) (w2 : Int32) (H : Heap) (locs : List Loc) (ls : Array Slot), fX1_overflowingColumns_4 v_overflowing n w1 w2 = some o → va_P D vwCl [(a_t, .inr (1, [.ref a_lineCounts, .ref a_ends, .ref a_overflowing, .ref a_ahead, .ref a_behind, .ref a_setParts, .ref a_baselines, .ref a_lineBlocks, .ref a_reached, .int v_height, .int v_first, .int v_step, .int v_rounding, .int v_cursor])), (a_overflowing, .inl (cI, 4, .inl v_overflowing))] H → va_D A [(a_t, .inr (1, [.ref a_lineCounts, .ref a_ends, .ref a_overflowing, .ref a_ahead, .ref a_behind, .ref a_setParts, .ref a_baselines, .ref a_lineBlocks, .ref a_reached, .int v_height, .int v_first, .int v_step, .int v_rounding, .int v_cursor])), (a_overflowing, .inl (cI, 4, .inl v_overflowing))] → va_S A s.heap H locs → lv_has ls 3 [(0, .ref a_t), (1, .int w1), (2, .int w2)] → W p l e rX1_overflowingColumns s m args below meth c H locs 0 0 Q (F0 m 4 ls []) := by
    intro  n
    induction n with
    | zero =>
      intro w1 w2 H locs ls hf
      have hf0 : (none : Option (Int32)) = some o := hf
      cases hf0
    | succ n hk4 =>
      intro w1 w2 H locs ls hf hP hD hS hl
      rw [fX1_overflowingColumns_4] at hf
      refine lv_iload_n hx hb dX1_overflowingColumns_4 rfl (lv_at hl 2 rfl) ?_
      refine lv_iconst (v := 4) hx hb dX1_overflowingColumns_5 (by decide) ?_
      refine lv_icmp_ge (tgt := 28) hx hb dX1_overflowingColumns_6 (by decide) (fun hc => ?_) (fun hc => ?_)
      · replace hf := ip hc hf
        refine lv_iload_n hx hb dX1_overflowingColumns_28 rfl (lv_at hl 1 rfl) ?_
        have ho := Option.some.inj hf
        subst ho
        exact hret dX1_overflowingColumns_29 rfl (hP.sub (ws' := [(a_t, .inr (1, [.ref a_lineCounts, .ref a_ends, .ref a_overflowing, .ref a_ahead, .ref a_behind, .ref a_setParts, .ref a_baselines, .ref a_lineBlocks, .ref a_reached, .int v_height, .int v_first, .int v_step, .int v_rounding, .int v_cursor])), (a_overflowing, .inl (cI, 4, .inl v_overflowing))]) [0, 1] rfl) (hD.sub (ws' := [(a_t, .inr (1, [.ref a_lineCounts, .ref a_ends, .ref a_overflowing, .ref a_ahead, .ref a_behind, .ref a_setParts, .ref a_baselines, .ref a_lineBlocks, .ref a_reached, .int v_height, .int v_first, .int v_step, .int v_rounding, .int v_cursor])), (a_overflowing, .inl (cI, 4, .inl v_overflowing))]) [0, 1] (by decide) rfl) hS
      · replace hf := ineg hc hf
        refine lv_aload_n hx hb dX1_overflowingColumns_9 rfl (lv_at hl 0 rfl) ?_
        refine lv_iload_n hx hb dX1_overflowingColumns_10 rfl (lv_at hl 2 rfl) ?_
        replace hf := bd_some hf
        obtain ⟨qo1, hqo1, hf⟩ := hf
        refine g_Vi (As := [.int w2]) (rest := []) (wr := []) ⟨hx, hb, hml, hown, hts⟩ (k_X1_overflowingBlockOf l D cI cC a_t a_lineCounts a_ends a_overflowing a_ahead a_behind a_setParts a_baselines a_lineBlocks a_reached w2 v_height v_first v_step v_rounding v_cursor v_overflowing qo1 hqo1) (cwV 1 hts gX1_overflowingColumns_X1_overflowingBlockOf rfl rfl rfl (by decide +kernel) ⟨Nat.le_of_ble_eq_true rfl, Nat.le_of_ble_eq_true rfl⟩) hK hP hD hS hA 1 0 rfl rfl rfl [0, 1] [] rfl rfl rfl rfl rfl (by decide) rfl hl.1 rfl (Nat.le_of_ble_eq_true rfl) dX1_overflowingColumns_11 (Nat.zero_le _) (Nat.zero_le _) (fun H locs hP hD hS => ?_)
        have hP : va_P D vwCl [(a_t, .inr (1, [.ref a_lineCounts, .ref a_ends, .ref a_overflowing, .ref a_ahead, .ref a_behind, .ref a_setParts, .ref a_baselines, .ref a_lineBlocks, .ref a_reached, .int v_height, .int v_first, .int v_step, .int v_rounding, .int v_cursor])), (a_overflowing, .inl (cI, 4, .inl v_overflowing))] H := hP
        have hD : va_D A [(a_t, .inr (1, [.ref a_lineCounts, .ref a_ends, .ref a_overflowing, .ref a_ahead, .ref a_behind, .ref a_setParts, .ref a_baselines, .ref a_lineBlocks, .ref a_reached, .int v_height, .int v_first, .int v_step, .int v_rounding, .int v_cursor])), (a_overflowing, .inl (cI, 4, .inl v_overflowing))] := hD
        refine lv_bipush (v := (-5)) hx hb dX1_overflowingColumns_14 (by decide) ?_
        refine lv_icmp_eq (tgt := 22) hx hb dX1_overflowingColumns_16 (by decide) (fun hc => ?_) (fun hc => ?_)
        · replace hf := ip hc hf
          exact J22 (fX1_overflowingColumns_4 v_overflowing n) w1 w2 hk4 _ _ _ hf (hP.sub (ws' := [(a_t, .inr (1, [.ref a_lineCounts, .ref a_ends, .ref a_overflowing, .ref a_ahead, .ref a_behind, .ref a_setParts, .ref a_baselines, .ref a_lineBlocks, .ref a_reached, .int v_height, .int v_first, .int v_step, .int v_rounding, .int v_cursor])), (a_overflowing, .inl (cI, 4, .inl v_overflowing))]) [0, 1] rfl) (hD.sub (ws' := [(a_t, .inr (1, [.ref a_lineCounts, .ref a_ends, .ref a_overflowing, .ref a_ahead, .ref a_behind, .ref a_setParts, .ref a_baselines, .ref a_lineBlocks, .ref a_reached, .int v_height, .int v_first, .int v_step, .int v_rounding, .int v_cursor])), (a_overflowing, .inl (cI, 4, .inl v_overflowing))]) [0, 1] (by decide) rfl) hS (lv_sub hl [0, 1, 2] rfl)
        · replace hf := ineg hc hf
          replace hf := nm_some hf
          obtain ⟨qx3, eqx3, hf⟩ := hf
          refine lv_iinc (v := qx3) (lv' := [(1, .int qx3), (0, .ref a_t), (2, .int w2)]) hx hb dX1_overflowingColumns_19 hl (k := 1) rfl (by rw [eqx3]; rfl) (by decide) rfl (fun ls hl => ?_)
          exact J22 (fX1_overflowingColumns_4 v_overflowing n) qx3 w2 hk4 _ _ _ hf (hP.sub (ws' := [(a_t, .inr (1, [.ref a_lineCounts, .ref a_ends, .ref a_overflowing, .ref a_ahead, .ref a_behind, .ref a_setParts, .ref a_baselines, .ref a_lineBlocks, .ref a_reached, .int v_height, .int v_first, .int v_step, .int v_rounding, .int v_cursor])), (a_overflowing, .inl (cI, 4, .inl v_overflowing))]) [0, 1] rfl) (hD.sub (ws' := [(a_t, .inr (1, [.ref a_lineCounts, .ref a_ends, .ref a_overflowing, .ref a_ahead, .ref a_behind, .ref a_setParts, .ref a_baselines, .ref a_lineBlocks, .ref a_reached, .int v_height, .int v_first, .int v_step, .int v_rounding, .int v_cursor])), (a_overflowing, .inl (cI, 4, .inl v_overflowing))]) [0, 1] (by decide) rfl) hS (lv_sub hl [1, 0, 2] rfl)
  unfold fX1_overflowingColumns at hf
  refine lv_iconst (v := 0) hx hb dX1_overflowingColumns_0 (by decide) ?_
  refine lv_istore_n (lv' := [(1, .int 0), (0, .ref a_t)]) hx hb dX1_overflowingColumns_1 rfl hl (by decide) rfl (fun ls hl => ?_)
  refine lv_iconst (v := 0) hx hb dX1_overflowingColumns_2 (by decide) ?_
  refine lv_istore_n (lv' := [(2, .int 0), (1, .int 0), (0, .ref a_t)]) hx hb dX1_overflowingColumns_3 rfl hl (by decide) rfl (fun ls hl => ?_)
  exact J4 Fu 0 0 _ _ _ hf (hP.sub (ws' := [(a_t, .inr (1, [.ref a_lineCounts, .ref a_ends, .ref a_overflowing, .ref a_ahead, .ref a_behind, .ref a_setParts, .ref a_baselines, .ref a_lineBlocks, .ref a_reached, .int v_height, .int v_first, .int v_step, .int v_rounding, .int v_cursor])), (a_overflowing, .inl (cI, 4, .inl v_overflowing))]) [0, 1] rfl) (hD.sub (ws' := [(a_t, .inr (1, [.ref a_lineCounts, .ref a_ends, .ref a_overflowing, .ref a_ahead, .ref a_behind, .ref a_setParts, .ref a_baselines, .ref a_lineBlocks, .ref a_reached, .int v_height, .int v_first, .int v_step, .int v_rounding, .int v_cursor])), (a_overflowing, .inl (cI, 4, .inl v_overflowing))]) [0, 1] (by decide) rfl) hS (lv_sub hl [2, 1, 0] rfl)
def fX1_greatestEnd_4 (v_ends : Nat → Int32) : Nat → Int32 → Int32 → Option (Int32)
  | 0 => fun _ _ => none
  | n + 1 => fun w1 w2 =>
    if 4 ≤ w2 then (some w1) else (bd (fX1_endOf w2 v_ends) fun qo1 => nm (if w1 < qo1 then qo1 else w1) fun qx2 => nm (w2 + 1) fun qx3 => (fX1_greatestEnd_4 v_ends n) qx2 qx3)
def fX1_greatestEnd (v_ends : Nat → Int32) : Option (Int32) :=
  fX1_greatestEnd_4 v_ends Fu 0 0
def rX1_greatestEnd : Room := { frames := 2, cells := 0, slots := 0, locals := 41 }
set_option maxHeartbeats 4000000 in
set_option maxRecDepth 100000 in
theorem k_X1_greatestEnd (l : Launch) (D : va_G) (cI cC : ClassId) (a_t : Nat) (a_lineCounts : Nat) (a_ends : Nat) (a_overflowing : Nat) (a_ahead : Nat) (a_behind : Nat) (a_setParts : Nat) (a_baselines : Nat) (a_lineBlocks : Nat) (a_reached : Nat) (v_height : Int32) (v_first : Int32) (v_step : Int32) (v_rounding : Int32) (v_cursor : Int32) (v_ends : Nat → Int32) (o : Int32) (hf : fX1_greatestEnd v_ends = some o) : CTi l yX1_greatestEnd wsX1_greatestEnd rX1_greatestEnd D cI cC [.ref a_t] [(a_t, .inr (1, [.ref a_lineCounts, .ref a_ends, .ref a_overflowing, .ref a_ahead, .ref a_behind, .ref a_setParts, .ref a_baselines, .ref a_lineBlocks, .ref a_reached, .int v_height, .int v_first, .int v_step, .int v_rounding, .int v_cursor])), (a_ends, .inl (cI, 4, .inl v_ends))] [(a_t, .inr (1, [.ref a_lineCounts, .ref a_ends, .ref a_overflowing, .ref a_ahead, .ref a_behind, .ref a_setParts, .ref a_baselines, .ref a_lineBlocks, .ref a_reached, .int v_height, .int v_first, .int v_step, .int v_rounding, .int v_cursor])), (a_ends, .inl (cI, 4, .inl v_ends))] o := by
  refine CTi_of (cc := cX1_greatestEnd) (maxL := 3) (ty := .int) (by decide) rfl (Nat.le_of_ble_eq_true rfl) ?_
  intro p e s m args below meth c A Q ls C0 hA hP hD hl hret
  obtain ⟨hx, hb, hml, hts, hown, hK⟩ := C0
  have hown : s.vm.findClass RX1 = some m.cls := hown
  have hS : va_S A s.heap s.heap [] := va_S.rf
  have hl : lv_has ls 3 [(0, .ref a_t)] := hl
  have J4 : ∀   (n : Nat) (w1 : Int32) (w2 : Int32) (H : Heap) (locs : List Loc) (ls : Array Slot), fX1_greatestEnd_4 v_ends n w1 w2 = some o → va_P D vwCl [(a_t, .inr (1, [.ref a_lineCounts, .ref a_ends, .ref a_overflowing, .ref a_ahead, .ref a_behind, .ref a_setParts, .ref a_baselines, .ref a_lineBlocks, .ref a_reached, .int v_height, .int v_first, .int v_step, .int v_rounding, .int v_cursor])), (a_ends, .inl (cI, 4, .inl v_ends))] H → va_D A [(a_t, .inr (1, [.ref a_lineCounts, .ref a_ends, .ref a_overflowing, .ref a_ahead, .ref a_behind, .ref a_setParts, .ref a_baselines, .ref a_lineBlocks, .ref a_reached, .int v_height, .int v_first, .int v_step, .int v_rounding, .int v_cursor])), (a_ends, .inl (cI, 4, .inl v_ends))] → va_S A s.heap H locs → lv_has ls 3 [(0, .ref a_t), (1, .int w1), (2, .int w2)] → W p l e rX1_greatestEnd s m args below meth c H locs 0 0 Q (F0 m 4 ls []) := by
    intro  n
    induction n with
    | zero =>
      intro w1 w2 H locs ls hf
      have hf0 : (none : Option (Int32)) = some o := hf
      cases hf0
    | succ n hk4 =>
      intro w1 w2 H locs ls hf hP hD hS hl
      rw [fX1_greatestEnd_4] at hf
      refine lv_iload_n hx hb dX1_greatestEnd_4 rfl (lv_at hl 2 rfl) ?_
      refine lv_iconst (v := 4) hx hb dX1_greatestEnd_5 (by decide) ?_
      refine lv_icmp_ge (tgt := 25) hx hb dX1_greatestEnd_6 (by decide) (fun hc => ?_) (fun hc => ?_)
      · replace hf := ip hc hf
        refine lv_iload_n hx hb dX1_greatestEnd_25 rfl (lv_at hl 1 rfl) ?_
        have ho := Option.some.inj hf
        subst ho
        exact hret dX1_greatestEnd_26 rfl (hP.sub (ws' := [(a_t, .inr (1, [.ref a_lineCounts, .ref a_ends, .ref a_overflowing, .ref a_ahead, .ref a_behind, .ref a_setParts, .ref a_baselines, .ref a_lineBlocks, .ref a_reached, .int v_height, .int v_first, .int v_step, .int v_rounding, .int v_cursor])), (a_ends, .inl (cI, 4, .inl v_ends))]) [0, 1] rfl) (hD.sub (ws' := [(a_t, .inr (1, [.ref a_lineCounts, .ref a_ends, .ref a_overflowing, .ref a_ahead, .ref a_behind, .ref a_setParts, .ref a_baselines, .ref a_lineBlocks, .ref a_reached, .int v_height, .int v_first, .int v_step, .int v_rounding, .int v_cursor])), (a_ends, .inl (cI, 4, .inl v_ends))]) [0, 1] (by decide) rfl) hS
      · replace hf := ineg hc hf
        refine lv_iload_n hx hb dX1_greatestEnd_9 rfl (lv_at hl 1 rfl) ?_
        refine lv_aload_n hx hb dX1_greatestEnd_10 rfl (lv_at hl 0 rfl) ?_
        refine lv_iload_n hx hb dX1_greatestEnd_11 rfl (lv_at hl 2 rfl) ?_
        replace hf := bd_some hf
        obtain ⟨qo1, hqo1, hf⟩ := hf
        refine g_Vi (As := [.int w2]) (rest := [.int w1]) (wr := []) ⟨hx, hb, hml, hown, hts⟩ (k_X1_endOf l D cI cC a_t a_lineCounts a_ends a_overflowing a_ahead a_behind a_setParts a_baselines a_lineBlocks a_reached w2 v_height v_first v_step v_rounding v_cursor v_ends qo1 hqo1) (cwV 1 hts gX1_greatestEnd_X1_endOf rfl rfl rfl (by decide +kernel) ⟨Nat.le_of_ble_eq_true rfl, Nat.le_of_ble_eq_true rfl⟩) hK hP hD hS hA 1 0 rfl rfl rfl [0, 1] [] rfl rfl rfl rfl rfl (by decide) rfl hl.1 rfl (Nat.le_of_ble_eq_true rfl) dX1_greatestEnd_12 (Nat.zero_le _) (Nat.zero_le _) (fun H locs hP hD hS => ?_)
        have hP : va_P D vwCl [(a_t, .inr (1, [.ref a_lineCounts, .ref a_ends, .ref a_overflowing, .ref a_ahead, .ref a_behind, .ref a_setParts, .ref a_baselines, .ref a_lineBlocks, .ref a_reached, .int v_height, .int v_first, .int v_step, .int v_rounding, .int v_cursor])), (a_ends, .inl (cI, 4, .inl v_ends))] H := hP
        have hD : va_D A [(a_t, .inr (1, [.ref a_lineCounts, .ref a_ends, .ref a_overflowing, .ref a_ahead, .ref a_behind, .ref a_setParts, .ref a_baselines, .ref a_lineBlocks, .ref a_reached, .int v_height, .int v_first, .int v_step, .int v_rounding, .int v_cursor])), (a_ends, .inl (cI, 4, .inl v_ends))] := hD
        refine va_mmax hx hb (hml.trans hl.1.symm) hown (hts (.methodLink RX1 124 Lib.Math.max.name) (List.mem_of_getElem? (i := 1) rfl)) (hts (.static Lib.Math.max.name) (List.mem_of_getElem? (i := 2) rfl)) (hts (.initialized "java/lang/Math") (List.mem_of_getElem? (i := 3) rfl)) (hts (.code Lib.Math.max.name Lib.Math.max.code 2 (some .int)) (List.mem_of_getElem? (i := 4) rfl)) (Nat.le_of_ble_eq_true rfl) (Nat.le_of_ble_eq_true rfl) (Nat.zero_le _) (Nat.zero_le _) dX1_greatestEnd_15 ?_
        refine g_nm hf (fun qx2 hf => ?_)
        refine lv_istore_n (lv' := [(1, .int qx2), (0, .ref a_t), (2, .int w2)]) hx hb dX1_greatestEnd_18 rfl hl (by decide) rfl (fun ls hl => ?_)
        replace hf := nm_some hf
        obtain ⟨qx3, eqx3, hf⟩ := hf
        refine lv_iinc (v := qx3) (lv' := [(2, .int qx3), (1, .int qx2), (0, .ref a_t)]) hx hb dX1_greatestEnd_19 hl (k := 2) rfl (by rw [eqx3]; rfl) (by decide) rfl (fun ls hl => ?_)
        refine lv_goto (tgt := 4) hx hb dX1_greatestEnd_22 (by decide) ?_
        exact hk4 qx2 qx3 _ _ _ hf (hP.sub (ws' := [(a_t, .inr (1, [.ref a_lineCounts, .ref a_ends, .ref a_overflowing, .ref a_ahead, .ref a_behind, .ref a_setParts, .ref a_baselines, .ref a_lineBlocks, .ref a_reached, .int v_height, .int v_first, .int v_step, .int v_rounding, .int v_cursor])), (a_ends, .inl (cI, 4, .inl v_ends))]) [0, 1] rfl) (hD.sub (ws' := [(a_t, .inr (1, [.ref a_lineCounts, .ref a_ends, .ref a_overflowing, .ref a_ahead, .ref a_behind, .ref a_setParts, .ref a_baselines, .ref a_lineBlocks, .ref a_reached, .int v_height, .int v_first, .int v_step, .int v_rounding, .int v_cursor])), (a_ends, .inl (cI, 4, .inl v_ends))]) [0, 1] (by decide) rfl) hS (lv_sub hl [2, 1, 0] rfl)
  unfold fX1_greatestEnd at hf
  refine lv_iconst (v := 0) hx hb dX1_greatestEnd_0 (by decide) ?_
  refine lv_istore_n (lv' := [(1, .int 0), (0, .ref a_t)]) hx hb dX1_greatestEnd_1 rfl hl (by decide) rfl (fun ls hl => ?_)
  refine lv_iconst (v := 0) hx hb dX1_greatestEnd_2 (by decide) ?_
  refine lv_istore_n (lv' := [(2, .int 0), (1, .int 0), (0, .ref a_t)]) hx hb dX1_greatestEnd_3 rfl hl (by decide) rfl (fun ls hl => ?_)
  exact J4 Fu 0 0 _ _ _ hf (hP.sub (ws' := [(a_t, .inr (1, [.ref a_lineCounts, .ref a_ends, .ref a_overflowing, .ref a_ahead, .ref a_behind, .ref a_setParts, .ref a_baselines, .ref a_lineBlocks, .ref a_reached, .int v_height, .int v_first, .int v_step, .int v_rounding, .int v_cursor])), (a_ends, .inl (cI, 4, .inl v_ends))]) [0, 1] rfl) (hD.sub (ws' := [(a_t, .inr (1, [.ref a_lineCounts, .ref a_ends, .ref a_overflowing, .ref a_ahead, .ref a_behind, .ref a_setParts, .ref a_baselines, .ref a_lineBlocks, .ref a_reached, .int v_height, .int v_first, .int v_step, .int v_rounding, .int v_cursor])), (a_ends, .inl (cI, 4, .inl v_ends))]) [0, 1] (by decide) rfl) hS (lv_sub hl [2, 1, 0] rfl)
def fX1_columnsAt_21 (k4 : Int32 → Int32 → Option (Int32)) (i1 : Int32) (v_lineCounts : Nat → Int32) (v_baselines : Nat → Int32) (w2 : Int32) (w3 : Int32) : Option (Int32) :=
    nm (w3 + 1) fun qx2 => k4 w2 qx2
def fX1_columnsAt_4 (i1 : Int32) (v_lineCounts : Nat → Int32) (v_baselines : Nat → Int32) : Nat → Int32 → Int32 → Option (Int32)
  | 0 => fun _ _ => none
  | n + 1 => fun w2 w3 =>
    if 4 ≤ w3 then (some w2) else (bd (fX1_hasLineAt w3 i1 v_lineCounts v_baselines) fun qo1 => if qo1 = 0 then (fX1_columnsAt_21 (fX1_columnsAt_4 i1 v_lineCounts v_baselines n) i1 v_lineCounts v_baselines w2 w3) else (nm (w2 + 1) fun qx3 => fX1_columnsAt_21 (fX1_columnsAt_4 i1 v_lineCounts v_baselines n) i1 v_lineCounts v_baselines qx3 w3))
def fX1_columnsAt (i1 : Int32) (v_lineCounts : Nat → Int32) (v_baselines : Nat → Int32) : Option (Int32) :=
  fX1_columnsAt_4 i1 v_lineCounts v_baselines Fu 0 0
def rX1_columnsAt : Room := { frames := 4, cells := 0, slots := 0, locals := 86 }
set_option maxHeartbeats 4000000 in
set_option maxRecDepth 100000 in
theorem k_X1_columnsAt (l : Launch) (D : va_G) (cI cC : ClassId) (a_t : Nat) (a_lineCounts : Nat) (a_ends : Nat) (a_overflowing : Nat) (a_ahead : Nat) (a_behind : Nat) (a_setParts : Nat) (a_baselines : Nat) (a_lineBlocks : Nat) (a_reached : Nat) (i1 : Int32) (v_height : Int32) (v_first : Int32) (v_step : Int32) (v_rounding : Int32) (v_cursor : Int32) (v_lineCounts : Nat → Int32) (v_baselines : Nat → Int32) (o : Int32) (hf : fX1_columnsAt i1 v_lineCounts v_baselines = some o) : CTi l yX1_columnsAt wsX1_columnsAt rX1_columnsAt D cI cC [.ref a_t, .int i1] [(a_t, .inr (1, [.ref a_lineCounts, .ref a_ends, .ref a_overflowing, .ref a_ahead, .ref a_behind, .ref a_setParts, .ref a_baselines, .ref a_lineBlocks, .ref a_reached, .int v_height, .int v_first, .int v_step, .int v_rounding, .int v_cursor])), (a_lineCounts, .inl (cI, 4, .inl v_lineCounts)), (a_baselines, .inl (cI, 2560, .inl v_baselines))] [(a_t, .inr (1, [.ref a_lineCounts, .ref a_ends, .ref a_overflowing, .ref a_ahead, .ref a_behind, .ref a_setParts, .ref a_baselines, .ref a_lineBlocks, .ref a_reached, .int v_height, .int v_first, .int v_step, .int v_rounding, .int v_cursor])), (a_lineCounts, .inl (cI, 4, .inl v_lineCounts)), (a_baselines, .inl (cI, 2560, .inl v_baselines))] o := by
  refine CTi_of (cc := cX1_columnsAt) (maxL := 4) (ty := .int) (by decide) rfl (Nat.le_of_ble_eq_true rfl) ?_
  intro p e s m args below meth c A Q ls C0 hA hP hD hl hret
  obtain ⟨hx, hb, hml, hts, hown, hK⟩ := C0
  have hown : s.vm.findClass RX1 = some m.cls := hown
  have hS : va_S A s.heap s.heap [] := va_S.rf
  have hl : lv_has ls 4 [(0, .ref a_t), (1, .int i1)] := hl
  have J21 : ∀ (k4 : Int32 → Int32 → Option (Int32)) (w2 : Int32) (w3 : Int32) (hk4 : ∀ (w2 : Int32) (w3 : Int32) (H : Heap) (locs : List Loc) (ls : Array Slot), k4 w2 w3 = some o → va_P D vwCl [(a_t, .inr (1, [.ref a_lineCounts, .ref a_ends, .ref a_overflowing, .ref a_ahead, .ref a_behind, .ref a_setParts, .ref a_baselines, .ref a_lineBlocks, .ref a_reached, .int v_height, .int v_first, .int v_step, .int v_rounding, .int v_cursor])), (a_lineCounts, .inl (cI, 4, .inl v_lineCounts)), (a_baselines, .inl (cI, 2560, .inl v_baselines))] H → va_D A [(a_t, .inr (1, [.ref a_lineCounts, .ref a_ends, .ref a_overflowing, .ref a_ahead, .ref a_behind, .ref a_setParts, .ref a_baselines, .ref a_lineBlocks, .ref a_reached, .int v_height, .int v_first, .int v_step, .int v_rounding, .int v_cursor])), (a_lineCounts, .inl (cI, 4, .inl v_lineCounts)), (a_baselines, .inl (cI, 2560, .inl v_baselines))] → va_S A s.heap H locs → lv_has ls 4 [(0, .ref a_t), (1, .int i1), (2, .int w2), (3, .int w3)] → W p l e rX1_columnsAt s m args below meth c H locs 0 0 Q (F0 m 4 ls [])) (H : Heap) (locs : List Loc) (ls : Array Slot), fX1_columnsAt_21 k4 i1 v_lineCounts v_baselines w2 w3 = some o → va_P D vwCl [(a_t, .inr (1, [.ref a_lineCounts, .ref a_ends, .ref a_overflowing, .ref a_ahead, .ref a_behind, .ref a_setParts, .ref a_baselines, .ref a_lineBlocks, .ref a_reached, .int v_height, .int v_first, .int v_step, .int v_rounding, .int v_cursor])), (a_lineCounts, .inl (cI, 4, .inl v_lineCounts)), (a_baselines, .inl (cI, 2560, .inl v_baselines))] H → va_D A [(a_t, .inr (1, [.ref a_lineCounts, .ref a_ends, .ref a_overflowing, .ref a_ahead, .ref a_behind, .ref a_setParts, .ref a_baselines, .ref a_lineBlocks, .ref a_reached, .int v_height, .int v_first, .int v_step, .int v_rounding, .int v_cursor])), (a_lineCounts, .inl (cI, 4, .inl v_lineCounts)), (a_baselines, .inl (cI, 2560, .inl v_baselines))] → va_S A s.heap H locs → lv_has ls 4 [(0, .ref a_t), (1, .int i1), (2, .int w2), (3, .int w3)] → W p l e rX1_columnsAt s m args below meth c H locs 0 0 Q (F0 m 21 ls []) := by
    intro k4 w2 w3 hk4 H locs ls hf hP hD hS hl
    unfold fX1_columnsAt_21 at hf
    replace hf := nm_some hf
    obtain ⟨qx2, eqx2, hf⟩ := hf
    refine lv_iinc (v := qx2) (lv' := [(3, .int qx2), (0, .ref a_t), (1, .int i1), (2, .int w2)]) hx hb dX1_columnsAt_21 hl (k := 3) rfl (by rw [eqx2]; rfl) (by decide) rfl (fun ls hl => ?_)
    refine lv_goto (tgt := 4) hx hb dX1_columnsAt_24 (by decide) ?_
    exact hk4 w2 qx2 _ _ _ hf (hP.sub (ws' := [(a_t, .inr (1, [.ref a_lineCounts, .ref a_ends, .ref a_overflowing, .ref a_ahead, .ref a_behind, .ref a_setParts, .ref a_baselines, .ref a_lineBlocks, .ref a_reached, .int v_height, .int v_first, .int v_step, .int v_rounding, .int v_cursor])), (a_lineCounts, .inl (cI, 4, .inl v_lineCounts)), (a_baselines, .inl (cI, 2560, .inl v_baselines))]) [0, 1, 2] rfl) (hD.sub (ws' := [(a_t, .inr (1, [.ref a_lineCounts, .ref a_ends, .ref a_overflowing, .ref a_ahead, .ref a_behind, .ref a_setParts, .ref a_baselines, .ref a_lineBlocks, .ref a_reached, .int v_height, .int v_first, .int v_step, .int v_rounding, .int v_cursor])), (a_lineCounts, .inl (cI, 4, .inl v_lineCounts)), (a_baselines, .inl (cI, 2560, .inl v_baselines))]) [0, 1, 2] (by decide) rfl) hS (lv_sub hl [1, 2, 3, 0] rfl)
  have J4 : ∀   (n : Nat) (w2 : Int32) (w3 : Int32) (H : Heap) (locs : List Loc) (ls : Array Slot), fX1_columnsAt_4 i1 v_lineCounts v_baselines n w2 w3 = some o → va_P D vwCl [(a_t, .inr (1, [.ref a_lineCounts, .ref a_ends, .ref a_overflowing, .ref a_ahead, .ref a_behind, .ref a_setParts, .ref a_baselines, .ref a_lineBlocks, .ref a_reached, .int v_height, .int v_first, .int v_step, .int v_rounding, .int v_cursor])), (a_lineCounts, .inl (cI, 4, .inl v_lineCounts)), (a_baselines, .inl (cI, 2560, .inl v_baselines))] H → va_D A [(a_t, .inr (1, [.ref a_lineCounts, .ref a_ends, .ref a_overflowing, .ref a_ahead, .ref a_behind, .ref a_setParts, .ref a_baselines, .ref a_lineBlocks, .ref a_reached, .int v_height, .int v_first, .int v_step, .int v_rounding, .int v_cursor])), (a_lineCounts, .inl (cI, 4, .inl v_lineCounts)), (a_baselines, .inl (cI, 2560, .inl v_baselines))] → va_S A s.heap H locs → lv_has ls 4 [(0, .ref a_t), (1, .int i1), (2, .int w2), (3, .int w3)] → W p l e rX1_columnsAt s m args below meth c H locs 0 0 Q (F0 m 4 ls []) := by
    intro  n
    induction n with
    | zero =>
      intro w2 w3 H locs ls hf
      have hf0 : (none : Option (Int32)) = some o := hf
      cases hf0
    | succ n hk4 =>
      intro w2 w3 H locs ls hf hP hD hS hl
      rw [fX1_columnsAt_4] at hf
      refine lv_iload_n hx hb dX1_columnsAt_4 rfl (lv_at hl 3 rfl) ?_
      refine lv_iconst (v := 4) hx hb dX1_columnsAt_5 (by decide) ?_
      refine lv_icmp_ge (tgt := 27) hx hb dX1_columnsAt_6 (by decide) (fun hc => ?_) (fun hc => ?_)
      · replace hf := ip hc hf
        refine lv_iload_n hx hb dX1_columnsAt_27 rfl (lv_at hl 2 rfl) ?_
        have ho := Option.some.inj hf
        subst ho
        exact hret dX1_columnsAt_28 rfl (hP.sub (ws' := [(a_t, .inr (1, [.ref a_lineCounts, .ref a_ends, .ref a_overflowing, .ref a_ahead, .ref a_behind, .ref a_setParts, .ref a_baselines, .ref a_lineBlocks, .ref a_reached, .int v_height, .int v_first, .int v_step, .int v_rounding, .int v_cursor])), (a_lineCounts, .inl (cI, 4, .inl v_lineCounts)), (a_baselines, .inl (cI, 2560, .inl v_baselines))]) [0, 1, 2] rfl) (hD.sub (ws' := [(a_t, .inr (1, [.ref a_lineCounts, .ref a_ends, .ref a_overflowing, .ref a_ahead, .ref a_behind, .ref a_setParts, .ref a_baselines, .ref a_lineBlocks, .ref a_reached, .int v_height, .int v_first, .int v_step, .int v_rounding, .int v_cursor])), (a_lineCounts, .inl (cI, 4, .inl v_lineCounts)), (a_baselines, .inl (cI, 2560, .inl v_baselines))]) [0, 1, 2] (by decide) rfl) hS
      · replace hf := ineg hc hf
        refine lv_aload_n hx hb dX1_columnsAt_9 rfl (lv_at hl 0 rfl) ?_
        refine lv_iload_n hx hb dX1_columnsAt_10 rfl (lv_at hl 3 rfl) ?_
        refine lv_iload_n hx hb dX1_columnsAt_11 rfl (lv_at hl 1 rfl) ?_
        replace hf := bd_some hf
        obtain ⟨qo1, hqo1, hf⟩ := hf
        refine g_Vi (As := [.int w3, .int i1]) (rest := []) (wr := []) ⟨hx, hb, hml, hown, hts⟩ (k_X1_hasLineAt l D cI cC a_t a_lineCounts a_ends a_overflowing a_ahead a_behind a_setParts a_baselines a_lineBlocks a_reached w3 i1 v_height v_first v_step v_rounding v_cursor v_lineCounts v_baselines qo1 hqo1) (cwV 2 hts gX1_columnsAt_X1_hasLineAt rfl rfl rfl (by decide +kernel) ⟨Nat.le_of_ble_eq_true rfl, Nat.le_of_ble_eq_true rfl⟩) hK hP hD hS hA 1 0 rfl rfl rfl [0, 1, 2] [] rfl rfl rfl rfl rfl (by decide) rfl hl.1 rfl (Nat.le_of_ble_eq_true rfl) dX1_columnsAt_12 (Nat.zero_le _) (Nat.zero_le _) (fun H locs hP hD hS => ?_)
        have hP : va_P D vwCl [(a_t, .inr (1, [.ref a_lineCounts, .ref a_ends, .ref a_overflowing, .ref a_ahead, .ref a_behind, .ref a_setParts, .ref a_baselines, .ref a_lineBlocks, .ref a_reached, .int v_height, .int v_first, .int v_step, .int v_rounding, .int v_cursor])), (a_lineCounts, .inl (cI, 4, .inl v_lineCounts)), (a_baselines, .inl (cI, 2560, .inl v_baselines))] H := hP
        have hD : va_D A [(a_t, .inr (1, [.ref a_lineCounts, .ref a_ends, .ref a_overflowing, .ref a_ahead, .ref a_behind, .ref a_setParts, .ref a_baselines, .ref a_lineBlocks, .ref a_reached, .int v_height, .int v_first, .int v_step, .int v_rounding, .int v_cursor])), (a_lineCounts, .inl (cI, 4, .inl v_lineCounts)), (a_baselines, .inl (cI, 2560, .inl v_baselines))] := hD
        refine lv_if_eq (tgt := 21) hx hb dX1_columnsAt_15 (by decide) (fun hc => ?_) (fun hc => ?_)
        · replace hf := ip hc hf
          exact J21 (fX1_columnsAt_4 i1 v_lineCounts v_baselines n) w2 w3 hk4 _ _ _ hf (hP.sub (ws' := [(a_t, .inr (1, [.ref a_lineCounts, .ref a_ends, .ref a_overflowing, .ref a_ahead, .ref a_behind, .ref a_setParts, .ref a_baselines, .ref a_lineBlocks, .ref a_reached, .int v_height, .int v_first, .int v_step, .int v_rounding, .int v_cursor])), (a_lineCounts, .inl (cI, 4, .inl v_lineCounts)), (a_baselines, .inl (cI, 2560, .inl v_baselines))]) [0, 1, 2] rfl) (hD.sub (ws' := [(a_t, .inr (1, [.ref a_lineCounts, .ref a_ends, .ref a_overflowing, .ref a_ahead, .ref a_behind, .ref a_setParts, .ref a_baselines, .ref a_lineBlocks, .ref a_reached, .int v_height, .int v_first, .int v_step, .int v_rounding, .int v_cursor])), (a_lineCounts, .inl (cI, 4, .inl v_lineCounts)), (a_baselines, .inl (cI, 2560, .inl v_baselines))]) [0, 1, 2] (by decide) rfl) hS (lv_sub hl [0, 1, 2, 3] rfl)
        · replace hf := ineg hc hf
          replace hf := nm_some hf
          obtain ⟨qx3, eqx3, hf⟩ := hf
          refine lv_iinc (v := qx3) (lv' := [(2, .int qx3), (0, .ref a_t), (1, .int i1), (3, .int w3)]) hx hb dX1_columnsAt_18 hl (k := 2) rfl (by rw [eqx3]; rfl) (by decide) rfl (fun ls hl => ?_)
          exact J21 (fX1_columnsAt_4 i1 v_lineCounts v_baselines n) qx3 w3 hk4 _ _ _ hf (hP.sub (ws' := [(a_t, .inr (1, [.ref a_lineCounts, .ref a_ends, .ref a_overflowing, .ref a_ahead, .ref a_behind, .ref a_setParts, .ref a_baselines, .ref a_lineBlocks, .ref a_reached, .int v_height, .int v_first, .int v_step, .int v_rounding, .int v_cursor])), (a_lineCounts, .inl (cI, 4, .inl v_lineCounts)), (a_baselines, .inl (cI, 2560, .inl v_baselines))]) [0, 1, 2] rfl) (hD.sub (ws' := [(a_t, .inr (1, [.ref a_lineCounts, .ref a_ends, .ref a_overflowing, .ref a_ahead, .ref a_behind, .ref a_setParts, .ref a_baselines, .ref a_lineBlocks, .ref a_reached, .int v_height, .int v_first, .int v_step, .int v_rounding, .int v_cursor])), (a_lineCounts, .inl (cI, 4, .inl v_lineCounts)), (a_baselines, .inl (cI, 2560, .inl v_baselines))]) [0, 1, 2] (by decide) rfl) hS (lv_sub hl [1, 2, 0, 3] rfl)
  unfold fX1_columnsAt at hf
  refine lv_iconst (v := 0) hx hb dX1_columnsAt_0 (by decide) ?_
  refine lv_istore_n (lv' := [(2, .int 0), (0, .ref a_t), (1, .int i1)]) hx hb dX1_columnsAt_1 rfl hl (by decide) rfl (fun ls hl => ?_)
  refine lv_iconst (v := 0) hx hb dX1_columnsAt_2 (by decide) ?_
  refine lv_istore_n (lv' := [(3, .int 0), (2, .int 0), (0, .ref a_t), (1, .int i1)]) hx hb dX1_columnsAt_3 rfl hl (by decide) rfl (fun ls hl => ?_)
  exact J4 Fu 0 0 _ _ _ hf (hP.sub (ws' := [(a_t, .inr (1, [.ref a_lineCounts, .ref a_ends, .ref a_overflowing, .ref a_ahead, .ref a_behind, .ref a_setParts, .ref a_baselines, .ref a_lineBlocks, .ref a_reached, .int v_height, .int v_first, .int v_step, .int v_rounding, .int v_cursor])), (a_lineCounts, .inl (cI, 4, .inl v_lineCounts)), (a_baselines, .inl (cI, 2560, .inl v_baselines))]) [0, 1, 2] rfl) (hD.sub (ws' := [(a_t, .inr (1, [.ref a_lineCounts, .ref a_ends, .ref a_overflowing, .ref a_ahead, .ref a_behind, .ref a_setParts, .ref a_baselines, .ref a_lineBlocks, .ref a_reached, .int v_height, .int v_first, .int v_step, .int v_rounding, .int v_cursor])), (a_lineCounts, .inl (cI, 4, .inl v_lineCounts)), (a_baselines, .inl (cI, 2560, .inl v_baselines))]) [0, 1, 2] (by decide) rfl) hS (lv_sub hl [2, 3, 1, 0] rfl)
def fX1_uppermostReached_52 (k5 : Int32 → Int32 → Option (Int32)) (v_lineCounts : Nat → Int32) (v_baselines : Nat → Int32) (v_reached : Nat → Int32) (w1 : Int32) (w2 : Int32) : Option (Int32) :=
    nm (w2 + 1) fun qx3 => k5 w1 qx3
def fX1_uppermostReached_51 (k5 : Int32 → Int32 → Option (Int32)) (v_lineCounts : Nat → Int32) (v_baselines : Nat → Int32) (v_reached : Nat → Int32) (w2 : Int32) (s0 : Int32) : Option (Int32) :=
    fX1_uppermostReached_52 k5 v_lineCounts v_baselines v_reached s0 w2
def fX1_uppermostReached_5 (v_lineCounts : Nat → Int32) (v_baselines : Nat → Int32) (v_reached : Nat → Int32) : Nat → Int32 → Int32 → Option (Int32)
  | 0 => fun _ _ => none
  | n + 1 => fun w1 w2 =>
    if 4 ≤ w2 then (some w1) else (aget 4 v_reached w2 fun qx1 => bd (fX1_linesOf w2 v_lineCounts) fun qo2 => if qo2 ≤ qx1 then (fX1_uppermostReached_52 (fX1_uppermostReached_5 v_lineCounts v_baselines v_reached n) v_lineCounts v_baselines v_reached w1 w2) else (aget 4 v_reached w2 fun qx4 => bd (fX1_baselineOf w2 qx4 v_baselines) fun qo5 => if w1 = ((-5)) then (fX1_uppermostReached_51 (fX1_uppermostReached_5 v_lineCounts v_baselines v_reached n) v_lineCounts v_baselines v_reached w2 qo5) else (fX1_uppermostReached_51 (fX1_uppermostReached_5 v_lineCounts v_baselines v_reached n) v_lineCounts v_baselines v_reached w2 (if qo5 < w1 then qo5 else w1))))
def fX1_uppermostReached (v_lineCounts : Nat → Int32) (v_baselines : Nat → Int32) (v_reached : Nat → Int32) : Option (Int32) :=
  fX1_uppermostReached_5 v_lineCounts v_baselines v_reached Fu ((-5)) 0
def rX1_uppermostReached : Room := { frames := 3, cells := 0, slots := 0, locals := 63 }
theorem hin_X1_uppermostReached_X1 : ∀ w ∈ wsX10, w ∈ wsX1_uppermostReached := fun _ h => List.mem_cons_of_mem _ (List.mem_append_right _ (h))
set_option maxHeartbeats 4000000 in
set_option maxRecDepth 100000 in
theorem k_X1_uppermostReached (l : Launch) (D : va_G) (cI cC : ClassId) (a_t : Nat) (a_lineCounts : Nat) (a_ends : Nat) (a_overflowing : Nat) (a_ahead : Nat) (a_behind : Nat) (a_setParts : Nat) (a_baselines : Nat) (a_lineBlocks : Nat) (a_reached : Nat) (v_height : Int32) (v_first : Int32) (v_step : Int32) (v_rounding : Int32) (v_cursor : Int32) (v_lineCounts : Nat → Int32) (v_baselines : Nat → Int32) (v_reached : Nat → Int32) (o : Int32) (hf : fX1_uppermostReached v_lineCounts v_baselines v_reached = some o) : CTi l yX1_uppermostReached wsX1_uppermostReached rX1_uppermostReached D cI cC [.ref a_t] [(a_t, .inr (1, [.ref a_lineCounts, .ref a_ends, .ref a_overflowing, .ref a_ahead, .ref a_behind, .ref a_setParts, .ref a_baselines, .ref a_lineBlocks, .ref a_reached, .int v_height, .int v_first, .int v_step, .int v_rounding, .int v_cursor])), (a_lineCounts, .inl (cI, 4, .inl v_lineCounts)), (a_baselines, .inl (cI, 2560, .inl v_baselines)), (a_reached, .inl (cI, 4, .inl v_reached))] [(a_t, .inr (1, [.ref a_lineCounts, .ref a_ends, .ref a_overflowing, .ref a_ahead, .ref a_behind, .ref a_setParts, .ref a_baselines, .ref a_lineBlocks, .ref a_reached, .int v_height, .int v_first, .int v_step, .int v_rounding, .int v_cursor])), (a_lineCounts, .inl (cI, 4, .inl v_lineCounts)), (a_baselines, .inl (cI, 2560, .inl v_baselines)), (a_reached, .inl (cI, 4, .inl v_reached))] o := by
  refine CTi_of (cc := cX1_uppermostReached) (maxL := 4) (ty := .int) (by decide) rfl (Nat.le_of_ble_eq_true rfl) ?_
  intro p e s m args below meth c A Q ls C0 hA hP hD hl hret
  obtain ⟨hx, hb, hml, hts, hown, hK⟩ := C0
  have hown : s.vm.findClass RX1 = some m.cls := hown
  have hS : va_S A s.heap s.heap [] := va_S.rf
  have hl : lv_has ls 4 [(0, .ref a_t)] := hl
  have hinX1 := hin_X1_uppermostReached_X1
  have J52 : ∀ (k5 : Int32 → Int32 → Option (Int32)) (w1 : Int32) (w2 : Int32) (hk5 : ∀ (w1 : Int32) (w2 : Int32) (H : Heap) (locs : List Loc) (ls : Array Slot), k5 w1 w2 = some o → va_P D vwCl [(a_t, .inr (1, [.ref a_lineCounts, .ref a_ends, .ref a_overflowing, .ref a_ahead, .ref a_behind, .ref a_setParts, .ref a_baselines, .ref a_lineBlocks, .ref a_reached, .int v_height, .int v_first, .int v_step, .int v_rounding, .int v_cursor])), (a_lineCounts, .inl (cI, 4, .inl v_lineCounts)), (a_baselines, .inl (cI, 2560, .inl v_baselines)), (a_reached, .inl (cI, 4, .inl v_reached))] H → va_D A [(a_t, .inr (1, [.ref a_lineCounts, .ref a_ends, .ref a_overflowing, .ref a_ahead, .ref a_behind, .ref a_setParts, .ref a_baselines, .ref a_lineBlocks, .ref a_reached, .int v_height, .int v_first, .int v_step, .int v_rounding, .int v_cursor])), (a_lineCounts, .inl (cI, 4, .inl v_lineCounts)), (a_baselines, .inl (cI, 2560, .inl v_baselines)), (a_reached, .inl (cI, 4, .inl v_reached))] → va_S A s.heap H locs → lv_has ls 4 [(0, .ref a_t), (1, .int w1), (2, .int w2)] → W p l e rX1_uppermostReached s m args below meth c H locs 0 0 Q (F0 m 5 ls [])) (H : Heap) (locs : List Loc) (ls : Array Slot), fX1_uppermostReached_52 k5 v_lineCounts v_baselines v_reached w1 w2 = some o → va_P D vwCl [(a_t, .inr (1, [.ref a_lineCounts, .ref a_ends, .ref a_overflowing, .ref a_ahead, .ref a_behind, .ref a_setParts, .ref a_baselines, .ref a_lineBlocks, .ref a_reached, .int v_height, .int v_first, .int v_step, .int v_rounding, .int v_cursor])), (a_lineCounts, .inl (cI, 4, .inl v_lineCounts)), (a_baselines, .inl (cI, 2560, .inl v_baselines)), (a_reached, .inl (cI, 4, .inl v_reached))] H → va_D A [(a_t, .inr (1, [.ref a_lineCounts, .ref a_ends, .ref a_overflowing, .ref a_ahead, .ref a_behind, .ref a_setParts, .ref a_baselines, .ref a_lineBlocks, .ref a_reached, .int v_height, .int v_first, .int v_step, .int v_rounding, .int v_cursor])), (a_lineCounts, .inl (cI, 4, .inl v_lineCounts)), (a_baselines, .inl (cI, 2560, .inl v_baselines)), (a_reached, .inl (cI, 4, .inl v_reached))] → va_S A s.heap H locs → lv_has ls 4 [(0, .ref a_t), (1, .int w1), (2, .int w2)] → W p l e rX1_uppermostReached s m args below meth c H locs 0 0 Q (F0 m 52 ls []) := by
    intro k5 w1 w2 hk5 H locs ls hf hP hD hS hl
    unfold fX1_uppermostReached_52 at hf
    replace hf := nm_some hf
    obtain ⟨qx3, eqx3, hf⟩ := hf
    refine lv_iinc (v := qx3) (lv' := [(2, .int qx3), (0, .ref a_t), (1, .int w1)]) hx hb dX1_uppermostReached_52 hl (k := 2) rfl (by rw [eqx3]; rfl) (by decide) rfl (fun ls hl => ?_)
    refine lv_goto (tgt := 5) hx hb dX1_uppermostReached_55 (by decide) ?_
    exact hk5 w1 qx3 _ _ _ hf (hP.sub (ws' := [(a_t, .inr (1, [.ref a_lineCounts, .ref a_ends, .ref a_overflowing, .ref a_ahead, .ref a_behind, .ref a_setParts, .ref a_baselines, .ref a_lineBlocks, .ref a_reached, .int v_height, .int v_first, .int v_step, .int v_rounding, .int v_cursor])), (a_lineCounts, .inl (cI, 4, .inl v_lineCounts)), (a_baselines, .inl (cI, 2560, .inl v_baselines)), (a_reached, .inl (cI, 4, .inl v_reached))]) [0, 1, 2, 3] rfl) (hD.sub (ws' := [(a_t, .inr (1, [.ref a_lineCounts, .ref a_ends, .ref a_overflowing, .ref a_ahead, .ref a_behind, .ref a_setParts, .ref a_baselines, .ref a_lineBlocks, .ref a_reached, .int v_height, .int v_first, .int v_step, .int v_rounding, .int v_cursor])), (a_lineCounts, .inl (cI, 4, .inl v_lineCounts)), (a_baselines, .inl (cI, 2560, .inl v_baselines)), (a_reached, .inl (cI, 4, .inl v_reached))]) [0, 1, 2, 3] (by decide) rfl) hS (lv_sub hl [1, 2, 0] rfl)
  have J51 : ∀ (k5 : Int32 → Int32 → Option (Int32)) (w2 : Int32) (s0 : Int32) (hk5 : ∀ (w1 : Int32) (w2 : Int32) (H : Heap) (locs : List Loc) (ls : Array Slot), k5 w1 w2 = some o → va_P D vwCl [(a_t, .inr (1, [.ref a_lineCounts, .ref a_ends, .ref a_overflowing, .ref a_ahead, .ref a_behind, .ref a_setParts, .ref a_baselines, .ref a_lineBlocks, .ref a_reached, .int v_height, .int v_first, .int v_step, .int v_rounding, .int v_cursor])), (a_lineCounts, .inl (cI, 4, .inl v_lineCounts)), (a_baselines, .inl (cI, 2560, .inl v_baselines)), (a_reached, .inl (cI, 4, .inl v_reached))] H → va_D A [(a_t, .inr (1, [.ref a_lineCounts, .ref a_ends, .ref a_overflowing, .ref a_ahead, .ref a_behind, .ref a_setParts, .ref a_baselines, .ref a_lineBlocks, .ref a_reached, .int v_height, .int v_first, .int v_step, .int v_rounding, .int v_cursor])), (a_lineCounts, .inl (cI, 4, .inl v_lineCounts)), (a_baselines, .inl (cI, 2560, .inl v_baselines)), (a_reached, .inl (cI, 4, .inl v_reached))] → va_S A s.heap H locs → lv_has ls 4 [(0, .ref a_t), (1, .int w1), (2, .int w2)] → W p l e rX1_uppermostReached s m args below meth c H locs 0 0 Q (F0 m 5 ls [])) (H : Heap) (locs : List Loc) (ls : Array Slot), fX1_uppermostReached_51 k5 v_lineCounts v_baselines v_reached w2 s0 = some o → va_P D vwCl [(a_t, .inr (1, [.ref a_lineCounts, .ref a_ends, .ref a_overflowing, .ref a_ahead, .ref a_behind, .ref a_setParts, .ref a_baselines, .ref a_lineBlocks, .ref a_reached, .int v_height, .int v_first, .int v_step, .int v_rounding, .int v_cursor])), (a_lineCounts, .inl (cI, 4, .inl v_lineCounts)), (a_baselines, .inl (cI, 2560, .inl v_baselines)), (a_reached, .inl (cI, 4, .inl v_reached))] H → va_D A [(a_t, .inr (1, [.ref a_lineCounts, .ref a_ends, .ref a_overflowing, .ref a_ahead, .ref a_behind, .ref a_setParts, .ref a_baselines, .ref a_lineBlocks, .ref a_reached, .int v_height, .int v_first, .int v_step, .int v_rounding, .int v_cursor])), (a_lineCounts, .inl (cI, 4, .inl v_lineCounts)), (a_baselines, .inl (cI, 2560, .inl v_baselines)), (a_reached, .inl (cI, 4, .inl v_reached))] → va_S A s.heap H locs → lv_has ls 4 [(0, .ref a_t), (2, .int w2)] → W p l e rX1_uppermostReached s m args below meth c H locs 0 0 Q (F0 m 51 ls [.int s0]) := by
    intro k5 w2 s0 hk5 H locs ls hf hP hD hS hl
    unfold fX1_uppermostReached_51 at hf
    refine lv_istore_n (lv' := [(1, .int s0), (0, .ref a_t), (2, .int w2)]) hx hb dX1_uppermostReached_51 rfl hl (by decide) rfl (fun ls hl => ?_)
    exact J52 k5 s0 w2 hk5 _ _ _ hf (hP.sub (ws' := [(a_t, .inr (1, [.ref a_lineCounts, .ref a_ends, .ref a_overflowing, .ref a_ahead, .ref a_behind, .ref a_setParts, .ref a_baselines, .ref a_lineBlocks, .ref a_reached, .int v_height, .int v_first, .int v_step, .int v_rounding, .int v_cursor])), (a_lineCounts, .inl (cI, 4, .inl v_lineCounts)), (a_baselines, .inl (cI, 2560, .inl v_baselines)), (a_reached, .inl (cI, 4, .inl v_reached))]) [0, 1, 2, 3] rfl) (hD.sub (ws' := [(a_t, .inr (1, [.ref a_lineCounts, .ref a_ends, .ref a_overflowing, .ref a_ahead, .ref a_behind, .ref a_setParts, .ref a_baselines, .ref a_lineBlocks, .ref a_reached, .int v_height, .int v_first, .int v_step, .int v_rounding, .int v_cursor])), (a_lineCounts, .inl (cI, 4, .inl v_lineCounts)), (a_baselines, .inl (cI, 2560, .inl v_baselines)), (a_reached, .inl (cI, 4, .inl v_reached))]) [0, 1, 2, 3] (by decide) rfl) hS (lv_sub hl [1, 0, 2] rfl)
  have J5 : ∀   (n : Nat) (w1 : Int32) (w2 : Int32) (H : Heap) (locs : List Loc) (ls : Array Slot), fX1_uppermostReached_5 v_lineCounts v_baselines v_reached n w1 w2 = some o → va_P D vwCl [(a_t, .inr (1, [.ref a_lineCounts, .ref a_ends, .ref a_overflowing, .ref a_ahead, .ref a_behind, .ref a_setParts, .ref a_baselines, .ref a_lineBlocks, .ref a_reached, .int v_height, .int v_first, .int v_step, .int v_rounding, .int v_cursor])), (a_lineCounts, .inl (cI, 4, .inl v_lineCounts)), (a_baselines, .inl (cI, 2560, .inl v_baselines)), (a_reached, .inl (cI, 4, .inl v_reached))] H → va_D A [(a_t, .inr (1, [.ref a_lineCounts, .ref a_ends, .ref a_overflowing, .ref a_ahead, .ref a_behind, .ref a_setParts, .ref a_baselines, .ref a_lineBlocks, .ref a_reached, .int v_height, .int v_first, .int v_step, .int v_rounding, .int v_cursor])), (a_lineCounts, .inl (cI, 4, .inl v_lineCounts)), (a_baselines, .inl (cI, 2560, .inl v_baselines)), (a_reached, .inl (cI, 4, .inl v_reached))] → va_S A s.heap H locs → lv_has ls 4 [(0, .ref a_t), (1, .int w1), (2, .int w2)] → W p l e rX1_uppermostReached s m args below meth c H locs 0 0 Q (F0 m 5 ls []) := by
    intro  n
    induction n with
    | zero =>
      intro w1 w2 H locs ls hf
      have hf0 : (none : Option (Int32)) = some o := hf
      cases hf0
    | succ n hk5 =>
      intro w1 w2 H locs ls hf hP hD hS hl
      rw [fX1_uppermostReached_5] at hf
      refine lv_iload_n hx hb dX1_uppermostReached_5 rfl (lv_at hl 2 rfl) ?_
      refine lv_iconst (v := 4) hx hb dX1_uppermostReached_6 (by decide) ?_
      refine lv_icmp_ge (tgt := 58) hx hb dX1_uppermostReached_7 (by decide) (fun hc => ?_) (fun hc => ?_)
      · replace hf := ip hc hf
        refine lv_iload_n hx hb dX1_uppermostReached_58 rfl (lv_at hl 1 rfl) ?_
        have ho := Option.some.inj hf
        subst ho
        exact hret dX1_uppermostReached_59 rfl (hP.sub (ws' := [(a_t, .inr (1, [.ref a_lineCounts, .ref a_ends, .ref a_overflowing, .ref a_ahead, .ref a_behind, .ref a_setParts, .ref a_baselines, .ref a_lineBlocks, .ref a_reached, .int v_height, .int v_first, .int v_step, .int v_rounding, .int v_cursor])), (a_lineCounts, .inl (cI, 4, .inl v_lineCounts)), (a_baselines, .inl (cI, 2560, .inl v_baselines)), (a_reached, .inl (cI, 4, .inl v_reached))]) [0, 1, 2, 3] rfl) (hD.sub (ws' := [(a_t, .inr (1, [.ref a_lineCounts, .ref a_ends, .ref a_overflowing, .ref a_ahead, .ref a_behind, .ref a_setParts, .ref a_baselines, .ref a_lineBlocks, .ref a_reached, .int v_height, .int v_first, .int v_step, .int v_rounding, .int v_cursor])), (a_lineCounts, .inl (cI, 4, .inl v_lineCounts)), (a_baselines, .inl (cI, 2560, .inl v_baselines)), (a_reached, .inl (cI, 4, .inl v_reached))]) [0, 1, 2, 3] (by decide) rfl) hS
      · replace hf := ineg hc hf
        refine lv_aload_n hx hb dX1_uppermostReached_10 rfl (lv_at hl 0 rfl) ?_
        refine va_get (D := D) (ci := 1) (v := .ref a_reached) (C := RX1) (T := TX1) (N := 14) hx hb hts hinX1 hown hK.1 hP 0 rfl rfl 8 (by decide) (hts (.fieldLink RX1 36 "BaselineGrid$Layout" "reached" "[I") (List.mem_of_getElem? (i := 1) rfl)) (fun _ h9 => h9) rfl dX1_uppermostReached_11 ?_
        refine lv_iload_n hx hb dX1_uppermostReached_14 rfl (lv_at hl 2 rfl) ?_
        refine g_iald hx hb hK.1 hP 3 0 rfl rfl hf dX1_uppermostReached_15 (fun qx1 hf => ?_)
        refine lv_aload_n hx hb dX1_uppermostReached_16 rfl (lv_at hl 0 rfl) ?_
        refine lv_iload_n hx hb dX1_uppermostReached_17 rfl (lv_at hl 2 rfl) ?_
        replace hf := bd_some hf
        obtain ⟨qo2, hqo2, hf⟩ := hf
        refine g_Vi (As := [.int w2]) (rest := [.int qx1]) (wr := [(a_baselines, .inl (cI, 2560, .inl v_baselines)), (a_reached, .inl (cI, 4, .inl v_reached))]) ⟨hx, hb, hml, hown, hts⟩ (k_X1_linesOf l D cI cC a_t a_lineCounts a_ends a_overflowing a_ahead a_behind a_setParts a_baselines a_lineBlocks a_reached w2 v_height v_first v_step v_rounding v_cursor v_lineCounts qo2 hqo2) (cwV 1 hts gX1_uppermostReached_X1_linesOf rfl rfl rfl (by decide +kernel) ⟨Nat.le_of_ble_eq_true rfl, Nat.le_of_ble_eq_true rfl⟩) hK hP hD hS hA 1 0 rfl rfl rfl [0, 1] [2, 3] rfl rfl rfl rfl rfl (by decide) rfl hl.1 rfl (Nat.le_of_ble_eq_true rfl) dX1_uppermostReached_18 (Nat.zero_le _) (Nat.zero_le _) (fun H locs hP hD hS => ?_)
        have hP : va_P D vwCl [(a_baselines, .inl (cI, 2560, .inl v_baselines)), (a_reached, .inl (cI, 4, .inl v_reached)), (a_t, .inr (1, [.ref a_lineCounts, .ref a_ends, .ref a_overflowing, .ref a_ahead, .ref a_behind, .ref a_setParts, .ref a_baselines, .ref a_lineBlocks, .ref a_reached, .int v_height, .int v_first, .int v_step, .int v_rounding, .int v_cursor])), (a_lineCounts, .inl (cI, 4, .inl v_lineCounts))] H := hP
        have hD : va_D A [(a_baselines, .inl (cI, 2560, .inl v_baselines)), (a_reached, .inl (cI, 4, .inl v_reached)), (a_t, .inr (1, [.ref a_lineCounts, .ref a_ends, .ref a_overflowing, .ref a_ahead, .ref a_behind, .ref a_setParts, .ref a_baselines, .ref a_lineBlocks, .ref a_reached, .int v_height, .int v_first, .int v_step, .int v_rounding, .int v_cursor])), (a_lineCounts, .inl (cI, 4, .inl v_lineCounts))] := hD
        refine lv_icmp_ge (tgt := 52) hx hb dX1_uppermostReached_21 (by decide) (fun hc => ?_) (fun hc => ?_)
        · replace hf := ip hc hf
          exact J52 (fX1_uppermostReached_5 v_lineCounts v_baselines v_reached n) w1 w2 hk5 _ _ _ hf (hP.sub (ws' := [(a_t, .inr (1, [.ref a_lineCounts, .ref a_ends, .ref a_overflowing, .ref a_ahead, .ref a_behind, .ref a_setParts, .ref a_baselines, .ref a_lineBlocks, .ref a_reached, .int v_height, .int v_first, .int v_step, .int v_rounding, .int v_cursor])), (a_lineCounts, .inl (cI, 4, .inl v_lineCounts)), (a_baselines, .inl (cI, 2560, .inl v_baselines)), (a_reached, .inl (cI, 4, .inl v_reached))]) [2, 3, 0, 1] rfl) (hD.sub (ws' := [(a_t, .inr (1, [.ref a_lineCounts, .ref a_ends, .ref a_overflowing, .ref a_ahead, .ref a_behind, .ref a_setParts, .ref a_baselines, .ref a_lineBlocks, .ref a_reached, .int v_height, .int v_first, .int v_step, .int v_rounding, .int v_cursor])), (a_lineCounts, .inl (cI, 4, .inl v_lineCounts)), (a_baselines, .inl (cI, 2560, .inl v_baselines)), (a_reached, .inl (cI, 4, .inl v_reached))]) [2, 3, 0, 1] (by decide) rfl) hS (lv_sub hl [0, 1, 2] rfl)
        · replace hf := ineg hc hf
          refine lv_aload_n hx hb dX1_uppermostReached_24 rfl (lv_at hl 0 rfl) ?_
          refine lv_iload_n hx hb dX1_uppermostReached_25 rfl (lv_at hl 2 rfl) ?_
          refine lv_aload_n hx hb dX1_uppermostReached_26 rfl (lv_at hl 0 rfl) ?_
          refine va_get (D := D) (ci := 1) (v := .ref a_reached) (C := RX1) (T := TX1) (N := 14) hx hb hts hinX1 hown hK.1 hP 2 rfl rfl 8 (by decide) (hts (.fieldLink RX1 36 "BaselineGrid$Layout" "reached" "[I") (List.mem_of_getElem? (i := 1) rfl)) (fun _ h9 => h9) rfl dX1_uppermostReached_27 ?_
          refine lv_iload_n hx hb dX1_uppermostReached_30 rfl (lv_at hl 2 rfl) ?_
          refine g_iald hx hb hK.1 hP 1 0 rfl rfl hf dX1_uppermostReached_31 (fun qx4 hf => ?_)
          replace hf := bd_some hf
          obtain ⟨qo5, hqo5, hf⟩ := hf
          refine g_Vi (As := [.int w2, .int qx4]) (rest := []) (wr := [(a_reached, .inl (cI, 4, .inl v_reached)), (a_lineCounts, .inl (cI, 4, .inl v_lineCounts))]) ⟨hx, hb, hml, hown, hts⟩ (k_X1_baselineOf l D cI cC a_t a_lineCounts a_ends a_overflowing a_ahead a_behind a_setParts a_baselines a_lineBlocks a_reached w2 qx4 v_height v_first v_step v_rounding v_cursor v_baselines qo5 hqo5) (cwV 2 hts gX1_uppermostReached_X1_baselineOf rfl rfl rfl (by decide +kernel) ⟨Nat.le_of_ble_eq_true rfl, Nat.le_of_ble_eq_true rfl⟩) hK hP hD hS hA 1 2 rfl rfl rfl [2, 0] [1, 3] rfl rfl rfl rfl rfl (by decide) rfl hl.1 rfl (Nat.le_of_ble_eq_true rfl) dX1_uppermostReached_32 (Nat.zero_le _) (Nat.zero_le _) (fun H locs hP hD hS => ?_)
          have hP : va_P D vwCl [(a_reached, .inl (cI, 4, .inl v_reached)), (a_lineCounts, .inl (cI, 4, .inl v_lineCounts)), (a_t, .inr (1, [.ref a_lineCounts, .ref a_ends, .ref a_overflowing, .ref a_ahead, .ref a_behind, .ref a_setParts, .ref a_baselines, .ref a_lineBlocks, .ref a_reached, .int v_height, .int v_first, .int v_step, .int v_rounding, .int v_cursor])), (a_baselines, .inl (cI, 2560, .inl v_baselines))] H := hP
          have hD : va_D A [(a_reached, .inl (cI, 4, .inl v_reached)), (a_lineCounts, .inl (cI, 4, .inl v_lineCounts)), (a_t, .inr (1, [.ref a_lineCounts, .ref a_ends, .ref a_overflowing, .ref a_ahead, .ref a_behind, .ref a_setParts, .ref a_baselines, .ref a_lineBlocks, .ref a_reached, .int v_height, .int v_first, .int v_step, .int v_rounding, .int v_cursor])), (a_baselines, .inl (cI, 2560, .inl v_baselines))] := hD
          refine lv_istore_n (lv' := [(3, .int qo5), (0, .ref a_t), (1, .int w1), (2, .int w2)]) hx hb dX1_uppermostReached_35 rfl hl (by decide) rfl (fun ls hl => ?_)
          refine lv_iload_n hx hb dX1_uppermostReached_36 rfl (lv_at hl 2 rfl) ?_
          refine lv_bipush (v := (-5)) hx hb dX1_uppermostReached_37 (by decide) ?_
          refine lv_icmp_ne (tgt := 46) hx hb dX1_uppermostReached_39 (by decide) (fun hc => ?_) (fun hc => ?_)
          · replace hf := ineg hc hf
            refine lv_iload_n hx hb dX1_uppermostReached_46 rfl (lv_at hl 2 rfl) ?_
            refine lv_iload_n hx hb dX1_uppermostReached_47 rfl (lv_at hl 0 rfl) ?_
            refine va_mmin hx hb (hml.trans hl.1.symm) hown (hts (.methodLink RX1 151 Lib.Math.min.name) (List.mem_of_getElem? (i := 2) rfl)) (hts (.static Lib.Math.min.name) (List.mem_of_getElem? (i := 3) rfl)) (hts (.initialized "java/lang/Math") (List.mem_of_getElem? (i := 4) rfl)) (hts (.code Lib.Math.min.name Lib.Math.min.code 2 (some .int)) (List.mem_of_getElem? (i := 5) rfl)) (Nat.le_of_ble_eq_true rfl) (Nat.le_of_ble_eq_true rfl) (Nat.zero_le _) (Nat.zero_le _) dX1_uppermostReached_48 ?_
            exact J51 (fX1_uppermostReached_5 v_lineCounts v_baselines v_reached n) w2 (if qo5 < w1 then qo5 else w1) hk5 _ _ _ hf (hP.sub (ws' := [(a_t, .inr (1, [.ref a_lineCounts, .ref a_ends, .ref a_overflowing, .ref a_ahead, .ref a_behind, .ref a_setParts, .ref a_baselines, .ref a_lineBlocks, .ref a_reached, .int v_height, .int v_first, .int v_step, .int v_rounding, .int v_cursor])), (a_lineCounts, .inl (cI, 4, .inl v_lineCounts)), (a_baselines, .inl (cI, 2560, .inl v_baselines)), (a_reached, .inl (cI, 4, .inl v_reached))]) [2, 1, 3, 0] rfl) (hD.sub (ws' := [(a_t, .inr (1, [.ref a_lineCounts, .ref a_ends, .ref a_overflowing, .ref a_ahead, .ref a_behind, .ref a_setParts, .ref a_baselines, .ref a_lineBlocks, .ref a_reached, .int v_height, .int v_first, .int v_step, .int v_rounding, .int v_cursor])), (a_lineCounts, .inl (cI, 4, .inl v_lineCounts)), (a_baselines, .inl (cI, 2560, .inl v_baselines)), (a_reached, .inl (cI, 4, .inl v_reached))]) [2, 1, 3, 0] (by decide) rfl) hS (lv_sub hl [1, 3] rfl)
          · replace hf := ip hc hf
            refine lv_iload_n hx hb dX1_uppermostReached_42 rfl (lv_at hl 0 rfl) ?_
            refine lv_goto (tgt := 51) hx hb dX1_uppermostReached_43 (by decide) ?_
            exact J51 (fX1_uppermostReached_5 v_lineCounts v_baselines v_reached n) w2 qo5 hk5 _ _ _ hf (hP.sub (ws' := [(a_t, .inr (1, [.ref a_lineCounts, .ref a_ends, .ref a_overflowing, .ref a_ahead, .ref a_behind, .ref a_setParts, .ref a_baselines, .ref a_lineBlocks, .ref a_reached, .int v_height, .int v_first, .int v_step, .int v_rounding, .int v_cursor])), (a_lineCounts, .inl (cI, 4, .inl v_lineCounts)), (a_baselines, .inl (cI, 2560, .inl v_baselines)), (a_reached, .inl (cI, 4, .inl v_reached))]) [2, 1, 3, 0] rfl) (hD.sub (ws' := [(a_t, .inr (1, [.ref a_lineCounts, .ref a_ends, .ref a_overflowing, .ref a_ahead, .ref a_behind, .ref a_setParts, .ref a_baselines, .ref a_lineBlocks, .ref a_reached, .int v_height, .int v_first, .int v_step, .int v_rounding, .int v_cursor])), (a_lineCounts, .inl (cI, 4, .inl v_lineCounts)), (a_baselines, .inl (cI, 2560, .inl v_baselines)), (a_reached, .inl (cI, 4, .inl v_reached))]) [2, 1, 3, 0] (by decide) rfl) hS (lv_sub hl [1, 3] rfl)
  unfold fX1_uppermostReached at hf
  refine lv_bipush (v := (-5)) hx hb dX1_uppermostReached_0 (by decide) ?_
  refine lv_istore_n (lv' := [(1, .int ((-5))), (0, .ref a_t)]) hx hb dX1_uppermostReached_2 rfl hl (by decide) rfl (fun ls hl => ?_)
  refine lv_iconst (v := 0) hx hb dX1_uppermostReached_3 (by decide) ?_
  refine lv_istore_n (lv' := [(2, .int 0), (1, .int ((-5))), (0, .ref a_t)]) hx hb dX1_uppermostReached_4 rfl hl (by decide) rfl (fun ls hl => ?_)
  exact J5 Fu ((-5)) 0 _ _ _ hf (hP.sub (ws' := [(a_t, .inr (1, [.ref a_lineCounts, .ref a_ends, .ref a_overflowing, .ref a_ahead, .ref a_behind, .ref a_setParts, .ref a_baselines, .ref a_lineBlocks, .ref a_reached, .int v_height, .int v_first, .int v_step, .int v_rounding, .int v_cursor])), (a_lineCounts, .inl (cI, 4, .inl v_lineCounts)), (a_baselines, .inl (cI, 2560, .inl v_baselines)), (a_reached, .inl (cI, 4, .inl v_reached))]) [0, 1, 2, 3] rfl) (hD.sub (ws' := [(a_t, .inr (1, [.ref a_lineCounts, .ref a_ends, .ref a_overflowing, .ref a_ahead, .ref a_behind, .ref a_setParts, .ref a_baselines, .ref a_lineBlocks, .ref a_reached, .int v_height, .int v_first, .int v_step, .int v_rounding, .int v_cursor])), (a_lineCounts, .inl (cI, 4, .inl v_lineCounts)), (a_baselines, .inl (cI, 2560, .inl v_baselines)), (a_reached, .inl (cI, 4, .inl v_reached))]) [0, 1, 2, 3] (by decide) rfl) hS (lv_sub hl [2, 1, 0] rfl)
def fX1_passLinesAt_51 (k4 : Int32 → Int32 → (Nat → Int32) → Option (Int32 × (Nat → Int32))) (i1 : Int32) (v_lineCounts : Nat → Int32) (v_baselines : Nat → Int32) (w2 : Int32) (w3 : Int32) (v_reached : Nat → Int32) : Option (Int32 × (Nat → Int32)) :=
    nm (w3 + 1) fun qx3 => k4 w2 qx3 v_reached
def fX1_passLinesAt_4 (i1 : Int32) (v_lineCounts : Nat → Int32) (v_baselines : Nat → Int32) : Nat → Int32 → Int32 → (Nat → Int32) → Option (Int32 × (Nat → Int32))
  | 0 => fun _ _ _ => none
  | n + 1 => fun w2 w3 v_reached =>
    if 4 ≤ w3 then (some (w2, v_reached)) else (aget 4 v_reached w3 fun qx1 => bd (fX1_linesOf w3 v_lineCounts) fun qo2 => if qo2 ≤ qx1 then (fX1_passLinesAt_51 (fX1_passLinesAt_4 i1 v_lineCounts v_baselines n) i1 v_lineCounts v_baselines w2 w3 v_reached) else (aget 4 v_reached w3 fun qx4 => bd (fX1_baselineOf w3 qx4 v_baselines) fun qo5 => if qo5 = i1 then (aget 4 v_reached w3 fun qx6 => aset 4 v_reached w3 (qx6 + 1) fun qg7 => nm (w2 + 1) fun qx8 => fX1_passLinesAt_51 (fX1_passLinesAt_4 i1 v_lineCounts v_baselines n) i1 v_lineCounts v_baselines qx8 w3 qg7) else (fX1_passLinesAt_51 (fX1_passLinesAt_4 i1 v_lineCounts v_baselines n) i1 v_lineCounts v_baselines w2 w3 v_reached)))
def fX1_passLinesAt (i1 : Int32) (v_lineCounts : Nat → Int32) (v_baselines : Nat → Int32) (v_reached : Nat → Int32) : Option (Int32 × (Nat → Int32)) :=
  fX1_passLinesAt_4 i1 v_lineCounts v_baselines Fu 0 0 v_reached
def rX1_passLinesAt : Room := { frames := 3, cells := 0, slots := 0, locals := 63 }
theorem hin_X1_passLinesAt_X1 : ∀ w ∈ wsX10, w ∈ wsX1_passLinesAt := fun _ h => List.mem_cons_of_mem _ (List.mem_append_right _ (h))
set_option maxHeartbeats 4000000 in
set_option maxRecDepth 100000 in
theorem k_X1_passLinesAt (l : Launch) (D : va_G) (cI cC : ClassId) (a_t : Nat) (a_lineCounts : Nat) (a_ends : Nat) (a_overflowing : Nat) (a_ahead : Nat) (a_behind : Nat) (a_setParts : Nat) (a_baselines : Nat) (a_lineBlocks : Nat) (a_reached : Nat) (i1 : Int32) (v_height : Int32) (v_first : Int32) (v_step : Int32) (v_rounding : Int32) (v_cursor : Int32) (v_lineCounts : Nat → Int32) (v_baselines : Nat → Int32) (v_reached : Nat → Int32) (o : Int32 × (Nat → Int32)) (hf : fX1_passLinesAt i1 v_lineCounts v_baselines v_reached = some o) : CTi l yX1_passLinesAt wsX1_passLinesAt rX1_passLinesAt D cI cC [.ref a_t, .int i1] [(a_t, .inr (1, [.ref a_lineCounts, .ref a_ends, .ref a_overflowing, .ref a_ahead, .ref a_behind, .ref a_setParts, .ref a_baselines, .ref a_lineBlocks, .ref a_reached, .int v_height, .int v_first, .int v_step, .int v_rounding, .int v_cursor])), (a_lineCounts, .inl (cI, 4, .inl v_lineCounts)), (a_baselines, .inl (cI, 2560, .inl v_baselines)), (a_reached, .inl (cI, 4, .inl v_reached))] [(a_t, .inr (1, [.ref a_lineCounts, .ref a_ends, .ref a_overflowing, .ref a_ahead, .ref a_behind, .ref a_setParts, .ref a_baselines, .ref a_lineBlocks, .ref a_reached, .int v_height, .int v_first, .int v_step, .int v_rounding, .int v_cursor])), (a_lineCounts, .inl (cI, 4, .inl v_lineCounts)), (a_baselines, .inl (cI, 2560, .inl v_baselines)), (a_reached, .inl (cI, 4, .inl o.2))] o.1 := by
  refine CTi_of (cc := cX1_passLinesAt) (maxL := 4) (ty := .int) (by decide) rfl (Nat.le_of_ble_eq_true rfl) ?_
  intro p e s m args below meth c A Q ls C0 hA hP hD hl hret
  obtain ⟨hx, hb, hml, hts, hown, hK⟩ := C0
  have hown : s.vm.findClass RX1 = some m.cls := hown
  have hS : va_S A s.heap s.heap [] := va_S.rf
  have hl : lv_has ls 4 [(0, .ref a_t), (1, .int i1)] := hl
  have hinX1 := hin_X1_passLinesAt_X1
  have J51 : ∀ (k4 : Int32 → Int32 → (Nat → Int32) → Option (Int32 × (Nat → Int32))) (w2 : Int32) (w3 : Int32) (v_reached : Nat → Int32) (hk4 : ∀ (w2 : Int32) (w3 : Int32) (v_reached : Nat → Int32) (H : Heap) (locs : List Loc) (ls : Array Slot), k4 w2 w3 v_reached = some o → va_P D vwCl [(a_t, .inr (1, [.ref a_lineCounts, .ref a_ends, .ref a_overflowing, .ref a_ahead, .ref a_behind, .ref a_setParts, .ref a_baselines, .ref a_lineBlocks, .ref a_reached, .int v_height, .int v_first, .int v_step, .int v_rounding, .int v_cursor])), (a_lineCounts, .inl (cI, 4, .inl v_lineCounts)), (a_baselines, .inl (cI, 2560, .inl v_baselines)), (a_reached, .inl (cI, 4, .inl v_reached))] H → va_D A [(a_t, .inr (1, [.ref a_lineCounts, .ref a_ends, .ref a_overflowing, .ref a_ahead, .ref a_behind, .ref a_setParts, .ref a_baselines, .ref a_lineBlocks, .ref a_reached, .int v_height, .int v_first, .int v_step, .int v_rounding, .int v_cursor])), (a_lineCounts, .inl (cI, 4, .inl v_lineCounts)), (a_baselines, .inl (cI, 2560, .inl v_baselines)), (a_reached, .inl (cI, 4, .inl v_reached))] → va_S A s.heap H locs → lv_has ls 4 [(0, .ref a_t), (1, .int i1), (2, .int w2), (3, .int w3)] → W p l e rX1_passLinesAt s m args below meth c H locs 0 0 Q (F0 m 4 ls [])) (H : Heap) (locs : List Loc) (ls : Array Slot), fX1_passLinesAt_51 k4 i1 v_lineCounts v_baselines w2 w3 v_reached = some o → va_P D vwCl [(a_t, .inr (1, [.ref a_lineCounts, .ref a_ends, .ref a_overflowing, .ref a_ahead, .ref a_behind, .ref a_setParts, .ref a_baselines, .ref a_lineBlocks, .ref a_reached, .int v_height, .int v_first, .int v_step, .int v_rounding, .int v_cursor])), (a_lineCounts, .inl (cI, 4, .inl v_lineCounts)), (a_baselines, .inl (cI, 2560, .inl v_baselines)), (a_reached, .inl (cI, 4, .inl v_reached))] H → va_D A [(a_t, .inr (1, [.ref a_lineCounts, .ref a_ends, .ref a_overflowing, .ref a_ahead, .ref a_behind, .ref a_setParts, .ref a_baselines, .ref a_lineBlocks, .ref a_reached, .int v_height, .int v_first, .int v_step, .int v_rounding, .int v_cursor])), (a_lineCounts, .inl (cI, 4, .inl v_lineCounts)), (a_baselines, .inl (cI, 2560, .inl v_baselines)), (a_reached, .inl (cI, 4, .inl v_reached))] → va_S A s.heap H locs → lv_has ls 4 [(0, .ref a_t), (1, .int i1), (2, .int w2), (3, .int w3)] → W p l e rX1_passLinesAt s m args below meth c H locs 0 0 Q (F0 m 51 ls []) := by
    intro k4 w2 w3 v_reached hk4 H locs ls hf hP hD hS hl
    unfold fX1_passLinesAt_51 at hf
    replace hf := nm_some hf
    obtain ⟨qx3, eqx3, hf⟩ := hf
    refine lv_iinc (v := qx3) (lv' := [(3, .int qx3), (0, .ref a_t), (1, .int i1), (2, .int w2)]) hx hb dX1_passLinesAt_51 hl (k := 3) rfl (by rw [eqx3]; rfl) (by decide) rfl (fun ls hl => ?_)
    refine lv_goto (tgt := 4) hx hb dX1_passLinesAt_54 (by decide) ?_
    exact hk4 w2 qx3 v_reached _ _ _ hf (hP.sub (ws' := [(a_t, .inr (1, [.ref a_lineCounts, .ref a_ends, .ref a_overflowing, .ref a_ahead, .ref a_behind, .ref a_setParts, .ref a_baselines, .ref a_lineBlocks, .ref a_reached, .int v_height, .int v_first, .int v_step, .int v_rounding, .int v_cursor])), (a_lineCounts, .inl (cI, 4, .inl v_lineCounts)), (a_baselines, .inl (cI, 2560, .inl v_baselines)), (a_reached, .inl (cI, 4, .inl v_reached))]) [0, 1, 2, 3] rfl) (hD.sub (ws' := [(a_t, .inr (1, [.ref a_lineCounts, .ref a_ends, .ref a_overflowing, .ref a_ahead, .ref a_behind, .ref a_setParts, .ref a_baselines, .ref a_lineBlocks, .ref a_reached, .int v_height, .int v_first, .int v_step, .int v_rounding, .int v_cursor])), (a_lineCounts, .inl (cI, 4, .inl v_lineCounts)), (a_baselines, .inl (cI, 2560, .inl v_baselines)), (a_reached, .inl (cI, 4, .inl v_reached))]) [0, 1, 2, 3] (by decide) rfl) hS (lv_sub hl [1, 2, 3, 0] rfl)
  have J4 : ∀   (n : Nat) (w2 : Int32) (w3 : Int32) (v_reached : Nat → Int32) (H : Heap) (locs : List Loc) (ls : Array Slot), fX1_passLinesAt_4 i1 v_lineCounts v_baselines n w2 w3 v_reached = some o → va_P D vwCl [(a_t, .inr (1, [.ref a_lineCounts, .ref a_ends, .ref a_overflowing, .ref a_ahead, .ref a_behind, .ref a_setParts, .ref a_baselines, .ref a_lineBlocks, .ref a_reached, .int v_height, .int v_first, .int v_step, .int v_rounding, .int v_cursor])), (a_lineCounts, .inl (cI, 4, .inl v_lineCounts)), (a_baselines, .inl (cI, 2560, .inl v_baselines)), (a_reached, .inl (cI, 4, .inl v_reached))] H → va_D A [(a_t, .inr (1, [.ref a_lineCounts, .ref a_ends, .ref a_overflowing, .ref a_ahead, .ref a_behind, .ref a_setParts, .ref a_baselines, .ref a_lineBlocks, .ref a_reached, .int v_height, .int v_first, .int v_step, .int v_rounding, .int v_cursor])), (a_lineCounts, .inl (cI, 4, .inl v_lineCounts)), (a_baselines, .inl (cI, 2560, .inl v_baselines)), (a_reached, .inl (cI, 4, .inl v_reached))] → va_S A s.heap H locs → lv_has ls 4 [(0, .ref a_t), (1, .int i1), (2, .int w2), (3, .int w3)] → W p l e rX1_passLinesAt s m args below meth c H locs 0 0 Q (F0 m 4 ls []) := by
    intro  n
    induction n with
    | zero =>
      intro w2 w3 v_reached H locs ls hf
      have hf0 : (none : Option (Int32 × (Nat → Int32))) = some o := hf
      cases hf0
    | succ n hk4 =>
      intro w2 w3 v_reached H locs ls hf hP hD hS hl
      rw [fX1_passLinesAt_4] at hf
      refine lv_iload_n hx hb dX1_passLinesAt_4 rfl (lv_at hl 3 rfl) ?_
      refine lv_iconst (v := 4) hx hb dX1_passLinesAt_5 (by decide) ?_
      refine lv_icmp_ge (tgt := 57) hx hb dX1_passLinesAt_6 (by decide) (fun hc => ?_) (fun hc => ?_)
      · replace hf := ip hc hf
        refine lv_iload_n hx hb dX1_passLinesAt_57 rfl (lv_at hl 2 rfl) ?_
        have ho := Option.some.inj hf
        subst ho
        exact hret dX1_passLinesAt_58 rfl (hP.sub (ws' := [(a_t, .inr (1, [.ref a_lineCounts, .ref a_ends, .ref a_overflowing, .ref a_ahead, .ref a_behind, .ref a_setParts, .ref a_baselines, .ref a_lineBlocks, .ref a_reached, .int v_height, .int v_first, .int v_step, .int v_rounding, .int v_cursor])), (a_lineCounts, .inl (cI, 4, .inl v_lineCounts)), (a_baselines, .inl (cI, 2560, .inl v_baselines)), (a_reached, .inl (cI, 4, .inl v_reached))]) [0, 1, 2, 3] rfl) (hD.sub (ws' := [(a_t, .inr (1, [.ref a_lineCounts, .ref a_ends, .ref a_overflowing, .ref a_ahead, .ref a_behind, .ref a_setParts, .ref a_baselines, .ref a_lineBlocks, .ref a_reached, .int v_height, .int v_first, .int v_step, .int v_rounding, .int v_cursor])), (a_lineCounts, .inl (cI, 4, .inl v_lineCounts)), (a_baselines, .inl (cI, 2560, .inl v_baselines)), (a_reached, .inl (cI, 4, .inl v_reached))]) [0, 1, 2, 3] (by decide) rfl) hS
      · replace hf := ineg hc hf
        refine lv_aload_n hx hb dX1_passLinesAt_9 rfl (lv_at hl 0 rfl) ?_
        refine va_get (D := D) (ci := 1) (v := .ref a_reached) (C := RX1) (T := TX1) (N := 14) hx hb hts hinX1 hown hK.1 hP 0 rfl rfl 8 (by decide) (hts (.fieldLink RX1 36 "BaselineGrid$Layout" "reached" "[I") (List.mem_of_getElem? (i := 1) rfl)) (fun _ h9 => h9) rfl dX1_passLinesAt_10 ?_
        refine lv_iload_n hx hb dX1_passLinesAt_13 rfl (lv_at hl 3 rfl) ?_
        refine g_iald hx hb hK.1 hP 3 0 rfl rfl hf dX1_passLinesAt_14 (fun qx1 hf => ?_)
        refine lv_aload_n hx hb dX1_passLinesAt_15 rfl (lv_at hl 0 rfl) ?_
        refine lv_iload_n hx hb dX1_passLinesAt_16 rfl (lv_at hl 3 rfl) ?_
        replace hf := bd_some hf
        obtain ⟨qo2, hqo2, hf⟩ := hf
        refine g_Vi (As := [.int w3]) (rest := [.int qx1]) (wr := [(a_baselines, .inl (cI, 2560, .inl v_baselines)), (a_reached, .inl (cI, 4, .inl v_reached))]) ⟨hx, hb, hml, hown, hts⟩ (k_X1_linesOf l D cI cC a_t a_lineCounts a_ends a_overflowing a_ahead a_behind a_setParts a_baselines a_lineBlocks a_reached w3 v_height v_first v_step v_rounding v_cursor v_lineCounts qo2 hqo2) (cwV 1 hts gX1_passLinesAt_X1_linesOf rfl rfl rfl (by decide +kernel) ⟨Nat.le_of_ble_eq_true rfl, Nat.le_of_ble_eq_true rfl⟩) hK hP hD hS hA 1 0 rfl rfl rfl [0, 1] [2, 3] rfl rfl rfl rfl rfl (by decide) rfl hl.1 rfl (Nat.le_of_ble_eq_true rfl) dX1_passLinesAt_17 (Nat.zero_le _) (Nat.zero_le _) (fun H locs hP hD hS => ?_)
        have hP : va_P D vwCl [(a_baselines, .inl (cI, 2560, .inl v_baselines)), (a_reached, .inl (cI, 4, .inl v_reached)), (a_t, .inr (1, [.ref a_lineCounts, .ref a_ends, .ref a_overflowing, .ref a_ahead, .ref a_behind, .ref a_setParts, .ref a_baselines, .ref a_lineBlocks, .ref a_reached, .int v_height, .int v_first, .int v_step, .int v_rounding, .int v_cursor])), (a_lineCounts, .inl (cI, 4, .inl v_lineCounts))] H := hP
        have hD : va_D A [(a_baselines, .inl (cI, 2560, .inl v_baselines)), (a_reached, .inl (cI, 4, .inl v_reached)), (a_t, .inr (1, [.ref a_lineCounts, .ref a_ends, .ref a_overflowing, .ref a_ahead, .ref a_behind, .ref a_setParts, .ref a_baselines, .ref a_lineBlocks, .ref a_reached, .int v_height, .int v_first, .int v_step, .int v_rounding, .int v_cursor])), (a_lineCounts, .inl (cI, 4, .inl v_lineCounts))] := hD
        refine lv_icmp_ge (tgt := 51) hx hb dX1_passLinesAt_20 (by decide) (fun hc => ?_) (fun hc => ?_)
        · replace hf := ip hc hf
          exact J51 (fX1_passLinesAt_4 i1 v_lineCounts v_baselines n) w2 w3 v_reached hk4 _ _ _ hf (hP.sub (ws' := [(a_t, .inr (1, [.ref a_lineCounts, .ref a_ends, .ref a_overflowing, .ref a_ahead, .ref a_behind, .ref a_setParts, .ref a_baselines, .ref a_lineBlocks, .ref a_reached, .int v_height, .int v_first, .int v_step, .int v_rounding, .int v_cursor])), (a_lineCounts, .inl (cI, 4, .inl v_lineCounts)), (a_baselines, .inl (cI, 2560, .inl v_baselines)), (a_reached, .inl (cI, 4, .inl v_reached))]) [2, 3, 0, 1] rfl) (hD.sub (ws' := [(a_t, .inr (1, [.ref a_lineCounts, .ref a_ends, .ref a_overflowing, .ref a_ahead, .ref a_behind, .ref a_setParts, .ref a_baselines, .ref a_lineBlocks, .ref a_reached, .int v_height, .int v_first, .int v_step, .int v_rounding, .int v_cursor])), (a_lineCounts, .inl (cI, 4, .inl v_lineCounts)), (a_baselines, .inl (cI, 2560, .inl v_baselines)), (a_reached, .inl (cI, 4, .inl v_reached))]) [2, 3, 0, 1] (by decide) rfl) hS (lv_sub hl [0, 1, 2, 3] rfl)
        · replace hf := ineg hc hf
          refine lv_aload_n hx hb dX1_passLinesAt_23 rfl (lv_at hl 0 rfl) ?_
          refine lv_iload_n hx hb dX1_passLinesAt_24 rfl (lv_at hl 3 rfl) ?_
          refine lv_aload_n hx hb dX1_passLinesAt_25 rfl (lv_at hl 0 rfl) ?_
          refine va_get (D := D) (ci := 1) (v := .ref a_reached) (C := RX1) (T := TX1) (N := 14) hx hb hts hinX1 hown hK.1 hP 2 rfl rfl 8 (by decide) (hts (.fieldLink RX1 36 "BaselineGrid$Layout" "reached" "[I") (List.mem_of_getElem? (i := 1) rfl)) (fun _ h9 => h9) rfl dX1_passLinesAt_26 ?_
          refine lv_iload_n hx hb dX1_passLinesAt_29 rfl (lv_at hl 3 rfl) ?_
          refine g_iald hx hb hK.1 hP 1 0 rfl rfl hf dX1_passLinesAt_30 (fun qx4 hf => ?_)
          replace hf := bd_some hf
          obtain ⟨qo5, hqo5, hf⟩ := hf
          refine g_Vi (As := [.int w3, .int qx4]) (rest := []) (wr := [(a_reached, .inl (cI, 4, .inl v_reached)), (a_lineCounts, .inl (cI, 4, .inl v_lineCounts))]) ⟨hx, hb, hml, hown, hts⟩ (k_X1_baselineOf l D cI cC a_t a_lineCounts a_ends a_overflowing a_ahead a_behind a_setParts a_baselines a_lineBlocks a_reached w3 qx4 v_height v_first v_step v_rounding v_cursor v_baselines qo5 hqo5) (cwV 2 hts gX1_passLinesAt_X1_baselineOf rfl rfl rfl (by decide +kernel) ⟨Nat.le_of_ble_eq_true rfl, Nat.le_of_ble_eq_true rfl⟩) hK hP hD hS hA 1 2 rfl rfl rfl [2, 0] [1, 3] rfl rfl rfl rfl rfl (by decide) rfl hl.1 rfl (Nat.le_of_ble_eq_true rfl) dX1_passLinesAt_31 (Nat.zero_le _) (Nat.zero_le _) (fun H locs hP hD hS => ?_)
          have hP : va_P D vwCl [(a_reached, .inl (cI, 4, .inl v_reached)), (a_lineCounts, .inl (cI, 4, .inl v_lineCounts)), (a_t, .inr (1, [.ref a_lineCounts, .ref a_ends, .ref a_overflowing, .ref a_ahead, .ref a_behind, .ref a_setParts, .ref a_baselines, .ref a_lineBlocks, .ref a_reached, .int v_height, .int v_first, .int v_step, .int v_rounding, .int v_cursor])), (a_baselines, .inl (cI, 2560, .inl v_baselines))] H := hP
          have hD : va_D A [(a_reached, .inl (cI, 4, .inl v_reached)), (a_lineCounts, .inl (cI, 4, .inl v_lineCounts)), (a_t, .inr (1, [.ref a_lineCounts, .ref a_ends, .ref a_overflowing, .ref a_ahead, .ref a_behind, .ref a_setParts, .ref a_baselines, .ref a_lineBlocks, .ref a_reached, .int v_height, .int v_first, .int v_step, .int v_rounding, .int v_cursor])), (a_baselines, .inl (cI, 2560, .inl v_baselines))] := hD
          refine lv_iload_n hx hb dX1_passLinesAt_34 rfl (lv_at hl 1 rfl) ?_
          refine lv_icmp_ne (tgt := 51) hx hb dX1_passLinesAt_35 (by decide) (fun hc => ?_) (fun hc => ?_)
          · replace hf := ineg hc hf
            exact J51 (fX1_passLinesAt_4 i1 v_lineCounts v_baselines n) w2 w3 v_reached hk4 _ _ _ hf (hP.sub (ws' := [(a_t, .inr (1, [.ref a_lineCounts, .ref a_ends, .ref a_overflowing, .ref a_ahead, .ref a_behind, .ref a_setParts, .ref a_baselines, .ref a_lineBlocks, .ref a_reached, .int v_height, .int v_first, .int v_step, .int v_rounding, .int v_cursor])), (a_lineCounts, .inl (cI, 4, .inl v_lineCounts)), (a_baselines, .inl (cI, 2560, .inl v_baselines)), (a_reached, .inl (cI, 4, .inl v_reached))]) [2, 1, 3, 0] rfl) (hD.sub (ws' := [(a_t, .inr (1, [.ref a_lineCounts, .ref a_ends, .ref a_overflowing, .ref a_ahead, .ref a_behind, .ref a_setParts, .ref a_baselines, .ref a_lineBlocks, .ref a_reached, .int v_height, .int v_first, .int v_step, .int v_rounding, .int v_cursor])), (a_lineCounts, .inl (cI, 4, .inl v_lineCounts)), (a_baselines, .inl (cI, 2560, .inl v_baselines)), (a_reached, .inl (cI, 4, .inl v_reached))]) [2, 1, 3, 0] (by decide) rfl) hS (lv_sub hl [0, 1, 2, 3] rfl)
          · replace hf := ip hc hf
            refine lv_aload_n hx hb dX1_passLinesAt_38 rfl (lv_at hl 0 rfl) ?_
            refine va_get (D := D) (ci := 1) (v := .ref a_reached) (C := RX1) (T := TX1) (N := 14) hx hb hts hinX1 hown hK.1 hP 2 rfl rfl 8 (by decide) (hts (.fieldLink RX1 36 "BaselineGrid$Layout" "reached" "[I") (List.mem_of_getElem? (i := 1) rfl)) (fun _ h9 => h9) rfl dX1_passLinesAt_39 ?_
            refine lv_iload_n hx hb dX1_passLinesAt_42 rfl (lv_at hl 3 rfl) ?_
            refine lv_dup2_11 hx hb dX1_passLinesAt_43 rfl rfl ?_
            refine g_iald hx hb hK.1 hP 0 0 rfl rfl hf dX1_passLinesAt_44 (fun qx6 hf => ?_)
            refine lv_iconst (v := 1) hx hb dX1_passLinesAt_45 (by decide) ?_
            refine lv_iadd hx hb dX1_passLinesAt_46 ?_
            refine g_iast hx hb hK.1 hP hD hS 0 0 rfl rfl hf dX1_passLinesAt_47 (fun qg7 H locs hf hP hD hS => ?_)
            have hP : va_P D vwCl [(a_reached, .inl (cI, 4, .inl qg7)), (a_lineCounts, .inl (cI, 4, .inl v_lineCounts)), (a_t, .inr (1, [.ref a_lineCounts, .ref a_ends, .ref a_overflowing, .ref a_ahead, .ref a_behind, .ref a_setParts, .ref a_baselines, .ref a_lineBlocks, .ref a_reached, .int v_height, .int v_first, .int v_step, .int v_rounding, .int v_cursor])), (a_baselines, .inl (cI, 2560, .inl v_baselines))] H := hP
            have hD : va_D A [(a_reached, .inl (cI, 4, .inl qg7)), (a_lineCounts, .inl (cI, 4, .inl v_lineCounts)), (a_t, .inr (1, [.ref a_lineCounts, .ref a_ends, .ref a_overflowing, .ref a_ahead, .ref a_behind, .ref a_setParts, .ref a_baselines, .ref a_lineBlocks, .ref a_reached, .int v_height, .int v_first, .int v_step, .int v_rounding, .int v_cursor])), (a_baselines, .inl (cI, 2560, .inl v_baselines))] := hD
            replace hf := nm_some hf
            obtain ⟨qx8, eqx8, hf⟩ := hf
            refine lv_iinc (v := qx8) (lv' := [(2, .int qx8), (0, .ref a_t), (1, .int i1), (3, .int w3)]) hx hb dX1_passLinesAt_48 hl (k := 2) rfl (by rw [eqx8]; rfl) (by decide) rfl (fun ls hl => ?_)
            exact J51 (fX1_passLinesAt_4 i1 v_lineCounts v_baselines n) qx8 w3 qg7 hk4 _ _ _ hf (hP.sub (ws' := [(a_t, .inr (1, [.ref a_lineCounts, .ref a_ends, .ref a_overflowing, .ref a_ahead, .ref a_behind, .ref a_setParts, .ref a_baselines, .ref a_lineBlocks, .ref a_reached, .int v_height, .int v_first, .int v_step, .int v_rounding, .int v_cursor])), (a_lineCounts, .inl (cI, 4, .inl v_lineCounts)), (a_baselines, .inl (cI, 2560, .inl v_baselines)), (a_reached, .inl (cI, 4, .inl qg7))]) [2, 1, 3, 0] rfl) (hD.sub (ws' := [(a_t, .inr (1, [.ref a_lineCounts, .ref a_ends, .ref a_overflowing, .ref a_ahead, .ref a_behind, .ref a_setParts, .ref a_baselines, .ref a_lineBlocks, .ref a_reached, .int v_height, .int v_first, .int v_step, .int v_rounding, .int v_cursor])), (a_lineCounts, .inl (cI, 4, .inl v_lineCounts)), (a_baselines, .inl (cI, 2560, .inl v_baselines)), (a_reached, .inl (cI, 4, .inl qg7))]) [2, 1, 3, 0] (by decide) rfl) hS (lv_sub hl [1, 2, 0, 3] rfl)
  unfold fX1_passLinesAt at hf
  refine lv_iconst (v := 0) hx hb dX1_passLinesAt_0 (by decide) ?_
  refine lv_istore_n (lv' := [(2, .int 0), (0, .ref a_t), (1, .int i1)]) hx hb dX1_passLinesAt_1 rfl hl (by decide) rfl (fun ls hl => ?_)
  refine lv_iconst (v := 0) hx hb dX1_passLinesAt_2 (by decide) ?_
  refine lv_istore_n (lv' := [(3, .int 0), (2, .int 0), (0, .ref a_t), (1, .int i1)]) hx hb dX1_passLinesAt_3 rfl hl (by decide) rfl (fun ls hl => ?_)
  exact J4 Fu 0 0 v_reached _ _ _ hf (hP.sub (ws' := [(a_t, .inr (1, [.ref a_lineCounts, .ref a_ends, .ref a_overflowing, .ref a_ahead, .ref a_behind, .ref a_setParts, .ref a_baselines, .ref a_lineBlocks, .ref a_reached, .int v_height, .int v_first, .int v_step, .int v_rounding, .int v_cursor])), (a_lineCounts, .inl (cI, 4, .inl v_lineCounts)), (a_baselines, .inl (cI, 2560, .inl v_baselines)), (a_reached, .inl (cI, 4, .inl v_reached))]) [0, 1, 2, 3] rfl) (hD.sub (ws' := [(a_t, .inr (1, [.ref a_lineCounts, .ref a_ends, .ref a_overflowing, .ref a_ahead, .ref a_behind, .ref a_setParts, .ref a_baselines, .ref a_lineBlocks, .ref a_reached, .int v_height, .int v_first, .int v_step, .int v_rounding, .int v_cursor])), (a_lineCounts, .inl (cI, 4, .inl v_lineCounts)), (a_baselines, .inl (cI, 2560, .inl v_baselines)), (a_reached, .inl (cI, 4, .inl v_reached))]) [0, 1, 2, 3] (by decide) rfl) hS (lv_sub hl [2, 3, 1, 0] rfl)
def fX1_sharedBaseline_68 (k24 : Int32 → Int32 → (Nat → Int32) → Option (Int32 × (Nat → Int32))) (i1 : Int32) (v_lineCounts : Nat → Int32) (v_baselines : Nat → Int32) (w2 : Int32) (w3 : Int32) (v_reached : Nat → Int32) : Option (Int32 × (Nat → Int32)) :=
    nm (w3 + 1) fun qx3 => k24 w2 qx3 v_reached
def fX1_sharedBaseline_24 (i1 : Int32) (v_lineCounts : Nat → Int32) (v_baselines : Nat → Int32) : Nat → Int32 → Int32 → (Nat → Int32) → Option (Int32 × (Nat → Int32))
  | 0 => fun _ _ _ => none
  | n + 1 => fun w2 w3 v_reached =>
    if 2560 ≤ w3 then (some ((-5), v_reached)) else (bd (fX1_uppermostReached v_lineCounts v_baselines v_reached) fun qo1 => if qo1 = ((-5)) then (some ((-5), v_reached)) else (bd (fX1_passLinesAt qo1 v_lineCounts v_baselines v_reached) fun qo2 => if qo2.1 < 2 then (fX1_sharedBaseline_68 (fX1_sharedBaseline_24 i1 v_lineCounts v_baselines n) i1 v_lineCounts v_baselines w2 w3 qo2.2) else (if w2 = i1 then (some (qo1, qo2.2)) else (nm (w2 + 1) fun qx4 => fX1_sharedBaseline_68 (fX1_sharedBaseline_24 i1 v_lineCounts v_baselines n) i1 v_lineCounts v_baselines qx4 w3 qo2.2))))
def fX1_sharedBaseline_4 (i1 : Int32) (v_lineCounts : Nat → Int32) (v_baselines : Nat → Int32) (w2 : Int32) : Nat → Int32 → (Nat → Int32) → Option (Int32 × (Nat → Int32))
  | 0 => fun _ _ => none
  | n + 1 => fun w3 v_reached =>
    if 4 ≤ w3 then (fX1_sharedBaseline_24 i1 v_lineCounts v_baselines Fu w2 0 v_reached) else (aset 4 v_reached w3 0 fun qg5 => nm (w3 + 1) fun qx6 => (fX1_sharedBaseline_4 i1 v_lineCounts v_baselines w2 n) qx6 qg5)
def fX1_sharedBaseline (i1 : Int32) (v_lineCounts : Nat → Int32) (v_baselines : Nat → Int32) (v_reached : Nat → Int32) : Option (Int32 × (Nat → Int32)) :=
  fX1_sharedBaseline_4 i1 v_lineCounts v_baselines 0 Fu 0 v_reached
def rX1_sharedBaseline : Room := { frames := 4, cells := 0, slots := 0, locals := 86 }
theorem hin_X1_sharedBaseline_X1 : ∀ w ∈ wsX10, w ∈ wsX1_sharedBaseline := fun _ h => List.mem_cons_of_mem _ (List.mem_append_right _ (h))
set_option maxHeartbeats 4000000 in
set_option maxRecDepth 100000 in
theorem k_X1_sharedBaseline (l : Launch) (D : va_G) (cI cC : ClassId) (a_t : Nat) (a_lineCounts : Nat) (a_ends : Nat) (a_overflowing : Nat) (a_ahead : Nat) (a_behind : Nat) (a_setParts : Nat) (a_baselines : Nat) (a_lineBlocks : Nat) (a_reached : Nat) (i1 : Int32) (v_height : Int32) (v_first : Int32) (v_step : Int32) (v_rounding : Int32) (v_cursor : Int32) (v_lineCounts : Nat → Int32) (v_baselines : Nat → Int32) (v_reached : Nat → Int32) (o : Int32 × (Nat → Int32)) (hf : fX1_sharedBaseline i1 v_lineCounts v_baselines v_reached = some o) : CTi l yX1_sharedBaseline wsX1_sharedBaseline rX1_sharedBaseline D cI cC [.ref a_t, .int i1] [(a_t, .inr (1, [.ref a_lineCounts, .ref a_ends, .ref a_overflowing, .ref a_ahead, .ref a_behind, .ref a_setParts, .ref a_baselines, .ref a_lineBlocks, .ref a_reached, .int v_height, .int v_first, .int v_step, .int v_rounding, .int v_cursor])), (a_lineCounts, .inl (cI, 4, .inl v_lineCounts)), (a_baselines, .inl (cI, 2560, .inl v_baselines)), (a_reached, .inl (cI, 4, .inl v_reached))] [(a_t, .inr (1, [.ref a_lineCounts, .ref a_ends, .ref a_overflowing, .ref a_ahead, .ref a_behind, .ref a_setParts, .ref a_baselines, .ref a_lineBlocks, .ref a_reached, .int v_height, .int v_first, .int v_step, .int v_rounding, .int v_cursor])), (a_lineCounts, .inl (cI, 4, .inl v_lineCounts)), (a_baselines, .inl (cI, 2560, .inl v_baselines)), (a_reached, .inl (cI, 4, .inl o.2))] o.1 := by
  refine CTi_of (cc := cX1_sharedBaseline) (maxL := 5) (ty := .int) (by decide) rfl (Nat.le_of_ble_eq_true rfl) ?_
  intro p e s m args below meth c A Q ls C0 hA hP hD hl hret
  obtain ⟨hx, hb, hml, hts, hown, hK⟩ := C0
  have hown : s.vm.findClass RX1 = some m.cls := hown
  have hS : va_S A s.heap s.heap [] := va_S.rf
  have hl : lv_has ls 5 [(0, .ref a_t), (1, .int i1)] := hl
  have hinX1 := hin_X1_sharedBaseline_X1
  have J68 : ∀ (k24 : Int32 → Int32 → (Nat → Int32) → Option (Int32 × (Nat → Int32))) (w2 : Int32) (w3 : Int32) (v_reached : Nat → Int32) (hk24 : ∀ (w2 : Int32) (w3 : Int32) (v_reached : Nat → Int32) (H : Heap) (locs : List Loc) (ls : Array Slot), k24 w2 w3 v_reached = some o → va_P D vwCl [(a_t, .inr (1, [.ref a_lineCounts, .ref a_ends, .ref a_overflowing, .ref a_ahead, .ref a_behind, .ref a_setParts, .ref a_baselines, .ref a_lineBlocks, .ref a_reached, .int v_height, .int v_first, .int v_step, .int v_rounding, .int v_cursor])), (a_lineCounts, .inl (cI, 4, .inl v_lineCounts)), (a_baselines, .inl (cI, 2560, .inl v_baselines)), (a_reached, .inl (cI, 4, .inl v_reached))] H → va_D A [(a_t, .inr (1, [.ref a_lineCounts, .ref a_ends, .ref a_overflowing, .ref a_ahead, .ref a_behind, .ref a_setParts, .ref a_baselines, .ref a_lineBlocks, .ref a_reached, .int v_height, .int v_first, .int v_step, .int v_rounding, .int v_cursor])), (a_lineCounts, .inl (cI, 4, .inl v_lineCounts)), (a_baselines, .inl (cI, 2560, .inl v_baselines)), (a_reached, .inl (cI, 4, .inl v_reached))] → va_S A s.heap H locs → lv_has ls 5 [(0, .ref a_t), (1, .int i1), (2, .int w2), (3, .int w3)] → W p l e rX1_sharedBaseline s m args below meth c H locs 0 0 Q (F0 m 24 ls [])) (H : Heap) (locs : List Loc) (ls : Array Slot), fX1_sharedBaseline_68 k24 i1 v_lineCounts v_baselines w2 w3 v_reached = some o → va_P D vwCl [(a_t, .inr (1, [.ref a_lineCounts, .ref a_ends, .ref a_overflowing, .ref a_ahead, .ref a_behind, .ref a_setParts, .ref a_baselines, .ref a_lineBlocks, .ref a_reached, .int v_height, .int v_first, .int v_step, .int v_rounding, .int v_cursor])), (a_lineCounts, .inl (cI, 4, .inl v_lineCounts)), (a_baselines, .inl (cI, 2560, .inl v_baselines)), (a_reached, .inl (cI, 4, .inl v_reached))] H → va_D A [(a_t, .inr (1, [.ref a_lineCounts, .ref a_ends, .ref a_overflowing, .ref a_ahead, .ref a_behind, .ref a_setParts, .ref a_baselines, .ref a_lineBlocks, .ref a_reached, .int v_height, .int v_first, .int v_step, .int v_rounding, .int v_cursor])), (a_lineCounts, .inl (cI, 4, .inl v_lineCounts)), (a_baselines, .inl (cI, 2560, .inl v_baselines)), (a_reached, .inl (cI, 4, .inl v_reached))] → va_S A s.heap H locs → lv_has ls 5 [(0, .ref a_t), (1, .int i1), (2, .int w2), (3, .int w3)] → W p l e rX1_sharedBaseline s m args below meth c H locs 0 0 Q (F0 m 68 ls []) := by
    intro k24 w2 w3 v_reached hk24 H locs ls hf hP hD hS hl
    unfold fX1_sharedBaseline_68 at hf
    replace hf := nm_some hf
    obtain ⟨qx3, eqx3, hf⟩ := hf
    refine lv_iinc (v := qx3) (lv' := [(3, .int qx3), (0, .ref a_t), (1, .int i1), (2, .int w2)]) hx hb dX1_sharedBaseline_68 hl (k := 3) rfl (by rw [eqx3]; rfl) (by decide) rfl (fun ls hl => ?_)
    refine lv_goto (tgt := 24) hx hb dX1_sharedBaseline_71 (by decide) ?_
    exact hk24 w2 qx3 v_reached _ _ _ hf (hP.sub (ws' := [(a_t, .inr (1, [.ref a_lineCounts, .ref a_ends, .ref a_overflowing, .ref a_ahead, .ref a_behind, .ref a_setParts, .ref a_baselines, .ref a_lineBlocks, .ref a_reached, .int v_height, .int v_first, .int v_step, .int v_rounding, .int v_cursor])), (a_lineCounts, .inl (cI, 4, .inl v_lineCounts)), (a_baselines, .inl (cI, 2560, .inl v_baselines)), (a_reached, .inl (cI, 4, .inl v_reached))]) [0, 1, 2, 3] rfl) (hD.sub (ws' := [(a_t, .inr (1, [.ref a_lineCounts, .ref a_ends, .ref a_overflowing, .ref a_ahead, .ref a_behind, .ref a_setParts, .ref a_baselines, .ref a_lineBlocks, .ref a_reached, .int v_height, .int v_first, .int v_step, .int v_rounding, .int v_cursor])), (a_lineCounts, .inl (cI, 4, .inl v_lineCounts)), (a_baselines, .inl (cI, 2560, .inl v_baselines)), (a_reached, .inl (cI, 4, .inl v_reached))]) [0, 1, 2, 3] (by decide) rfl) hS (lv_sub hl [1, 2, 3, 0] rfl)
  have J24 : ∀   (n : Nat) (w2 : Int32) (w3 : Int32) (v_reached : Nat → Int32) (H : Heap) (locs : List Loc) (ls : Array Slot), fX1_sharedBaseline_24 i1 v_lineCounts v_baselines n w2 w3 v_reached = some o → va_P D vwCl [(a_t, .inr (1, [.ref a_lineCounts, .ref a_ends, .ref a_overflowing, .ref a_ahead, .ref a_behind, .ref a_setParts, .ref a_baselines, .ref a_lineBlocks, .ref a_reached, .int v_height, .int v_first, .int v_step, .int v_rounding, .int v_cursor])), (a_lineCounts, .inl (cI, 4, .inl v_lineCounts)), (a_baselines, .inl (cI, 2560, .inl v_baselines)), (a_reached, .inl (cI, 4, .inl v_reached))] H → va_D A [(a_t, .inr (1, [.ref a_lineCounts, .ref a_ends, .ref a_overflowing, .ref a_ahead, .ref a_behind, .ref a_setParts, .ref a_baselines, .ref a_lineBlocks, .ref a_reached, .int v_height, .int v_first, .int v_step, .int v_rounding, .int v_cursor])), (a_lineCounts, .inl (cI, 4, .inl v_lineCounts)), (a_baselines, .inl (cI, 2560, .inl v_baselines)), (a_reached, .inl (cI, 4, .inl v_reached))] → va_S A s.heap H locs → lv_has ls 5 [(0, .ref a_t), (1, .int i1), (2, .int w2), (3, .int w3)] → W p l e rX1_sharedBaseline s m args below meth c H locs 0 0 Q (F0 m 24 ls []) := by
    intro  n
    induction n with
    | zero =>
      intro w2 w3 v_reached H locs ls hf
      have hf0 : (none : Option (Int32 × (Nat → Int32))) = some o := hf
      cases hf0
    | succ n hk24 =>
      intro w2 w3 v_reached H locs ls hf hP hD hS hl
      rw [fX1_sharedBaseline_24] at hf
      refine lv_iload_n hx hb dX1_sharedBaseline_24 rfl (lv_at hl 3 rfl) ?_
      refine lv_sipush (v := 2560) hx hb dX1_sharedBaseline_25 (by decide) ?_
      refine lv_icmp_ge (tgt := 74) hx hb dX1_sharedBaseline_28 (by decide) (fun hc => ?_) (fun hc => ?_)
      · replace hf := ip hc hf
        refine lv_bipush (v := (-5)) hx hb dX1_sharedBaseline_74 (by decide) ?_
        have ho := Option.some.inj hf
        subst ho
        exact hret dX1_sharedBaseline_76 rfl (hP.sub (ws' := [(a_t, .inr (1, [.ref a_lineCounts, .ref a_ends, .ref a_overflowing, .ref a_ahead, .ref a_behind, .ref a_setParts, .ref a_baselines, .ref a_lineBlocks, .ref a_reached, .int v_height, .int v_first, .int v_step, .int v_rounding, .int v_cursor])), (a_lineCounts, .inl (cI, 4, .inl v_lineCounts)), (a_baselines, .inl (cI, 2560, .inl v_baselines)), (a_reached, .inl (cI, 4, .inl v_reached))]) [0, 1, 2, 3] rfl) (hD.sub (ws' := [(a_t, .inr (1, [.ref a_lineCounts, .ref a_ends, .ref a_overflowing, .ref a_ahead, .ref a_behind, .ref a_setParts, .ref a_baselines, .ref a_lineBlocks, .ref a_reached, .int v_height, .int v_first, .int v_step, .int v_rounding, .int v_cursor])), (a_lineCounts, .inl (cI, 4, .inl v_lineCounts)), (a_baselines, .inl (cI, 2560, .inl v_baselines)), (a_reached, .inl (cI, 4, .inl v_reached))]) [0, 1, 2, 3] (by decide) rfl) hS
      · replace hf := ineg hc hf
        refine lv_aload_n hx hb dX1_sharedBaseline_31 rfl (lv_at hl 0 rfl) ?_
        replace hf := bd_some hf
        obtain ⟨qo1, hqo1, hf⟩ := hf
        refine g_Vi (As := []) (rest := []) (wr := []) ⟨hx, hb, hml, hown, hts⟩ (k_X1_uppermostReached l D cI cC a_t a_lineCounts a_ends a_overflowing a_ahead a_behind a_setParts a_baselines a_lineBlocks a_reached v_height v_first v_step v_rounding v_cursor v_lineCounts v_baselines v_reached qo1 hqo1) (cwV 0 hts gX1_sharedBaseline_X1_uppermostReached rfl rfl rfl (by decide +kernel) ⟨Nat.le_of_ble_eq_true rfl, Nat.le_of_ble_eq_true rfl⟩) hK hP hD hS hA 1 0 rfl rfl rfl [0, 1, 2, 3] [] rfl rfl rfl rfl rfl (by decide) rfl hl.1 rfl (Nat.le_of_ble_eq_true rfl) dX1_sharedBaseline_32 (Nat.zero_le _) (Nat.zero_le _) (fun H locs hP hD hS => ?_)
        have hP : va_P D vwCl [(a_t, .inr (1, [.ref a_lineCounts, .ref a_ends, .ref a_overflowing, .ref a_ahead, .ref a_behind, .ref a_setParts, .ref a_baselines, .ref a_lineBlocks, .ref a_reached, .int v_height, .int v_first, .int v_step, .int v_rounding, .int v_cursor])), (a_lineCounts, .inl (cI, 4, .inl v_lineCounts)), (a_baselines, .inl (cI, 2560, .inl v_baselines)), (a_reached, .inl (cI, 4, .inl v_reached))] H := hP
        have hD : va_D A [(a_t, .inr (1, [.ref a_lineCounts, .ref a_ends, .ref a_overflowing, .ref a_ahead, .ref a_behind, .ref a_setParts, .ref a_baselines, .ref a_lineBlocks, .ref a_reached, .int v_height, .int v_first, .int v_step, .int v_rounding, .int v_cursor])), (a_lineCounts, .inl (cI, 4, .inl v_lineCounts)), (a_baselines, .inl (cI, 2560, .inl v_baselines)), (a_reached, .inl (cI, 4, .inl v_reached))] := hD
        refine lv_istore (lv' := [(4, .int qo1), (0, .ref a_t), (1, .int i1), (2, .int w2), (3, .int w3)]) hx hb dX1_sharedBaseline_35 hl (by decide) rfl (fun ls hl => ?_)
        refine lv_iload hx hb dX1_sharedBaseline_37 (lv_at hl 0 rfl) ?_
        refine lv_bipush (v := (-5)) hx hb dX1_sharedBaseline_39 (by decide) ?_
        refine lv_icmp_ne (tgt := 47) hx hb dX1_sharedBaseline_41 (by decide) (fun hc => ?_) (fun hc => ?_)
        · replace hf := ineg hc hf
          refine lv_aload_n hx hb dX1_sharedBaseline_47 rfl (lv_at hl 1 rfl) ?_
          refine lv_iload hx hb dX1_sharedBaseline_48 (lv_at hl 0 rfl) ?_
          replace hf := bd_some hf
          obtain ⟨qo2, hqo2, hf⟩ := hf
          refine g_Vi (As := [.int qo1]) (rest := []) (wr := []) ⟨hx, hb, hml, hown, hts⟩ (k_X1_passLinesAt l D cI cC a_t a_lineCounts a_ends a_overflowing a_ahead a_behind a_setParts a_baselines a_lineBlocks a_reached qo1 v_height v_first v_step v_rounding v_cursor v_lineCounts v_baselines v_reached qo2 hqo2) (cwV 1 hts gX1_sharedBaseline_X1_passLinesAt rfl rfl rfl (by decide +kernel) ⟨Nat.le_of_ble_eq_true rfl, Nat.le_of_ble_eq_true rfl⟩) hK hP hD hS hA 1 0 rfl rfl rfl [0, 1, 2, 3] [] rfl rfl rfl rfl rfl (by decide) rfl hl.1 rfl (Nat.le_of_ble_eq_true rfl) dX1_sharedBaseline_50 (Nat.zero_le _) (Nat.zero_le _) (fun H locs hP hD hS => ?_)
          have hP : va_P D vwCl [(a_t, .inr (1, [.ref a_lineCounts, .ref a_ends, .ref a_overflowing, .ref a_ahead, .ref a_behind, .ref a_setParts, .ref a_baselines, .ref a_lineBlocks, .ref a_reached, .int v_height, .int v_first, .int v_step, .int v_rounding, .int v_cursor])), (a_lineCounts, .inl (cI, 4, .inl v_lineCounts)), (a_baselines, .inl (cI, 2560, .inl v_baselines)), (a_reached, .inl (cI, 4, .inl qo2.2))] H := hP
          have hD : va_D A [(a_t, .inr (1, [.ref a_lineCounts, .ref a_ends, .ref a_overflowing, .ref a_ahead, .ref a_behind, .ref a_setParts, .ref a_baselines, .ref a_lineBlocks, .ref a_reached, .int v_height, .int v_first, .int v_step, .int v_rounding, .int v_cursor])), (a_lineCounts, .inl (cI, 4, .inl v_lineCounts)), (a_baselines, .inl (cI, 2560, .inl v_baselines)), (a_reached, .inl (cI, 4, .inl qo2.2))] := hD
          refine lv_iconst (v := 2) hx hb dX1_sharedBaseline_53 (by decide) ?_
          refine lv_icmp_lt (tgt := 68) hx hb dX1_sharedBaseline_54 (by decide) (fun hc => ?_) (fun hc => ?_)
          · replace hf := ip hc hf
            exact J68 (fX1_sharedBaseline_24 i1 v_lineCounts v_baselines n) w2 w3 qo2.2 hk24 _ _ _ hf (hP.sub (ws' := [(a_t, .inr (1, [.ref a_lineCounts, .ref a_ends, .ref a_overflowing, .ref a_ahead, .ref a_behind, .ref a_setParts, .ref a_baselines, .ref a_lineBlocks, .ref a_reached, .int v_height, .int v_first, .int v_step, .int v_rounding, .int v_cursor])), (a_lineCounts, .inl (cI, 4, .inl v_lineCounts)), (a_baselines, .inl (cI, 2560, .inl v_baselines)), (a_reached, .inl (cI, 4, .inl qo2.2))]) [0, 1, 2, 3] rfl) (hD.sub (ws' := [(a_t, .inr (1, [.ref a_lineCounts, .ref a_ends, .ref a_overflowing, .ref a_ahead, .ref a_behind, .ref a_setParts, .ref a_baselines, .ref a_lineBlocks, .ref a_reached, .int v_height, .int v_first, .int v_step, .int v_rounding, .int v_cursor])), (a_lineCounts, .inl (cI, 4, .inl v_lineCounts)), (a_baselines, .inl (cI, 2560, .inl v_baselines)), (a_reached, .inl (cI, 4, .inl qo2.2))]) [0, 1, 2, 3] (by decide) rfl) hS (lv_sub hl [1, 2, 3, 4] rfl)
          · replace hf := ineg hc hf
            refine lv_iload_n hx hb dX1_sharedBaseline_57 rfl (lv_at hl 3 rfl) ?_
            refine lv_iload_n hx hb dX1_sharedBaseline_58 rfl (lv_at hl 2 rfl) ?_
            refine lv_icmp_ne (tgt := 65) hx hb dX1_sharedBaseline_59 (by decide) (fun hc => ?_) (fun hc => ?_)
            · replace hf := ineg hc hf
              replace hf := nm_some hf
              obtain ⟨qx4, eqx4, hf⟩ := hf
              refine lv_iinc (v := qx4) (lv' := [(2, .int qx4), (4, .int qo1), (0, .ref a_t), (1, .int i1), (3, .int w3)]) hx hb dX1_sharedBaseline_65 hl (k := 3) rfl (by rw [eqx4]; rfl) (by decide) rfl (fun ls hl => ?_)
              exact J68 (fX1_sharedBaseline_24 i1 v_lineCounts v_baselines n) qx4 w3 qo2.2 hk24 _ _ _ hf (hP.sub (ws' := [(a_t, .inr (1, [.ref a_lineCounts, .ref a_ends, .ref a_overflowing, .ref a_ahead, .ref a_behind, .ref a_setParts, .ref a_baselines, .ref a_lineBlocks, .ref a_reached, .int v_height, .int v_first, .int v_step, .int v_rounding, .int v_cursor])), (a_lineCounts, .inl (cI, 4, .inl v_lineCounts)), (a_baselines, .inl (cI, 2560, .inl v_baselines)), (a_reached, .inl (cI, 4, .inl qo2.2))]) [0, 1, 2, 3] rfl) (hD.sub (ws' := [(a_t, .inr (1, [.ref a_lineCounts, .ref a_ends, .ref a_overflowing, .ref a_ahead, .ref a_behind, .ref a_setParts, .ref a_baselines, .ref a_lineBlocks, .ref a_reached, .int v_height, .int v_first, .int v_step, .int v_rounding, .int v_cursor])), (a_lineCounts, .inl (cI, 4, .inl v_lineCounts)), (a_baselines, .inl (cI, 2560, .inl v_baselines)), (a_reached, .inl (cI, 4, .inl qo2.2))]) [0, 1, 2, 3] (by decide) rfl) hS (lv_sub hl [2, 3, 0, 4] rfl)
            · replace hf := ip hc hf
              refine lv_iload hx hb dX1_sharedBaseline_62 (lv_at hl 0 rfl) ?_
              have ho := Option.some.inj hf
              subst ho
              exact hret dX1_sharedBaseline_64 rfl (hP.sub (ws' := [(a_t, .inr (1, [.ref a_lineCounts, .ref a_ends, .ref a_overflowing, .ref a_ahead, .ref a_behind, .ref a_setParts, .ref a_baselines, .ref a_lineBlocks, .ref a_reached, .int v_height, .int v_first, .int v_step, .int v_rounding, .int v_cursor])), (a_lineCounts, .inl (cI, 4, .inl v_lineCounts)), (a_baselines, .inl (cI, 2560, .inl v_baselines)), (a_reached, .inl (cI, 4, .inl qo2.2))]) [0, 1, 2, 3] rfl) (hD.sub (ws' := [(a_t, .inr (1, [.ref a_lineCounts, .ref a_ends, .ref a_overflowing, .ref a_ahead, .ref a_behind, .ref a_setParts, .ref a_baselines, .ref a_lineBlocks, .ref a_reached, .int v_height, .int v_first, .int v_step, .int v_rounding, .int v_cursor])), (a_lineCounts, .inl (cI, 4, .inl v_lineCounts)), (a_baselines, .inl (cI, 2560, .inl v_baselines)), (a_reached, .inl (cI, 4, .inl qo2.2))]) [0, 1, 2, 3] (by decide) rfl) hS
        · replace hf := ip hc hf
          refine lv_bipush (v := (-5)) hx hb dX1_sharedBaseline_44 (by decide) ?_
          have ho := Option.some.inj hf
          subst ho
          exact hret dX1_sharedBaseline_46 rfl (hP.sub (ws' := [(a_t, .inr (1, [.ref a_lineCounts, .ref a_ends, .ref a_overflowing, .ref a_ahead, .ref a_behind, .ref a_setParts, .ref a_baselines, .ref a_lineBlocks, .ref a_reached, .int v_height, .int v_first, .int v_step, .int v_rounding, .int v_cursor])), (a_lineCounts, .inl (cI, 4, .inl v_lineCounts)), (a_baselines, .inl (cI, 2560, .inl v_baselines)), (a_reached, .inl (cI, 4, .inl v_reached))]) [0, 1, 2, 3] rfl) (hD.sub (ws' := [(a_t, .inr (1, [.ref a_lineCounts, .ref a_ends, .ref a_overflowing, .ref a_ahead, .ref a_behind, .ref a_setParts, .ref a_baselines, .ref a_lineBlocks, .ref a_reached, .int v_height, .int v_first, .int v_step, .int v_rounding, .int v_cursor])), (a_lineCounts, .inl (cI, 4, .inl v_lineCounts)), (a_baselines, .inl (cI, 2560, .inl v_baselines)), (a_reached, .inl (cI, 4, .inl v_reached))]) [0, 1, 2, 3] (by decide) rfl) hS
  have J4 : ∀ (w2 : Int32)  (n : Nat) (w3 : Int32) (v_reached : Nat → Int32) (H : Heap) (locs : List Loc) (ls : Array Slot), fX1_sharedBaseline_4 i1 v_lineCounts v_baselines w2 n w3 v_reached = some o → va_P D vwCl [(a_t, .inr (1, [.ref a_lineCounts, .ref a_ends, .ref a_overflowing, .ref a_ahead, .ref a_behind, .ref a_setParts, .ref a_baselines, .ref a_lineBlocks, .ref a_reached, .int v_height, .int v_first, .int v_step, .int v_rounding, .int v_cursor])), (a_lineCounts, .inl (cI, 4, .inl v_lineCounts)), (a_baselines, .inl (cI, 2560, .inl v_baselines)), (a_reached, .inl (cI, 4, .inl v_reached))] H → va_D A [(a_t, .inr (1, [.ref a_lineCounts, .ref a_ends, .ref a_overflowing, .ref a_ahead, .ref a_behind, .ref a_setParts, .ref a_baselines, .ref a_lineBlocks, .ref a_reached, .int v_height, .int v_first, .int v_step, .int v_rounding, .int v_cursor])), (a_lineCounts, .inl (cI, 4, .inl v_lineCounts)), (a_baselines, .inl (cI, 2560, .inl v_baselines)), (a_reached, .inl (cI, 4, .inl v_reached))] → va_S A s.heap H locs → lv_has ls 5 [(0, .ref a_t), (1, .int i1), (2, .int w2), (3, .int w3)] → W p l e rX1_sharedBaseline s m args below meth c H locs 0 0 Q (F0 m 4 ls []) := by
    intro w2 n
    induction n with
    | zero =>
      intro w3 v_reached H locs ls hf
      have hf0 : (none : Option (Int32 × (Nat → Int32))) = some o := hf
      cases hf0
    | succ n hk4 =>
      intro w3 v_reached H locs ls hf hP hD hS hl
      rw [fX1_sharedBaseline_4] at hf
      refine lv_iload_n hx hb dX1_sharedBaseline_4 rfl (lv_at hl 3 rfl) ?_
      refine lv_iconst (v := 4) hx hb dX1_sharedBaseline_5 (by decide) ?_
      refine lv_icmp_ge (tgt := 22) hx hb dX1_sharedBaseline_6 (by decide) (fun hc => ?_) (fun hc => ?_)
      · replace hf := ip hc hf
        refine lv_iconst (v := 0) hx hb dX1_sharedBaseline_22 (by decide) ?_
        refine lv_istore_n (lv' := [(3, .int 0), (0, .ref a_t), (1, .int i1), (2, .int w2)]) hx hb dX1_sharedBaseline_23 rfl hl (by decide) rfl (fun ls hl => ?_)
        exact J24 Fu w2 0 v_reached _ _ _ hf (hP.sub (ws' := [(a_t, .inr (1, [.ref a_lineCounts, .ref a_ends, .ref a_overflowing, .ref a_ahead, .ref a_behind, .ref a_setParts, .ref a_baselines, .ref a_lineBlocks, .ref a_reached, .int v_height, .int v_first, .int v_step, .int v_rounding, .int v_cursor])), (a_lineCounts, .inl (cI, 4, .inl v_lineCounts)), (a_baselines, .inl (cI, 2560, .inl v_baselines)), (a_reached, .inl (cI, 4, .inl v_reached))]) [0, 1, 2, 3] rfl) (hD.sub (ws' := [(a_t, .inr (1, [.ref a_lineCounts, .ref a_ends, .ref a_overflowing, .ref a_ahead, .ref a_behind, .ref a_setParts, .ref a_baselines, .ref a_lineBlocks, .ref a_reached, .int v_height, .int v_first, .int v_step, .int v_rounding, .int v_cursor])), (a_lineCounts, .inl (cI, 4, .inl v_lineCounts)), (a_baselines, .inl (cI, 2560, .inl v_baselines)), (a_reached, .inl (cI, 4, .inl v_reached))]) [0, 1, 2, 3] (by decide) rfl) hS (lv_sub hl [1, 2, 3, 0] rfl)
      · replace hf := ineg hc hf
        refine lv_aload_n hx hb dX1_sharedBaseline_9 rfl (lv_at hl 0 rfl) ?_
        refine va_get (D := D) (ci := 1) (v := .ref a_reached) (C := RX1) (T := TX1) (N := 14) hx hb hts hinX1 hown hK.1 hP 0 rfl rfl 8 (by decide) (hts (.fieldLink RX1 36 "BaselineGrid$Layout" "reached" "[I") (List.mem_of_getElem? (i := 1) rfl)) (fun _ h9 => h9) rfl dX1_sharedBaseline_10 ?_
        refine lv_iload_n hx hb dX1_sharedBaseline_13 rfl (lv_at hl 3 rfl) ?_
        refine lv_iconst (v := 0) hx hb dX1_sharedBaseline_14 (by decide) ?_
        refine g_iast hx hb hK.1 hP hD hS 3 0 rfl rfl hf dX1_sharedBaseline_15 (fun qg5 H locs hf hP hD hS => ?_)
        have hP : va_P D vwCl [(a_t, .inr (1, [.ref a_lineCounts, .ref a_ends, .ref a_overflowing, .ref a_ahead, .ref a_behind, .ref a_setParts, .ref a_baselines, .ref a_lineBlocks, .ref a_reached, .int v_height, .int v_first, .int v_step, .int v_rounding, .int v_cursor])), (a_lineCounts, .inl (cI, 4, .inl v_lineCounts)), (a_baselines, .inl (cI, 2560, .inl v_baselines)), (a_reached, .inl (cI, 4, .inl qg5))] H := hP
        have hD : va_D A [(a_t, .inr (1, [.ref a_lineCounts, .ref a_ends, .ref a_overflowing, .ref a_ahead, .ref a_behind, .ref a_setParts, .ref a_baselines, .ref a_lineBlocks, .ref a_reached, .int v_height, .int v_first, .int v_step, .int v_rounding, .int v_cursor])), (a_lineCounts, .inl (cI, 4, .inl v_lineCounts)), (a_baselines, .inl (cI, 2560, .inl v_baselines)), (a_reached, .inl (cI, 4, .inl qg5))] := hD
        replace hf := nm_some hf
        obtain ⟨qx6, eqx6, hf⟩ := hf
        refine lv_iinc (v := qx6) (lv' := [(3, .int qx6), (0, .ref a_t), (1, .int i1), (2, .int w2)]) hx hb dX1_sharedBaseline_16 hl (k := 3) rfl (by rw [eqx6]; rfl) (by decide) rfl (fun ls hl => ?_)
        refine lv_goto (tgt := 4) hx hb dX1_sharedBaseline_19 (by decide) ?_
        exact hk4 qx6 qg5 _ _ _ hf (hP.sub (ws' := [(a_t, .inr (1, [.ref a_lineCounts, .ref a_ends, .ref a_overflowing, .ref a_ahead, .ref a_behind, .ref a_setParts, .ref a_baselines, .ref a_lineBlocks, .ref a_reached, .int v_height, .int v_first, .int v_step, .int v_rounding, .int v_cursor])), (a_lineCounts, .inl (cI, 4, .inl v_lineCounts)), (a_baselines, .inl (cI, 2560, .inl v_baselines)), (a_reached, .inl (cI, 4, .inl qg5))]) [0, 1, 2, 3] rfl) (hD.sub (ws' := [(a_t, .inr (1, [.ref a_lineCounts, .ref a_ends, .ref a_overflowing, .ref a_ahead, .ref a_behind, .ref a_setParts, .ref a_baselines, .ref a_lineBlocks, .ref a_reached, .int v_height, .int v_first, .int v_step, .int v_rounding, .int v_cursor])), (a_lineCounts, .inl (cI, 4, .inl v_lineCounts)), (a_baselines, .inl (cI, 2560, .inl v_baselines)), (a_reached, .inl (cI, 4, .inl qg5))]) [0, 1, 2, 3] (by decide) rfl) hS (lv_sub hl [1, 2, 3, 0] rfl)
  unfold fX1_sharedBaseline at hf
  refine lv_iconst (v := 0) hx hb dX1_sharedBaseline_0 (by decide) ?_
  refine lv_istore_n (lv' := [(2, .int 0), (0, .ref a_t), (1, .int i1)]) hx hb dX1_sharedBaseline_1 rfl hl (by decide) rfl (fun ls hl => ?_)
  refine lv_iconst (v := 0) hx hb dX1_sharedBaseline_2 (by decide) ?_
  refine lv_istore_n (lv' := [(3, .int 0), (2, .int 0), (0, .ref a_t), (1, .int i1)]) hx hb dX1_sharedBaseline_3 rfl hl (by decide) rfl (fun ls hl => ?_)
  exact J4 0 Fu 0 v_reached _ _ _ hf (hP.sub (ws' := [(a_t, .inr (1, [.ref a_lineCounts, .ref a_ends, .ref a_overflowing, .ref a_ahead, .ref a_behind, .ref a_setParts, .ref a_baselines, .ref a_lineBlocks, .ref a_reached, .int v_height, .int v_first, .int v_step, .int v_rounding, .int v_cursor])), (a_lineCounts, .inl (cI, 4, .inl v_lineCounts)), (a_baselines, .inl (cI, 2560, .inl v_baselines)), (a_reached, .inl (cI, 4, .inl v_reached))]) [0, 1, 2, 3] rfl) (hD.sub (ws' := [(a_t, .inr (1, [.ref a_lineCounts, .ref a_ends, .ref a_overflowing, .ref a_ahead, .ref a_behind, .ref a_setParts, .ref a_baselines, .ref a_lineBlocks, .ref a_reached, .int v_height, .int v_first, .int v_step, .int v_rounding, .int v_cursor])), (a_lineCounts, .inl (cI, 4, .inl v_lineCounts)), (a_baselines, .inl (cI, 2560, .inl v_baselines)), (a_reached, .inl (cI, 4, .inl v_reached))]) [0, 1, 2, 3] (by decide) rfl) hS (lv_sub hl [2, 3, 1, 0] rfl)
