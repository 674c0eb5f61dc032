def fX1_layOut_43 (v_p1_cells : Nat → Int32) (v_height : Int32) (v_first : Int32) (v_step : Int32) (v_rounding : Int32) : Nat → Int32 → Int32 → (Nat → Int32) → (Nat → Int32) → (Nat → Int32) → (Nat → Int32) → (Nat → Int32) → (Nat → Int32) → (Nat → Int32) → (Nat → Int32) → Option (Int32 × Int32 × Int32 × Int32 × Int32 × (Nat → Int32) × (Nat → Int32) × (Nat → Int32) × (Nat → Int32) × (Nat → Int32) × (Nat → Int32) × (Nat → Int32) × (Nat → Int32))
  | 0 => fun _ _ _ _ _ _ _ _ _ _ => none
  | n + 1 => fun w3 v_cursor v_lineCounts v_ends v_overflowing v_ahead v_behind v_setParts v_baselines v_lineBlocks =>
    if 4 ≤ w3 then (some (v_height, v_first, v_step, v_rounding, v_cursor, v_lineCounts, v_ends, v_overflowing, v_ahead, v_behind, v_setParts, v_baselines, v_lineBlocks)) else (bd (fX1_layColumn w3 v_height v_first v_step v_rounding v_cursor v_lineCounts v_ends v_overflowing v_ahead v_behind v_setParts v_baselines v_lineBlocks v_p1_cells) fun qo4 => nm (w3 + 1) fun qx5 => (fX1_layOut_43 v_p1_cells v_height v_first v_step v_rounding n) qx5 qo4.1 qo4.2.1 qo4.2.2.1 qo4.2.2.2.1 qo4.2.2.2.2.1 qo4.2.2.2.2.2.1 qo4.2.2.2.2.2.2.1 qo4.2.2.2.2.2.2.2.1 qo4.2.2.2.2.2.2.2.2)
def fX1_layOut_33 (i2 : Int32) (v_p1_cells : Nat → Int32) (s1 : Int32) (v_height : Int32) (v_first : Int32) (v_step : Int32) (v_rounding : Int32) (v_cursor : Int32) (v_lineCounts : Nat → Int32) (v_ends : Nat → Int32) (v_overflowing : Nat → Int32) (v_ahead : Nat → Int32) (v_behind : Nat → Int32) (v_setParts : Nat → Int32) (v_baselines : Nat → Int32) (v_lineBlocks : Nat → Int32) : Option (Int32 × Int32 × Int32 × Int32 × Int32 × (Nat → Int32) × (Nat → Int32) × (Nat → Int32) × (Nat → Int32) × (Nat → Int32) × (Nat → Int32) × (Nat → Int32) × (Nat → Int32)) :=
    bchk s1 <| fX1_layOut_43 v_p1_cells v_height v_first i2 s1 Fu 0 v_cursor v_lineCounts v_ends v_overflowing v_ahead v_behind v_setParts v_baselines v_lineBlocks
def fX1_layOut (i2 : Int32) (v_height : Int32) (v_first : Int32) (v_step : Int32) (v_rounding : Int32) (v_cursor : Int32) (v_lineCounts : Nat → Int32) (v_ends : Nat → Int32) (v_overflowing : Nat → Int32) (v_ahead : Nat → Int32) (v_behind : Nat → Int32) (v_setParts : Nat → Int32) (v_baselines : Nat → Int32) (v_lineBlocks : Nat → Int32) (v_p1_cells : Nat → Int32) : Option (Int32 × Int32 × Int32 × Int32 × Int32 × (Nat → Int32) × (Nat → Int32) × (Nat → Int32) × (Nat → Int32) × (Nat → Int32) × (Nat → Int32) × (Nat → Int32) × (Nat → Int32)) :=
  bd (fX2_settingOf 0 v_p1_cells) fun qo1 => bd (fX2_settingOf 1 v_p1_cells) fun qo2 => bd (fX2_settingOf 3 v_p1_cells) fun qo3 => if qo3 = 1 then (fX1_layOut_33 i2 v_p1_cells 1 qo1 qo2 v_step v_rounding v_cursor v_lineCounts v_ends v_overflowing v_ahead v_behind v_setParts v_baselines v_lineBlocks) else (fX1_layOut_33 i2 v_p1_cells 0 qo1 qo2 v_step v_rounding v_cursor v_lineCounts v_ends v_overflowing v_ahead v_behind v_setParts v_baselines v_lineBlocks)
def rX1_layOut : Room := { frames := 6, cells := 0, slots := 0, locals := 144 }
theorem hin_X1_layOut_X1 : ∀ w ∈ wsX10, w ∈ wsX1_layOut := fun _ h => List.mem_cons_of_mem _ (List.mem_append_left _ (List.mem_append_right _ (h)))
set_option maxHeartbeats 4000000 in
set_option maxRecDepth 100000 in
theorem k_X1_layOut (l : Launch) (D : va_G) (cI cC : ClassId) (a_t : Nat) (a_lineCounts : Nat) (a_ends : Nat) (a_overflowing : Nat) (a_ahead : Nat) (a_behind : Nat) (a_setParts : Nat) (a_baselines : Nat) (a_lineBlocks : Nat) (a_reached : Nat) (a_p1 : Nat) (a_p1_cells : Nat) (i2 : Int32) (v_height : Int32) (v_first : Int32) (v_step : Int32) (v_rounding : Int32) (v_cursor : Int32) (v_lineCounts : Nat → Int32) (v_ends : Nat → Int32) (v_overflowing : Nat → Int32) (v_ahead : Nat → Int32) (v_behind : Nat → Int32) (v_setParts : Nat → Int32) (v_baselines : Nat → Int32) (v_lineBlocks : Nat → Int32) (v_p1_cells : Nat → Int32) (o : Int32 × Int32 × Int32 × Int32 × Int32 × (Nat → Int32) × (Nat → Int32) × (Nat → Int32) × (Nat → Int32) × (Nat → Int32) × (Nat → Int32) × (Nat → Int32) × (Nat → Int32)) (hf : fX1_layOut i2 v_height v_first v_step v_rounding v_cursor v_lineCounts v_ends v_overflowing v_ahead v_behind v_setParts v_baselines v_lineBlocks v_p1_cells = some o) : CTv l yX1_layOut wsX1_layOut rX1_layOut D cI cC [.ref a_t, .ref a_p1, .int i2] [(a_t, .inr (1, [.ref a_lineCounts, .ref a_ends, .ref a_overflowing, .ref a_ahead, .ref a_behind, .ref a_setParts, .ref a_baselines, .ref a_lineBlocks, .ref a_reached, .int v_height, .int v_first, .int v_step, .int v_rounding, .int v_cursor])), (a_lineCounts, .inl (cI, 4, .inl v_lineCounts)), (a_ends, .inl (cI, 4, .inl v_ends)), (a_overflowing, .inl (cI, 4, .inl v_overflowing)), (a_ahead, .inl (cI, 64, .inl v_ahead)), (a_behind, .inl (cI, 64, .inl v_behind)), (a_setParts, .inl (cI, 64, .inl v_setParts)), (a_baselines, .inl (cI, 2560, .inl v_baselines)), (a_lineBlocks, .inl (cI, 2560, .inl v_lineBlocks)), (a_p1, .inr (2, [.ref a_p1_cells])), (a_p1_cells, .inl (cI, 393, .inl v_p1_cells))] [(a_t, .inr (1, [.ref a_lineCounts, .ref a_ends, .ref a_overflowing, .ref a_ahead, .ref a_behind, .ref a_setParts, .ref a_baselines, .ref a_lineBlocks, .ref a_reached, .int o.1, .int o.2.1, .int o.2.2.1, .int o.2.2.2.1, .int o.2.2.2.2.1])), (a_lineCounts, .inl (cI, 4, .inl o.2.2.2.2.2.1)), (a_ends, .inl (cI, 4, .inl o.2.2.2.2.2.2.1)), (a_overflowing, .inl (cI, 4, .inl o.2.2.2.2.2.2.2.1)), (a_ahead, .inl (cI, 64, .inl o.2.2.2.2.2.2.2.2.1)), (a_behind, .inl (cI, 64, .inl o.2.2.2.2.2.2.2.2.2.1)), (a_setParts, .inl (cI, 64, .inl o.2.2.2.2.2.2.2.2.2.2.1)), (a_baselines, .inl (cI, 2560, .inl o.2.2.2.2.2.2.2.2.2.2.2.1)), (a_lineBlocks, .inl (cI, 2560, .inl o.2.2.2.2.2.2.2.2.2.2.2.2)), (a_p1, .inr (2, [.ref a_p1_cells])), (a_p1_cells, .inl (cI, 393, .inl v_p1_cells))]  := by
  refine CTv_of (cc := cX1_layOut) (maxL := 4) (by decide) rfl (Nat.le_of_ble_eq_true rfl) ?_
  intro p e s m args below meth c A Q ls C0 hA hP hD hl hret
  obtain ⟨hx, hb, hml, hts, hown, hK⟩ := C0
  have hown : s.vm.findClass RX1 = some m.cls := hown
  have hS : va_S A s.heap s.heap [] := va_S.rf
  have hl : lv_has ls 4 [(0, .ref a_t), (1, .ref a_p1), (2, .int i2)] := hl
  have hinX1 := hin_X1_layOut_X1
  have J43 : ∀ (v_height : Int32) (v_first : Int32) (v_step : Int32) (v_rounding : Int32)  (n : Nat) (w3 : Int32) (v_cursor : Int32) (v_lineCounts : Nat → Int32) (v_ends : Nat → Int32) (v_overflowing : Nat → Int32) (v_ahead : Nat → Int32) (v_behind : Nat → Int32) (v_setParts : Nat → Int32) (v_baselines : Nat → Int32) (v_lineBlocks : Nat → Int32) (H : Heap) (locs : List Loc) (ls : Array Slot), fX1_layOut_43 v_p1_cells v_height v_first v_step v_rounding n w3 v_cursor v_lineCounts v_ends v_overflowing v_ahead v_behind v_setParts v_baselines v_lineBlocks = some o → va_P D vwCl [(a_t, .inr (1, [.ref a_lineCounts, .ref a_ends, .ref a_overflowing, .ref a_ahead, .ref a_behind, .ref a_setParts, .ref a_baselines, .ref a_lineBlocks, .ref a_reached, .int v_height, .int v_first, .int v_step, .int v_rounding, .int v_cursor])), (a_lineCounts, .inl (cI, 4, .inl v_lineCounts)), (a_ends, .inl (cI, 4, .inl v_ends)), (a_overflowing, .inl (cI, 4, .inl v_overflowing)), (a_ahead, .inl (cI, 64, .inl v_ahead)), (a_behind, .inl (cI, 64, .inl v_behind)), (a_setParts, .inl (cI, 64, .inl v_setParts)), (a_baselines, .inl (cI, 2560, .inl v_baselines)), (a_lineBlocks, .inl (cI, 2560, .inl v_lineBlocks)), (a_p1, .inr (2, [.ref a_p1_cells])), (a_p1_cells, .inl (cI, 393, .inl v_p1_cells))] H → va_D A [(a_t, .inr (1, [.ref a_lineCounts, .ref a_ends, .ref a_overflowing, .ref a_ahead, .ref a_behind, .ref a_setParts, .ref a_baselines, .ref a_lineBlocks, .ref a_reached, .int v_height, .int v_first, .int v_step, .int v_rounding, .int v_cursor])), (a_lineCounts, .inl (cI, 4, .inl v_lineCounts)), (a_ends, .inl (cI, 4, .inl v_ends)), (a_overflowing, .inl (cI, 4, .inl v_overflowing)), (a_ahead, .inl (cI, 64, .inl v_ahead)), (a_behind, .inl (cI, 64, .inl v_behind)), (a_setParts, .inl (cI, 64, .inl v_setParts)), (a_baselines, .inl (cI, 2560, .inl v_baselines)), (a_lineBlocks, .inl (cI, 2560, .inl v_lineBlocks)), (a_p1, .inr (2, [.ref a_p1_cells])), (a_p1_cells, .inl (cI, 393, .inl v_p1_cells))] → va_S A s.heap H locs → lv_has ls 4 [(0, .ref a_t), (1, .ref a_p1), (3, .int w3)] → W p l e rX1_layOut s m args below meth c H locs 0 0 Q (F0 m 43 ls []) := by
    intro v_height v_first v_step v_rounding n
    induction n with
    | zero =>
      intro w3 v_cursor v_lineCounts v_ends v_overflowing v_ahead v_behind v_setParts v_baselines v_lineBlocks H locs ls hf
      have hf0 : (none : Option (Int32 × Int32 × Int32 × Int32 × Int32 × (Nat → Int32) × (Nat → Int32) × (Nat → Int32) × (Nat → Int32) × (Nat → Int32) × (Nat → Int32) × (Nat → Int32) × (Nat → Int32))) = some o := hf
      cases hf0
    | succ n hk43 =>
      intro w3 v_cursor v_lineCounts v_ends v_overflowing v_ahead v_behind v_setParts v_baselines v_lineBlocks H locs ls hf hP hD hS hl
      rw [fX1_layOut_43] at hf
      refine lv_iload_n hx hb dX1_layOut_43 rfl (lv_at hl 2 rfl) ?_
      refine lv_iconst (v := 4) hx hb dX1_layOut_44 (by decide) ?_
      refine lv_icmp_ge (tgt := 60) hx hb dX1_layOut_45 (by decide) (fun hc => ?_) (fun hc => ?_)
      · replace hf := ip hc hf
        have ho := Option.some.inj hf
        subst ho
        exact hret dX1_layOut_60 (hP.sub (ws' := [(a_t, .inr (1, [.ref a_lineCounts, .ref a_ends, .ref a_overflowing, .ref a_ahead, .ref a_behind, .ref a_setParts, .ref a_baselines, .ref a_lineBlocks, .ref a_reached, .int v_height, .int v_first, .int v_step, .int v_rounding, .int v_cursor])), (a_lineCounts, .inl (cI, 4, .inl v_lineCounts)), (a_ends, .inl (cI, 4, .inl v_ends)), (a_overflowing, .inl (cI, 4, .inl v_overflowing)), (a_ahead, .inl (cI, 64, .inl v_ahead)), (a_behind, .inl (cI, 64, .inl v_behind)), (a_setParts, .inl (cI, 64, .inl v_setParts)), (a_baselines, .inl (cI, 2560, .inl v_baselines)), (a_lineBlocks, .inl (cI, 2560, .inl v_lineBlocks)), (a_p1, .inr (2, [.ref a_p1_cells])), (a_p1_cells, .inl (cI, 393, .inl v_p1_cells))]) [0, 1, 2, 3, 4, 5, 6, 7, 8, 9, 10] rfl) (hD.sub (ws' := [(a_t, .inr (1, [.ref a_lineCounts, .ref a_ends, .ref a_overflowing, .ref a_ahead, .ref a_behind, .ref a_setParts, .ref a_baselines, .ref a_lineBlocks, .ref a_reached, .int v_height, .int v_first, .int v_step, .int v_rounding, .int v_cursor])), (a_lineCounts, .inl (cI, 4, .inl v_lineCounts)), (a_ends, .inl (cI, 4, .inl v_ends)), (a_overflowing, .inl (cI, 4, .inl v_overflowing)), (a_ahead, .inl (cI, 64, .inl v_ahead)), (a_behind, .inl (cI, 64, .inl v_behind)), (a_setParts, .inl (cI, 64, .inl v_setParts)), (a_baselines, .inl (cI, 2560, .inl v_baselines)), (a_lineBlocks, .inl (cI, 2560, .inl v_lineBlocks)), (a_p1, .inr (2, [.ref a_p1_cells])), (a_p1_cells, .inl (cI, 393, .inl v_p1_cells))]) [0, 1, 2, 3, 4, 5, 6, 7, 8, 9, 10] (by decide) rfl) hS
      · replace hf := ineg hc hf
        refine lv_aload_n hx hb dX1_layOut_48 rfl (lv_at hl 0 rfl) ?_
        refine lv_aload_n hx hb dX1_layOut_49 rfl (lv_at hl 1 rfl) ?_
        refine lv_iload_n hx hb dX1_layOut_50 rfl (lv_at hl 2 rfl) ?_
        replace hf := bd_some hf
        obtain ⟨qo4, hqo4, hf⟩ := hf
        refine g_Vv (As := [.ref a_p1, .int w3]) (rest := []) (wr := []) ⟨hx, hb, hml, hown, hts⟩ (k_X1_layColumn l D cI cC a_t a_lineCounts a_ends a_overflowing a_ahead a_behind a_setParts a_baselines a_lineBlocks a_reached a_p1 a_p1_cells w3 v_height v_first v_step v_rounding v_cursor v_lineCounts v_ends v_overflowing v_ahead v_behind v_setParts v_baselines v_lineBlocks v_p1_cells qo4 hqo4) (cwV 2 hts gX1_layOut_X1_layColumn rfl rfl rfl (by decide +kernel) ⟨Nat.le_of_ble_eq_true rfl, Nat.le_of_ble_eq_true rfl⟩) hK hP hD hS hA 1 0 rfl rfl rfl [0, 1, 2, 3, 4, 5, 6, 7, 8, 9, 10] [] rfl rfl rfl rfl rfl (by decide) rfl hl.1 rfl (Nat.le_of_ble_eq_true rfl) dX1_layOut_51 (Nat.zero_le _) (Nat.zero_le _) (fun H locs hP hD hS => ?_)
        have hP : va_P D vwCl [(a_t, .inr (1, [.ref a_lineCounts, .ref a_ends, .ref a_overflowing, .ref a_ahead, .ref a_behind, .ref a_setParts, .ref a_baselines, .ref a_lineBlocks, .ref a_reached, .int v_height, .int v_first, .int v_step, .int v_rounding, .int qo4.1])), (a_lineCounts, .inl (cI, 4, .inl qo4.2.1)), (a_ends, .inl (cI, 4, .inl qo4.2.2.1)), (a_overflowing, .inl (cI, 4, .inl qo4.2.2.2.1)), (a_ahead, .inl (cI, 64, .inl qo4.2.2.2.2.1)), (a_behind, .inl (cI, 64, .inl qo4.2.2.2.2.2.1)), (a_setParts, .inl (cI, 64, .inl qo4.2.2.2.2.2.2.1)), (a_baselines, .inl (cI, 2560, .inl qo4.2.2.2.2.2.2.2.1)), (a_lineBlocks, .inl (cI, 2560, .inl qo4.2.2.2.2.2.2.2.2)), (a_p1, .inr (2, [.ref a_p1_cells])), (a_p1_cells, .inl (cI, 393, .inl v_p1_cells))] H := hP
        have hD : va_D A [(a_t, .inr (1, [.ref a_lineCounts, .ref a_ends, .ref a_overflowing, .ref a_ahead, .ref a_behind, .ref a_setParts, .ref a_baselines, .ref a_lineBlocks, .ref a_reached, .int v_height, .int v_first, .int v_step, .int v_rounding, .int qo4.1])), (a_lineCounts, .inl (cI, 4, .inl qo4.2.1)), (a_ends, .inl (cI, 4, .inl qo4.2.2.1)), (a_overflowing, .inl (cI, 4, .inl qo4.2.2.2.1)), (a_ahead, .inl (cI, 64, .inl qo4.2.2.2.2.1)), (a_behind, .inl (cI, 64, .inl qo4.2.2.2.2.2.1)), (a_setParts, .inl (cI, 64, .inl qo4.2.2.2.2.2.2.1)), (a_baselines, .inl (cI, 2560, .inl qo4.2.2.2.2.2.2.2.1)), (a_lineBlocks, .inl (cI, 2560, .inl qo4.2.2.2.2.2.2.2.2)), (a_p1, .inr (2, [.ref a_p1_cells])), (a_p1_cells, .inl (cI, 393, .inl v_p1_cells))] := hD
        replace hf := nm_some hf
        obtain ⟨qx5, eqx5, hf⟩ := hf
        refine lv_iinc (v := qx5) (lv' := [(3, .int qx5), (0, .ref a_t), (1, .ref a_p1)]) hx hb dX1_layOut_54 hl (k := 2) rfl (by rw [eqx5]; rfl) (by decide) rfl (fun ls hl => ?_)
        refine lv_goto (tgt := 43) hx hb dX1_layOut_57 (by decide) ?_
        exact hk43 qx5 qo4.1 qo4.2.1 qo4.2.2.1 qo4.2.2.2.1 qo4.2.2.2.2.1 qo4.2.2.2.2.2.1 qo4.2.2.2.2.2.2.1 qo4.2.2.2.2.2.2.2.1 qo4.2.2.2.2.2.2.2.2 _ _ _ hf (hP.sub (ws' := [(a_t, .inr (1, [.ref a_lineCounts, .ref a_ends, .ref a_overflowing, .ref a_ahead, .ref a_behind, .ref a_setParts, .ref a_baselines, .ref a_lineBlocks, .ref a_reached, .int v_height, .int v_first, .int v_step, .int v_rounding, .int qo4.1])), (a_lineCounts, .inl (cI, 4, .inl qo4.2.1)), (a_ends, .inl (cI, 4, .inl qo4.2.2.1)), (a_overflowing, .inl (cI, 4, .inl qo4.2.2.2.1)), (a_ahead, .inl (cI, 64, .inl qo4.2.2.2.2.1)), (a_behind, .inl (cI, 64, .inl qo4.2.2.2.2.2.1)), (a_setParts, .inl (cI, 64, .inl qo4.2.2.2.2.2.2.1)), (a_baselines, .inl (cI, 2560, .inl qo4.2.2.2.2.2.2.2.1)), (a_lineBlocks, .inl (cI, 2560, .inl qo4.2.2.2.2.2.2.2.2)), (a_p1, .inr (2, [.ref a_p1_cells])), (a_p1_cells, .inl (cI, 393, .inl v_p1_cells))]) [0, 1, 2, 3, 4, 5, 6, 7, 8, 9, 10] rfl) (hD.sub (ws' := [(a_t, .inr (1, [.ref a_lineCounts, .ref a_ends, .ref a_overflowing, .ref a_ahead, .ref a_behind, .ref a_setParts, .ref a_baselines, .ref a_lineBlocks, .ref a_reached, .int v_height, .int v_first, .int v_step, .int v_rounding, .int qo4.1])), (a_lineCounts, .inl (cI, 4, .inl qo4.2.1)), (a_ends, .inl (cI, 4, .inl qo4.2.2.1)), (a_overflowing, .inl (cI, 4, .inl qo4.2.2.2.1)), (a_ahead, .inl (cI, 64, .inl qo4.2.2.2.2.1)), (a_behind, .inl (cI, 64, .inl qo4.2.2.2.2.2.1)), (a_setParts, .inl (cI, 64, .inl qo4.2.2.2.2.2.2.1)), (a_baselines, .inl (cI, 2560, .inl qo4.2.2.2.2.2.2.2.1)), (a_lineBlocks, .inl (cI, 2560, .inl qo4.2.2.2.2.2.2.2.2)), (a_p1, .inr (2, [.ref a_p1_cells])), (a_p1_cells, .inl (cI, 393, .inl v_p1_cells))]) [0, 1, 2, 3, 4, 5, 6, 7, 8, 9, 10] (by decide) rfl) hS (lv_sub hl [1, 2, 0] rfl)
  have J33 : ∀ (s1 : Int32) (v_height : Int32) (v_first : Int32) (v_step : Int32) (v_rounding : Int32) (v_cursor : Int32) (v_lineCounts : Nat → Int32) (v_ends : Nat → Int32) (v_overflowing : Nat → Int32) (v_ahead : Nat → Int32) (v_behind : Nat → Int32) (v_setParts : Nat → Int32) (v_baselines : Nat → Int32) (v_lineBlocks : Nat → Int32)  (H : Heap) (locs : List Loc) (ls : Array Slot), fX1_layOut_33 i2 v_p1_cells s1 v_height v_first v_step v_rounding v_cursor v_lineCounts v_ends v_overflowing v_ahead v_behind v_setParts v_baselines v_lineBlocks = some o → va_P D vwCl [(a_t, .inr (1, [.ref a_lineCounts, .ref a_ends, .ref a_overflowing, .ref a_ahead, .ref a_behind, .ref a_setParts, .ref a_baselines, .ref a_lineBlocks, .ref a_reached, .int v_height, .int v_first, .int v_step, .int v_rounding, .int v_cursor])), (a_lineCounts, .inl (cI, 4, .inl v_lineCounts)), (a_ends, .inl (cI, 4, .inl v_ends)), (a_overflowing, .inl (cI, 4, .inl v_overflowing)), (a_ahead, .inl (cI, 64, .inl v_ahead)), (a_behind, .inl (cI, 64, .inl v_behind)), (a_setParts, .inl (cI, 64, .inl v_setParts)), (a_baselines, .inl (cI, 2560, .inl v_baselines)), (a_lineBlocks, .inl (cI, 2560, .inl v_lineBlocks)), (a_p1, .inr (2, [.ref a_p1_cells])), (a_p1_cells, .inl (cI, 393, .inl v_p1_cells))] H → va_D A [(a_t, .inr (1, [.ref a_lineCounts, .ref a_ends, .ref a_overflowing, .ref a_ahead, .ref a_behind, .ref a_setParts, .ref a_baselines, .ref a_lineBlocks, .ref a_reached, .int v_height, .int v_first, .int v_step, .int v_rounding, .int v_cursor])), (a_lineCounts, .inl (cI, 4, .inl v_lineCounts)), (a_ends, .inl (cI, 4, .inl v_ends)), (a_overflowing, .inl (cI, 4, .inl v_overflowing)), (a_ahead, .inl (cI, 64, .inl v_ahead)), (a_behind, .inl (cI, 64, .inl v_behind)), (a_setParts, .inl (cI, 64, .inl v_setParts)), (a_baselines, .inl (cI, 2560, .inl v_baselines)), (a_lineBlocks, .inl (cI, 2560, .inl v_lineBlocks)), (a_p1, .inr (2, [.ref a_p1_cells])), (a_p1_cells, .inl (cI, 393, .inl v_p1_cells))] → va_S A s.heap H locs → lv_has ls 4 [(0, .ref a_t), (1, .ref a_p1), (2, .int i2)] → W p l e rX1_layOut s m args below meth c H locs 0 0 Q (F0 m 33 ls [.int s1, .ref a_t]) := by
    intro s1 v_height v_first v_step v_rounding v_cursor v_lineCounts v_ends v_overflowing v_ahead v_behind v_setParts v_baselines v_lineBlocks H locs ls hf hP hD hS hl
    unfold fX1_layOut_33 at hf
    replace hf := bchk_some hf
    obtain ⟨hbv, hf⟩ := hf
    refine va_put (D := D) (ci := 1) (v := .int s1) (ty := .boolean) (C := RX1) (T := TX1) (N := 14) hx hb hts hinX1 tyX1 tyX1_ok nmX1 hown hK.1 hP hD hS 0 rfl rfl 12 (by decide) (hts (.fieldLink RX1 52 "BaselineGrid$Layout" "rounding" "Z") (List.mem_of_getElem? (i := 3) rfl)) (fun _ h9 => h9) rfl (by decide +kernel) (nbool hbv) (fbool hbv) (Nat.le_of_ble_eq_true rfl) dX1_layOut_33 (fun H locs hP hD hS => ?_)
    have hP : va_P D vwCl [(a_t, .inr (1, [.ref a_lineCounts, .ref a_ends, .ref a_overflowing, .ref a_ahead, .ref a_behind, .ref a_setParts, .ref a_baselines, .ref a_lineBlocks, .ref a_reached, .int v_height, .int v_first, .int v_step, .int s1, .int v_cursor])), (a_lineCounts, .inl (cI, 4, .inl v_lineCounts)), (a_ends, .inl (cI, 4, .inl v_ends)), (a_overflowing, .inl (cI, 4, .inl v_overflowing)), (a_ahead, .inl (cI, 64, .inl v_ahead)), (a_behind, .inl (cI, 64, .inl v_behind)), (a_setParts, .inl (cI, 64, .inl v_setParts)), (a_baselines, .inl (cI, 2560, .inl v_baselines)), (a_lineBlocks, .inl (cI, 2560, .inl v_lineBlocks)), (a_p1, .inr (2, [.ref a_p1_cells])), (a_p1_cells, .inl (cI, 393, .inl v_p1_cells))] H := hP
    have hD : va_D A [(a_t, .inr (1, [.ref a_lineCounts, .ref a_ends, .ref a_overflowing, .ref a_ahead, .ref a_behind, .ref a_setParts, .ref a_baselines, .ref a_lineBlocks, .ref a_reached, .int v_height, .int v_first, .int v_step, .int s1, .int v_cursor])), (a_lineCounts, .inl (cI, 4, .inl v_lineCounts)), (a_ends, .inl (cI, 4, .inl v_ends)), (a_overflowing, .inl (cI, 4, .inl v_overflowing)), (a_ahead, .inl (cI, 64, .inl v_ahead)), (a_behind, .inl (cI, 64, .inl v_behind)), (a_setParts, .inl (cI, 64, .inl v_setParts)), (a_baselines, .inl (cI, 2560, .inl v_baselines)), (a_lineBlocks, .inl (cI, 2560, .inl v_lineBlocks)), (a_p1, .inr (2, [.ref a_p1_cells])), (a_p1_cells, .inl (cI, 393, .inl v_p1_cells))] := hD
    refine lv_aload_n hx hb dX1_layOut_36 rfl (lv_at hl 0 rfl) ?_
    refine lv_iload_n hx hb dX1_layOut_37 rfl (lv_at hl 2 rfl) ?_
    refine va_put (D := D) (ci := 1) (v := .int i2) (ty := .int) (C := RX1) (T := TX1) (N := 14) hx hb hts hinX1 tyX1 tyX1_ok nmX1 hown hK.1 hP hD hS 0 rfl rfl 11 (by decide) (hts (.fieldLink RX1 56 "BaselineGrid$Layout" "step" "I") (List.mem_of_getElem? (i := 4) rfl)) (fun _ h9 => h9) rfl (by decide +kernel) rfl rfl (Nat.le_of_ble_eq_true rfl) dX1_layOut_38 (fun H locs hP hD hS => ?_)
    have hP : va_P D vwCl [(a_t, .inr (1, [.ref a_lineCounts, .ref a_ends, .ref a_overflowing, .ref a_ahead, .ref a_behind, .ref a_setParts, .ref a_baselines, .ref a_lineBlocks, .ref a_reached, .int v_height, .int v_first, .int i2, .int s1, .int v_cursor])), (a_lineCounts, .inl (cI, 4, .inl v_lineCounts)), (a_ends, .inl (cI, 4, .inl v_ends)), (a_overflowing, .inl (cI, 4, .inl v_overflowing)), (a_ahead, .inl (cI, 64, .inl v_ahead)), (a_behind, .inl (cI, 64, .inl v_behind)), (a_setParts, .inl (cI, 64, .inl v_setParts)), (a_baselines, .inl (cI, 2560, .inl v_baselines)), (a_lineBlocks, .inl (cI, 2560, .inl v_lineBlocks)), (a_p1, .inr (2, [.ref a_p1_cells])), (a_p1_cells, .inl (cI, 393, .inl v_p1_cells))] H := hP
    have hD : va_D A [(a_t, .inr (1, [.ref a_lineCounts, .ref a_ends, .ref a_overflowing, .ref a_ahead, .ref a_behind, .ref a_setParts, .ref a_baselines, .ref a_lineBlocks, .ref a_reached, .int v_height, .int v_first, .int i2, .int s1, .int v_cursor])), (a_lineCounts, .inl (cI, 4, .inl v_lineCounts)), (a_ends, .inl (cI, 4, .inl v_ends)), (a_overflowing, .inl (cI, 4, .inl v_overflowing)), (a_ahead, .inl (cI, 64, .inl v_ahead)), (a_behind, .inl (cI, 64, .inl v_behind)), (a_setParts, .inl (cI, 64, .inl v_setParts)), (a_baselines, .inl (cI, 2560, .inl v_baselines)), (a_lineBlocks, .inl (cI, 2560, .inl v_lineBlocks)), (a_p1, .inr (2, [.ref a_p1_cells])), (a_p1_cells, .inl (cI, 393, .inl v_p1_cells))] := hD
    refine lv_iconst (v := 0) hx hb dX1_layOut_41 (by decide) ?_
    refine lv_istore_n (lv' := [(3, .int 0), (0, .ref a_t), (1, .ref a_p1), (2, .int i2)]) hx hb dX1_layOut_42 rfl hl (by decide) rfl (fun ls hl => ?_)
    exact J43 v_height v_first i2 s1 Fu 0 v_cursor v_lineCounts v_ends v_overflowing v_ahead v_behind v_setParts v_baselines v_lineBlocks _ _ _ hf (hP.sub (ws' := [(a_t, .inr (1, [.ref a_lineCounts, .ref a_ends, .ref a_overflowing, .ref a_ahead, .ref a_behind, .ref a_setParts, .ref a_baselines, .ref a_lineBlocks, .ref a_reached, .int v_height, .int v_first, .int i2, .int s1, .int v_cursor])), (a_lineCounts, .inl (cI, 4, .inl v_lineCounts)), (a_ends, .inl (cI, 4, .inl v_ends)), (a_overflowing, .inl (cI, 4, .inl v_overflowing)), (a_ahead, .inl (cI, 64, .inl v_ahead)), (a_behind, .inl (cI, 64, .inl v_behind)), (a_setParts, .inl (cI, 64, .inl v_setParts)), (a_baselines, .inl (cI, 2560, .inl v_baselines)), (a_lineBlocks, .inl (cI, 2560, .inl v_lineBlocks)), (a_p1, .inr (2, [.ref a_p1_cells])), (a_p1_cells, .inl (cI, 393, .inl v_p1_cells))]) [0, 1, 2, 3, 4, 5, 6, 7, 8, 9, 10] rfl) (hD.sub (ws' := [(a_t, .inr (1, [.ref a_lineCounts, .ref a_ends, .ref a_overflowing, .ref a_ahead, .ref a_behind, .ref a_setParts, .ref a_baselines, .ref a_lineBlocks, .ref a_reached, .int v_height, .int v_first, .int i2, .int s1, .int v_cursor])), (a_lineCounts, .inl (cI, 4, .inl v_lineCounts)), (a_ends, .inl (cI, 4, .inl v_ends)), (a_overflowing, .inl (cI, 4, .inl v_overflowing)), (a_ahead, .inl (cI, 64, .inl v_ahead)), (a_behind, .inl (cI, 64, .inl v_behind)), (a_setParts, .inl (cI, 64, .inl v_setParts)), (a_baselines, .inl (cI, 2560, .inl v_baselines)), (a_lineBlocks, .inl (cI, 2560, .inl v_lineBlocks)), (a_p1, .inr (2, [.ref a_p1_cells])), (a_p1_cells, .inl (cI, 393, .inl v_p1_cells))]) [0, 1, 2, 3, 4, 5, 6, 7, 8, 9, 10] (by decide) rfl) hS (lv_sub hl [1, 2, 0] rfl)
  unfold fX1_layOut at hf
  refine lv_aload_n hx hb dX1_layOut_0 rfl (lv_at hl 0 rfl) ?_
  refine lv_aload_n hx hb dX1_layOut_1 rfl (lv_at hl 1 rfl) ?_
  refine lv_iconst (v := 0) hx hb dX1_layOut_2 (by decide) ?_
  replace hf := bd_some hf
  obtain ⟨qo1, hqo1, hf⟩ := hf
  refine g_Vi (As := [.int 0]) (rest := [.ref a_t]) (wr := [(a_t, .inr (1, [.ref a_lineCounts, .ref a_ends, .ref a_overflowing, .ref a_ahead, .ref a_behind, .ref a_setParts, .ref a_baselines, .ref a_lineBlocks, .ref a_reached, .int v_height, .int v_first, .int v_step, .int v_rounding, .int v_cursor])), (a_lineCounts, .inl (cI, 4, .inl v_lineCounts)), (a_ends, .inl (cI, 4, .inl v_ends)), (a_overflowing, .inl (cI, 4, .inl v_overflowing)), (a_ahead, .inl (cI, 64, .inl v_ahead)), (a_behind, .inl (cI, 64, .inl v_behind)), (a_setParts, .inl (cI, 64, .inl v_setParts)), (a_baselines, .inl (cI, 2560, .inl v_baselines)), (a_lineBlocks, .inl (cI, 2560, .inl v_lineBlocks))]) ⟨hx, hb, hml, hown, hts⟩ (k_X2_settingOf l D cI cC a_p1 a_p1_cells 0 v_p1_cells qo1 hqo1) (cwV 1 hts gX1_layOut_X2_settingOf rfl rfl rfl (by decide +kernel) ⟨Nat.le_of_ble_eq_true rfl, Nat.le_of_ble_eq_true rfl⟩) hK hP hD hS hA 2 9 rfl rfl rfl [9, 10] [0, 1, 2, 3, 4, 5, 6, 7, 8] rfl rfl rfl rfl rfl (by decide) rfl hl.1 rfl (Nat.le_of_ble_eq_true rfl) dX1_layOut_3 (Nat.zero_le _) (Nat.zero_le _) (fun H locs hP hD hS => ?_)
  have hP : va_P D vwCl [(a_t, .inr (1, [.ref a_lineCounts, .ref a_ends, .ref a_overflowing, .ref a_ahead, .ref a_behind, .ref a_setParts, .ref a_baselines, .ref a_lineBlocks, .ref a_reached, .int v_height, .int v_first, .int v_step, .int v_rounding, .int v_cursor])), (a_lineCounts, .inl (cI, 4, .inl v_lineCounts)), (a_ends, .inl (cI, 4, .inl v_ends)), (a_overflowing, .inl (cI, 4, .inl v_overflowing)), (a_ahead, .inl (cI, 64, .inl v_ahead)), (a_behind, .inl (cI, 64, .inl v_behind)), (a_setParts, .inl (cI, 64, .inl v_setParts)), (a_baselines, .inl (cI, 2560, .inl v_baselines)), (a_lineBlocks, .inl (cI, 2560, .inl v_lineBlocks)), (a_p1, .inr (2, [.ref a_p1_cells])), (a_p1_cells, .inl (cI, 393, .inl v_p1_cells))] H := hP
  have hD : va_D A [(a_t, .inr (1, [.ref a_lineCounts, .ref a_ends, .ref a_overflowing, .ref a_ahead, .ref a_behind, .ref a_setParts, .ref a_baselines, .ref a_lineBlocks, .ref a_reached, .int v_height, .int v_first, .int v_step, .int v_rounding, .int v_cursor])), (a_lineCounts, .inl (cI, 4, .inl v_lineCounts)), (a_ends, .inl (cI, 4, .inl v_ends)), (a_overflowing, .inl (cI, 4, .inl v_overflowing)), (a_ahead, .inl (cI, 64, .inl v_ahead)), (a_behind, .inl (cI, 64, .inl v_behind)), (a_setParts, .inl (cI, 64, .inl v_setParts)), (a_baselines, .inl (cI, 2560, .inl v_baselines)), (a_lineBlocks, .inl (cI, 2560, .inl v_lineBlocks)), (a_p1, .inr (2, [.ref a_p1_cells])), (a_p1_cells, .inl (cI, 393, .inl v_p1_cells))] := hD
  refine va_put (D := D) (ci := 1) (v := .int qo1) (ty := .int) (C := RX1) (T := TX1) (N := 14) hx hb hts hinX1 tyX1 tyX1_ok nmX1 hown hK.1 hP hD hS 0 rfl rfl 9 (by decide) (hts (.fieldLink RX1 45 "BaselineGrid$Layout" "height" "I") (List.mem_of_getElem? (i := 1) rfl)) (fun _ h9 => h9) rfl (by decide +kernel) rfl rfl (Nat.le_of_ble_eq_true rfl) dX1_layOut_6 (fun H locs hP hD hS => ?_)
  have hP : va_P D vwCl [(a_t, .inr (1, [.ref a_lineCounts, .ref a_ends, .ref a_overflowing, .ref a_ahead, .ref a_behind, .ref a_setParts, .ref a_baselines, .ref a_lineBlocks, .ref a_reached, .int qo1, .int v_first, .int v_step, .int v_rounding, .int v_cursor])), (a_lineCounts, .inl (cI, 4, .inl v_lineCounts)), (a_ends, .inl (cI, 4, .inl v_ends)), (a_overflowing, .inl (cI, 4, .inl v_overflowing)), (a_ahead, .inl (cI, 64, .inl v_ahead)), (a_behind, .inl (cI, 64, .inl v_behind)), (a_setParts, .inl (cI, 64, .inl v_setParts)), (a_baselines, .inl (cI, 2560, .inl v_baselines)), (a_lineBlocks, .inl (cI, 2560, .inl v_lineBlocks)), (a_p1, .inr (2, [.ref a_p1_cells])), (a_p1_cells, .inl (cI, 393, .inl v_p1_cells))] H := hP
  have hD : va_D A [(a_t, .inr (1, [.ref a_lineCounts, .ref a_ends, .ref a_overflowing, .ref a_ahead, .ref a_behind, .ref a_setParts, .ref a_baselines, .ref a_lineBlocks, .ref a_reached, .int qo1, .int v_first, .int v_step, .int v_rounding, .int v_cursor])), (a_lineCounts, .inl (cI, 4, .inl v_lineCounts)), (a_ends, .inl (cI, 4, .inl v_ends)), (a_overflowing, .inl (cI, 4, .inl v_overflowing)), (a_ahead, .inl (cI, 64, .inl v_ahead)), (a_behind, .inl (cI, 64, .inl v_behind)), (a_setParts, .inl (cI, 64, .inl v_setParts)), (a_baselines, .inl (cI, 2560, .inl v_baselines)), (a_lineBlocks, .inl (cI, 2560, .inl v_lineBlocks)), (a_p1, .inr (2, [.ref a_p1_cells])), (a_p1_cells, .inl (cI, 393, .inl v_p1_cells))] := hD
  refine lv_aload_n hx hb dX1_layOut_9 rfl (lv_at hl 0 rfl) ?_
  refine lv_aload_n hx hb dX1_layOut_10 rfl (lv_at hl 1 rfl) ?_
  refine lv_iconst (v := 1) hx hb dX1_layOut_11 (by decide) ?_
  replace hf := bd_some hf
  obtain ⟨qo2, hqo2, hf⟩ := hf
  refine g_Vi (As := [.int 1]) (rest := [.ref a_t]) (wr := [(a_t, .inr (1, [.ref a_lineCounts, .ref a_ends, .ref a_overflowing, .ref a_ahead, .ref a_behind, .ref a_setParts, .ref a_baselines, .ref a_lineBlocks, .ref a_reached, .int qo1, .int v_first, .int v_step, .int v_rounding, .int v_cursor])), (a_lineCounts, .inl (cI, 4, .inl v_lineCounts)), (a_ends, .inl (cI, 4, .inl v_ends)), (a_overflowing, .inl (cI, 4, .inl v_overflowing)), (a_ahead, .inl (cI, 64, .inl v_ahead)), (a_behind, .inl (cI, 64, .inl v_behind)), (a_setParts, .inl (cI, 64, .inl v_setParts)), (a_baselines, .inl (cI, 2560, .inl v_baselines)), (a_lineBlocks, .inl (cI, 2560, .inl v_lineBlocks))]) ⟨hx, hb, hml, hown, hts⟩ (k_X2_settingOf l D cI cC a_p1 a_p1_cells 1 v_p1_cells qo2 hqo2) (cwV 1 hts gX1_layOut_X2_settingOf rfl rfl rfl (by decide +kernel) ⟨Nat.le_of_ble_eq_true rfl, Nat.le_of_ble_eq_true rfl⟩) hK hP hD hS hA 2 9 rfl rfl rfl [9, 10] [0, 1, 2, 3, 4, 5, 6, 7, 8] rfl rfl rfl rfl rfl (by decide) rfl hl.1 rfl (Nat.le_of_ble_eq_true rfl) dX1_layOut_12 (Nat.zero_le _) (Nat.zero_le _) (fun H locs hP hD hS => ?_)
  have hP : va_P D vwCl [(a_t, .inr (1, [.ref a_lineCounts, .ref a_ends, .ref a_overflowing, .ref a_ahead, .ref a_behind, .ref a_setParts, .ref a_baselines, .ref a_lineBlocks, .ref a_reached, .int qo1, .int v_first, .int v_step, .int v_rounding, .int v_cursor])), (a_lineCounts, .inl (cI, 4, .inl v_lineCounts)), (a_ends, .inl (cI, 4, .inl v_ends)), (a_overflowing, .inl (cI, 4, .inl v_overflowing)), (a_ahead, .inl (cI, 64, .inl v_ahead)), (a_behind, .inl (cI, 64, .inl v_behind)), (a_setParts, .inl (cI, 64, .inl v_setParts)), (a_baselines, .inl (cI, 2560, .inl v_baselines)), (a_lineBlocks, .inl (cI, 2560, .inl v_lineBlocks)), (a_p1, .inr (2, [.ref a_p1_cells])), (a_p1_cells, .inl (cI, 393, .inl v_p1_cells))] H := hP
  have hD : va_D A [(a_t, .inr (1, [.ref a_lineCounts, .ref a_ends, .ref a_overflowing, .ref a_ahead, .ref a_behind, .ref a_setParts, .ref a_baselines, .ref a_lineBlocks, .ref a_reached, .int qo1, .int v_first, .int v_step, .int v_rounding, .int v_cursor])), (a_lineCounts, .inl (cI, 4, .inl v_lineCounts)), (a_ends, .inl (cI, 4, .inl v_ends)), (a_overflowing, .inl (cI, 4, .inl v_overflowing)), (a_ahead, .inl (cI, 64, .inl v_ahead)), (a_behind, .inl (cI, 64, .inl v_behind)), (a_setParts, .inl (cI, 64, .inl v_setParts)), (a_baselines, .inl (cI, 2560, .inl v_baselines)), (a_lineBlocks, .inl (cI, 2560, .inl v_lineBlocks)), (a_p1, .inr (2, [.ref a_p1_cells])), (a_p1_cells, .inl (cI, 393, .inl v_p1_cells))] := hD
  refine va_put (D := D) (ci := 1) (v := .int qo2) (ty := .int) (C := RX1) (T := TX1) (N := 14) hx hb hts hinX1 tyX1 tyX1_ok nmX1 hown hK.1 hP hD hS 0 rfl rfl 10 (by decide) (hts (.fieldLink RX1 49 "BaselineGrid$Layout" "first" "I") (List.mem_of_getElem? (i := 2) rfl)) (fun _ h9 => h9) rfl (by decide +kernel) rfl rfl (Nat.le_of_ble_eq_true rfl) dX1_layOut_15 (fun H locs hP hD hS => ?_)
  have hP : va_P D vwCl [(a_t, .inr (1, [.ref a_lineCounts, .ref a_ends, .ref a_overflowing, .ref a_ahead, .ref a_behind, .ref a_setParts, .ref a_baselines, .ref a_lineBlocks, .ref a_reached, .int qo1, .int qo2, .int v_step, .int v_rounding, .int v_cursor])), (a_lineCounts, .inl (cI, 4, .inl v_lineCounts)), (a_ends, .inl (cI, 4, .inl v_ends)), (a_overflowing, .inl (cI, 4, .inl v_overflowing)), (a_ahead, .inl (cI, 64, .inl v_ahead)), (a_behind, .inl (cI, 64, .inl v_behind)), (a_setParts, .inl (cI, 64, .inl v_setParts)), (a_baselines, .inl (cI, 2560, .inl v_baselines)), (a_lineBlocks, .inl (cI, 2560, .inl v_lineBlocks)), (a_p1, .inr (2, [.ref a_p1_cells])), (a_p1_cells, .inl (cI, 393, .inl v_p1_cells))] H := hP
  have hD : va_D A [(a_t, .inr (1, [.ref a_lineCounts, .ref a_ends, .ref a_overflowing, .ref a_ahead, .ref a_behind, .ref a_setParts, .ref a_baselines, .ref a_lineBlocks, .ref a_reached, .int qo1, .int qo2, .int v_step, .int v_rounding, .int v_cursor])), (a_lineCounts, .inl (cI, 4, .inl v_lineCounts)), (a_ends, .inl (cI, 4, .inl v_ends)), (a_overflowing, .inl (cI, 4, .inl v_overflowing)), (a_ahead, .inl (cI, 64, .inl v_ahead)), (a_behind, .inl (cI, 64, .inl v_behind)), (a_setParts, .inl (cI, 64, .inl v_setParts)), (a_baselines, .inl (cI, 2560, .inl v_baselines)), (a_lineBlocks, .inl (cI, 2560, .inl v_lineBlocks)), (a_p1, .inr (2, [.ref a_p1_cells])), (a_p1_cells, .inl (cI, 393, .inl v_p1_cells))] := hD
  refine lv_aload_n hx hb dX1_layOut_18 rfl (lv_at hl 0 rfl) ?_
  refine lv_aload_n hx hb dX1_layOut_19 rfl (lv_at hl 1 rfl) ?_
  refine lv_iconst (v := 3) hx hb dX1_layOut_20 (by decide) ?_
  replace hf := bd_some hf
  obtain ⟨qo3, hqo3, hf⟩ := hf
  refine g_Vi (As := [.int 3]) (rest := [.ref a_t]) (wr := [(a_t, .inr (1, [.ref a_lineCounts, .ref a_ends, .ref a_overflowing, .ref a_ahead, .ref a_behind, .ref a_setParts, .ref a_baselines, .ref a_lineBlocks, .ref a_reached, .int qo1, .int qo2, .int v_step, .int v_rounding, .int v_cursor])), (a_lineCounts, .inl (cI, 4, .inl v_lineCounts)), (a_ends, .inl (cI, 4, .inl v_ends)), (a_overflowing, .inl (cI, 4, .inl v_overflowing)), (a_ahead, .inl (cI, 64, .inl v_ahead)), (a_behind, .inl (cI, 64, .inl v_behind)), (a_setParts, .inl (cI, 64, .inl v_setParts)), (a_baselines, .inl (cI, 2560, .inl v_baselines)), (a_lineBlocks, .inl (cI, 2560, .inl v_lineBlocks))]) ⟨hx, hb, hml, hown, hts⟩ (k_X2_settingOf l D cI cC a_p1 a_p1_cells 3 v_p1_cells qo3 hqo3) (cwV 1 hts gX1_layOut_X2_settingOf rfl rfl rfl (by decide +kernel) ⟨Nat.le_of_ble_eq_true rfl, Nat.le_of_ble_eq_true rfl⟩) hK hP hD hS hA 2 9 rfl rfl rfl [9, 10] [0, 1, 2, 3, 4, 5, 6, 7, 8] rfl rfl rfl rfl rfl (by decide) rfl hl.1 rfl (Nat.le_of_ble_eq_true rfl) dX1_layOut_21 (Nat.zero_le _) (Nat.zero_le _) (fun H locs hP hD hS => ?_)
  have hP : va_P D vwCl [(a_t, .inr (1, [.ref a_lineCounts, .ref a_ends, .ref a_overflowing, .ref a_ahead, .ref a_behind, .ref a_setParts, .ref a_baselines, .ref a_lineBlocks, .ref a_reached, .int qo1, .int qo2, .int v_step, .int v_rounding, .int v_cursor])), (a_lineCounts, .inl (cI, 4, .inl v_lineCounts)), (a_ends, .inl (cI, 4, .inl v_ends)), (a_overflowing, .inl (cI, 4, .inl v_overflowing)), (a_ahead, .inl (cI, 64, .inl v_ahead)), (a_behind, .inl (cI, 64, .inl v_behind)), (a_setParts, .inl (cI, 64, .inl v_setParts)), (a_baselines, .inl (cI, 2560, .inl v_baselines)), (a_lineBlocks, .inl (cI, 2560, .inl v_lineBlocks)), (a_p1, .inr (2, [.ref a_p1_cells])), (a_p1_cells, .inl (cI, 393, .inl v_p1_cells))] H := hP
  have hD : va_D A [(a_t, .inr (1, [.ref a_lineCounts, .ref a_ends, .ref a_overflowing, .ref a_ahead, .ref a_behind, .ref a_setParts, .ref a_baselines, .ref a_lineBlocks, .ref a_reached, .int qo1, .int qo2, .int v_step, .int v_rounding, .int v_cursor])), (a_lineCounts, .inl (cI, 4, .inl v_lineCounts)), (a_ends, .inl (cI, 4, .inl v_ends)), (a_overflowing, .inl (cI, 4, .inl v_overflowing)), (a_ahead, .inl (cI, 64, .inl v_ahead)), (a_behind, .inl (cI, 64, .inl v_behind)), (a_setParts, .inl (cI, 64, .inl v_setParts)), (a_baselines, .inl (cI, 2560, .inl v_baselines)), (a_lineBlocks, .inl (cI, 2560, .inl v_lineBlocks)), (a_p1, .inr (2, [.ref a_p1_cells])), (a_p1_cells, .inl (cI, 393, .inl v_p1_cells))] := hD
  refine lv_iconst (v := 1) hx hb dX1_layOut_24 (by decide) ?_
  refine lv_icmp_ne (tgt := 32) hx hb dX1_layOut_25 (by decide) (fun hc => ?_) (fun hc => ?_)
  · replace hf := ineg hc hf
    refine lv_iconst (v := 0) hx hb dX1_layOut_32 (by decide) ?_
    exact J33 0 qo1 qo2 v_step v_rounding v_cursor v_lineCounts v_ends v_overflowing v_ahead v_behind v_setParts v_baselines v_lineBlocks _ _ _ hf (hP.sub (ws' := [(a_t, .inr (1, [.ref a_lineCounts, .ref a_ends, .ref a_overflowing, .ref a_ahead, .ref a_behind, .ref a_setParts, .ref a_baselines, .ref a_lineBlocks, .ref a_reached, .int qo1, .int qo2, .int v_step, .int v_rounding, .int v_cursor])), (a_lineCounts, .inl (cI, 4, .inl v_lineCounts)), (a_ends, .inl (cI, 4, .inl v_ends)), (a_overflowing, .inl (cI, 4, .inl v_overflowing)), (a_ahead, .inl (cI, 64, .inl v_ahead)), (a_behind, .inl (cI, 64, .inl v_behind)), (a_setParts, .inl (cI, 64, .inl v_setParts)), (a_baselines, .inl (cI, 2560, .inl v_baselines)), (a_lineBlocks, .inl (cI, 2560, .inl v_lineBlocks)), (a_p1, .inr (2, [.ref a_p1_cells])), (a_p1_cells, .inl (cI, 393, .inl v_p1_cells))]) [0, 1, 2, 3, 4, 5, 6, 7, 8, 9, 10] rfl) (hD.sub (ws' := [(a_t, .inr (1, [.ref a_lineCounts, .ref a_ends, .ref a_overflowing, .ref a_ahead, .ref a_behind, .ref a_setParts, .ref a_baselines, .ref a_lineBlocks, .ref a_reached, .int qo1, .int qo2, .int v_step, .int v_rounding, .int v_cursor])), (a_lineCounts, .inl (cI, 4, .inl v_lineCounts)), (a_ends, .inl (cI, 4, .inl v_ends)), (a_overflowing, .inl (cI, 4, .inl v_overflowing)), (a_ahead, .inl (cI, 64, .inl v_ahead)), (a_behind, .inl (cI, 64, .inl v_behind)), (a_setParts, .inl (cI, 64, .inl v_setParts)), (a_baselines, .inl (cI, 2560, .inl v_baselines)), (a_lineBlocks, .inl (cI, 2560, .inl v_lineBlocks)), (a_p1, .inr (2, [.ref a_p1_cells])), (a_p1_cells, .inl (cI, 393, .inl v_p1_cells))]) [0, 1, 2, 3, 4, 5, 6, 7, 8, 9, 10] (by decide) rfl) hS (lv_sub hl [0, 1, 2] rfl)
  · replace hf := ip hc hf
    refine lv_iconst (v := 1) hx hb dX1_layOut_28 (by decide) ?_
    refine lv_goto (tgt := 33) hx hb dX1_layOut_29 (by decide) ?_
    exact J33 1 qo1 qo2 v_step v_rounding v_cursor v_lineCounts v_ends v_overflowing v_ahead v_behind v_setParts v_baselines v_lineBlocks _ _ _ hf (hP.sub (ws' := [(a_t, .inr (1, [.ref a_lineCounts, .ref a_ends, .ref a_overflowing, .ref a_ahead, .ref a_behind, .ref a_setParts, .ref a_baselines, .ref a_lineBlocks, .ref a_reached, .int qo1, .int qo2, .int v_step, .int v_rounding, .int v_cursor])), (a_lineCounts, .inl (cI, 4, .inl v_lineCounts)), (a_ends, .inl (cI, 4, .inl v_ends)), (a_overflowing, .inl (cI, 4, .inl v_overflowing)), (a_ahead, .inl (cI, 64, .inl v_ahead)), (a_behind, .inl (cI, 64, .inl v_behind)), (a_setParts, .inl (cI, 64, .inl v_setParts)), (a_baselines, .inl (cI, 2560, .inl v_baselines)), (a_lineBlocks, .inl (cI, 2560, .inl v_lineBlocks)), (a_p1, .inr (2, [.ref a_p1_cells])), (a_p1_cells, .inl (cI, 393, .inl v_p1_cells))]) [0, 1, 2, 3, 4, 5, 6, 7, 8, 9, 10] rfl) (hD.sub (ws' := [(a_t, .inr (1, [.ref a_lineCounts, .ref a_ends, .ref a_overflowing, .ref a_ahead, .ref a_behind, .ref a_setParts, .ref a_baselines, .ref a_lineBlocks, .ref a_reached, .int qo1, .int qo2, .int v_step, .int v_rounding, .int v_cursor])), (a_lineCounts, .inl (cI, 4, .inl v_lineCounts)), (a_ends, .inl (cI, 4, .inl v_ends)), (a_overflowing, .inl (cI, 4, .inl v_overflowing)), (a_ahead, .inl (cI, 64, .inl v_ahead)), (a_behind, .inl (cI, 64, .inl v_behind)), (a_setParts, .inl (cI, 64, .inl v_setParts)), (a_baselines, .inl (cI, 2560, .inl v_baselines)), (a_lineBlocks, .inl (cI, 2560, .inl v_lineBlocks)), (a_p1, .inr (2, [.ref a_p1_cells])), (a_p1_cells, .inl (cI, 393, .inl v_p1_cells))]) [0, 1, 2, 3, 4, 5, 6, 7, 8, 9, 10] (by decide) rfl) hS (lv_sub hl [0, 1, 2] rfl)
def fX1_driftAt (i1 : Int32) (v_first : Int32) (v_step : Int32) : Option (Int32) :=
  bd (fX1_positiveStep v_step) fun qo1 => bd (fJ9_floorMod_7cf53 (i1 - v_first) qo1) fun qo2 => some qo2
def rX1_driftAt : Room := { frames := 1, cells := 0, slots := 0, locals := 22 }
theorem hin_X1_driftAt_X1 : ∀ w ∈ wsX10, w ∈ wsX1_driftAt := fun _ h => List.mem_cons_of_mem _ (List.mem_append_right _ (h))
set_option maxHeartbeats 4000000 in
set_option maxRecDepth 100000 in
theorem k_X1_driftAt (l : Launch) (D : va_G) (cI cC : ClassId) (a_t : Nat) (a_lineCounts : Nat) (a_ends : Nat) (a_overflowing : Nat) (a_ahead : Nat) (a_behind : Nat) (a_setParts : Nat) (a_baselines : Nat) (a_lineBlocks : Nat) (a_reached : Nat) (i1 : Int32) (v_height : Int32) (v_first : Int32) (v_step : Int32) (v_rounding : Int32) (v_cursor : Int32) (o : Int32) (hf : fX1_driftAt i1 v_first v_step = some o) : CTi l yX1_driftAt wsX1_driftAt rX1_driftAt D cI cC [.ref a_t, .int i1] [(a_t, .inr (1, [.ref a_lineCounts, .ref a_ends, .ref a_overflowing, .ref a_ahead, .ref a_behind, .ref a_setParts, .ref a_baselines, .ref a_lineBlocks, .ref a_reached, .int v_height, .int v_first, .int v_step, .int v_rounding, .int v_cursor]))] [(a_t, .inr (1, [.ref a_lineCounts, .ref a_ends, .ref a_overflowing, .ref a_ahead, .ref a_behind, .ref a_setParts, .ref a_baselines, .ref a_lineBlocks, .ref a_reached, .int v_height, .int v_first, .int v_step, .int v_rounding, .int v_cursor]))] o := by
  refine CTi_of (cc := cX1_driftAt) (maxL := 2) (ty := .int) (by decide) rfl (Nat.le_of_ble_eq_true rfl) ?_
  intro p e s m args below meth c A Q ls C0 hA hP hD hl hret
  obtain ⟨hx, hb, hml, hts, hown, hK⟩ := C0
  have hown : s.vm.findClass RX1 = some m.cls := hown
  have hS : va_S A s.heap s.heap [] := va_S.rf
  have hl : lv_has ls 2 [(0, .ref a_t), (1, .int i1)] := hl
  have hinX1 := hin_X1_driftAt_X1
  unfold fX1_driftAt at hf
  refine lv_iload_n hx hb dX1_driftAt_0 rfl (lv_at hl 1 rfl) ?_
  refine lv_aload_n hx hb dX1_driftAt_1 rfl (lv_at hl 0 rfl) ?_
  refine va_get (D := D) (ci := 1) (v := .int v_first) (C := RX1) (T := TX1) (N := 14) hx hb hts hinX1 hown hK.1 hP 0 rfl rfl 10 (by decide) (hts (.fieldLink RX1 49 "BaselineGrid$Layout" "first" "I") (List.mem_of_getElem? (i := 1) rfl)) (fun _ h9 => h9) rfl dX1_driftAt_2 ?_
  refine lv_isub hx hb dX1_driftAt_5 ?_
  refine lv_aload_n hx hb dX1_driftAt_6 rfl (lv_at hl 0 rfl) ?_
  replace hf := bd_some hf
  obtain ⟨qo1, hqo1, hf⟩ := hf
  refine g_Vi (As := []) (rest := [.int (i1 - v_first)]) (wr := []) ⟨hx, hb, hml, hown, hts⟩ (k_X1_positiveStep l D cI cC a_t a_lineCounts a_ends a_overflowing a_ahead a_behind a_setParts a_baselines a_lineBlocks a_reached v_height v_first v_step v_rounding v_cursor qo1 hqo1) (cwV 0 hts gX1_driftAt_X1_positiveStep rfl rfl rfl (by decide +kernel) ⟨Nat.le_of_ble_eq_true rfl, Nat.le_of_ble_eq_true rfl⟩) hK hP hD hS hA 1 0 rfl rfl rfl [0] [] rfl rfl rfl rfl rfl (by decide) rfl hl.1 rfl (Nat.le_of_ble_eq_true rfl) dX1_driftAt_7 (Nat.zero_le _) (Nat.zero_le _) (fun H locs hP hD hS => ?_)
  have hP : va_P D vwCl [(a_t, .inr (1, [.ref a_lineCounts, .ref a_ends, .ref a_overflowing, .ref a_ahead, .ref a_behind, .ref a_setParts, .ref a_baselines, .ref a_lineBlocks, .ref a_reached, .int v_height, .int v_first, .int v_step, .int v_rounding, .int v_cursor]))] H := hP
  have hD : va_D A [(a_t, .inr (1, [.ref a_lineCounts, .ref a_ends, .ref a_overflowing, .ref a_ahead, .ref a_behind, .ref a_setParts, .ref a_baselines, .ref a_lineBlocks, .ref a_reached, .int v_height, .int v_first, .int v_step, .int v_rounding, .int v_cursor]))] := hD
  replace hf := bd_some hf
  obtain ⟨qo2, hqo2, hf⟩ := hf
  refine g_Si (As := [.int (i1 - v_first), .int qo1]) (rest := []) (wr := [(a_t, .inr (1, [.ref a_lineCounts, .ref a_ends, .ref a_overflowing, .ref a_ahead, .ref a_behind, .ref a_setParts, .ref a_baselines, .ref a_lineBlocks, .ref a_reached, .int v_height, .int v_first, .int v_step, .int v_rounding, .int v_cursor]))]) ⟨hx, hb, hml, hown, hts⟩ (k_J9_floorMod_7cf53 l D cI cC (i1 - v_first) qo1 qo2 hqo2) (va_cwS 2 hts gX1_driftAt_J9_floorMod_7cf53 rfl rfl rfl (by decide +kernel) ⟨Nat.le_of_ble_eq_true rfl, Nat.le_of_ble_eq_true rfl⟩) hK hP hD hS hA [] [0] rfl rfl rfl rfl rfl (by decide) rfl hl.1 rfl (Nat.le_of_ble_eq_true rfl) dX1_driftAt_10 (Nat.zero_le _) (Nat.zero_le _) (fun H locs hP hD hS => ?_)
  have hP : va_P D vwCl [(a_t, .inr (1, [.ref a_lineCounts, .ref a_ends, .ref a_overflowing, .ref a_ahead, .ref a_behind, .ref a_setParts, .ref a_baselines, .ref a_lineBlocks, .ref a_reached, .int v_height, .int v_first, .int v_step, .int v_rounding, .int v_cursor]))] H := hP
  have hD : va_D A [(a_t, .inr (1, [.ref a_lineCounts, .ref a_ends, .ref a_overflowing, .ref a_ahead, .ref a_behind, .ref a_setParts, .ref a_baselines, .ref a_lineBlocks, .ref a_reached, .int v_height, .int v_first, .int v_step, .int v_rounding, .int v_cursor]))] := hD
  have ho := Option.some.inj hf
  subst ho
  exact hret dX1_driftAt_13 rfl (hP.sub (ws' := [(a_t, .inr (1, [.ref a_lineCounts, .ref a_ends, .ref a_overflowing, .ref a_ahead, .ref a_behind, .ref a_setParts, .ref a_baselines, .ref a_lineBlocks, .ref a_reached, .int v_height, .int v_first, .int v_step, .int v_rounding, .int v_cursor]))]) [0] rfl) (hD.sub (ws' := [(a_t, .inr (1, [.ref a_lineCounts, .ref a_ends, .ref a_overflowing, .ref a_ahead, .ref a_behind, .ref a_setParts, .ref a_baselines, .ref a_lineBlocks, .ref a_reached, .int v_height, .int v_first, .int v_step, .int v_rounding, .int v_cursor]))]) [0] (by decide) rfl) hS
def fX1_isOnGrid (i1 : Int32) (v_first : Int32) (v_step : Int32) : Option (Int32) :=
  if i1 < v_first then (some 0) else (bd (fX1_driftAt i1 v_first v_step) fun qo1 => if qo1 = 0 then (some 1) else (some 0))
def rX1_isOnGrid : Room := { frames := 2, cells := 0, slots := 0, locals := 43 }
theorem hin_X1_isOnGrid_X1 : ∀ w ∈ wsX10, w ∈ wsX1_isOnGrid := fun _ h => List.mem_cons_of_mem _ (List.mem_append_right _ (h))
set_option maxHeartbeats 4000000 in
set_option maxRecDepth 100000 in
theorem k_X1_isOnGrid (l : Launch) (D : va_G) (cI cC : ClassId) (a_t : Nat) (a_lineCounts : Nat) (a_ends : Nat) (a_overflowing : Nat) (a_ahead : Nat) (a_behind : Nat) (a_setParts : Nat) (a_baselines : Nat) (a_lineBlocks : Nat) (a_reached : Nat) (i1 : Int32) (v_height : Int32) (v_first : Int32) (v_step : Int32) (v_rounding : Int32) (v_cursor : Int32) (o : Int32) (hf : fX1_isOnGrid i1 v_first v_step = some o) : CTi l yX1_isOnGrid wsX1_isOnGrid rX1_isOnGrid D cI cC [.ref a_t, .int i1] [(a_t, .inr (1, [.ref a_lineCounts, .ref a_ends, .ref a_overflowing, .ref a_ahead, .ref a_behind, .ref a_setParts, .ref a_baselines, .ref a_lineBlocks, .ref a_reached, .int v_height, .int v_first, .int v_step, .int v_rounding, .int v_cursor]))] [(a_t, .inr (1, [.ref a_lineCounts, .ref a_ends, .ref a_overflowing, .ref a_ahead, .ref a_behind, .ref a_setParts, .ref a_baselines, .ref a_lineBlocks, .ref a_reached, .int v_height, .int v_first, .int v_step, .int v_rounding, .int v_cursor]))] o := by
  refine CTi_of (cc := cX1_isOnGrid) (maxL := 2) (ty := .boolean) (by decide) rfl (Nat.le_of_ble_eq_true rfl) ?_
  intro p e s m args below meth c A Q ls C0 hA hP hD hl hret
  obtain ⟨hx, hb, hml, hts, hown, hK⟩ := C0
  have hown : s.vm.findClass RX1 = some m.cls := hown
  have hS : va_S A s.heap s.heap [] := va_S.rf
  have hl : lv_has ls 2 [(0, .ref a_t), (1, .int i1)] := hl
  have hinX1 := hin_X1_isOnGrid_X1
  unfold fX1_isOnGrid at hf
  refine lv_iload_n hx hb dX1_isOnGrid_0 rfl (lv_at hl 1 rfl) ?_
  refine lv_aload_n hx hb dX1_isOnGrid_1 rfl (lv_at hl 0 rfl) ?_
  refine va_get (D := D) (ci := 1) (v := .int v_first) (C := RX1) (T := TX1) (N := 14) hx hb hts hinX1 hown hK.1 hP 0 rfl rfl 10 (by decide) (hts (.fieldLink RX1 49 "BaselineGrid$Layout" "first" "I") (List.mem_of_getElem? (i := 1) rfl)) (fun _ h9 => h9) rfl dX1_isOnGrid_2 ?_
  refine lv_icmp_lt (tgt := 20) hx hb dX1_isOnGrid_5 (by decide) (fun hc => ?_) (fun hc => ?_)
  · replace hf := ip hc hf
    refine lv_iconst (v := 0) hx hb dX1_isOnGrid_20 (by decide) ?_
    have ho := Option.some.inj hf
    subst ho
    exact hret dX1_isOnGrid_21 (nbool (Or.inl rfl)) (hP.sub (ws' := [(a_t, .inr (1, [.ref a_lineCounts, .ref a_ends, .ref a_overflowing, .ref a_ahead, .ref a_behind, .ref a_setParts, .ref a_baselines, .ref a_lineBlocks, .ref a_reached, .int v_height, .int v_first, .int v_step, .int v_rounding, .int v_cursor]))]) [0] rfl) (hD.sub (ws' := [(a_t, .inr (1, [.ref a_lineCounts, .ref a_ends, .ref a_overflowing, .ref a_ahead, .ref a_behind, .ref a_setParts, .ref a_baselines, .ref a_lineBlocks, .ref a_reached, .int v_height, .int v_first, .int v_step, .int v_rounding, .int v_cursor]))]) [0] (by decide) rfl) hS
  · replace hf := ineg hc hf
    refine lv_aload_n hx hb dX1_isOnGrid_8 rfl (lv_at hl 0 rfl) ?_
    refine lv_iload_n hx hb dX1_isOnGrid_9 rfl (lv_at hl 1 rfl) ?_
    replace hf := bd_some hf
    obtain ⟨qo1, hqo1, hf⟩ := hf
    refine g_Vi (As := [.int i1]) (rest := []) (wr := []) ⟨hx, hb, hml, hown, hts⟩ (k_X1_driftAt l D cI cC a_t a_lineCounts a_ends a_overflowing a_ahead a_behind a_setParts a_baselines a_lineBlocks a_reached i1 v_height v_first v_step v_rounding v_cursor qo1 hqo1) (cwV 1 hts gX1_isOnGrid_X1_driftAt rfl rfl rfl (by decide +kernel) ⟨Nat.le_of_ble_eq_true rfl, Nat.le_of_ble_eq_true rfl⟩) hK hP hD hS hA 1 0 rfl rfl rfl [0] [] rfl rfl rfl rfl rfl (by decide) rfl hl.1 rfl (Nat.le_of_ble_eq_true rfl) dX1_isOnGrid_10 (Nat.zero_le _) (Nat.zero_le _) (fun H locs hP hD hS => ?_)
    have hP : va_P D vwCl [(a_t, .inr (1, [.ref a_lineCounts, .ref a_ends, .ref a_overflowing, .ref a_ahead, .ref a_behind, .ref a_setParts, .ref a_baselines, .ref a_lineBlocks, .ref a_reached, .int v_height, .int v_first, .int v_step, .int v_rounding, .int v_cursor]))] H := hP
    have hD : va_D A [(a_t, .inr (1, [.ref a_lineCounts, .ref a_ends, .ref a_overflowing, .ref a_ahead, .ref a_behind, .ref a_setParts, .ref a_baselines, .ref a_lineBlocks, .ref a_reached, .int v_height, .int v_first, .int v_step, .int v_rounding, .int v_cursor]))] := hD
    refine lv_if_ne (tgt := 20) hx hb dX1_isOnGrid_13 (by decide) (fun hc => ?_) (fun hc => ?_)
    · replace hf := ineg hc hf
      refine lv_iconst (v := 0) hx hb dX1_isOnGrid_20 (by decide) ?_
      have ho := Option.some.inj hf
      subst ho
      exact hret dX1_isOnGrid_21 (nbool (Or.inl rfl)) (hP.sub (ws' := [(a_t, .inr (1, [.ref a_lineCounts, .ref a_ends, .ref a_overflowing, .ref a_ahead, .ref a_behind, .ref a_setParts, .ref a_baselines, .ref a_lineBlocks, .ref a_reached, .int v_height, .int v_first, .int v_step, .int v_rounding, .int v_cursor]))]) [0] rfl) (hD.sub (ws' := [(a_t, .inr (1, [.ref a_lineCounts, .ref a_ends, .ref a_overflowing, .ref a_ahead, .ref a_behind, .ref a_setParts, .ref a_baselines, .ref a_lineBlocks, .ref a_reached, .int v_height, .int v_first, .int v_step, .int v_rounding, .int v_cursor]))]) [0] (by decide) rfl) hS
    · replace hf := ip hc hf
      refine lv_iconst (v := 1) hx hb dX1_isOnGrid_16 (by decide) ?_
      refine lv_goto (tgt := 21) hx hb dX1_isOnGrid_17 (by decide) ?_
      have ho := Option.some.inj hf
      subst ho
      exact hret dX1_isOnGrid_21 (nbool (Or.inr rfl)) (hP.sub (ws' := [(a_t, .inr (1, [.ref a_lineCounts, .ref a_ends, .ref a_overflowing, .ref a_ahead, .ref a_behind, .ref a_setParts, .ref a_baselines, .ref a_lineBlocks, .ref a_reached, .int v_height, .int v_first, .int v_step, .int v_rounding, .int v_cursor]))]) [0] rfl) (hD.sub (ws' := [(a_t, .inr (1, [.ref a_lineCounts, .ref a_ends, .ref a_overflowing, .ref a_ahead, .ref a_behind, .ref a_setParts, .ref a_baselines, .ref a_lineBlocks, .ref a_reached, .int v_height, .int v_first, .int v_step, .int v_rounding, .int v_cursor]))]) [0] (by decide) rfl) hS
def fX1_baselinesOnPage (v_height : Int32) (v_first : Int32) (v_step : Int32) : Option (Int32) :=
  if v_first ≤ v_height then (bd (fX1_positiveStep v_step) fun qo1 => adiv (v_height - v_first) qo1 fun qx2 => some (qx2 + 1)) else (some 0)
def rX1_baselinesOnPage : Room := { frames := 1, cells := 0, slots := 0, locals := 20 }
theorem hin_X1_baselinesOnPage_X1 : ∀ w ∈ wsX10, w ∈ wsX1_baselinesOnPage := fun _ h => List.mem_cons_of_mem _ (List.mem_append_right _ (h))
set_option maxHeartbeats 4000000 in
set_option maxRecDepth 100000 in
theorem k_X1_baselinesOnPage (l : Launch) (D : va_G) (cI cC : ClassId) (a_t : Nat) (a_lineCounts : Nat) (a_ends : Nat) (a_overflowing : Nat) (a_ahead : Nat) (a_behind : Nat) (a_setParts : Nat) (a_baselines : Nat) (a_lineBlocks : Nat) (a_reached : Nat) (v_height : Int32) (v_first : Int32) (v_step : Int32) (v_rounding : Int32) (v_cursor : Int32) (o : Int32) (hf : fX1_baselinesOnPage v_height v_first v_step = some o) : CTi l yX1_baselinesOnPage wsX1_baselinesOnPage rX1_baselinesOnPage D cI cC [.ref a_t] [(a_t, .inr (1, [.ref a_lineCounts, .ref a_ends, .ref a_overflowing, .ref a_ahead, .ref a_behind, .ref a_setParts, .ref a_baselines, .ref a_lineBlocks, .ref a_reached, .int v_height, .int v_first, .int v_step, .int v_rounding, .int v_cursor]))] [(a_t, .inr (1, [.ref a_lineCounts, .ref a_ends, .ref a_overflowing, .ref a_ahead, .ref a_behind, .ref a_setParts, .ref a_baselines, .ref a_lineBlocks, .ref a_reached, .int v_height, .int v_first, .int v_step, .int v_rounding, .int v_cursor]))] o := by
  refine CTi_of (cc := cX1_baselinesOnPage) (maxL := 1) (ty := .int) (by decide) rfl (Nat.le_of_ble_eq_true rfl) ?_
  intro p e s m args below meth c A Q ls C0 hA hP hD hl hret
  obtain ⟨hx, hb, hml, hts, hown, hK⟩ := C0
  have hown : s.vm.findClass RX1 = some m.cls := hown
  have hS : va_S A s.heap s.heap [] := va_S.rf
  have hl : lv_has ls 1 [(0, .ref a_t)] := hl
  have hinX1 := hin_X1_baselinesOnPage_X1
  unfold fX1_baselinesOnPage at hf
  refine lv_aload_n hx hb dX1_baselinesOnPage_0 rfl (lv_at hl 0 rfl) ?_
  refine va_get (D := D) (ci := 1) (v := .int v_first) (C := RX1) (T := TX1) (N := 14) hx hb hts hinX1 hown hK.1 hP 0 rfl rfl 10 (by decide) (hts (.fieldLink RX1 49 "BaselineGrid$Layout" "first" "I") (List.mem_of_getElem? (i := 1) rfl)) (fun _ h9 => h9) rfl dX1_baselinesOnPage_1 ?_
  refine lv_aload_n hx hb dX1_baselinesOnPage_4 rfl (lv_at hl 0 rfl) ?_
  refine va_get (D := D) (ci := 1) (v := .int v_height) (C := RX1) (T := TX1) (N := 14) hx hb hts hinX1 hown hK.1 hP 0 rfl rfl 9 (by decide) (hts (.fieldLink RX1 45 "BaselineGrid$Layout" "height" "I") (List.mem_of_getElem? (i := 2) rfl)) (fun _ h9 => h9) rfl dX1_baselinesOnPage_5 ?_
  refine lv_icmp_le (tgt := 15) hx hb dX1_baselinesOnPage_8 (by decide) (fun hc => ?_) (fun hc => ?_)
  · replace hf := ip hc hf
    refine lv_aload_n hx hb dX1_baselinesOnPage_15 rfl (lv_at hl 0 rfl) ?_
    refine va_get (D := D) (ci := 1) (v := .int v_height) (C := RX1) (T := TX1) (N := 14) hx hb hts hinX1 hown hK.1 hP 0 rfl rfl 9 (by decide) (hts (.fieldLink RX1 45 "BaselineGrid$Layout" "height" "I") (List.mem_of_getElem? (i := 2) rfl)) (fun _ h9 => h9) rfl dX1_baselinesOnPage_16 ?_
    refine lv_aload_n hx hb dX1_baselinesOnPage_19 rfl (lv_at hl 0 rfl) ?_
    refine va_get (D := D) (ci := 1) (v := .int v_first) (C := RX1) (T := TX1) (N := 14) hx hb hts hinX1 hown hK.1 hP 0 rfl rfl 10 (by decide) (hts (.fieldLink RX1 49 "BaselineGrid$Layout" "first" "I") (List.mem_of_getElem? (i := 1) rfl)) (fun _ h9 => h9) rfl dX1_baselinesOnPage_20 ?_
    refine lv_isub hx hb dX1_baselinesOnPage_23 ?_
    refine lv_aload_n hx hb dX1_baselinesOnPage_24 rfl (lv_at hl 0 rfl) ?_
    replace hf := bd_some hf
    obtain ⟨qo1, hqo1, hf⟩ := hf
    refine g_Vi (As := []) (rest := [.int (v_height - v_first)]) (wr := []) ⟨hx, hb, hml, hown, hts⟩ (k_X1_positiveStep l D cI cC a_t a_lineCounts a_ends a_overflowing a_ahead a_behind a_setParts a_baselines a_lineBlocks a_reached v_height v_first v_step v_rounding v_cursor qo1 hqo1) (cwV 0 hts gX1_baselinesOnPage_X1_positiveStep rfl rfl rfl (by decide +kernel) ⟨Nat.le_of_ble_eq_true rfl, Nat.le_of_ble_eq_true rfl⟩) hK hP hD hS hA 1 0 rfl rfl rfl [0] [] rfl rfl rfl rfl rfl (by decide) rfl hl.1 rfl (Nat.le_of_ble_eq_true rfl) dX1_baselinesOnPage_25 (Nat.zero_le _) (Nat.zero_le _) (fun H locs hP hD hS => ?_)
    have hP : va_P D vwCl [(a_t, .inr (1, [.ref a_lineCounts, .ref a_ends, .ref a_overflowing, .ref a_ahead, .ref a_behind, .ref a_setParts, .ref a_baselines, .ref a_lineBlocks, .ref a_reached, .int v_height, .int v_first, .int v_step, .int v_rounding, .int v_cursor]))] H := hP
    have hD : va_D A [(a_t, .inr (1, [.ref a_lineCounts, .ref a_ends, .ref a_overflowing, .ref a_ahead, .ref a_behind, .ref a_setParts, .ref a_baselines, .ref a_lineBlocks, .ref a_reached, .int v_height, .int v_first, .int v_step, .int v_rounding, .int v_cursor]))] := hD
    refine g_idiv hx hb hf dX1_baselinesOnPage_28 (fun qx2 hf => ?_)
    refine lv_iconst (v := 1) hx hb dX1_baselinesOnPage_29 (by decide) ?_
    refine lv_iadd hx hb dX1_baselinesOnPage_30 ?_
    have ho := Option.some.inj hf
    subst ho
    exact hret dX1_baselinesOnPage_31 rfl (hP.sub (ws' := [(a_t, .inr (1, [.ref a_lineCounts, .ref a_ends, .ref a_overflowing, .ref a_ahead, .ref a_behind, .ref a_setParts, .ref a_baselines, .ref a_lineBlocks, .ref a_reached, .int v_height, .int v_first, .int v_step, .int v_rounding, .int v_cursor]))]) [0] rfl) (hD.sub (ws' := [(a_t, .inr (1, [.ref a_lineCounts, .ref a_ends, .ref a_overflowing, .ref a_ahead, .ref a_behind, .ref a_setParts, .ref a_baselines, .ref a_lineBlocks, .ref a_reached, .int v_height, .int v_first, .int v_step, .int v_rounding, .int v_cursor]))]) [0] (by decide) rfl) hS
  · replace hf := ineg hc hf
    refine lv_iconst (v := 0) hx hb dX1_baselinesOnPage_11 (by decide) ?_
    refine lv_goto (tgt := 31) hx hb dX1_baselinesOnPage_12 (by decide) ?_
    have ho := Option.some.inj hf
    subst ho
    exact hret dX1_baselinesOnPage_31 rfl (hP.sub (ws' := [(a_t, .inr (1, [.ref a_lineCounts, .ref a_ends, .ref a_overflowing, .ref a_ahead, .ref a_behind, .ref a_setParts, .ref a_baselines, .ref a_lineBlocks, .ref a_reached, .int v_height, .int v_first, .int v_step, .int v_rounding, .int v_cursor]))]) [0] rfl) (hD.sub (ws' := [(a_t, .inr (1, [.ref a_lineCounts, .ref a_ends, .ref a_overflowing, .ref a_ahead, .ref a_behind, .ref a_setParts, .ref a_baselines, .ref a_lineBlocks, .ref a_reached, .int v_height, .int v_first, .int v_step, .int v_rounding, .int v_cursor]))]) [0] (by decide) rfl) hS
def fX1_isBlockPlace (i0 : Int32) (i1 : Int32) : Option (Int32) :=
  bd (fX4_isColumn i0) fun qo1 => if qo1 = 0 then (some 0) else (if i1 < 0 then (some 0) else (if 16 ≤ i1 then (some 0) else (some 1)))
def rX1_isBlockPlace : Room := { frames := 1, cells := 0, slots := 0, locals := 20 }
set_option maxHeartbeats 4000000 in
set_option maxRecDepth 100000 in
theorem k_X1_isBlockPlace (l : Launch) (D : va_G) (cI cC : ClassId) (i0 : Int32) (i1 : Int32) (o : Int32) (hf : fX1_isBlockPlace i0 i1 = some o) : CTi l yX1_isBlockPlace wsX1_isBlockPlace rX1_isBlockPlace D cI cC [.int i0, .int i1] [] [] o := by
  refine CTi_of (cc := cX1_isBlockPlace) (maxL := 2) (ty := .boolean) (by decide) rfl (Nat.le_of_ble_eq_true rfl) ?_
  intro p e s m args below meth c A Q ls C0 hA hP hD hl hret
  obtain ⟨hx, hb, hml, hts, hown, hK⟩ := C0
  have hown : s.vm.findClass RX1 = some m.cls := hown
  have hS : va_S A s.heap s.heap [] := va_S.rf
  have hl : lv_has ls 2 [(0, .int i0), (1, .int i1)] := hl
  unfold fX1_isBlockPlace at hf
  refine lv_iload_n hx hb dX1_isBlockPlace_0 rfl (lv_at hl 0 rfl) ?_
  replace hf := bd_some hf
  obtain ⟨qo1, hqo1, hf⟩ := hf
  refine g_Ni (As := [.int i0]) (rest := []) (wr := []) (host := RX4) ⟨hx, hb, hml, hown, hts⟩ (k_X4_isColumn l D cI cC i0 qo1 hqo1) (va_cnB 1 hts gX1_isBlockPlace_X4_isColumn_n63 rfl rfl rfl (hK.2.1 _ (List.mem_of_getElem? (i := 4) rfl)) (hts (.initialized RX4) (List.mem_of_getElem? (i := 2) rfl)) (by decide +kernel) ⟨Nat.le_of_ble_eq_true rfl, Nat.le_of_ble_eq_true rfl⟩) (hts (.static yX4_isColumn) (List.mem_of_getElem? (i := 1) rfl)) hK hP hD hS hA [] [] rfl rfl rfl rfl rfl (by decide) rfl hl.1 rfl (Nat.le_of_ble_eq_true rfl) dX1_isBlockPlace_1 (Nat.zero_le _) (Nat.zero_le _) (fun H locs hP hD hS => ?_)
  have hP : va_P D vwCl [] H := hP
  have hD : va_D A [] := hD
  refine lv_if_eq (tgt := 21) hx hb dX1_isBlockPlace_4 (by decide) (fun hc => ?_) (fun hc => ?_)
  · replace hf := ip hc hf
    refine lv_iconst (v := 0) hx hb dX1_isBlockPlace_21 (by decide) ?_
    have ho := Option.some.inj hf
    subst ho
    exact hret dX1_isBlockPlace_22 (nbool (Or.inl rfl)) (hP.sub (ws' := []) [] rfl) (hD.sub (ws' := []) [] (by decide) rfl) hS
  · replace hf := ineg hc hf
    refine lv_iload_n hx hb dX1_isBlockPlace_7 rfl (lv_at hl 1 rfl) ?_
    refine lv_if_lt (tgt := 21) hx hb dX1_isBlockPlace_8 (by decide) (fun hc => ?_) (fun hc => ?_)
    · replace hf := ip hc hf
      refine lv_iconst (v := 0) hx hb dX1_isBlockPlace_21 (by decide) ?_
      have ho := Option.some.inj hf
      subst ho
      exact hret dX1_isBlockPlace_22 (nbool (Or.inl rfl)) (hP.sub (ws' := []) [] rfl) (hD.sub (ws' := []) [] (by decide) rfl) hS
    · replace hf := ineg hc hf
      refine lv_iload_n hx hb dX1_isBlockPlace_11 rfl (lv_at hl 1 rfl) ?_
      refine lv_bipush (v := 16) hx hb dX1_isBlockPlace_12 (by decide) ?_
      refine lv_icmp_ge (tgt := 21) hx hb dX1_isBlockPlace_14 (by decide) (fun hc => ?_) (fun hc => ?_)
      · replace hf := ip hc hf
        refine lv_iconst (v := 0) hx hb dX1_isBlockPlace_21 (by decide) ?_
        have ho := Option.some.inj hf
        subst ho
        exact hret dX1_isBlockPlace_22 (nbool (Or.inl rfl)) (hP.sub (ws' := []) [] rfl) (hD.sub (ws' := []) [] (by decide) rfl) hS
      · replace hf := ineg hc hf
        refine lv_iconst (v := 1) hx hb dX1_isBlockPlace_17 (by decide) ?_
        refine lv_goto (tgt := 22) hx hb dX1_isBlockPlace_18 (by decide) ?_
        have ho := Option.some.inj hf
        subst ho
        exact hret dX1_isBlockPlace_22 (nbool (Or.inr rfl)) (hP.sub (ws' := []) [] rfl) (hD.sub (ws' := []) [] (by decide) rfl) hS
def fX1_cursorAhead (i1 : Int32) (i2 : Int32) (v_ahead : Nat → Int32) : Option (Int32) :=
  bd (fX1_isBlockPlace i1 i2) fun qo1 => if qo1 = 0 then (some ((-5))) else (aget 64 v_ahead ((i1 * 16) + i2) fun qx2 => some qx2)
def rX1_cursorAhead : Room := { frames := 2, cells := 0, slots := 0, locals := 41 }
theorem hin_X1_cursorAhead_X1 : ∀ w ∈ wsX10, w ∈ wsX1_cursorAhead := fun _ h => List.mem_cons_of_mem _ (List.mem_append_right _ (h))
set_option maxHeartbeats 4000000 in
set_option maxRecDepth 100000 in
theorem k_X1_cursorAhead (l : Launch) (D : va_G) (cI cC : ClassId) (a_t : Nat) (a_lineCounts : Nat) (a_ends : Nat) (a_overflowing : Nat) (a_ahead : Nat) (a_behind : Nat) (a_setParts : Nat) (a_baselines : Nat) (a_lineBlocks : Nat) (a_reached : Nat) (i1 : Int32) (i2 : Int32) (v_height : Int32) (v_first : Int32) (v_step : Int32) (v_rounding : Int32) (v_cursor : Int32) (v_ahead : Nat → Int32) (o : Int32) (hf : fX1_cursorAhead i1 i2 v_ahead = some o) : CTi l yX1_cursorAhead wsX1_cursorAhead rX1_cursorAhead D cI cC [.ref a_t, .int i1, .int i2] [(a_t, .inr (1, [.ref a_lineCounts, .ref a_ends, .ref a_overflowing, .ref a_ahead, .ref a_behind, .ref a_setParts, .ref a_baselines, .ref a_lineBlocks, .ref a_reached, .int v_height, .int v_first, .int v_step, .int v_rounding, .int v_cursor])), (a_ahead, .inl (cI, 64, .inl v_ahead))] [(a_t, .inr (1, [.ref a_lineCounts, .ref a_ends, .ref a_overflowing, .ref a_ahead, .ref a_behind, .ref a_setParts, .ref a_baselines, .ref a_lineBlocks, .ref a_reached, .int v_height, .int v_first, .int v_step, .int v_rounding, .int v_cursor])), (a_ahead, .inl (cI, 64, .inl v_ahead))] o := by
  refine CTi_of (cc := cX1_cursorAhead) (maxL := 3) (ty := .int) (by decide) rfl (Nat.le_of_ble_eq_true rfl) ?_
  intro p e s m args below meth c A Q ls C0 hA hP hD hl hret
  obtain ⟨hx, hb, hml, hts, hown, hK⟩ := C0
  have hown : s.vm.findClass RX1 = some m.cls := hown
  have hS : va_S A s.heap s.heap [] := va_S.rf
  have hl : lv_has ls 3 [(0, .ref a_t), (1, .int i1), (2, .int i2)] := hl
  have hinX1 := hin_X1_cursorAhead_X1
  unfold fX1_cursorAhead at hf
  refine lv_iload_n hx hb dX1_cursorAhead_0 rfl (lv_at hl 1 rfl) ?_
  refine lv_iload_n hx hb dX1_cursorAhead_1 rfl (lv_at hl 2 rfl) ?_
  replace hf := bd_some hf
  obtain ⟨qo1, hqo1, hf⟩ := hf
  refine g_Si (As := [.int i1, .int i2]) (rest := []) (wr := [(a_t, .inr (1, [.ref a_lineCounts, .ref a_ends, .ref a_overflowing, .ref a_ahead, .ref a_behind, .ref a_setParts, .ref a_baselines, .ref a_lineBlocks, .ref a_reached, .int v_height, .int v_first, .int v_step, .int v_rounding, .int v_cursor])), (a_ahead, .inl (cI, 64, .inl v_ahead))]) ⟨hx, hb, hml, hown, hts⟩ (k_X1_isBlockPlace l D cI cC i1 i2 qo1 hqo1) (va_cwS 2 hts gX1_cursorAhead_X1_isBlockPlace rfl rfl rfl (by decide +kernel) ⟨Nat.le_of_ble_eq_true rfl, Nat.le_of_ble_eq_true rfl⟩) hK hP hD hS hA [] [0, 1] rfl rfl rfl rfl rfl (by decide) rfl hl.1 rfl (Nat.le_of_ble_eq_true rfl) dX1_cursorAhead_2 (Nat.zero_le _) (Nat.zero_le _) (fun H locs hP hD hS => ?_)
  have hP : va_P D vwCl [(a_t, .inr (1, [.ref a_lineCounts, .ref a_ends, .ref a_overflowing, .ref a_ahead, .ref a_behind, .ref a_setParts, .ref a_baselines, .ref a_lineBlocks, .ref a_reached, .int v_height, .int v_first, .int v_step, .int v_rounding, .int v_cursor])), (a_ahead, .inl (cI, 64, .inl v_ahead))] H := hP
  have hD : va_D A [(a_t, .inr (1, [.ref a_lineCounts, .ref a_ends, .ref a_overflowing, .ref a_ahead, .ref a_behind, .ref a_setParts, .ref a_baselines, .ref a_lineBlocks, .ref a_reached, .int v_height, .int v_first, .int v_step, .int v_rounding, .int v_cursor])), (a_ahead, .inl (cI, 64, .inl v_ahead))] := hD
  refine lv_if_eq (tgt := 22) hx hb dX1_cursorAhead_5 (by decide) (fun hc => ?_) (fun hc => ?_)
  · replace hf := ip hc hf
    refine lv_bipush (v := (-5)) hx hb dX1_cursorAhead_22 (by decide) ?_
    have ho := Option.some.inj hf
    subst ho
    exact hret dX1_cursorAhead_24 rfl (hP.sub (ws' := [(a_t, .inr (1, [.ref a_lineCounts, .ref a_ends, .ref a_overflowing, .ref a_ahead, .ref a_behind, .ref a_setParts, .ref a_baselines, .ref a_lineBlocks, .ref a_reached, .int v_height, .int v_first, .int v_step, .int v_rounding, .int v_cursor])), (a_ahead, .inl (cI, 64, .inl v_ahead))]) [0, 1] rfl) (hD.sub (ws' := [(a_t, .inr (1, [.ref a_lineCounts, .ref a_ends, .ref a_overflowing, .ref a_ahead, .ref a_behind, .ref a_setParts, .ref a_baselines, .ref a_lineBlocks, .ref a_reached, .int v_height, .int v_first, .int v_step, .int v_rounding, .int v_cursor])), (a_ahead, .inl (cI, 64, .inl v_ahead))]) [0, 1] (by decide) rfl) hS
  · replace hf := ineg hc hf
    refine lv_aload_n hx hb dX1_cursorAhead_8 rfl (lv_at hl 0 rfl) ?_
    refine va_get (D := D) (ci := 1) (v := .ref a_ahead) (C := RX1) (T := TX1) (N := 14) hx hb hts hinX1 hown hK.1 hP 0 rfl rfl 3 (by decide) (hts (.fieldLink RX1 21 "BaselineGrid$Layout" "ahead" "[I") (List.mem_of_getElem? (i := 1) rfl)) (fun _ h9 => h9) rfl dX1_cursorAhead_9 ?_
    refine lv_iload_n hx hb dX1_cursorAhead_12 rfl (lv_at hl 1 rfl) ?_
    refine lv_bipush (v := 16) hx hb dX1_cursorAhead_13 (by decide) ?_
    refine lv_imul hx hb dX1_cursorAhead_15 ?_
    refine lv_iload_n hx hb dX1_cursorAhead_16 rfl (lv_at hl 2 rfl) ?_
    refine lv_iadd hx hb dX1_cursorAhead_17 ?_
    refine g_iald hx hb hK.1 hP 1 0 rfl rfl hf dX1_cursorAhead_18 (fun qx2 hf => ?_)
    refine lv_goto (tgt := 24) hx hb dX1_cursorAhead_19 (by decide) ?_
    have ho := Option.some.inj hf
    subst ho
    exact hret dX1_cursorAhead_24 rfl (hP.sub (ws' := [(a_t, .inr (1, [.ref a_lineCounts, .ref a_ends, .ref a_overflowing, .ref a_ahead, .ref a_behind, .ref a_setParts, .ref a_baselines, .ref a_lineBlocks, .ref a_reached, .int v_height, .int v_first, .int v_step, .int v_rounding, .int v_cursor])), (a_ahead, .inl (cI, 64, .inl v_ahead))]) [0, 1] rfl) (hD.sub (ws' := [(a_t, .inr (1, [.ref a_lineCounts, .ref a_ends, .ref a_overflowing, .ref a_ahead, .ref a_behind, .ref a_setParts, .ref a_baselines, .ref a_lineBlocks, .ref a_reached, .int v_height, .int v_first, .int v_step, .int v_rounding, .int v_cursor])), (a_ahead, .inl (cI, 64, .inl v_ahead))]) [0, 1] (by decide) rfl) hS
def fX1_cursorBehind (i1 : Int32) (i2 : Int32) (v_behind : Nat → Int32) : Option (Int32) :=
  bd (fX1_isBlockPlace i1 i2) fun qo1 => if qo1 = 0 then (some ((-5))) else (aget 64 v_behind ((i1 * 16) + i2) fun qx2 => some qx2)
def rX1_cursorBehind : Room := { frames := 2, cells := 0, slots := 0, locals := 41 }
theorem hin_X1_cursorBehind_X1 : ∀ w ∈ wsX10, w ∈ wsX1_cursorBehind := fun _ h => List.mem_cons_of_mem _ (List.mem_append_right _ (h))
set_option maxHeartbeats 4000000 in
set_option maxRecDepth 100000 in
theorem k_X1_cursorBehind (l : Launch) (D : va_G) (cI cC : ClassId) (a_t : Nat) (a_lineCounts : Nat) (a_ends : Nat) (a_overflowing : Nat) (a_ahead : Nat) (a_behind : Nat) (a_setParts : Nat) (a_baselines : Nat) (a_lineBlocks : Nat) (a_reached : Nat) (i1 : Int32) (i2 : Int32) (v_height : Int32) (v_first : Int32) (v_step : Int32) (v_rounding : Int32) (v_cursor : Int32) (v_behind : Nat → Int32) (o : Int32) (hf : fX1_cursorBehind i1 i2 v_behind = some o) : CTi l yX1_cursorBehind wsX1_cursorBehind rX1_cursorBehind D cI cC [.ref a_t, .int i1, .int i2] [(a_t, .inr (1, [.ref a_lineCounts, .ref a_ends, .ref a_overflowing, .ref a_ahead, .ref a_behind, .ref a_setParts, .ref a_baselines, .ref a_lineBlocks, .ref a_reached, .int v_height, .int v_first, .int v_step, .int v_rounding, .int v_cursor])), (a_behind, .inl (cI, 64, .inl v_behind))] [(a_t, .inr (1, [.ref a_lineCounts, .ref a_ends, .ref a_overflowing, .ref a_ahead, .ref a_behind, .ref a_setParts, .ref a_baselines, .ref a_lineBlocks, .ref a_reached, .int v_height, .int v_first, .int v_step, .int v_rounding, .int v_cursor])), (a_behind, .inl (cI, 64, .inl v_behind))] o := by
  refine CTi_of (cc := cX1_cursorBehind) (maxL := 3) (ty := .int) (by decide) rfl (Nat.le_of_ble_eq_true rfl) ?_
  intro p e s m args below meth c A Q ls C0 hA hP hD hl hret
  obtain ⟨hx, hb, hml, hts, hown, hK⟩ := C0
  have hown : s.vm.findClass RX1 = some m.cls := hown
  have hS : va_S A s.heap s.heap [] := va_S.rf
  have hl : lv_has ls 3 [(0, .ref a_t), (1, .int i1), (2, .int i2)] := hl
  have hinX1 := hin_X1_cursorBehind_X1
  unfold fX1_cursorBehind at hf
  refine lv_iload_n hx hb dX1_cursorBehind_0 rfl (lv_at hl 1 rfl) ?_
  refine lv_iload_n hx hb dX1_cursorBehind_1 rfl (lv_at hl 2 rfl) ?_
  replace hf := bd_some hf
  obtain ⟨qo1, hqo1, hf⟩ := hf
  refine g_Si (As := [.int i1, .int i2]) (rest := []) (wr := [(a_t, .inr (1, [.ref a_lineCounts, .ref a_ends, .ref a_overflowing, .ref a_ahead, .ref a_behind, .ref a_setParts, .ref a_baselines, .ref a_lineBlocks, .ref a_reached, .int v_height, .int v_first, .int v_step, .int v_rounding, .int v_cursor])), (a_behind, .inl (cI, 64, .inl v_behind))]) ⟨hx, hb, hml, hown, hts⟩ (k_X1_isBlockPlace l D cI cC i1 i2 qo1 hqo1) (va_cwS 2 hts gX1_cursorBehind_X1_isBlockPlace rfl rfl rfl (by decide +kernel) ⟨Nat.le_of_ble_eq_true rfl, Nat.le_of_ble_eq_true rfl⟩) hK hP hD hS hA [] [0, 1] rfl rfl rfl rfl rfl (by decide) rfl hl.1 rfl (Nat.le_of_ble_eq_true rfl) dX1_cursorBehind_2 (Nat.zero_le _) (Nat.zero_le _) (fun H locs hP hD hS => ?_)
  have hP : va_P D vwCl [(a_t, .inr (1, [.ref a_lineCounts, .ref a_ends, .ref a_overflowing, .ref a_ahead, .ref a_behind, .ref a_setParts, .ref a_baselines, .ref a_lineBlocks, .ref a_reached, .int v_height, .int v_first, .int v_step, .int v_rounding, .int v_cursor])), (a_behind, .inl (cI, 64, .inl v_behind))] H := hP
  have hD : va_D A [(a_t, .inr (1, [.ref a_lineCounts, .ref a_ends, .ref a_overflowing, .ref a_ahead, .ref a_behind, .ref a_setParts, .ref a_baselines, .ref a_lineBlocks, .ref a_reached, .int v_height, .int v_first, .int v_step, .int v_rounding, .int v_cursor])), (a_behind, .inl (cI, 64, .inl v_behind))] := hD
  refine lv_if_eq (tgt := 22) hx hb dX1_cursorBehind_5 (by decide) (fun hc => ?_) (fun hc => ?_)
  · replace hf := ip hc hf
    refine lv_bipush (v := (-5)) hx hb dX1_cursorBehind_22 (by decide) ?_
    have ho := Option.some.inj hf
    subst ho
    exact hret dX1_cursorBehind_24 rfl (hP.sub (ws' := [(a_t, .inr (1, [.ref a_lineCounts, .ref a_ends, .ref a_overflowing, .ref a_ahead, .ref a_behind, .ref a_setParts, .ref a_baselines, .ref a_lineBlocks, .ref a_reached, .int v_height, .int v_first, .int v_step, .int v_rounding, .int v_cursor])), (a_behind, .inl (cI, 64, .inl v_behind))]) [0, 1] rfl) (hD.sub (ws' := [(a_t, .inr (1, [.ref a_lineCounts, .ref a_ends, .ref a_overflowing, .ref a_ahead, .ref a_behind, .ref a_setParts, .ref a_baselines, .ref a_lineBlocks, .ref a_reached, .int v_height, .int v_first, .int v_step, .int v_rounding, .int v_cursor])), (a_behind, .inl (cI, 64, .inl v_behind))]) [0, 1] (by decide) rfl) hS
  · replace hf := ineg hc hf
    refine lv_aload_n hx hb dX1_cursorBehind_8 rfl (lv_at hl 0 rfl) ?_
    refine va_get (D := D) (ci := 1) (v := .ref a_behind) (C := RX1) (T := TX1) (N := 14) hx hb hts hinX1 hown hK.1 hP 0 rfl rfl 4 (by decide) (hts (.fieldLink RX1 24 "BaselineGrid$Layout" "behind" "[I") (List.mem_of_getElem? (i := 1) rfl)) (fun _ h9 => h9) rfl dX1_cursorBehind_9 ?_
    refine lv_iload_n hx hb dX1_cursorBehind_12 rfl (lv_at hl 1 rfl) ?_
    refine lv_bipush (v := 16) hx hb dX1_cursorBehind_13 (by decide) ?_
    refine lv_imul hx hb dX1_cursorBehind_15 ?_
    refine lv_iload_n hx hb dX1_cursorBehind_16 rfl (lv_at hl 2 rfl) ?_
    refine lv_iadd hx hb dX1_cursorBehind_17 ?_
    refine g_iald hx hb hK.1 hP 1 0 rfl rfl hf dX1_cursorBehind_18 (fun qx2 hf => ?_)
    refine lv_goto (tgt := 24) hx hb dX1_cursorBehind_19 (by decide) ?_
    have ho := Option.some.inj hf
    subst ho
    exact hret dX1_cursorBehind_24 rfl (hP.sub (ws' := [(a_t, .inr (1, [.ref a_lineCounts, .ref a_ends, .ref a_overflowing, .ref a_ahead, .ref a_behind, .ref a_setParts, .ref a_baselines, .ref a_lineBlocks, .ref a_reached, .int v_height, .int v_first, .int v_step, .int v_rounding, .int v_cursor])), (a_behind, .inl (cI, 64, .inl v_behind))]) [0, 1] rfl) (hD.sub (ws' := [(a_t, .inr (1, [.ref a_lineCounts, .ref a_ends, .ref a_overflowing, .ref a_ahead, .ref a_behind, .ref a_setParts, .ref a_baselines, .ref a_lineBlocks, .ref a_reached, .int v_height, .int v_first, .int v_step, .int v_rounding, .int v_cursor])), (a_behind, .inl (cI, 64, .inl v_behind))]) [0, 1] (by decide) rfl) hS
def fX1_setPartsOf (i1 : Int32) (i2 : Int32) (v_setParts : Nat → Int32) : Option (Int32) :=
  bd (fX1_isBlockPlace i1 i2) fun qo1 => if qo1 = 0 then (some 0) else (aget 64 v_setParts ((i1 * 16) + i2) fun qx2 => some qx2)
def rX1_setPartsOf : Room := { frames := 2, cells := 0, slots := 0, locals := 41 }
theorem hin_X1_setPartsOf_X1 : ∀ w ∈ wsX10, w ∈ wsX1_setPartsOf := fun _ h => List.mem_cons_of_mem _ (List.mem_append_right _ (h))
set_option maxHeartbeats 4000000 in
set_option maxRecDepth 100000 in
theorem k_X1_setPartsOf (l : Launch) (D : va_G) (cI cC : ClassId) (a_t : Nat) (a_lineCounts : Nat) (a_ends : Nat) (a_overflowing : Nat) (a_ahead : Nat) (a_behind : Nat) (a_setParts : Nat) (a_baselines : Nat) (a_lineBlocks : Nat) (a_reached : Nat) (i1 : Int32) (i2 : Int32) (v_height : Int32) (v_first : Int32) (v_step : Int32) (v_rounding : Int32) (v_cursor : Int32) (v_setParts : Nat → Int32) (o : Int32) (hf : fX1_setPartsOf i1 i2 v_setParts = some o) : CTi l yX1_setPartsOf wsX1_setPartsOf rX1_setPartsOf D cI cC [.ref a_t, .int i1, .int i2] [(a_t, .inr (1, [.ref a_lineCounts, .ref a_ends, .ref a_overflowing, .ref a_ahead, .ref a_behind, .ref a_setParts, .ref a_baselines, .ref a_lineBlocks, .ref a_reached, .int v_height, .int v_first, .int v_step, .int v_rounding, .int v_cursor])), (a_setParts, .inl (cI, 64, .inl v_setParts))] [(a_t, .inr (1, [.ref a_lineCounts, .ref a_ends, .ref a_overflowing, .ref a_ahead, .ref a_behind, .ref a_setParts, .ref a_baselines, .ref a_lineBlocks, .ref a_reached, .int v_height, .int v_first, .int v_step, .int v_rounding, .int v_cursor])), (a_setParts, .inl (cI, 64, .inl v_setParts))] o := by
  refine CTi_of (cc := cX1_setPartsOf) (maxL := 3) (ty := .int) (by decide) rfl (Nat.le_of_ble_eq_true rfl) ?_
  intro p e s m args below meth c A Q ls C0 hA hP hD hl hret
  obtain ⟨hx, hb, hml, hts, hown, hK⟩ := C0
  have hown : s.vm.findClass RX1 = some m.cls := hown
  have hS : va_S A s.heap s.heap [] := va_S.rf
  have hl : lv_has ls 3 [(0, .ref a_t), (1, .int i1), (2, .int i2)] := hl
  have hinX1 := hin_X1_setPartsOf_X1
  unfold fX1_setPartsOf at hf
  refine lv_iload_n hx hb dX1_setPartsOf_0 rfl (lv_at hl 1 rfl) ?_
  refine lv_iload_n hx hb dX1_setPartsOf_1 rfl (lv_at hl 2 rfl) ?_
  replace hf := bd_some hf
  obtain ⟨qo1, hqo1, hf⟩ := hf
  refine g_Si (As := [.int i1, .int i2]) (rest := []) (wr := [(a_t, .inr (1, [.ref a_lineCounts, .ref a_ends, .ref a_overflowing, .ref a_ahead, .ref a_behind, .ref a_setParts, .ref a_baselines, .ref a_lineBlocks, .ref a_reached, .int v_height, .int v_first, .int v_step, .int v_rounding, .int v_cursor])), (a_setParts, .inl (cI, 64, .inl v_setParts))]) ⟨hx, hb, hml, hown, hts⟩ (k_X1_isBlockPlace l D cI cC i1 i2 qo1 hqo1) (va_cwS 2 hts gX1_setPartsOf_X1_isBlockPlace rfl rfl rfl (by decide +kernel) ⟨Nat.le_of_ble_eq_true rfl, Nat.le_of_ble_eq_true rfl⟩) hK hP hD hS hA [] [0, 1] rfl rfl rfl rfl rfl (by decide) rfl hl.1 rfl (Nat.le_of_ble_eq_true rfl) dX1_setPartsOf_2 (Nat.zero_le _) (Nat.zero_le _) (fun H locs hP hD hS => ?_)
  have hP : va_P D vwCl [(a_t, .inr (1, [.ref a_lineCounts, .ref a_ends, .ref a_overflowing, .ref a_ahead, .ref a_behind, .ref a_setParts, .ref a_baselines, .ref a_lineBlocks, .ref a_reached, .int v_height, .int v_first, .int v_step, .int v_rounding, .int v_cursor])), (a_setParts, .inl (cI, 64, .inl v_setParts))] H := hP
  have hD : va_D A [(a_t, .inr (1, [.ref a_lineCounts, .ref a_ends, .ref a_overflowing, .ref a_ahead, .ref a_behind, .ref a_setParts, .ref a_baselines, .ref a_lineBlocks, .ref a_reached, .int v_height, .int v_first, .int v_step, .int v_rounding, .int v_cursor])), (a_setParts, .inl (cI, 64, .inl v_setParts))] := hD
  refine lv_if_eq (tgt := 22) hx hb dX1_setPartsOf_5 (by decide) (fun hc => ?_) (fun hc => ?_)
  · replace hf := ip hc hf
    refine lv_iconst (v := 0) hx hb dX1_setPartsOf_22 (by decide) ?_
    have ho := Option.some.inj hf
    subst ho
    exact hret dX1_setPartsOf_23 rfl (hP.sub (ws' := [(a_t, .inr (1, [.ref a_lineCounts, .ref a_ends, .ref a_overflowing, .ref a_ahead, .ref a_behind, .ref a_setParts, .ref a_baselines, .ref a_lineBlocks, .ref a_reached, .int v_height, .int v_first, .int v_step, .int v_rounding, .int v_cursor])), (a_setParts, .inl (cI, 64, .inl v_setParts))]) [0, 1] rfl) (hD.sub (ws' := [(a_t, .inr (1, [.ref a_lineCounts, .ref a_ends, .ref a_overflowing, .ref a_ahead, .ref a_behind, .ref a_setParts, .ref a_baselines, .ref a_lineBlocks, .ref a_reached, .int v_height, .int v_first, .int v_step, .int v_rounding, .int v_cursor])), (a_setParts, .inl (cI, 64, .inl v_setParts))]) [0, 1] (by decide) rfl) hS
  · replace hf := ineg hc hf
    refine lv_aload_n hx hb dX1_setPartsOf_8 rfl (lv_at hl 0 rfl) ?_
    refine va_get (D := D) (ci := 1) (v := .ref a_setParts) (C := RX1) (T := TX1) (N := 14) hx hb hts hinX1 hown hK.1 hP 0 rfl rfl 5 (by decide) (hts (.fieldLink RX1 27 "BaselineGrid$Layout" "setParts" "[I") (List.mem_of_getElem? (i := 1) rfl)) (fun _ h9 => h9) rfl dX1_setPartsOf_9 ?_
    refine lv_iload_n hx hb dX1_setPartsOf_12 rfl (lv_at hl 1 rfl) ?_
    refine lv_bipush (v := 16) hx hb dX1_setPartsOf_13 (by decide) ?_
    refine lv_imul hx hb dX1_setPartsOf_15 ?_
    refine lv_iload_n hx hb dX1_setPartsOf_16 rfl (lv_at hl 2 rfl) ?_
    refine lv_iadd hx hb dX1_setPartsOf_17 ?_
    refine g_iald hx hb hK.1 hP 1 0 rfl rfl hf dX1_setPartsOf_18 (fun qx2 hf => ?_)
    refine lv_goto (tgt := 23) hx hb dX1_setPartsOf_19 (by decide) ?_
    have ho := Option.some.inj hf
    subst ho
    exact hret dX1_setPartsOf_23 rfl (hP.sub (ws' := [(a_t, .inr (1, [.ref a_lineCounts, .ref a_ends, .ref a_overflowing, .ref a_ahead, .ref a_behind, .ref a_setParts, .ref a_baselines, .ref a_lineBlocks, .ref a_reached, .int v_height, .int v_first, .int v_step, .int v_rounding, .int v_cursor])), (a_setParts, .inl (cI, 64, .inl v_setParts))]) [0, 1] rfl) (hD.sub (ws' := [(a_t, .inr (1, [.ref a_lineCounts, .ref a_ends, .ref a_overflowing, .ref a_ahead, .ref a_behind, .ref a_setParts, .ref a_baselines, .ref a_lineBlocks, .ref a_reached, .int v_height, .int v_first, .int v_step, .int v_rounding, .int v_cursor])), (a_setParts, .inl (cI, 64, .inl v_setParts))]) [0, 1] (by decide) rfl) hS
def fX1_endOf (i1 : Int32) (v_ends : Nat → Int32) : Option (Int32) :=
  bd (fX4_isColumn i1) fun qo1 => if qo1 = 0 then (some 0) else (aget 4 v_ends i1 fun qx2 => some qx2)
def rX1_endOf : Room := { frames := 1, cells := 0, slots := 0, locals := 20 }
theorem hin_X1_endOf_X1 : ∀ w ∈ wsX10, w ∈ wsX1_endOf := fun _ h => List.mem_cons_of_mem _ (List.mem_append_right _ (h))
set_option maxHeartbeats 4000000 in
set_option maxRecDepth 100000 in
theorem k_X1_endOf (l : Launch) (D : va_G) (cI cC : ClassId) (a_t : Nat) (a_lineCounts : Nat) (a_ends : Nat) (a_overflowing : Nat) (a_ahead : Nat) (a_behind : Nat) (a_setParts : Nat) (a_baselines : Nat) (a_lineBlocks : Nat) (a_reached : Nat) (i1 : Int32) (v_height : Int32) (v_first : Int32) (v_step : Int32) (v_rounding : Int32) (v_cursor : Int32) (v_ends : Nat → Int32) (o : Int32) (hf : fX1_endOf i1 v_ends = some o) : CTi l yX1_endOf wsX1_endOf rX1_endOf D cI cC [.ref a_t, .int i1] [(a_t, .inr (1, [.ref a_lineCounts, .ref a_ends, .ref a_overflowing, .ref a_ahead, .ref a_behind, .ref a_setParts, .ref a_baselines, .ref a_lineBlocks, .ref a_reached, .int v_height, .int v_first, .int v_step, .int v_rounding, .int v_cursor])), (a_ends, .inl (cI, 4, .inl v_ends))] [(a_t, .inr (1, [.ref a_lineCounts, .ref a_ends, .ref a_overflowing, .ref a_ahead, .ref a_behind, .ref a_setParts, .ref a_baselines, .ref a_lineBlocks, .ref a_reached, .int v_height, .int v_first, .int v_step, .int v_rounding, .int v_cursor])), (a_ends, .inl (cI, 4, .inl v_ends))] o := by
  refine CTi_of (cc := cX1_endOf) (maxL := 2) (ty := .int) (by decide) rfl (Nat.le_of_ble_eq_true rfl) ?_
  intro p e s m args below meth c A Q ls C0 hA hP hD hl hret
  obtain ⟨hx, hb, hml, hts, hown, hK⟩ := C0
  have hown : s.vm.findClass RX1 = some m.cls := hown
  have hS : va_S A s.heap s.heap [] := va_S.rf
  have hl : lv_has ls 2 [(0, .ref a_t), (1, .int i1)] := hl
  have hinX1 := hin_X1_endOf_X1
  unfold fX1_endOf at hf
  refine lv_iload_n hx hb dX1_endOf_0 rfl (lv_at hl 1 rfl) ?_
  replace hf := bd_some hf
  obtain ⟨qo1, hqo1, hf⟩ := hf
  refine g_Ni (As := [.int i1]) (rest := []) (wr := [(a_t, .inr (1, [.ref a_lineCounts, .ref a_ends, .ref a_overflowing, .ref a_ahead, .ref a_behind, .ref a_setParts, .ref a_baselines, .ref a_lineBlocks, .ref a_reached, .int v_height, .int v_first, .int v_step, .int v_rounding, .int v_cursor])), (a_ends, .inl (cI, 4, .inl v_ends))]) (host := RX4) ⟨hx, hb, hml, hown, hts⟩ (k_X4_isColumn l D cI cC i1 qo1 hqo1) (va_cnB 1 hts gX1_endOf_X4_isColumn_n63 rfl rfl rfl (hK.2.1 _ (List.mem_of_getElem? (i := 4) rfl)) (hts (.initialized RX4) (List.mem_of_getElem? (i := 3) rfl)) (by decide +kernel) ⟨Nat.le_of_ble_eq_true rfl, Nat.le_of_ble_eq_true rfl⟩) (hts (.static yX4_isColumn) (List.mem_of_getElem? (i := 2) rfl)) hK hP hD hS hA [] [0, 1] rfl rfl rfl rfl rfl (by decide) rfl hl.1 rfl (Nat.le_of_ble_eq_true rfl) dX1_endOf_1 (Nat.zero_le _) (Nat.zero_le _) (fun H locs hP hD hS => ?_)
  have hP : va_P D vwCl [(a_t, .inr (1, [.ref a_lineCounts, .ref a_ends, .ref a_overflowing, .ref a_ahead, .ref a_behind, .ref a_setParts, .ref a_baselines, .ref a_lineBlocks, .ref a_reached, .int v_height, .int v_first, .int v_step, .int v_rounding, .int v_cursor])), (a_ends, .inl (cI, 4, .inl v_ends))] H := hP
  have hD : va_D A [(a_t, .inr (1, [.ref a_lineCounts, .ref a_ends, .ref a_overflowing, .ref a_ahead, .ref a_behind, .ref a_setParts, .ref a_baselines, .ref a_lineBlocks, .ref a_reached, .int v_height, .int v_first, .int v_step, .int v_rounding, .int v_cursor])), (a_ends, .inl (cI, 4, .inl v_ends))] := hD
  refine lv_if_eq (tgt := 16) hx hb dX1_endOf_4 (by decide) (fun hc => ?_) (fun hc => ?_)
  · replace hf := ip hc hf
    refine lv_iconst (v := 0) hx hb dX1_endOf_16 (by decide) ?_
    have ho := Option.some.inj hf
    subst ho
    exact hret dX1_endOf_17 rfl (hP.sub (ws' := [(a_t, .inr (1, [.ref a_lineCounts, .ref a_ends, .ref a_overflowing, .ref a_ahead, .ref a_behind, .ref a_setParts, .ref a_baselines, .ref a_lineBlocks, .ref a_reached, .int v_height, .int v_first, .int v_step, .int v_rounding, .int v_cursor])), (a_ends, .inl (cI, 4, .inl v_ends))]) [0, 1] rfl) (hD.sub (ws' := [(a_t, .inr (1, [.ref a_lineCounts, .ref a_ends, .ref a_overflowing, .ref a_ahead, .ref a_behind, .ref a_setParts, .ref a_baselines, .ref a_lineBlocks, .ref a_reached, .int v_height, .int v_first, .int v_step, .int v_rounding, .int v_cursor])), (a_ends, .inl (cI, 4, .inl v_ends))]) [0, 1] (by decide) rfl) hS
  · replace hf := ineg hc hf
    refine lv_aload_n hx hb dX1_endOf_7 rfl (lv_at hl 0 rfl) ?_
    refine va_get (D := D) (ci := 1) (v := .ref a_ends) (C := RX1) (T := TX1) (N := 14) hx hb hts hinX1 hown hK.1 hP 0 rfl rfl 1 (by decide) (hts (.fieldLink RX1 15 "BaselineGrid$Layout" "ends" "[I") (List.mem_of_getElem? (i := 1) rfl)) (fun _ h9 => h9) rfl dX1_endOf_8 ?_
    refine lv_iload_n hx hb dX1_endOf_11 rfl (lv_at hl 1 rfl) ?_
    refine g_iald hx hb hK.1 hP 1 0 rfl rfl hf dX1_endOf_12 (fun qx2 hf => ?_)
    refine lv_goto (tgt := 17) hx hb dX1_endOf_13 (by decide) ?_
    have ho := Option.some.inj hf
    subst ho
    exact hret dX1_endOf_17 rfl (hP.sub (ws' := [(a_t, .inr (1, [.ref a_lineCounts, .ref a_ends, .ref a_overflowing, .ref a_ahead, .ref a_behind, .ref a_setParts, .ref a_baselines, .ref a_lineBlocks, .ref a_reached, .int v_height, .int v_first, .int v_step, .int v_rounding, .int v_cursor])), (a_ends, .inl (cI, 4, .inl v_ends))]) [0, 1] rfl) (hD.sub (ws' := [(a_t, .inr (1, [.ref a_lineCounts, .ref a_ends, .ref a_overflowing, .ref a_ahead, .ref a_behind, .ref a_setParts, .ref a_baselines, .ref a_lineBlocks, .ref a_reached, .int v_height, .int v_first, .int v_step, .int v_rounding, .int v_cursor])), (a_ends, .inl (cI, 4, .inl v_ends))]) [0, 1] (by decide) rfl) hS
def fX1_overflowingBlockOf (i1 : Int32) (v_overflowing : Nat → Int32) : Option (Int32) :=
  bd (fX4_isColumn i1) fun qo1 => if qo1 = 0 then (some ((-5))) else (aget 4 v_overflowing i1 fun qx2 => some qx2)
def rX1_overflowingBlockOf : Room := { frames := 1, cells := 0, slots := 0, locals := 20 }
theorem hin_X1_overflowingBlockOf_X1 : ∀ w ∈ wsX10, w ∈ wsX1_overflowingBlockOf := fun _ h => List.mem_cons_of_mem _ (List.mem_append_right _ (h))
set_option maxHeartbeats 4000000 in
set_option maxRecDepth 100000 in
theorem k_X1_overflowingBlockOf (l : Launch) (D : va_G) (cI cC : ClassId) (a_t : Nat) (a_lineCounts : Nat) (a_ends : Nat) (a_overflowing : Nat) (a_ahead : Nat) (a_behind : Nat) (a_setParts : Nat) (a_baselines : Nat) (a_lineBlocks : Nat) (a_reached : Nat) (i1 : Int32) (v_height : Int32) (v_first : Int32) (v_step : Int32) (v_rounding : Int32) (v_cursor : Int32) (v_overflowing : Nat → Int32) (o : Int32) (hf : fX1_overflowingBlockOf i1 v_overflowing = some o) : CTi l yX1_overflowingBlockOf wsX1_overflowingBlockOf rX1_overflowingBlockOf D cI cC [.ref a_t, .int i1] [(a_t, .inr (1, [.ref a_lineCounts, .ref a_ends, .ref a_overflowing, .ref a_ahead, .ref a_behind, .ref a_setParts, .ref a_baselines, .ref a_lineBlocks, .ref a_reached, .int v_height, .int v_first, .int v_step, .int v_rounding, .int v_cursor])), (a_overflowing, .inl (cI, 4, .inl v_overflowing))] [(a_t, .inr (1, [.ref a_lineCounts, .ref a_ends, .ref a_overflowing, .ref a_ahead, .ref a_behind, .ref a_setParts, .ref a_baselines, .ref a_lineBlocks, .ref a_reached, .int v_height, .int v_first, .int v_step, .int v_rounding, .int v_cursor])), (a_overflowing, .inl (cI, 4, .inl v_overflowing))] o := by
  refine CTi_of (cc := cX1_overflowingBlockOf) (maxL := 2) (ty := .int) (by decide) rfl (Nat.le_of_ble_eq_true rfl) ?_
  intro p e s m args below meth c A Q ls C0 hA hP hD hl hret
  obtain ⟨hx, hb, hml, hts, hown, hK⟩ := C0
  have hown : s.vm.findClass RX1 = some m.cls := hown
  have hS : va_S A s.heap s.heap [] := va_S.rf
  have hl : lv_has ls 2 [(0, .ref a_t), (1, .int i1)] := hl
  have hinX1 := hin_X1_overflowingBlockOf_X1
  unfold fX1_overflowingBlockOf at hf
  refine lv_iload_n hx hb dX1_overflowingBlockOf_0 rfl (lv_at hl 1 rfl) ?_
  replace hf := bd_some hf
  obtain ⟨qo1, hqo1, hf⟩ := hf
  refine g_Ni (As := [.int i1]) (rest := []) (wr := [(a_t, .inr (1, [.ref a_lineCounts, .ref a_ends, .ref a_overflowing, .ref a_ahead, .ref a_behind, .ref a_setParts, .ref a_baselines, .ref a_lineBlocks, .ref a_reached, .int v_height, .int v_first, .int v_step, .int v_rounding, .int v_cursor])), (a_overflowing, .inl (cI, 4, .inl v_overflowing))]) (host := RX4) ⟨hx, hb, hml, hown, hts⟩ (k_X4_isColumn l D cI cC i1 qo1 hqo1) (va_cnB 1 hts gX1_overflowingBlockOf_X4_isColumn_n63 rfl rfl rfl (hK.2.1 _ (List.mem_of_getElem? (i := 4) rfl)) (hts (.initialized RX4) (List.mem_of_getElem? (i := 3) rfl)) (by decide +kernel) ⟨Nat.le_of_ble_eq_true rfl, Nat.le_of_ble_eq_true rfl⟩) (hts (.static yX4_isColumn) (List.mem_of_getElem? (i := 2) rfl)) hK hP hD hS hA [] [0, 1] rfl rfl rfl rfl rfl (by decide) rfl hl.1 rfl (Nat.le_of_ble_eq_true rfl) dX1_overflowingBlockOf_1 (Nat.zero_le _) (Nat.zero_le _) (fun H locs hP hD hS => ?_)
  have hP : va_P D vwCl [(a_t, .inr (1, [.ref a_lineCounts, .ref a_ends, .ref a_overflowing, .ref a_ahead, .ref a_behind, .ref a_setParts, .ref a_baselines, .ref a_lineBlocks, .ref a_reached, .int v_height, .int v_first, .int v_step, .int v_rounding, .int v_cursor])), (a_overflowing, .inl (cI, 4, .inl v_overflowing))] H := hP
  have hD : va_D A [(a_t, .inr (1, [.ref a_lineCounts, .ref a_ends, .ref a_overflowing, .ref a_ahead, .ref a_behind, .ref a_setParts, .ref a_baselines, .ref a_lineBlocks, .ref a_reached, .int v_height, .int v_first, .int v_step, .int v_rounding, .int v_cursor])), (a_overflowing, .inl (cI, 4, .inl v_overflowing))] := hD
  refine lv_if_eq (tgt := 16) hx hb dX1_overflowingBlockOf_4 (by decide) (fun hc => ?_) (fun hc => ?_)
  · replace hf := ip hc hf
    refine lv_bipush (v := (-5)) hx hb dX1_overflowingBlockOf_16 (by decide) ?_
    have ho := Option.some.inj hf
    subst ho
    exact hret dX1_overflowingBlockOf_18 rfl (hP.sub (ws' := [(a_t, .inr (1, [.ref a_lineCounts, .ref a_ends, .ref a_overflowing, .ref a_ahead, .ref a_behind, .ref a_setParts, .ref a_baselines, .ref a_lineBlocks, .ref a_reached, .int v_height, .int v_first, .int v_step, .int v_rounding, .int v_cursor])), (a_overflowing, .inl (cI, 4, .inl v_overflowing))]) [0, 1] rfl) (hD.sub (ws' := [(a_t, .inr (1, [.ref a_lineCounts, .ref a_ends, .ref a_overflowing, .ref a_ahead, .ref a_behind, .ref a_setParts, .ref a_baselines, .ref a_lineBlocks, .ref a_reached, .int v_height, .int v_first, .int v_step, .int v_rounding, .int v_cursor])), (a_overflowing, .inl (cI, 4, .inl v_overflowing))]) [0, 1] (by decide) rfl) hS
  · replace hf := ineg hc hf
    refine lv_aload_n hx hb dX1_overflowingBlockOf_7 rfl (lv_at hl 0 rfl) ?_
    refine va_get (D := D) (ci := 1) (v := .ref a_overflowing) (C := RX1) (T := TX1) (N := 14) hx hb hts hinX1 hown hK.1 hP 0 rfl rfl 2 (by decide) (hts (.fieldLink RX1 18 "BaselineGrid$Layout" "overflowing" "[I") (List.mem_of_getElem? (i := 1) rfl)) (fun _ h9 => h9) rfl dX1_overflowingBlockOf_8 ?_
    refine lv_iload_n hx hb dX1_overflowingBlockOf_11 rfl (lv_at hl 1 rfl) ?_
    refine g_iald hx hb hK.1 hP 1 0 rfl rfl hf dX1_overflowingBlockOf_12 (fun qx2 hf => ?_)
    refine lv_goto (tgt := 18) hx hb dX1_overflowingBlockOf_13 (by decide) ?_
    have ho := Option.some.inj hf
    subst ho
    exact hret dX1_overflowingBlockOf_18 rfl (hP.sub (ws' := [(a_t, .inr (1, [.ref a_lineCounts, .ref a_ends, .ref a_overflowing, .ref a_ahead, .ref a_behind, .ref a_setParts, .ref a_baselines, .ref a_lineBlocks, .ref a_reached, .int v_height, .int v_first, .int v_step, .int v_rounding, .int v_cursor])), (a_overflowing, .inl (cI, 4, .inl v_overflowing))]) [0, 1] rfl) (hD.sub (ws' := [(a_t, .inr (1, [.ref a_lineCounts, .ref a_ends, .ref a_overflowing, .ref a_ahead, .ref a_behind, .ref a_setParts, .ref a_baselines, .ref a_lineBlocks, .ref a_reached, .int v_height, .int v_first, .int v_step, .int v_rounding, .int v_cursor])), (a_overflowing, .inl (cI, 4, .inl v_overflowing))]) [0, 1] (by decide) rfl) hS
def fX1_baselineOf (i1 : Int32) (i2 : Int32) (v_baselines : Nat → Int32) : Option (Int32) :=
  bd (fX1_isLinePlace i1 i2) fun qo1 => if qo1 = 0 then (some ((-5))) else (aget 2560 v_baselines ((i1 * 640) + i2) fun qx2 => some qx2)
def rX1_baselineOf : Room := { frames := 2, cells := 0, slots := 0, locals := 41 }
theorem hin_X1_baselineOf_X1 : ∀ w ∈ wsX10, w ∈ wsX1_baselineOf := fun _ h => List.mem_cons_of_mem _ (List.mem_append_right _ (h))
set_option maxHeartbeats 4000000 in
set_option maxRecDepth 100000 in
theorem k_X1_baselineOf (l : Launch) (D : va_G) (cI cC : ClassId) (a_t : Nat) (a_lineCounts : Nat) (a_ends : Nat) (a_overflowing : Nat) (a_ahead : Nat) (a_behind : Nat) (a_setParts : Nat) (a_baselines : Nat) (a_lineBlocks : Nat) (a_reached : Nat) (i1 : Int32) (i2 : Int32) (v_height : Int32) (v_first : Int32) (v_step : Int32) (v_rounding : Int32) (v_cursor : Int32) (v_baselines : Nat → Int32) (o : Int32) (hf : fX1_baselineOf i1 i2 v_baselines = some o) : CTi l yX1_baselineOf wsX1_baselineOf rX1_baselineOf D cI cC [.ref a_t, .int i1, .int i2] [(a_t, .inr (1, [.ref a_lineCounts, .ref a_ends, .ref a_overflowing, .ref a_ahead, .ref a_behind, .ref a_setParts, .ref a_baselines, .ref a_lineBlocks, .ref a_reached, .int v_height, .int v_first, .int v_step, .int v_rounding, .int v_cursor])), (a_baselines, .inl (cI, 2560, .inl v_baselines))] [(a_t, .inr (1, [.ref a_lineCounts, .ref a_ends, .ref a_overflowing, .ref a_ahead, .ref a_behind, .ref a_setParts, .ref a_baselines, .ref a_lineBlocks, .ref a_reached, .int v_height, .int v_first, .int v_step, .int v_rounding, .int v_cursor])), (a_baselines, .inl (cI, 2560, .inl v_baselines))] o := by
  refine CTi_of (cc := cX1_baselineOf) (maxL := 3) (ty := .int) (by decide) rfl (Nat.le_of_ble_eq_true rfl) ?_
  intro p e s m args below meth c A Q ls C0 hA hP hD hl hret
  obtain ⟨hx, hb, hml, hts, hown, hK⟩ := C0
  have hown : s.vm.findClass RX1 = some m.cls := hown
  have hS : va_S A s.heap s.heap [] := va_S.rf
  have hl : lv_has ls 3 [(0, .ref a_t), (1, .int i1), (2, .int i2)] := hl
  have hinX1 := hin_X1_baselineOf_X1
  unfold fX1_baselineOf at hf
  refine lv_iload_n hx hb dX1_baselineOf_0 rfl (lv_at hl 1 rfl) ?_
  refine lv_iload_n hx hb dX1_baselineOf_1 rfl (lv_at hl 2 rfl) ?_
  replace hf := bd_some hf
  obtain ⟨qo1, hqo1, hf⟩ := hf
  refine g_Si (As := [.int i1, .int i2]) (rest := []) (wr := [(a_t, .inr (1, [.ref a_lineCounts, .ref a_ends, .ref a_overflowing, .ref a_ahead, .ref a_behind, .ref a_setParts, .ref a_baselines, .ref a_lineBlocks, .ref a_reached, .int v_height, .int v_first, .int v_step, .int v_rounding, .int v_cursor])), (a_baselines, .inl (cI, 2560, .inl v_baselines))]) ⟨hx, hb, hml, hown, hts⟩ (k_X1_isLinePlace l D cI cC i1 i2 qo1 hqo1) (va_cwS 2 hts gX1_baselineOf_X1_isLinePlace rfl rfl rfl (by decide +kernel) ⟨Nat.le_of_ble_eq_true rfl, Nat.le_of_ble_eq_true rfl⟩) hK hP hD hS hA [] [0, 1] rfl rfl rfl rfl rfl (by decide) rfl hl.1 rfl (Nat.le_of_ble_eq_true rfl) dX1_baselineOf_2 (Nat.zero_le _) (Nat.zero_le _) (fun H locs hP hD hS => ?_)
  have hP : va_P D vwCl [(a_t, .inr (1, [.ref a_lineCounts, .ref a_ends, .ref a_overflowing, .ref a_ahead, .ref a_behind, .ref a_setParts, .ref a_baselines, .ref a_lineBlocks, .ref a_reached, .int v_height, .int v_first, .int v_step, .int v_rounding, .int v_cursor])), (a_baselines, .inl (cI, 2560, .inl v_baselines))] H := hP
  have hD : va_D A [(a_t, .inr (1, [.ref a_lineCounts, .ref a_ends, .ref a_overflowing, .ref a_ahead, .ref a_behind, .ref a_setParts, .ref a_baselines, .ref a_lineBlocks, .ref a_reached, .int v_height, .int v_first, .int v_step, .int v_rounding, .int v_cursor])), (a_baselines, .inl (cI, 2560, .inl v_baselines))] := hD
  refine lv_if_eq (tgt := 23) hx hb dX1_baselineOf_5 (by decide) (fun hc => ?_) (fun hc => ?_)
  · replace hf := ip hc hf
    refine lv_bipush (v := (-5)) hx hb dX1_baselineOf_23 (by decide) ?_
    have ho := Option.some.inj hf
    subst ho
    exact hret dX1_baselineOf_25 rfl (hP.sub (ws' := [(a_t, .inr (1, [.ref a_lineCounts, .ref a_ends, .ref a_overflowing, .ref a_ahead, .ref a_behind, .ref a_setParts, .ref a_baselines, .ref a_lineBlocks, .ref a_reached, .int v_height, .int v_first, .int v_step, .int v_rounding, .int v_cursor])), (a_baselines, .inl (cI, 2560, .inl v_baselines))]) [0, 1] rfl) (hD.sub (ws' := [(a_t, .inr (1, [.ref a_lineCounts, .ref a_ends, .ref a_overflowing, .ref a_ahead, .ref a_behind, .ref a_setParts, .ref a_baselines, .ref a_lineBlocks, .ref a_reached, .int v_height, .int v_first, .int v_step, .int v_rounding, .int v_cursor])), (a_baselines, .inl (cI, 2560, .inl v_baselines))]) [0, 1] (by decide) rfl) hS
  · replace hf := ineg hc hf
    refine lv_aload_n hx hb dX1_baselineOf_8 rfl (lv_at hl 0 rfl) ?_
    refine va_get (D := D) (ci := 1) (v := .ref a_baselines) (C := RX1) (T := TX1) (N := 14) hx hb hts hinX1 hown hK.1 hP 0 rfl rfl 6 (by decide) (hts (.fieldLink RX1 30 "BaselineGrid$Layout" "baselines" "[I") (List.mem_of_getElem? (i := 1) rfl)) (fun _ h9 => h9) rfl dX1_baselineOf_9 ?_
    refine lv_iload_n hx hb dX1_baselineOf_12 rfl (lv_at hl 1 rfl) ?_
    refine lv_sipush (v := 640) hx hb dX1_baselineOf_13 (by decide) ?_
    refine lv_imul hx hb dX1_baselineOf_16 ?_
    refine lv_iload_n hx hb dX1_baselineOf_17 rfl (lv_at hl 2 rfl) ?_
    refine lv_iadd hx hb dX1_baselineOf_18 ?_
    refine g_iald hx hb hK.1 hP 1 0 rfl rfl hf dX1_baselineOf_19 (fun qx2 hf => ?_)
    refine lv_goto (tgt := 25) hx hb dX1_baselineOf_20 (by decide) ?_
    have ho := Option.some.inj hf
    subst ho
    exact hret dX1_baselineOf_25 rfl (hP.sub (ws' := [(a_t, .inr (1, [.ref a_lineCounts, .ref a_ends, .ref a_overflowing, .ref a_ahead, .ref a_behind, .ref a_setParts, .ref a_baselines, .ref a_lineBlocks, .ref a_reached, .int v_height, .int v_first, .int v_step, .int v_rounding, .int v_cursor])), (a_baselines, .inl (cI, 2560, .inl v_baselines))]) [0, 1] rfl) (hD.sub (ws' := [(a_t, .inr (1, [.ref a_lineCounts, .ref a_ends, .ref a_overflowing, .ref a_ahead, .ref a_behind, .ref a_setParts, .ref a_baselines, .ref a_lineBlocks, .ref a_reached, .int v_height, .int v_first, .int v_step, .int v_rounding, .int v_cursor])), (a_baselines, .inl (cI, 2560, .inl v_baselines))]) [0, 1] (by decide) rfl) hS
def fX1_blockOfLine (i1 : Int32) (i2 : Int32) (v_lineBlocks : Nat → Int32) : Option (Int32) :=
  bd (fX1_isLinePlace i1 i2) fun qo1 => if qo1 = 0 then (some ((-5))) else (aget 2560 v_lineBlocks ((i1 * 640) + i2) fun qx2 => some qx2)
def rX1_blockOfLine : Room := { frames := 2, cells := 0, slots := 0, locals := 41 }
theorem hin_X1_blockOfLine_X1 : ∀ w ∈ wsX10, w ∈ wsX1_blockOfLine := fun _ h => List.mem_cons_of_mem _ (List.mem_append_right _ (h))
set_option maxHeartbeats 4000000 in
set_option maxRecDepth 100000 in
theorem k_X1_blockOfLine (l : Launch) (D : va_G) (cI cC : ClassId) (a_t : Nat) (a_lineCounts : Nat) (a_ends : Nat) (a_overflowing : Nat) (a_ahead : Nat) (a_behind : Nat) (a_setParts : Nat) (a_baselines : Nat) (a_lineBlocks : Nat) (a_reached : Nat) (i1 : Int32) (i2 : Int32) (v_height : Int32) (v_first : Int32) (v_step : Int32) (v_rounding : Int32) (v_cursor : Int32) (v_lineBlocks : Nat → Int32) (o : Int32) (hf : fX1_blockOfLine i1 i2 v_lineBlocks = some o) : CTi l yX1_blockOfLine wsX1_blockOfLine rX1_blockOfLine D cI cC [.ref a_t, .int i1, .int i2] [(a_t, .inr (1, [.ref a_lineCounts, .ref a_ends, .ref a_overflowing, .ref a_ahead, .ref a_behind, .ref a_setParts, .ref a_baselines, .ref a_lineBlocks, .ref a_reached, .int v_height, .int v_first, .int v_step, .int v_rounding, .int v_cursor])), (a_lineBlocks, .inl (cI, 2560, .inl v_lineBlocks))] [(a_t, .inr (1, [.ref a_lineCounts, .ref a_ends, .ref a_overflowing, .ref a_ahead, .ref a_behind, .ref a_setParts, .ref a_baselines, .ref a_lineBlocks, .ref a_reached, .int v_height, .int v_first, .int v_step, .int v_rounding, .int v_cursor])), (a_lineBlocks, .inl (cI, 2560, .inl v_lineBlocks))] o := by
  refine CTi_of (cc := cX1_blockOfLine) (maxL := 3) (ty := .int) (by decide) rfl (Nat.le_of_ble_eq_true rfl) ?_
  intro p e s m args below meth c A Q ls C0 hA hP hD hl hret
  obtain ⟨hx, hb, hml, hts, hown, hK⟩ := C0
  have hown : s.vm.findClass RX1 = some m.cls := hown
  have hS : va_S A s.heap s.heap [] := va_S.rf
  have hl : lv_has ls 3 [(0, .ref a_t), (1, .int i1), (2, .int i2)] := hl
  have hinX1 := hin_X1_blockOfLine_X1
  unfold fX1_blockOfLine at hf
  refine lv_iload_n hx hb dX1_blockOfLine_0 rfl (lv_at hl 1 rfl) ?_
  refine lv_iload_n hx hb dX1_blockOfLine_1 rfl (lv_at hl 2 rfl) ?_
  replace hf := bd_some hf
  obtain ⟨qo1, hqo1, hf⟩ := hf
  refine g_Si (As := [.int i1, .int i2]) (rest := []) (wr := [(a_t, .inr (1, [.ref a_lineCounts, .ref a_ends, .ref a_overflowing, .ref a_ahead, .ref a_behind, .ref a_setParts, .ref a_baselines, .ref a_lineBlocks, .ref a_reached, .int v_height, .int v_first, .int v_step, .int v_rounding, .int v_cursor])), (a_lineBlocks, .inl (cI, 2560, .inl v_lineBlocks))]) ⟨hx, hb, hml, hown, hts⟩ (k_X1_isLinePlace l D cI cC i1 i2 qo1 hqo1) (va_cwS 2 hts gX1_blockOfLine_X1_isLinePlace rfl rfl rfl (by decide +kernel) ⟨Nat.le_of_ble_eq_true rfl, Nat.le_of_ble_eq_true rfl⟩) hK hP hD hS hA [] [0, 1] rfl rfl rfl rfl rfl (by decide) rfl hl.1 rfl (Nat.le_of_ble_eq_true rfl) dX1_blockOfLine_2 (Nat.zero_le _) (Nat.zero_le _) (fun H locs hP hD hS => ?_)
  have hP : va_P D vwCl [(a_t, .inr (1, [.ref a_lineCounts, .ref a_ends, .ref a_overflowing, .ref a_ahead, .ref a_behind, .ref a_setParts, .ref a_baselines, .ref a_lineBlocks, .ref a_reached, .int v_height, .int v_first, .int v_step, .int v_rounding, .int v_cursor])), (a_lineBlocks, .inl (cI, 2560, .inl v_lineBlocks))] H := hP
  have hD : va_D A [(a_t, .inr (1, [.ref a_lineCounts, .ref a_ends, .ref a_overflowing, .ref a_ahead, .ref a_behind, .ref a_setParts, .ref a_baselines, .ref a_lineBlocks, .ref a_reached, .int v_height, .int v_first, .int v_step, .int v_rounding, .int v_cursor])), (a_lineBlocks, .inl (cI, 2560, .inl v_lineBlocks))] := hD
  refine lv_if_eq (tgt := 23) hx hb dX1_blockOfLine_5 (by decide) (fun hc => ?_) (fun hc => ?_)
  · replace hf := ip hc hf
    refine lv_bipush (v := (-5)) hx hb dX1_blockOfLine_23 (by decide) ?_
    have ho := Option.some.inj hf
    subst ho
    exact hret dX1_blockOfLine_25 rfl (hP.sub (ws' := [(a_t, .inr (1, [.ref a_lineCounts, .ref a_ends, .ref a_overflowing, .ref a_ahead, .ref a_behind, .ref a_setParts, .ref a_baselines, .ref a_lineBlocks, .ref a_reached, .int v_height, .int v_first, .int v_step, .int v_rounding, .int v_cursor])), (a_lineBlocks, .inl (cI, 2560, .inl v_lineBlocks))]) [0, 1] rfl) (hD.sub (ws' := [(a_t, .inr (1, [.ref a_lineCounts, .ref a_ends, .ref a_overflowing, .ref a_ahead, .ref a_behind, .ref a_setParts, .ref a_baselines, .ref a_lineBlocks, .ref a_reached, .int v_height, .int v_first, .int v_step, .int v_rounding, .int v_cursor])), (a_lineBlocks, .inl (cI, 2560, .inl v_lineBlocks))]) [0, 1] (by decide) rfl) hS
  · replace hf := ineg hc hf
    refine lv_aload_n hx hb dX1_blockOfLine_8 rfl (lv_at hl 0 rfl) ?_
    refine va_get (D := D) (ci := 1) (v := .ref a_lineBlocks) (C := RX1) (T := TX1) (N := 14) hx hb hts hinX1 hown hK.1 hP 0 rfl rfl 7 (by decide) (hts (.fieldLink RX1 33 "BaselineGrid$Layout" "lineBlocks" "[I") (List.mem_of_getElem? (i := 1) rfl)) (fun _ h9 => h9) rfl dX1_blockOfLine_9 ?_
    refine lv_iload_n hx hb dX1_blockOfLine_12 rfl (lv_at hl 1 rfl) ?_
    refine lv_sipush (v := 640) hx hb dX1_blockOfLine_13 (by decide) ?_
    refine lv_imul hx hb dX1_blockOfLine_16 ?_
    refine lv_iload_n hx hb dX1_blockOfLine_17 rfl (lv_at hl 2 rfl) ?_
    refine lv_iadd hx hb dX1_blockOfLine_18 ?_
    refine g_iald hx hb hK.1 hP 1 0 rfl rfl hf dX1_blockOfLine_19 (fun qx2 hf => ?_)
    refine lv_goto (tgt := 25) hx hb dX1_blockOfLine_20 (by decide) ?_
    have ho := Option.some.inj hf
    subst ho
    exact hret dX1_blockOfLine_25 rfl (hP.sub (ws' := [(a_t, .inr (1, [.ref a_lineCounts, .ref a_ends, .ref a_overflowing, .ref a_ahead, .ref a_behind, .ref a_setParts, .ref a_baselines, .ref a_lineBlocks, .ref a_reached, .int v_height, .int v_first, .int v_step, .int v_rounding, .int v_cursor])), (a_lineBlocks, .inl (cI, 2560, .inl v_lineBlocks))]) [0, 1] rfl) (hD.sub (ws' := [(a_t, .inr (1, [.ref a_lineCounts, .ref a_ends, .ref a_overflowing, .ref a_ahead, .ref a_behind, .ref a_setParts, .ref a_baselines, .ref a_lineBlocks, .ref a_reached, .int v_height, .int v_first, .int v_step, .int v_rounding, .int v_cursor])), (a_lineBlocks, .inl (cI, 2560, .inl v_lineBlocks))]) [0, 1] (by decide) rfl) hS
def fX1_hasLineAt_2 (i1 : Int32) (i2 : Int32) (v_lineCounts : Nat → Int32) (v_baselines : Nat → Int32) : Nat → Int32 → Option (Int32)
  | 0 => fun _ => none
  | n + 1 => fun w3 =>
    bd (fX1_linesOf i1 v_lineCounts) fun qo1 => if qo1 ≤ w3 then (some 0) else (bd (fX1_baselineOf i1 w3 v_baselines) fun qo2 => if qo2 = i2 then (some 1) else (nm (w3 + 1) fun qx3 => (fX1_hasLineAt_2 i1 i2 v_lineCounts v_baselines n) qx3))
def fX1_hasLineAt (i1 : Int32) (i2 : Int32) (v_lineCounts : Nat → Int32) (v_baselines : Nat → Int32) : Option (Int32) :=
  fX1_hasLineAt_2 i1 i2 v_lineCounts v_baselines Fu 0
def rX1_hasLineAt : Room := { frames := 3, cells := 0, slots := 0, locals := 63 }
set_option maxHeartbeats 4000000 in
set_option maxRecDepth 100000 in
theorem k_X1_hasLineAt (l : Launch) (D : va_G) (cI cC : ClassId) (a_t : Nat) (a_lineCounts : Nat) (a_ends : Nat) (a_overflowing : Nat) (a_ahead : Nat) (a_behind : Nat) (a_setParts : Nat) (a_baselines : Nat) (a_lineBlocks : Nat) (a_reached : Nat) (i1 : Int32) (i2 : Int32) (v_height : Int32) (v_first : Int32) (v_step : Int32) (v_rounding : Int32) (v_cursor : Int32) (v_lineCounts : Nat → Int32) (v_baselines : Nat → Int32) (o : Int32) (hf : fX1_hasLineAt i1 i2 v_lineCounts v_baselines = some o) : CTi l yX1_hasLineAt wsX1_hasLineAt rX1_hasLineAt D cI cC [.ref a_t, .int i1, .int i2] [(a_t, .inr (1, [.ref a_lineCounts, .ref a_ends, .ref a_overflowing, .ref a_ahead, .ref a_behind, .ref a_setParts, .ref a_baselines, .ref a_lineBlocks, .ref a_reached, .int v_height, .int v_first, .int v_step, .int v_rounding, .int v_cursor])), (a_lineCounts, .inl (cI, 4, .inl v_lineCounts)), (a_baselines, .inl (cI, 2560, .inl v_baselines))] [(a_t, .inr (1, [.ref a_lineCounts, .ref a_ends, .ref a_overflowing, .ref a_ahead, .ref a_behind, .ref a_setParts, .ref a_baselines, .ref a_lineBlocks, .ref a_reached, .int v_height, .int v_first, .int v_step, .int v_rounding, .int v_cursor])), (a_lineCounts, .inl (cI, 4, .inl v_lineCounts)), (a_baselines, .inl (cI, 2560, .inl v_baselines))] o := by
  refine CTi_of (cc := cX1_hasLineAt) (maxL := 4) (ty := .boolean) (by decide) rfl (Nat.le_of_ble_eq_true rfl) ?_
  intro p e s m args below meth c A Q ls C0 hA hP hD hl hret
  obtain ⟨hx, hb, hml, hts, hown, hK⟩ := C0
  have hown : s.vm.findClass RX1 = some m.cls := hown
  have hS : va_S A s.heap s.heap [] := va_S.rf
  have hl : lv_has ls 4 [(0, .ref a_t), (1, .int i1), (2, .int i2)] := hl
  have J2 : ∀   (n : Nat) (w3 : Int32) (H : Heap) (locs : List Loc) (ls : Array Slot), fX1_hasLineAt_2 i1 i2 v_lineCounts v_baselines n w3 = some o → va_P D vwCl [(a_t, .inr (1, [.ref a_lineCounts, .ref a_ends, .ref a_overflowing, .ref a_ahead, .ref a_behind, .ref a_setParts, .ref a_baselines, .ref a_lineBlocks, .ref a_reached, .int v_height, .int v_first, .int v_step, .int v_rounding, .int v_cursor])), (a_lineCounts, .inl (cI, 4, .inl v_lineCounts)), (a_baselines, .inl (cI, 2560, .inl v_baselines))] H → va_D A [(a_t, .inr (1, [.ref a_lineCounts, .ref a_ends, .ref a_overflowing, .ref a_ahead, .ref a_behind, .ref a_setParts, .ref a_baselines, .ref a_lineBlocks, .ref a_reached, .int v_height, .int v_first, .int v_step, .int v_rounding, .int v_cursor])), (a_lineCounts, .inl (cI, 4, .inl v_lineCounts)), (a_baselines, .inl (cI, 2560, .inl v_baselines))] → va_S A s.heap H locs → lv_has ls 4 [(0, .ref a_t), (1, .int i1), (2, .int i2), (3, .int w3)] → W p l e rX1_hasLineAt s m args below meth c H locs 0 0 Q (F0 m 2 ls []) := by
    intro  n
    induction n with
    | zero =>
      intro w3 H locs ls hf
      have hf0 : (none : Option (Int32)) = some o := hf
      cases hf0
    | succ n hk2 =>
      intro w3 H locs ls hf hP hD hS hl
      rw [fX1_hasLineAt_2] at hf
      refine lv_iload_n hx hb dX1_hasLineAt_2 rfl (lv_at hl 3 rfl) ?_
      refine lv_aload_n hx hb dX1_hasLineAt_3 rfl (lv_at hl 0 rfl) ?_
      refine lv_iload_n hx hb dX1_hasLineAt_4 rfl (lv_at hl 1 rfl) ?_
      replace hf := bd_some hf
      obtain ⟨qo1, hqo1, hf⟩ := hf
      refine g_Vi (As := [.int i1]) (rest := [.int w3]) (wr := [(a_baselines, .inl (cI, 2560, .inl v_baselines))]) ⟨hx, hb, hml, hown, hts⟩ (k_X1_linesOf l D cI cC a_t a_lineCounts a_ends a_overflowing a_ahead a_behind a_setParts a_baselines a_lineBlocks a_reached i1 v_height v_first v_step v_rounding v_cursor v_lineCounts qo1 hqo1) (cwV 1 hts gX1_hasLineAt_X1_linesOf rfl rfl rfl (by decide +kernel) ⟨Nat.le_of_ble_eq_true rfl, Nat.le_of_ble_eq_true rfl⟩) hK hP hD hS hA 1 0 rfl rfl rfl [0, 1] [2] rfl rfl rfl rfl rfl (by decide) rfl hl.1 rfl (Nat.le_of_ble_eq_true rfl) dX1_hasLineAt_5 (Nat.zero_le _) (Nat.zero_le _) (fun H locs hP hD hS => ?_)
      have hP : va_P D vwCl [(a_baselines, .inl (cI, 2560, .inl v_baselines)), (a_t, .inr (1, [.ref a_lineCounts, .ref a_ends, .ref a_overflowing, .ref a_ahead, .ref a_behind, .ref a_setParts, .ref a_baselines, .ref a_lineBlocks, .ref a_reached, .int v_height, .int v_first, .int v_step, .int v_rounding, .int v_cursor])), (a_lineCounts, .inl (cI, 4, .inl v_lineCounts))] H := hP
      have hD : va_D A [(a_baselines, .inl (cI, 2560, .inl v_baselines)), (a_t, .inr (1, [.ref a_lineCounts, .ref a_ends, .ref a_overflowing, .ref a_ahead, .ref a_behind, .ref a_setParts, .ref a_baselines, .ref a_lineBlocks, .ref a_reached, .int v_height, .int v_first, .int v_step, .int v_rounding, .int v_cursor])), (a_lineCounts, .inl (cI, 4, .inl v_lineCounts))] := hD
      refine lv_icmp_ge (tgt := 29) hx hb dX1_hasLineAt_8 (by decide) (fun hc => ?_) (fun hc => ?_)
      · replace hf := ip hc hf
        refine lv_iconst (v := 0) hx hb dX1_hasLineAt_29 (by decide) ?_
        have ho := Option.some.inj hf
        subst ho
        exact hret dX1_hasLineAt_30 (nbool (Or.inl rfl)) (hP.sub (ws' := [(a_t, .inr (1, [.ref a_lineCounts, .ref a_ends, .ref a_overflowing, .ref a_ahead, .ref a_behind, .ref a_setParts, .ref a_baselines, .ref a_lineBlocks, .ref a_reached, .int v_height, .int v_first, .int v_step, .int v_rounding, .int v_cursor])), (a_lineCounts, .inl (cI, 4, .inl v_lineCounts)), (a_baselines, .inl (cI, 2560, .inl v_baselines))]) [1, 2, 0] rfl) (hD.sub (ws' := [(a_t, .inr (1, [.ref a_lineCounts, .ref a_ends, .ref a_overflowing, .ref a_ahead, .ref a_behind, .ref a_setParts, .ref a_baselines, .ref a_lineBlocks, .ref a_reached, .int v_height, .int v_first, .int v_step, .int v_rounding, .int v_cursor])), (a_lineCounts, .inl (cI, 4, .inl v_lineCounts)), (a_baselines, .inl (cI, 2560, .inl v_baselines))]) [1, 2, 0] (by decide) rfl) hS
      · replace hf := ineg hc hf
        refine lv_aload_n hx hb dX1_hasLineAt_11 rfl (lv_at hl 0 rfl) ?_
        refine lv_iload_n hx hb dX1_hasLineAt_12 rfl (lv_at hl 1 rfl) ?_
        refine lv_iload_n hx hb dX1_hasLineAt_13 rfl (lv_at hl 3 rfl) ?_
        replace hf := bd_some hf
        obtain ⟨qo2, hqo2, hf⟩ := hf
        refine g_Vi (As := [.int i1, .int w3]) (rest := []) (wr := [(a_lineCounts, .inl (cI, 4, .inl v_lineCounts))]) ⟨hx, hb, hml, hown, hts⟩ (k_X1_baselineOf l D cI cC a_t a_lineCounts a_ends a_overflowing a_ahead a_behind a_setParts a_baselines a_lineBlocks a_reached i1 w3 v_height v_first v_step v_rounding v_cursor v_baselines qo2 hqo2) (cwV 2 hts gX1_hasLineAt_X1_baselineOf rfl rfl rfl (by decide +kernel) ⟨Nat.le_of_ble_eq_true rfl, Nat.le_of_ble_eq_true rfl⟩) hK hP hD hS hA 1 1 rfl rfl rfl [1, 0] [2] rfl rfl rfl rfl rfl (by decide) rfl hl.1 rfl (Nat.le_of_ble_eq_true rfl) dX1_hasLineAt_14 (Nat.zero_le _) (Nat.zero_le _) (fun H locs hP hD hS => ?_)
        have hP : va_P D vwCl [(a_lineCounts, .inl (cI, 4, .inl v_lineCounts)), (a_t, .inr (1, [.ref a_lineCounts, .ref a_ends, .ref a_overflowing, .ref a_ahead, .ref a_behind, .ref a_setParts, .ref a_baselines, .ref a_lineBlocks, .ref a_reached, .int v_height, .int v_first, .int v_step, .int v_rounding, .int v_cursor])), (a_baselines, .inl (cI, 2560, .inl v_baselines))] H := hP
        have hD : va_D A [(a_lineCounts, .inl (cI, 4, .inl v_lineCounts)), (a_t, .inr (1, [.ref a_lineCounts, .ref a_ends, .ref a_overflowing, .ref a_ahead, .ref a_behind, .ref a_setParts, .ref a_baselines, .ref a_lineBlocks, .ref a_reached, .int v_height, .int v_first, .int v_step, .int v_rounding, .int v_cursor])), (a_baselines, .inl (cI, 2560, .inl v_baselines))] := hD
        refine lv_iload_n hx hb dX1_hasLineAt_17 rfl (lv_at hl 2 rfl) ?_
        refine lv_icmp_ne (tgt := 23) hx hb dX1_hasLineAt_18 (by decide) (fun hc => ?_) (fun hc => ?_)
        · replace hf := ineg hc hf
          replace hf := nm_some hf
          obtain ⟨qx3, eqx3, hf⟩ := hf
          refine lv_iinc (v := qx3) (lv' := [(3, .int qx3), (0, .ref a_t), (1, .int i1), (2, .int i2)]) hx hb dX1_hasLineAt_23 hl (k := 3) rfl (by rw [eqx3]; rfl) (by decide) rfl (fun ls hl => ?_)
          refine lv_goto (tgt := 2) hx hb dX1_hasLineAt_26 (by decide) ?_
          exact hk2 qx3 _ _ _ hf (hP.sub (ws' := [(a_t, .inr (1, [.ref a_lineCounts, .ref a_ends, .ref a_overflowing, .ref a_ahead, .ref a_behind, .ref a_setParts, .ref a_baselines, .ref a_lineBlocks, .ref a_reached, .int v_height, .int v_first, .int v_step, .int v_rounding, .int v_cursor])), (a_lineCounts, .inl (cI, 4, .inl v_lineCounts)), (a_baselines, .inl (cI, 2560, .inl v_baselines))]) [1, 0, 2] rfl) (hD.sub (ws' := [(a_t, .inr (1, [.ref a_lineCounts, .ref a_ends, .ref a_overflowing, .ref a_ahead, .ref a_behind, .ref a_setParts, .ref a_baselines, .ref a_lineBlocks, .ref a_reached, .int v_height, .int v_first, .int v_step, .int v_rounding, .int v_cursor])), (a_lineCounts, .inl (cI, 4, .inl v_lineCounts)), (a_baselines, .inl (cI, 2560, .inl v_baselines))]) [1, 0, 2] (by decide) rfl) hS (lv_sub hl [1, 2, 3, 0] rfl)
        · replace hf := ip hc hf
          refine lv_iconst (v := 1) hx hb dX1_hasLineAt_21 (by decide) ?_
          have ho := Option.some.inj hf
          subst ho
          exact hret dX1_hasLineAt_22 (nbool (Or.inr rfl)) (hP.sub (ws' := [(a_t, .inr (1, [.ref a_lineCounts, .ref a_ends, .ref a_overflowing, .ref a_ahead, .ref a_behind, .ref a_setParts, .ref a_baselines, .ref a_lineBlocks, .ref a_reached, .int v_height, .int v_first, .int v_step, .int v_rounding, .int v_cursor])), (a_lineCounts, .inl (cI, 4, .inl v_lineCounts)), (a_baselines, .inl (cI, 2560, .inl v_baselines))]) [1, 0, 2] rfl) (hD.sub (ws' := [(a_t, .inr (1, [.ref a_lineCounts, .ref a_ends, .ref a_overflowing, .ref a_ahead, .ref a_behind, .ref a_setParts, .ref a_baselines, .ref a_lineBlocks, .ref a_reached, .int v_height, .int v_first, .int v_step, .int v_rounding, .int v_cursor])), (a_lineCounts, .inl (cI, 4, .inl v_lineCounts)), (a_baselines, .inl (cI, 2560, .inl v_baselines))]) [1, 0, 2] (by decide) rfl) hS
  unfold fX1_hasLineAt at hf
  refine lv_iconst (v := 0) hx hb dX1_hasLineAt_0 (by decide) ?_
  refine lv_istore_n (lv' := [(3, .int 0), (0, .ref a_t), (1, .int i1), (2, .int i2)]) hx hb dX1_hasLineAt_1 rfl hl (by decide) rfl (fun ls hl => ?_)
  exact J2 Fu 0 _ _ _ hf (hP.sub (ws' := [(a_t, .inr (1, [.ref a_lineCounts, .ref a_ends, .ref a_overflowing, .ref a_ahead, .ref a_behind, .ref a_setParts, .ref a_baselines, .ref a_lineBlocks, .ref a_reached, .int v_height, .int v_first, .int v_step, .int v_rounding, .int v_cursor])), (a_lineCounts, .inl (cI, 4, .inl v_lineCounts)), (a_baselines, .inl (cI, 2560, .inl v_baselines))]) [0, 1, 2] rfl) (hD.sub (ws' := [(a_t, .inr (1, [.ref a_lineCounts, .ref a_ends, .ref a_overflowing, .ref a_ahead, .ref a_behind, .ref a_setParts, .ref a_baselines, .ref a_lineBlocks, .ref a_reached, .int v_height, .int v_first, .int v_step, .int v_rounding, .int v_cursor])), (a_lineCounts, .inl (cI, 4, .inl v_lineCounts)), (a_baselines, .inl (cI, 2560, .inl v_baselines))]) [0, 1, 2] (by decide) rfl) hS (lv_sub hl [1, 2, 3, 0] rfl)
def fX1_sumOfDrifts_4 (i1 : Int32) (v_first : Int32) (v_step : Int32) (v_lineCounts : Nat → Int32) (v_baselines : Nat → Int32) : Nat → Int32 → Int32 → Option (Int32)
  | 0 => fun _ _ => none
  | n + 1 => fun w2 w3 =>
    bd (fX1_linesOf i1 v_lineCounts) fun qo1 => if qo1 ≤ w3 then (some w2) else (bd (fX1_baselineOf i1 w3 v_baselines) fun qo2 => bd (fX1_driftAt qo2 v_first v_step) fun qo3 => nm (w2 + qo3) fun qx4 => nm (w3 + 1) fun qx5 => (fX1_sumOfDrifts_4 i1 v_first v_step v_lineCounts v_baselines n) qx4 qx5)
def fX1_sumOfDrifts (i1 : Int32) (v_first : Int32) (v_step : Int32) (v_lineCounts : Nat → Int32) (v_baselines : Nat → Int32) : Option (Int32) :=
  fX1_sumOfDrifts_4 i1 v_first v_step v_lineCounts v_baselines Fu 0 0
def rX1_sumOfDrifts : Room := { frames := 3, cells := 0, slots := 0, locals := 63 }
set_option maxHeartbeats 4000000 in
set_option maxRecDepth 100000 in
theorem k_X1_sumOfDrifts (l : Launch) (D : va_G) (cI cC : ClassId) (a_t : Nat) (a_lineCounts : Nat) (a_ends : Nat) (a_overflowing : Nat) (a_ahead : Nat) (a_behind : Nat) (a_setParts : Nat) (a_baselines : Nat) (a_lineBlocks : Nat) (a_reached : Nat) (i1 : Int32) (v_height : Int32) (v_first : Int32) (v_step : Int32) (v_rounding : Int32) (v_cursor : Int32) (v_lineCounts : Nat → Int32) (v_baselines : Nat → Int32) (o : Int32) (hf : fX1_sumOfDrifts i1 v_first v_step v_lineCounts v_baselines = some o) : CTi l yX1_sumOfDrifts wsX1_sumOfDrifts rX1_sumOfDrifts D cI cC [.ref a_t, .int i1] [(a_t, .inr (1, [.ref a_lineCounts, .ref a_ends, .ref a_overflowing, .ref a_ahead, .ref a_behind, .ref a_setParts, .ref a_baselines, .ref a_lineBlocks, .ref a_reached, .int v_height, .int v_first, .int v_step, .int v_rounding, .int v_cursor])), (a_lineCounts, .inl (cI, 4, .inl v_lineCounts)), (a_baselines, .inl (cI, 2560, .inl v_baselines))] [(a_t, .inr (1, [.ref a_lineCounts, .ref a_ends, .ref a_overflowing, .ref a_ahead, .ref a_behind, .ref a_setParts, .ref a_baselines, .ref a_lineBlocks, .ref a_reached, .int v_height, .int v_first, .int v_step, .int v_rounding, .int v_cursor])), (a_lineCounts, .inl (cI, 4, .inl v_lineCounts)), (a_baselines, .inl (cI, 2560, .inl v_baselines))] o := by
  refine CTi_of (cc := cX1_sumOfDrifts) (maxL := 4) (ty := .int) (by decide) rfl (Nat.le_of_ble_eq_true rfl) ?_
  intro p e s m args below meth c A Q ls C0 hA hP hD hl hret
  obtain ⟨hx, hb, hml, hts, hown, hK⟩ := C0
  have hown : s.vm.findClass RX1 = some m.cls := hown
  have hS : va_S A s.heap s.heap [] := va_S.rf
  have hl : lv_has ls 4 [(0, .ref a_t), (1, .int i1)] := hl
  have J4 : ∀   (n : Nat) (w2 : Int32) (w3 : Int32) (H : Heap) (locs : List Loc) (ls : Array Slot), fX1_sumOfDrifts_4 i1 v_first v_step v_lineCounts v_baselines n w2 w3 = some o → va_P D vwCl [(a_t, .inr (1, [.ref a_lineCounts, .ref a_ends, .ref a_overflowing, .ref a_ahead, .ref a_behind, .ref a_setParts, .ref a_baselines, .ref a_lineBlocks, .ref a_reached, .int v_height, .int v_first, .int v_step, .int v_rounding, .int v_cursor])), (a_lineCounts, .inl (cI, 4, .inl v_lineCounts)), (a_baselines, .inl (cI, 2560, .inl v_baselines))] H → va_D A [(a_t, .inr (1, [.ref a_lineCounts, .ref a_ends, .ref a_overflowing, .ref a_ahead, .ref a_behind, .ref a_setParts, .ref a_baselines, .ref a_lineBlocks, .ref a_reached, .int v_height, .int v_first, .int v_step, .int v_rounding, .int v_cursor])), (a_lineCounts, .inl (cI, 4, .inl v_lineCounts)), (a_baselines, .inl (cI, 2560, .inl v_baselines))] → va_S A s.heap H locs → lv_has ls 4 [(0, .ref a_t), (1, .int i1), (2, .int w2), (3, .int w3)] → W p l e rX1_sumOfDrifts s m args below meth c H locs 0 0 Q (F0 m 4 ls []) := by
    intro  n
    induction n with
    | zero =>
      intro w2 w3 H locs ls hf
      have hf0 : (none : Option (Int32)) = some o := hf
      cases hf0
    | succ n hk4 =>
      intro w2 w3 H locs ls hf hP hD hS hl
      rw [fX1_sumOfDrifts_4] at hf
      refine lv_iload_n hx hb dX1_sumOfDrifts_4 rfl (lv_at hl 3 rfl) ?_
      refine lv_aload_n hx hb dX1_sumOfDrifts_5 rfl (lv_at hl 0 rfl) ?_
      refine lv_iload_n hx hb dX1_sumOfDrifts_6 rfl (lv_at hl 1 rfl) ?_
      replace hf := bd_some hf
      obtain ⟨qo1, hqo1, hf⟩ := hf
      refine g_Vi (As := [.int i1]) (rest := [.int w3]) (wr := [(a_baselines, .inl (cI, 2560, .inl v_baselines))]) ⟨hx, hb, hml, hown, hts⟩ (k_X1_linesOf l D cI cC a_t a_lineCounts a_ends a_overflowing a_ahead a_behind a_setParts a_baselines a_lineBlocks a_reached i1 v_height v_first v_step v_rounding v_cursor v_lineCounts qo1 hqo1) (cwV 1 hts gX1_sumOfDrifts_X1_linesOf rfl rfl rfl (by decide +kernel) ⟨Nat.le_of_ble_eq_true rfl, Nat.le_of_ble_eq_true rfl⟩) hK hP hD hS hA 1 0 rfl rfl rfl [0, 1] [2] rfl rfl rfl rfl rfl (by decide) rfl hl.1 rfl (Nat.le_of_ble_eq_true rfl) dX1_sumOfDrifts_7 (Nat.zero_le _) (Nat.zero_le _) (fun H locs hP hD hS => ?_)
      have hP : va_P D vwCl [(a_baselines, .inl (cI, 2560, .inl v_baselines)), (a_t, .inr (1, [.ref a_lineCounts, .ref a_ends, .ref a_overflowing, .ref a_ahead, .ref a_behind, .ref a_setParts, .ref a_baselines, .ref a_lineBlocks, .ref a_reached, .int v_height, .int v_first, .int v_step, .int v_rounding, .int v_cursor])), (a_lineCounts, .inl (cI, 4, .inl v_lineCounts))] H := hP
      have hD : va_D A [(a_baselines, .inl (cI, 2560, .inl v_baselines)), (a_t, .inr (1, [.ref a_lineCounts, .ref a_ends, .ref a_overflowing, .ref a_ahead, .ref a_behind, .ref a_setParts, .ref a_baselines, .ref a_lineBlocks, .ref a_reached, .int v_height, .int v_first, .int v_step, .int v_rounding, .int v_cursor])), (a_lineCounts, .inl (cI, 4, .inl v_lineCounts))] := hD
      refine lv_icmp_ge (tgt := 32) hx hb dX1_sumOfDrifts_10 (by decide) (fun hc => ?_) (fun hc => ?_)
      · replace hf := ip hc hf
        refine lv_iload_n hx hb dX1_sumOfDrifts_32 rfl (lv_at hl 2 rfl) ?_
        have ho := Option.some.inj hf
        subst ho
        exact hret dX1_sumOfDrifts_33 rfl (hP.sub (ws' := [(a_t, .inr (1, [.ref a_lineCounts, .ref a_ends, .ref a_overflowing, .ref a_ahead, .ref a_behind, .ref a_setParts, .ref a_baselines, .ref a_lineBlocks, .ref a_reached, .int v_height, .int v_first, .int v_step, .int v_rounding, .int v_cursor])), (a_lineCounts, .inl (cI, 4, .inl v_lineCounts)), (a_baselines, .inl (cI, 2560, .inl v_baselines))]) [1, 2, 0] rfl) (hD.sub (ws' := [(a_t, .inr (1, [.ref a_lineCounts, .ref a_ends, .ref a_overflowing, .ref a_ahead, .ref a_behind, .ref a_setParts, .ref a_baselines, .ref a_lineBlocks, .ref a_reached, .int v_height, .int v_first, .int v_step, .int v_rounding, .int v_cursor])), (a_lineCounts, .inl (cI, 4, .inl v_lineCounts)), (a_baselines, .inl (cI, 2560, .inl v_baselines))]) [1, 2, 0] (by decide) rfl) hS
      · replace hf := ineg hc hf
        refine lv_iload_n hx hb dX1_sumOfDrifts_13 rfl (lv_at hl 2 rfl) ?_
        refine lv_aload_n hx hb dX1_sumOfDrifts_14 rfl (lv_at hl 0 rfl) ?_
        refine lv_aload_n hx hb dX1_sumOfDrifts_15 rfl (lv_at hl 0 rfl) ?_
        refine lv_iload_n hx hb dX1_sumOfDrifts_16 rfl (lv_at hl 1 rfl) ?_
        refine lv_iload_n hx hb dX1_sumOfDrifts_17 rfl (lv_at hl 3 rfl) ?_
        replace hf := bd_some hf
        obtain ⟨qo2, hqo2, hf⟩ := hf
        refine g_Vi (As := [.int i1, .int w3]) (rest := [.ref a_t, .int w2]) (wr := [(a_lineCounts, .inl (cI, 4, .inl v_lineCounts))]) ⟨hx, hb, hml, hown, hts⟩ (k_X1_baselineOf l D cI cC a_t a_lineCounts a_ends a_overflowing a_ahead a_behind a_setParts a_baselines a_lineBlocks a_reached i1 w3 v_height v_first v_step v_rounding v_cursor v_baselines qo2 hqo2) (cwV 2 hts gX1_sumOfDrifts_X1_baselineOf rfl rfl rfl (by decide +kernel) ⟨Nat.le_of_ble_eq_true rfl, Nat.le_of_ble_eq_true rfl⟩) hK hP hD hS hA 1 1 rfl rfl rfl [1, 0] [2] rfl rfl rfl rfl rfl (by decide) rfl hl.1 rfl (Nat.le_of_ble_eq_true rfl) dX1_sumOfDrifts_18 (Nat.zero_le _) (Nat.zero_le _) (fun H locs hP hD hS => ?_)
        have hP : va_P D vwCl [(a_lineCounts, .inl (cI, 4, .inl v_lineCounts)), (a_t, .inr (1, [.ref a_lineCounts, .ref a_ends, .ref a_overflowing, .ref a_ahead, .ref a_behind, .ref a_setParts, .ref a_baselines, .ref a_lineBlocks, .ref a_reached, .int v_height, .int v_first, .int v_step, .int v_rounding, .int v_cursor])), (a_baselines, .inl (cI, 2560, .inl v_baselines))] H := hP
        have hD : va_D A [(a_lineCounts, .inl (cI, 4, .inl v_lineCounts)), (a_t, .inr (1, [.ref a_lineCounts, .ref a_ends, .ref a_overflowing, .ref a_ahead, .ref a_behind, .ref a_setParts, .ref a_baselines, .ref a_lineBlocks, .ref a_reached, .int v_height, .int v_first, .int v_step, .int v_rounding, .int v_cursor])), (a_baselines, .inl (cI, 2560, .inl v_baselines))] := hD
        replace hf := bd_some hf
        obtain ⟨qo3, hqo3, hf⟩ := hf
        refine g_Vi (As := [.int qo2]) (rest := [.int w2]) (wr := [(a_lineCounts, .inl (cI, 4, .inl v_lineCounts)), (a_baselines, .inl (cI, 2560, .inl v_baselines))]) ⟨hx, hb, hml, hown, hts⟩ (k_X1_driftAt l D cI cC a_t a_lineCounts a_ends a_overflowing a_ahead a_behind a_setParts a_baselines a_lineBlocks a_reached qo2 v_height v_first v_step v_rounding v_cursor qo3 hqo3) (cwV 1 hts gX1_sumOfDrifts_X1_driftAt rfl rfl rfl (by decide +kernel) ⟨Nat.le_of_ble_eq_true rfl, Nat.le_of_ble_eq_true rfl⟩) hK hP hD hS hA 1 1 rfl rfl rfl [1] [0, 2] rfl rfl rfl rfl rfl (by decide) rfl hl.1 rfl (Nat.le_of_ble_eq_true rfl) dX1_sumOfDrifts_21 (Nat.zero_le _) (Nat.zero_le _) (fun H locs hP hD hS => ?_)
        have hP : va_P D vwCl [(a_lineCounts, .inl (cI, 4, .inl v_lineCounts)), (a_baselines, .inl (cI, 2560, .inl v_baselines)), (a_t, .inr (1, [.ref a_lineCounts, .ref a_ends, .ref a_overflowing, .ref a_ahead, .ref a_behind, .ref a_setParts, .ref a_baselines, .ref a_lineBlocks, .ref a_reached, .int v_height, .int v_first, .int v_step, .int v_rounding, .int v_cursor]))] H := hP
        have hD : va_D A [(a_lineCounts, .inl (cI, 4, .inl v_lineCounts)), (a_baselines, .inl (cI, 2560, .inl v_baselines)), (a_t, .inr (1, [.ref a_lineCounts, .ref a_ends, .ref a_overflowing, .ref a_ahead, .ref a_behind, .ref a_setParts, .ref a_baselines, .ref a_lineBlocks, .ref a_reached, .int v_height, .int v_first, .int v_step, .int v_rounding, .int v_cursor]))] := hD
        refine lv_iadd hx hb dX1_sumOfDrifts_24 ?_
        refine g_nm hf (fun qx4 hf => ?_)
        refine lv_istore_n (lv' := [(2, .int qx4), (0, .ref a_t), (1, .int i1), (3, .int w3)]) hx hb dX1_sumOfDrifts_25 rfl hl (by decide) rfl (fun ls hl => ?_)
        replace hf := nm_some hf
        obtain ⟨qx5, eqx5, hf⟩ := hf
        refine lv_iinc (v := qx5) (lv' := [(3, .int qx5), (2, .int qx4), (0, .ref a_t), (1, .int i1)]) hx hb dX1_sumOfDrifts_26 hl (k := 3) rfl (by rw [eqx5]; rfl) (by decide) rfl (fun ls hl => ?_)
        refine lv_goto (tgt := 4) hx hb dX1_sumOfDrifts_29 (by decide) ?_
        exact hk4 qx4 qx5 _ _ _ hf (hP.sub (ws' := [(a_t, .inr (1, [.ref a_lineCounts, .ref a_ends, .ref a_overflowing, .ref a_ahead, .ref a_behind, .ref a_setParts, .ref a_baselines, .ref a_lineBlocks, .ref a_reached, .int v_height, .int v_first, .int v_step, .int v_rounding, .int v_cursor])), (a_lineCounts, .inl (cI, 4, .inl v_lineCounts)), (a_baselines, .inl (cI, 2560, .inl v_baselines))]) [2, 0, 1] rfl) (hD.sub (ws' := [(a_t, .inr (1, [.ref a_lineCounts, .ref a_ends, .ref a_overflowing, .ref a_ahead, .ref a_behind, .ref a_setParts, .ref a_baselines, .ref a_lineBlocks, .ref a_reached, .int v_height, .int v_first, .int v_step, .int v_rounding, .int v_cursor])), (a_lineCounts, .inl (cI, 4, .inl v_lineCounts)), (a_baselines, .inl (cI, 2560, .inl v_baselines))]) [2, 0, 1] (by decide) rfl) hS (lv_sub hl [2, 3, 1, 0] rfl)
  unfold fX1_sumOfDrifts at hf
  refine lv_iconst (v := 0) hx hb dX1_sumOfDrifts_0 (by decide) ?_
  refine lv_istore_n (lv' := [(2, .int 0), (0, .ref a_t), (1, .int i1)]) hx hb dX1_sumOfDrifts_1 rfl hl (by decide) rfl (fun ls hl => ?_)
  refine lv_iconst (v := 0) hx hb dX1_sumOfDrifts_2 (by decide) ?_
  refine lv_istore_n (lv' := [(3, .int 0), (2, .int 0), (0, .ref a_t), (1, .int i1)]) hx hb dX1_sumOfDrifts_3 rfl hl (by decide) rfl (fun ls hl => ?_)
  exact J4 Fu 0 0 _ _ _ hf (hP.sub (ws' := [(a_t, .inr (1, [.ref a_lineCounts, .ref a_ends, .ref a_overflowing, .ref a_ahead, .ref a_behind, .ref a_setParts, .ref a_baselines, .ref a_lineBlocks, .ref a_reached, .int v_height, .int v_first, .int v_step, .int v_rounding, .int v_cursor])), (a_lineCounts, .inl (cI, 4, .inl v_lineCounts)), (a_baselines, .inl (cI, 2560, .inl v_baselines))]) [0, 1, 2] rfl) (hD.sub (ws' := [(a_t, .inr (1, [.ref a_lineCounts, .ref a_ends, .ref a_overflowing, .ref a_ahead, .ref a_behind, .ref a_setParts, .ref a_baselines, .ref a_lineBlocks, .ref a_reached, .int v_height, .int v_first, .int v_step, .int v_rounding, .int v_cursor])), (a_lineCounts, .inl (cI, 4, .inl v_lineCounts)), (a_baselines, .inl (cI, 2560, .inl v_baselines))]) [0, 1, 2] (by decide) rfl) hS (lv_sub hl [2, 3, 1, 0] rfl)
def fX1_greatestDrift_4 (i1 : Int32) (v_first : Int32) (v_step : Int32) (v_lineCounts : Nat → Int32) (v_baselines : Nat → Int32) : Nat → Int32 → Int32 → Option (Int32)
  | 0 => fun _ _ => none
  | n + 1 => fun w2 w3 =>
    bd (fX1_linesOf i1 v_lineCounts) fun qo1 => if qo1 ≤ w3 then (some w2) else (bd (fX1_baselineOf i1 w3 v_baselines) fun qo2 => bd (fX1_driftAt qo2 v_first v_step) fun qo3 => nm (if w2 < qo3 then qo3 else w2) fun qx4 => nm (w3 + 1) fun qx5 => (fX1_greatestDrift_4 i1 v_first v_step v_lineCounts v_baselines n) qx4 qx5)
def fX1_greatestDrift (i1 : Int32) (v_first : Int32) (v_step : Int32) (v_lineCounts : Nat → Int32) (v_baselines : Nat → Int32) : Option (Int32) :=
  fX1_greatestDrift_4 i1 v_first v_step v_lineCounts v_baselines Fu 0 0
def rX1_greatestDrift : Room := { frames := 3, cells := 0, slots := 0, locals := 63 }
set_option maxHeartbeats 4000000 in
set_option maxRecDepth 100000 in
theorem k_X1_greatestDrift (l : Launch) (D : va_G) (cI cC : ClassId) (a_t : Nat) (a_lineCounts : Nat) (a_ends : Nat) (a_overflowing : Nat) (a_ahead : Nat) (a_behind : Nat) (a_setParts : Nat) (a_baselines : Nat) (a_lineBlocks : Nat) (a_reached : Nat) (i1 : Int32) (v_height : Int32) (v_first : Int32) (v_step : Int32) (v_rounding : Int32) (v_cursor : Int32) (v_lineCounts : Nat → Int32) (v_baselines : Nat → Int32) (o : Int32) (hf : fX1_greatestDrift i1 v_first v_step v_lineCounts v_baselines = some o) : CTi l yX1_greatestDrift wsX1_greatestDrift rX1_greatestDrift D cI cC [.ref a_t, .int i1] [(a_t, .inr (1, [.ref a_lineCounts, .ref a_ends, .ref a_overflowing, .ref a_ahead, .ref a_behind, .ref a_setParts, .ref a_baselines, .ref a_lineBlocks, .ref a_reached, .int v_height, .int v_first, .int v_step, .int v_rounding, .int v_cursor])), (a_lineCounts, .inl (cI, 4, .inl v_lineCounts)), (a_baselines, .inl (cI, 2560, .inl v_baselines))] [(a_t, .inr (1, [.ref a_lineCounts, .ref a_ends, .ref a_overflowing, .ref a_ahead, .ref a_behind, .ref a_setParts, .ref a_baselines, .ref a_lineBlocks, .ref a_reached, .int v_height, .int v_first, .int v_step, .int v_rounding, .int v_cursor])), (a_lineCounts, .inl (cI, 4, .inl v_lineCounts)), (a_baselines, .inl (cI, 2560, .inl v_baselines))] o := by
  refine CTi_of (cc := cX1_greatestDrift) (maxL := 4) (ty := .int) (by decide) rfl (Nat.le_of_ble_eq_true rfl) ?_
  intro p e s m args below meth c A Q ls C0 hA hP hD hl hret
  obtain ⟨hx, hb, hml, hts, hown, hK⟩ := C0
  have hown : s.vm.findClass RX1 = some m.cls := hown
  have hS : va_S A s.heap s.heap [] := va_S.rf
  have hl : lv_has ls 4 [(0, .ref a_t), (1, .int i1)] := hl
  have J4 : ∀   (n : Nat) (w2 : Int32) (w3 : Int32) (H : Heap) (locs : List Loc) (ls : Array Slot), fX1_greatestDrift_4 i1 v_first v_step v_lineCounts v_baselines n w2 w3 = some o → va_P D vwCl [(a_t, .inr (1, [.ref a_lineCounts, .ref a_ends, .ref a_overflowing, .ref a_ahead, .ref a_behind, .ref a_setParts, .ref a_baselines, .ref a_lineBlocks, .ref a_reached, .int v_height, .int v_first, .int v_step, .int v_rounding, .int v_cursor])), (a_lineCounts, .inl (cI, 4, .inl v_lineCounts)), (a_baselines, .inl (cI, 2560, .inl v_baselines))] H → va_D A [(a_t, .inr (1, [.ref a_lineCounts, .ref a_ends, .ref a_overflowing, .ref a_ahead, .ref a_behind, .ref a_setParts, .ref a_baselines, .ref a_lineBlocks, .ref a_reached, .int v_height, .int v_first, .int v_step, .int v_rounding, .int v_cursor])), (a_lineCounts, .inl (cI, 4, .inl v_lineCounts)), (a_baselines, .inl (cI, 2560, .inl v_baselines))] → va_S A s.heap H locs → lv_has ls 4 [(0, .ref a_t), (1, .int i1), (2, .int w2), (3, .int w3)] → W p l e rX1_greatestDrift s m args below meth c H locs 0 0 Q (F0 m 4 ls []) := by
    intro  n
    induction n with
    | zero =>
      intro w2 w3 H locs ls hf
      have hf0 : (none : Option (Int32)) = some o := hf
      cases hf0
    | succ n hk4 =>
      intro w2 w3 H locs ls hf hP hD hS hl
      rw [fX1_greatestDrift_4] at hf
      refine lv_iload_n hx hb dX1_greatestDrift_4 rfl (lv_at hl 3 rfl) ?_
      refine lv_aload_n hx hb dX1_greatestDrift_5 rfl (lv_at hl 0 rfl) ?_
      refine lv_iload_n hx hb dX1_greatestDrift_6 rfl (lv_at hl 1 rfl) ?_
      replace hf := bd_some hf
      obtain ⟨qo1, hqo1, hf⟩ := hf
      refine g_Vi (As := [.int i1]) (rest := [.int w3]) (wr := [(a_baselines, .inl (cI, 2560, .inl v_baselines))]) ⟨hx, hb, hml, hown, hts⟩ (k_X1_linesOf l D cI cC a_t a_lineCounts a_ends a_overflowing a_ahead a_behind a_setParts a_baselines a_lineBlocks a_reached i1 v_height v_first v_step v_rounding v_cursor v_lineCounts qo1 hqo1) (cwV 1 hts gX1_greatestDrift_X1_linesOf rfl rfl rfl (by decide +kernel) ⟨Nat.le_of_ble_eq_true rfl, Nat.le_of_ble_eq_true rfl⟩) hK hP hD hS hA 1 0 rfl rfl rfl [0, 1] [2] rfl rfl rfl rfl rfl (by decide) rfl hl.1 rfl (Nat.le_of_ble_eq_true rfl) dX1_greatestDrift_7 (Nat.zero_le _) (Nat.zero_le _) (fun H locs hP hD hS => ?_)
      have hP : va_P D vwCl [(a_baselines, .inl (cI, 2560, .inl v_baselines)), (a_t, .inr (1, [.ref a_lineCounts, .ref a_ends, .ref a_overflowing, .ref a_ahead, .ref a_behind, .ref a_setParts, .ref a_baselines, .ref a_lineBlocks, .ref a_reached, .int v_height, .int v_first, .int v_step, .int v_rounding, .int v_cursor])), (a_lineCounts, .inl (cI, 4, .inl v_lineCounts))] H := hP
      have hD : va_D A [(a_baselines, .inl (cI, 2560, .inl v_baselines)), (a_t, .inr (1, [.ref a_lineCounts, .ref a_ends, .ref a_overflowing, .ref a_ahead, .ref a_behind, .ref a_setParts, .ref a_baselines, .ref a_lineBlocks, .ref a_reached, .int v_height, .int v_first, .int v_step, .int v_rounding, .int v_cursor])), (a_lineCounts, .inl (cI, 4, .inl v_lineCounts))] := hD
      refine lv_icmp_ge (tgt := 34) hx hb dX1_greatestDrift_10 (by decide) (fun hc => ?_) (fun hc => ?_)
      · replace hf := ip hc hf
        refine lv_iload_n hx hb dX1_greatestDrift_34 rfl (lv_at hl 2 rfl) ?_
        have ho := Option.some.inj hf
        subst ho
        exact hret dX1_greatestDrift_35 rfl (hP.sub (ws' := [(a_t, .inr (1, [.ref a_lineCounts, .ref a_ends, .ref a_overflowing, .ref a_ahead, .ref a_behind, .ref a_setParts, .ref a_baselines, .ref a_lineBlocks, .ref a_reached, .int v_height, .int v_first, .int v_step, .int v_rounding, .int v_cursor])), (a_lineCounts, .inl (cI, 4, .inl v_lineCounts)), (a_baselines, .inl (cI, 2560, .inl v_baselines))]) [1, 2, 0] rfl) (hD.sub (ws' := [(a_t, .inr (1, [.ref a_lineCounts, .ref a_ends, .ref a_overflowing, .ref a_ahead, .ref a_behind, .ref a_setParts, .ref a_baselines, .ref a_lineBlocks, .ref a_reached, .int v_height, .int v_first, .int v_step, .int v_rounding, .int v_cursor])), (a_lineCounts, .inl (cI, 4, .inl v_lineCounts)), (a_baselines, .inl (cI, 2560, .inl v_baselines))]) [1, 2, 0] (by decide) rfl) hS
      · replace hf := ineg hc hf
        refine lv_iload_n hx hb dX1_greatestDrift_13 rfl (lv_at hl 2 rfl) ?_
        refine lv_aload_n hx hb dX1_greatestDrift_14 rfl (lv_at hl 0 rfl) ?_
        refine lv_aload_n hx hb dX1_greatestDrift_15 rfl (lv_at hl 0 rfl) ?_
        refine lv_iload_n hx hb dX1_greatestDrift_16 rfl (lv_at hl 1 rfl) ?_
        refine lv_iload_n hx hb dX1_greatestDrift_17 rfl (lv_at hl 3 rfl) ?_
        replace hf := bd_some hf
        obtain ⟨qo2, hqo2, hf⟩ := hf
        refine g_Vi (As := [.int i1, .int w3]) (rest := [.ref a_t, .int w2]) (wr := [(a_lineCounts, .inl (cI, 4, .inl v_lineCounts))]) ⟨hx, hb, hml, hown, hts⟩ (k_X1_baselineOf l D cI cC a_t a_lineCounts a_ends a_overflowing a_ahead a_behind a_setParts a_baselines a_lineBlocks a_reached i1 w3 v_height v_first v_step v_rounding v_cursor v_baselines qo2 hqo2) (cwV 2 hts gX1_greatestDrift_X1_baselineOf rfl rfl rfl (by decide +kernel) ⟨Nat.le_of_ble_eq_true rfl, Nat.le_of_ble_eq_true rfl⟩) hK hP hD hS hA 1 1 rfl rfl rfl [1, 0] [2] rfl rfl rfl rfl rfl (by decide) rfl hl.1 rfl (Nat.le_of_ble_eq_true rfl) dX1_greatestDrift_18 (Nat.zero_le _) (Nat.zero_le _) (fun H locs hP hD hS => ?_)
        have hP : va_P D vwCl [(a_lineCounts, .inl (cI, 4, .inl v_lineCounts)), (a_t, .inr (1, [.ref a_lineCounts, .ref a_ends, .ref a_overflowing, .ref a_ahead, .ref a_behind, .ref a_setParts, .ref a_baselines, .ref a_lineBlocks, .ref a_reached, .int v_height, .int v_first, .int v_step, .int v_rounding, .int v_cursor])), (a_baselines, .inl (cI, 2560, .inl v_baselines))] H := hP
        have hD : va_D A [(a_lineCounts, .inl (cI, 4, .inl v_lineCounts)), (a_t, .inr (1, [.ref a_lineCounts, .ref a_ends, .ref a_overflowing, .ref a_ahead, .ref a_behind, .ref a_setParts, .ref a_baselines, .ref a_lineBlocks, .ref a_reached, .int v_height, .int v_first, .int v_step, .int v_rounding, .int v_cursor])), (a_baselines, .inl (cI, 2560, .inl v_baselines))] := hD
        replace hf := bd_some hf
        obtain ⟨qo3, hqo3, hf⟩ := hf
        refine g_Vi (As := [.int qo2]) (rest := [.int w2]) (wr := [(a_lineCounts, .inl (cI, 4, .inl v_lineCounts)), (a_baselines, .inl (cI, 2560, .inl v_baselines))]) ⟨hx, hb, hml, hown, hts⟩ (k_X1_driftAt l D cI cC a_t a_lineCounts a_ends a_overflowing a_ahead a_behind a_setParts a_baselines a_lineBlocks a_reached qo2 v_height v_first v_step v_rounding v_cursor qo3 hqo3) (cwV 1 hts gX1_greatestDrift_X1_driftAt rfl rfl rfl (by decide +kernel) ⟨Nat.le_of_ble_eq_true rfl, Nat.le_of_ble_eq_true rfl⟩) hK hP hD hS hA 1 1 rfl rfl rfl [1] [0, 2] rfl rfl rfl rfl rfl (by decide) rfl hl.1 rfl (Nat.le_of_ble_eq_true rfl) dX1_greatestDrift_21 (Nat.zero_le _) (Nat.zero_le _) (fun H locs hP hD hS => ?_)
        have hP : va_P D vwCl [(a_lineCounts, .inl (cI, 4, .inl v_lineCounts)), (a_baselines, .inl (cI, 2560, .inl v_baselines)), (a_t, .inr (1, [.ref a_lineCounts, .ref a_ends, .ref a_overflowing, .ref a_ahead, .ref a_behind, .ref a_setParts, .ref a_baselines, .ref a_lineBlocks, .ref a_reached, .int v_height, .int v_first, .int v_step, .int v_rounding, .int v_cursor]))] H := hP
        have hD : va_D A [(a_lineCounts, .inl (cI, 4, .inl v_lineCounts)), (a_baselines, .inl (cI, 2560, .inl v_baselines)), (a_t, .inr (1, [.ref a_lineCounts, .ref a_ends, .ref a_overflowing, .ref a_ahead, .ref a_behind, .ref a_setParts, .ref a_baselines, .ref a_lineBlocks, .ref a_reached, .int v_height, .int v_first, .int v_step, .int v_rounding, .int v_cursor]))] := hD
        refine va_mmax hx hb (hml.trans hl.1.symm) hown (hts (.methodLink RX1 124 Lib.Math.max.name) (List.mem_of_getElem? (i := 1) rfl)) (hts (.static Lib.Math.max.name) (List.mem_of_getElem? (i := 2) rfl)) (hts (.initialized "java/lang/Math") (List.mem_of_getElem? (i := 3) rfl)) (hts (.code Lib.Math.max.name Lib.Math.max.code 2 (some .int)) (List.mem_of_getElem? (i := 4) rfl)) (Nat.le_of_ble_eq_true rfl) (Nat.le_of_ble_eq_true rfl) (Nat.zero_le _) (Nat.zero_le _) dX1_greatestDrift_24 ?_
        refine g_nm hf (fun qx4 hf => ?_)
        refine lv_istore_n (lv' := [(2, .int qx4), (0, .ref a_t), (1, .int i1), (3, .int w3)]) hx hb dX1_greatestDrift_27 rfl hl (by decide) rfl (fun ls hl => ?_)
        replace hf := nm_some hf
        obtain ⟨qx5, eqx5, hf⟩ := hf
        refine lv_iinc (v := qx5) (lv' := [(3, .int qx5), (2, .int qx4), (0, .ref a_t), (1, .int i1)]) hx hb dX1_greatestDrift_28 hl (k := 3) rfl (by rw [eqx5]; rfl) (by decide) rfl (fun ls hl => ?_)
        refine lv_goto (tgt := 4) hx hb dX1_greatestDrift_31 (by decide) ?_
        exact hk4 qx4 qx5 _ _ _ hf (hP.sub (ws' := [(a_t, .inr (1, [.ref a_lineCounts, .ref a_ends, .ref a_overflowing, .ref a_ahead, .ref a_behind, .ref a_setParts, .ref a_baselines, .ref a_lineBlocks, .ref a_reached, .int v_height, .int v_first, .int v_step, .int v_rounding, .int v_cursor])), (a_lineCounts, .inl (cI, 4, .inl v_lineCounts)), (a_baselines, .inl (cI, 2560, .inl v_baselines))]) [2, 0, 1] rfl) (hD.sub (ws' := [(a_t, .inr (1, [.ref a_lineCounts, .ref a_ends, .ref a_overflowing, .ref a_ahead, .ref a_behind, .ref a_setParts, .ref a_baselines, .ref a_lineBlocks, .ref a_reached, .int v_height, .int v_first, .int v_step, .int v_rounding, .int v_cursor])), (a_lineCounts, .inl (cI, 4, .inl v_lineCounts)), (a_baselines, .inl (cI, 2560, .inl v_baselines))]) [2, 0, 1] (by decide) rfl) hS (lv_sub hl [2, 3, 1, 0] rfl)
  unfold fX1_greatestDrift at hf
  refine lv_iconst (v := 0) hx hb dX1_greatestDrift_0 (by decide) ?_
  refine lv_istore_n (lv' := [(2, .int 0), (0, .ref a_t), (1, .int i1)]) hx hb dX1_greatestDrift_1 rfl hl (by decide) rfl (fun ls hl => ?_)
  refine lv_iconst (v := 0) hx hb dX1_greatestDrift_2 (by decide) ?_
  refine lv_istore_n (lv' := [(3, .int 0), (2, .int 0), (0, .ref a_t), (1, .int i1)]) hx hb dX1_greatestDrift_3 rfl hl (by decide) rfl (fun ls hl => ?_)
  exact J4 Fu 0 0 _ _ _ hf (hP.sub (ws' := [(a_t, .inr (1, [.ref a_lineCounts, .ref a_ends, .ref a_overflowing, .ref a_ahead, .ref a_behind, .ref a_setParts, .ref a_baselines, .ref a_lineBlocks, .ref a_reached, .int v_height, .int v_first, .int v_step, .int v_rounding, .int v_cursor])), (a_lineCounts, .inl (cI, 4, .inl v_lineCounts)), (a_baselines, .inl (cI, 2560, .inl v_baselines))]) [0, 1, 2] rfl) (hD.sub (ws' := [(a_t, .inr (1, [.ref a_lineCounts, .ref a_ends, .ref a_overflowing, .ref a_ahead, .ref a_behind, .ref a_setParts, .ref a_baselines, .ref a_lineBlocks, .ref a_reached, .int v_height, .int v_first, .int v_step, .int v_rounding, .int v_cursor])), (a_lineCounts, .inl (cI, 4, .inl v_lineCounts)), (a_baselines, .inl (cI, 2560, .inl v_baselines))]) [0, 1, 2] (by decide) rfl) hS (lv_sub hl [2, 3, 1, 0] rfl)
def fX1_linesOnGrid_29 (k4 : Int32 → Int32 → Option (Int32)) (i1 : Int32) (v_first : Int32) (v_step : Int32) (v_lineCounts : Nat → Int32) (v_baselines : Nat → Int32) (w2 : Int32) (w3 : Int32) : Option (Int32) :=
    nm (w3 + 1) fun qx4 => k4 w2 qx4
def fX1_linesOnGrid_4 (i1 : Int32) (v_first : Int32) (v_step : Int32) (v_lineCounts : Nat → Int32) (v_baselines : Nat → Int32) : Nat → Int32 → Int32 → Option (Int32)
  | 0 => fun _ _ => none
  | n + 1 => fun w2 w3 =>
    bd (fX1_linesOf i1 v_lineCounts) fun qo1 => if qo1 ≤ w3 then (some w2) else (bd (fX1_baselineOf i1 w3 v_baselines) fun qo2 => bd (fX1_isOnGrid qo2 v_first v_step) fun qo3 => if qo3 = 0 then (fX1_linesOnGrid_29 (fX1_linesOnGrid_4 i1 v_first v_step v_lineCounts v_baselines n) i1 v_first v_step v_lineCounts v_baselines w2 w3) else (nm (w2 + 1) fun qx5 => fX1_linesOnGrid_29 (fX1_linesOnGrid_4 i1 v_first v_step v_lineCounts v_baselines n) i1 v_first v_step v_lineCounts v_baselines qx5 w3))
def fX1_linesOnGrid (i1 : Int32) (v_first : Int32) (v_step : Int32) (v_lineCounts : Nat → Int32) (v_baselines : Nat → Int32) : Option (Int32) :=
  fX1_linesOnGrid_4 i1 v_first v_step v_lineCounts v_baselines Fu 0 0
def rX1_linesOnGrid : Room := { frames := 3, cells := 0, slots := 0, locals := 64 }
set_option maxHeartbeats 4000000 in
set_option maxRecDepth 100000 in
theorem k_X1_linesOnGrid (l : Launch) (D : va_G) (cI cC : ClassId) (a_t : Nat) (a_lineCounts : Nat) (a_ends : Nat) (a_overflowing : Nat) (a_ahead : Nat) (a_behind : Nat) (a_setParts : Nat) (a_baselines : Nat) (a_lineBlocks : Nat) (a_reached : Nat) (i1 : Int32) (v_height : Int32) (v_first : Int32) (v_step : Int32) (v_rounding : Int32) (v_cursor : Int32) (v_lineCounts : Nat → Int32) (v_baselines : Nat → Int32) (o : Int32) (hf : fX1_linesOnGrid i1 v_first v_step v_lineCounts v_baselines = some o) : CTi l yX1_linesOnGrid wsX1_linesOnGrid rX1_linesOnGrid D cI cC [.ref a_t, .int i1] [(a_t, .inr (1, [.ref a_lineCounts, .ref a_ends, .ref a_overflowing, .ref a_ahead, .ref a_behind, .ref a_setParts, .ref a_baselines, .ref a_lineBlocks, .ref a_reached, .int v_height, .int v_first, .int v_step, .int v_rounding, .int v_cursor])), (a_lineCounts, .inl (cI, 4, .inl v_lineCounts)), (a_baselines, .inl (cI, 2560, .inl v_baselines))] [(a_t, .inr (1, [.ref a_lineCounts, .ref a_ends, .ref a_overflowing, .ref a_ahead, .ref a_behind, .ref a_setParts, .ref a_baselines, .ref a_lineBlocks, .ref a_reached, .int v_height, .int v_first, .int v_step, .int v_rounding, .int v_cursor])), (a_lineCounts, .inl (cI, 4, .inl v_lineCounts)), (a_baselines, .inl (cI, 2560, .inl v_baselines))] o := by
  refine CTi_of (cc := cX1_linesOnGrid) (maxL := 4) (ty := .int) (by decide) rfl (Nat.le_of_ble_eq_true rfl) ?_
  intro p e s m args below meth c A Q ls C0 hA hP hD hl hret
  obtain ⟨hx, hb, hml, hts, hown, hK⟩ := C0
  have hown : s.vm.findClass RX1 = some m.cls := hown
  have hS : va_S A s.heap s.heap [] := va_S.rf
  have hl : lv_has ls 4 [(0, .ref a_t), (1, .int i1)] := hl
  have J29 : ∀ (k4 : Int32 → Int32 → Option (Int32)) (w2 : Int32) (w3 : Int32) (hk4 : ∀ (w2 : Int32) (w3 : Int32) (H : Heap) (locs : List Loc) (ls : Array Slot), k4 w2 w3 = some o → va_P D vwCl [(a_t, .inr (1, [.ref a_lineCounts, .ref a_ends, .ref a_overflowing, .ref a_ahead, .ref a_behind, .ref a_setParts, .ref a_baselines, .ref a_lineBlocks, .ref a_reached, .int v_height, .int v_first, .int v_step, .int v_rounding, .int v_cursor])), (a_lineCounts, .inl (cI, 4, .inl v_lineCounts)), (a_baselines, .inl (cI, 2560, .inl v_baselines))] H → va_D A [(a_t, .inr (1, [.ref a_lineCounts, .ref a_ends, .ref a_overflowing, .ref a_ahead, .ref a_behind, .ref a_setParts, .ref a_baselines, .ref a_lineBlocks, .ref a_reached, .int v_height, .int v_first, .int v_step, .int v_rounding, .int v_cursor])), (a_lineCounts, .inl (cI, 4, .inl v_lineCounts)), (a_baselines, .inl (cI, 2560, .inl v_baselines))] → va_S A s.heap H locs → lv_has ls 4 [(0, .ref a_t), (1, .int i1), (2, .int w2), (3, .int w3)] → W p l e rX1_linesOnGrid s m args below meth c H locs 0 0 Q (F0 m 4 ls [])) (H : Heap) (locs : List Loc) (ls : Array Slot), fX1_linesOnGrid_29 k4 i1 v_first v_step v_lineCounts v_baselines w2 w3 = some o → va_P D vwCl [(a_t, .inr (1, [.ref a_lineCounts, .ref a_ends, .ref a_overflowing, .ref a_ahead, .ref a_behind, .ref a_setParts, .ref a_baselines, .ref a_lineBlocks, .ref a_reached, .int v_height, .int v_first, .int v_step, .int v_rounding, .int v_cursor])), (a_lineCounts, .inl (cI, 4, .inl v_lineCounts)), (a_baselines, .inl (cI, 2560, .inl v_baselines))] H → va_D A [(a_t, .inr (1, [.ref a_lineCounts, .ref a_ends, .ref a_overflowing, .ref a_ahead, .ref a_behind, .ref a_setParts, .ref a_baselines, .ref a_lineBlocks, .ref a_reached, .int v_height, .int v_first, .int v_step, .int v_rounding, .int v_cursor])), (a_lineCounts, .inl (cI, 4, .inl v_lineCounts)), (a_baselines, .inl (cI, 2560, .inl v_baselines))] → va_S A s.heap H locs → lv_has ls 4 [(0, .ref a_t), (1, .int i1), (2, .int w2), (3, .int w3)] → W p l e rX1_linesOnGrid s m args below meth c H locs 0 0 Q (F0 m 29 ls []) := by
    intro k4 w2 w3 hk4 H locs ls hf hP hD hS hl
    unfold fX1_linesOnGrid_29 at hf
    replace hf := nm_some hf
    obtain ⟨qx4, eqx4, hf⟩ := hf
    refine lv_iinc (v := qx4) (lv' := [(3, .int qx4), (0, .ref a_t), (1, .int i1), (2, .int w2)]) hx hb dX1_linesOnGrid_29 hl (k := 3) rfl (by rw [eqx4]; rfl) (by decide) rfl (fun ls hl => ?_)
    refine lv_goto (tgt := 4) hx hb dX1_linesOnGrid_32 (by decide) ?_
    exact hk4 w2 qx4 _ _ _ hf (hP.sub (ws' := [(a_t, .inr (1, [.ref a_lineCounts, .ref a_ends, .ref a_overflowing, .ref a_ahead, .ref a_behind, .ref a_setParts, .ref a_baselines, .ref a_lineBlocks, .ref a_reached, .int v_height, .int v_first, .int v_step, .int v_rounding, .int v_cursor])), (a_lineCounts, .inl (cI, 4, .inl v_lineCounts)), (a_baselines, .inl (cI, 2560, .inl v_baselines))]) [0, 1, 2] rfl) (hD.sub (ws' := [(a_t, .inr (1, [.ref a_lineCounts, .ref a_ends, .ref a_overflowing, .ref a_ahead, .ref a_behind, .ref a_setParts, .ref a_baselines, .ref a_lineBlocks, .ref a_reached, .int v_height, .int v_first, .int v_step, .int v_rounding, .int v_cursor])), (a_lineCounts, .inl (cI, 4, .inl v_lineCounts)), (a_baselines, .inl (cI, 2560, .inl v_baselines))]) [0, 1, 2] (by decide) rfl) hS (lv_sub hl [1, 2, 3, 0] rfl)
  have J4 : ∀   (n : Nat) (w2 : Int32) (w3 : Int32) (H : Heap) (locs : List Loc) (ls : Array Slot), fX1_linesOnGrid_4 i1 v_first v_step v_lineCounts v_baselines n w2 w3 = some o → va_P D vwCl [(a_t, .inr (1, [.ref a_lineCounts, .ref a_ends, .ref a_overflowing, .ref a_ahead, .ref a_behind, .ref a_setParts, .ref a_baselines, .ref a_lineBlocks, .ref a_reached, .int v_height, .int v_first, .int v_step, .int v_rounding, .int v_cursor])), (a_lineCounts, .inl (cI, 4, .inl v_lineCounts)), (a_baselines, .inl (cI, 2560, .inl v_baselines))] H → va_D A [(a_t, .inr (1, [.ref a_lineCounts, .ref a_ends, .ref a_overflowing, .ref a_ahead, .ref a_behind, .ref a_setParts, .ref a_baselines, .ref a_lineBlocks, .ref a_reached, .int v_height, .int v_first, .int v_step, .int v_rounding, .int v_cursor])), (a_lineCounts, .inl (cI, 4, .inl v_lineCounts)), (a_baselines, .inl (cI, 2560, .inl v_baselines))] → va_S A s.heap H locs → lv_has ls 4 [(0, .ref a_t), (1, .int i1), (2, .int w2), (3, .int w3)] → W p l e rX1_linesOnGrid s m args below meth c H locs 0 0 Q (F0 m 4 ls []) := by
    intro  n
    induction n with
    | zero =>
      intro w2 w3 H locs ls hf
      have hf0 : (none : Option (Int32)) = some o := hf
      cases hf0
    | succ n hk4 =>
      intro w2 w3 H locs ls hf hP hD hS hl
      rw [fX1_linesOnGrid_4] at hf
      refine lv_iload_n hx hb dX1_linesOnGrid_4 rfl (lv_at hl 3 rfl) ?_
      refine lv_aload_n hx hb dX1_linesOnGrid_5 rfl (lv_at hl 0 rfl) ?_
      refine lv_iload_n hx hb dX1_linesOnGrid_6 rfl (lv_at hl 1 rfl) ?_
      replace hf := bd_some hf
      obtain ⟨qo1, hqo1, hf⟩ := hf
      refine g_Vi (As := [.int i1]) (rest := [.int w3]) (wr := [(a_baselines, .inl (cI, 2560, .inl v_baselines))]) ⟨hx, hb, hml, hown, hts⟩ (k_X1_linesOf l D cI cC a_t a_lineCounts a_ends a_overflowing a_ahead a_behind a_setParts a_baselines a_lineBlocks a_reached i1 v_height v_first v_step v_rounding v_cursor v_lineCounts qo1 hqo1) (cwV 1 hts gX1_linesOnGrid_X1_linesOf rfl rfl rfl (by decide +kernel) ⟨Nat.le_of_ble_eq_true rfl, Nat.le_of_ble_eq_true rfl⟩) hK hP hD hS hA 1 0 rfl rfl rfl [0, 1] [2] rfl rfl rfl rfl rfl (by decide) rfl hl.1 rfl (Nat.le_of_ble_eq_true rfl) dX1_linesOnGrid_7 (Nat.zero_le _) (Nat.zero_le _) (fun H locs hP hD hS => ?_)
      have hP : va_P D vwCl [(a_baselines, .inl (cI, 2560, .inl v_baselines)), (a_t, .inr (1, [.ref a_lineCounts, .ref a_ends, .ref a_overflowing, .ref a_ahead, .ref a_behind, .ref a_setParts, .ref a_baselines, .ref a_lineBlocks, .ref a_reached, .int v_height, .int v_first, .int v_step, .int v_rounding, .int v_cursor])), (a_lineCounts, .inl (cI, 4, .inl v_lineCounts))] H := hP
      have hD : va_D A [(a_baselines, .inl (cI, 2560, .inl v_baselines)), (a_t, .inr (1, [.ref a_lineCounts, .ref a_ends, .ref a_overflowing, .ref a_ahead, .ref a_behind, .ref a_setParts, .ref a_baselines, .ref a_lineBlocks, .ref a_reached, .int v_height, .int v_first, .int v_step, .int v_rounding, .int v_cursor])), (a_lineCounts, .inl (cI, 4, .inl v_lineCounts))] := hD
      refine lv_icmp_ge (tgt := 35) hx hb dX1_linesOnGrid_10 (by decide) (fun hc => ?_) (fun hc => ?_)
      · replace hf := ip hc hf
        refine lv_iload_n hx hb dX1_linesOnGrid_35 rfl (lv_at hl 2 rfl) ?_
        have ho := Option.some.inj hf
        subst ho
        exact hret dX1_linesOnGrid_36 rfl (hP.sub (ws' := [(a_t, .inr (1, [.ref a_lineCounts, .ref a_ends, .ref a_overflowing, .ref a_ahead, .ref a_behind, .ref a_setParts, .ref a_baselines, .ref a_lineBlocks, .ref a_reached, .int v_height, .int v_first, .int v_step, .int v_rounding, .int v_cursor])), (a_lineCounts, .inl (cI, 4, .inl v_lineCounts)), (a_baselines, .inl (cI, 2560, .inl v_baselines))]) [1, 2, 0] rfl) (hD.sub (ws' := [(a_t, .inr (1, [.ref a_lineCounts, .ref a_ends, .ref a_overflowing, .ref a_ahead, .ref a_behind, .ref a_setParts, .ref a_baselines, .ref a_lineBlocks, .ref a_reached, .int v_height, .int v_first, .int v_step, .int v_rounding, .int v_cursor])), (a_lineCounts, .inl (cI, 4, .inl v_lineCounts)), (a_baselines, .inl (cI, 2560, .inl v_baselines))]) [1, 2, 0] (by decide) rfl) hS
      · replace hf := ineg hc hf
        refine lv_aload_n hx hb dX1_linesOnGrid_13 rfl (lv_at hl 0 rfl) ?_
        refine lv_aload_n hx hb dX1_linesOnGrid_14 rfl (lv_at hl 0 rfl) ?_
        refine lv_iload_n hx hb dX1_linesOnGrid_15 rfl (lv_at hl 1 rfl) ?_
        refine lv_iload_n hx hb dX1_linesOnGrid_16 rfl (lv_at hl 3 rfl) ?_
        replace hf := bd_some hf
        obtain ⟨qo2, hqo2, hf⟩ := hf
        refine g_Vi (As := [.int i1, .int w3]) (rest := [.ref a_t]) (wr := [(a_lineCounts, .inl (cI, 4, .inl v_lineCounts))]) ⟨hx, hb, hml, hown, hts⟩ (k_X1_baselineOf l D cI cC a_t a_lineCounts a_ends a_overflowing a_ahead a_behind a_setParts a_baselines a_lineBlocks a_reached i1 w3 v_height v_first v_step v_rounding v_cursor v_baselines qo2 hqo2) (cwV 2 hts gX1_linesOnGrid_X1_baselineOf rfl rfl rfl (by decide +kernel) ⟨Nat.le_of_ble_eq_true rfl, Nat.le_of_ble_eq_true rfl⟩) hK hP hD hS hA 1 1 rfl rfl rfl [1, 0] [2] rfl rfl rfl rfl rfl (by decide) rfl hl.1 rfl (Nat.le_of_ble_eq_true rfl) dX1_linesOnGrid_17 (Nat.zero_le _) (Nat.zero_le _) (fun H locs hP hD hS => ?_)
        have hP : va_P D vwCl [(a_lineCounts, .inl (cI, 4, .inl v_lineCounts)), (a_t, .inr (1, [.ref a_lineCounts, .ref a_ends, .ref a_overflowing, .ref a_ahead, .ref a_behind, .ref a_setParts, .ref a_baselines, .ref a_lineBlocks, .ref a_reached, .int v_height, .int v_first, .int v_step, .int v_rounding, .int v_cursor])), (a_baselines, .inl (cI, 2560, .inl v_baselines))] H := hP
        have hD : va_D A [(a_lineCounts, .inl (cI, 4, .inl v_lineCounts)), (a_t, .inr (1, [.ref a_lineCounts, .ref a_ends, .ref a_overflowing, .ref a_ahead, .ref a_behind, .ref a_setParts, .ref a_baselines, .ref a_lineBlocks, .ref a_reached, .int v_height, .int v_first, .int v_step, .int v_rounding, .int v_cursor])), (a_baselines, .inl (cI, 2560, .inl v_baselines))] := hD
        replace hf := bd_some hf
        obtain ⟨qo3, hqo3, hf⟩ := hf
        refine g_Vi (As := [.int qo2]) (rest := []) (wr := [(a_lineCounts, .inl (cI, 4, .inl v_lineCounts)), (a_baselines, .inl (cI, 2560, .inl v_baselines))]) ⟨hx, hb, hml, hown, hts⟩ (k_X1_isOnGrid l D cI cC a_t a_lineCounts a_ends a_overflowing a_ahead a_behind a_setParts a_baselines a_lineBlocks a_reached qo2 v_height v_first v_step v_rounding v_cursor qo3 hqo3) (cwV 1 hts gX1_linesOnGrid_X1_isOnGrid rfl rfl rfl (by decide +kernel) ⟨Nat.le_of_ble_eq_true rfl, Nat.le_of_ble_eq_true rfl⟩) hK hP hD hS hA 1 1 rfl rfl rfl [1] [0, 2] rfl rfl rfl rfl rfl (by decide) rfl hl.1 rfl (Nat.le_of_ble_eq_true rfl) dX1_linesOnGrid_20 (Nat.zero_le _) (Nat.zero_le _) (fun H locs hP hD hS => ?_)
        have hP : va_P D vwCl [(a_lineCounts, .inl (cI, 4, .inl v_lineCounts)), (a_baselines, .inl (cI, 2560, .inl v_baselines)), (a_t, .inr (1, [.ref a_lineCounts, .ref a_ends, .ref a_overflowing, .ref a_ahead, .ref a_behind, .ref a_setParts, .ref a_baselines, .ref a_lineBlocks, .ref a_reached, .int v_height, .int v_first, .int v_step, .int v_rounding, .int v_cursor]))] H := hP
        have hD : va_D A [(a_lineCounts, .inl (cI, 4, .inl v_lineCounts)), (a_baselines, .inl (cI, 2560, .inl v_baselines)), (a_t, .inr (1, [.ref a_lineCounts, .ref a_ends, .ref a_overflowing, .ref a_ahead, .ref a_behind, .ref a_setParts, .ref a_baselines, .ref a_lineBlocks, .ref a_reached, .int v_height, .int v_first, .int v_step, .int v_rounding, .int v_cursor]))] := hD
        refine lv_if_eq (tgt := 29) hx hb dX1_linesOnGrid_23 (by decide) (fun hc => ?_) (fun hc => ?_)
        · replace hf := ip hc hf
          exact J29 (fX1_linesOnGrid_4 i1 v_first v_step v_lineCounts v_baselines n) w2 w3 hk4 _ _ _ hf (hP.sub (ws' := [(a_t, .inr (1, [.ref a_lineCounts, .ref a_ends, .ref a_overflowing, .ref a_ahead, .ref a_behind, .ref a_setParts, .ref a_baselines, .ref a_lineBlocks, .ref a_reached, .int v_height, .int v_first, .int v_step, .int v_rounding, .int v_cursor])), (a_lineCounts, .inl (cI, 4, .inl v_lineCounts)), (a_baselines, .inl (cI, 2560, .inl v_baselines))]) [2, 0, 1] rfl) (hD.sub (ws' := [(a_t, .inr (1, [.ref a_lineCounts, .ref a_ends, .ref a_overflowing, .ref a_ahead, .ref a_behind, .ref a_setParts, .ref a_baselines, .ref a_lineBlocks, .ref a_reached, .int v_height, .int v_first, .int v_step, .int v_rounding, .int v_cursor])), (a_lineCounts, .inl (cI, 4, .inl v_lineCounts)), (a_baselines, .inl (cI, 2560, .inl v_baselines))]) [2, 0, 1] (by decide) rfl) hS (lv_sub hl [0, 1, 2, 3] rfl)
        · replace hf := ineg hc hf
          replace hf := nm_some hf
          obtain ⟨qx5, eqx5, hf⟩ := hf
          refine lv_iinc (v := qx5) (lv' := [(2, .int qx5), (0, .ref a_t), (1, .int i1), (3, .int w3)]) hx hb dX1_linesOnGrid_26 hl (k := 2) rfl (by rw [eqx5]; rfl) (by decide) rfl (fun ls hl => ?_)
          exact J29 (fX1_linesOnGrid_4 i1 v_first v_step v_lineCounts v_baselines n) qx5 w3 hk4 _ _ _ hf (hP.sub (ws' := [(a_t, .inr (1, [.ref a_lineCounts, .ref a_ends, .ref a_overflowing, .ref a_ahead, .ref a_behind, .ref a_setParts, .ref a_baselines, .ref a_lineBlocks, .ref a_reached, .int v_height, .int v_first, .int v_step, .int v_rounding, .int v_cursor])), (a_lineCounts, .inl (cI, 4, .inl v_lineCounts)), (a_baselines, .inl (cI, 2560, .inl v_baselines))]) [2, 0, 1] rfl) (hD.sub (ws' := [(a_t, .inr (1, [.ref a_lineCounts, .ref a_ends, .ref a_overflowing, .ref a_ahead, .ref a_behind, .ref a_setParts, .ref a_baselines, .ref a_lineBlocks, .ref a_reached, .int v_height, .int v_first, .int v_step, .int v_rounding, .int v_cursor])), (a_lineCounts, .inl (cI, 4, .inl v_lineCounts)), (a_baselines, .inl (cI, 2560, .inl v_baselines))]) [2, 0, 1] (by decide) rfl) hS (lv_sub hl [1, 2, 0, 3] rfl)
  unfold fX1_linesOnGrid at hf
  refine lv_iconst (v := 0) hx hb dX1_linesOnGrid_0 (by decide) ?_
  refine lv_istore_n (lv' := [(2, .int 0), (0, .ref a_t), (1, .int i1)]) hx hb dX1_linesOnGrid_1 rfl hl (by decide) rfl (fun ls hl => ?_)
  refine lv_iconst (v := 0) hx hb dX1_linesOnGrid_2 (by decide) ?_
  refine lv_istore_n (lv' := [(3, .int 0), (2, .int 0), (0, .ref a_t), (1, .int i1)]) hx hb dX1_linesOnGrid_3 rfl hl (by decide) rfl (fun ls hl => ?_)
  exact J4 Fu 0 0 _ _ _ hf (hP.sub (ws' := [(a_t, .inr (1, [.ref a_lineCounts, .ref a_ends, .ref a_overflowing, .ref a_ahead, .ref a_behind, .ref a_setParts, .ref a_baselines, .ref a_lineBlocks, .ref a_reached, .int v_height, .int v_first, .int v_step, .int v_rounding, .int v_cursor])), (a_lineCounts, .inl (cI, 4, .inl v_lineCounts)), (a_baselines, .inl (cI, 2560, .inl v_baselines))]) [0, 1, 2] rfl) (hD.sub (ws' := [(a_t, .inr (1, [.ref a_lineCounts, .ref a_ends, .ref a_overflowing, .ref a_ahead, .ref a_behind, .ref a_setParts, .ref a_baselines, .ref a_lineBlocks, .ref a_reached, .int v_height, .int v_first, .int v_step, .int v_rounding, .int v_cursor])), (a_lineCounts, .inl (cI, 4, .inl v_lineCounts)), (a_baselines, .inl (cI, 2560, .inl v_baselines))]) [0, 1, 2] (by decide) rfl) hS (lv_sub hl [2, 3, 1, 0] rfl)
def fX1_metLines_48 (k4 : Int32 → Int32 → Option (Int32)) (i1 : Int32) (v_lineCounts : Nat → Int32) (v_baselines : Nat → Int32) (w2 : Int32) (w3 : Int32) : Option (Int32) :=
    nm (w3 + 1) fun qx5 => k4 w2 qx5
def fX1_metLines_45 (k4 : Int32 → Int32 → Option (Int32)) (i1 : Int32) (v_lineCounts : Nat → Int32) (v_baselines : Nat → Int32) (w2 : Int32) (w3 : Int32) : Option (Int32) :=
    nm (w2 + 1) fun qx4 => fX1_metLines_48 k4 i1 v_lineCounts v_baselines qx4 w3
def fX1_metLines_4 (i1 : Int32) (v_lineCounts : Nat → Int32) (v_baselines : Nat → Int32) : Nat → Int32 → Int32 → Option (Int32)
  | 0 => fun _ _ => none
  | n + 1 => fun w2 w3 =>
    bd (fX1_linesOf i1 v_lineCounts) fun qo1 => if qo1 ≤ w3 then (some w2) else (bd (fX1_baselineOf i1 w3 v_baselines) fun qo2 => bd (fX1_hasLineAt (i1 - 1) qo2 v_lineCounts v_baselines) fun qo3 => if qo3 = 0 then (bd (fX1_hasLineAt (i1 + 1) qo2 v_lineCounts v_baselines) fun qo6 => if qo6 = 0 then (fX1_metLines_48 (fX1_metLines_4 i1 v_lineCounts v_baselines n) i1 v_lineCounts v_baselines w2 w3) else (fX1_metLines_45 (fX1_metLines_4 i1 v_lineCounts v_baselines n) i1 v_lineCounts v_baselines w2 w3)) else (fX1_metLines_45 (fX1_metLines_4 i1 v_lineCounts v_baselines n) i1 v_lineCounts v_baselines w2 w3))
def fX1_metLines (i1 : Int32) (v_lineCounts : Nat → Int32) (v_baselines : Nat → Int32) : Option (Int32) :=
  fX1_metLines_4 i1 v_lineCounts v_baselines Fu 0 0
def rX1_metLines : Room := { frames := 4, cells := 0, slots := 0, locals := 86 }
set_option maxHeartbeats 4000000 in
set_option maxRecDepth 100000 in
theorem k_X1_metLines (l : Launch) (D : va_G) (cI cC : ClassId) (a_t : Nat) (a_lineCounts : Nat) (a_ends : Nat) (a_overflowing : Nat) (a_ahead : Nat) (a_behind : Nat) (a_setParts : Nat) (a_baselines : Nat) (a_lineBlocks : Nat) (a_reached : Nat) (i1 : Int32) (v_height : Int32) (v_first : Int32) (v_step : Int32) (v_rounding : Int32) (v_cursor : Int32) (v_lineCounts : Nat → Int32) (v_baselines : Nat → Int32) (o : Int32) (hf : fX1_metLines i1 v_lineCounts v_baselines = some o) : CTi l yX1_metLines wsX1_metLines rX1_metLines D cI cC [.ref a_t, .int i1] [(a_t, .inr (1, [.ref a_lineCounts, .ref a_ends, .ref a_overflowing, .ref a_ahead, .ref a_behind, .ref a_setParts, .ref a_baselines, .ref a_lineBlocks, .ref a_reached, .int v_height, .int v_first, .int v_step, .int v_rounding, .int v_cursor])), (a_lineCounts, .inl (cI, 4, .inl v_lineCounts)), (a_baselines, .inl (cI, 2560, .inl v_baselines))] [(a_t, .inr (1, [.ref a_lineCounts, .ref a_ends, .ref a_overflowing, .ref a_ahead, .ref a_behind, .ref a_setParts, .ref a_baselines, .ref a_lineBlocks, .ref a_reached, .int v_height, .int v_first, .int v_step, .int v_rounding, .int v_cursor])), (a_lineCounts, .inl (cI, 4, .inl v_lineCounts)), (a_baselines, .inl (cI, 2560, .inl v_baselines))] o := by
  refine CTi_of (cc := cX1_metLines) (maxL := 5) (ty := .int) (by decide) rfl (Nat.le_of_ble_eq_true rfl) ?_
  intro p e s m args below meth c A Q ls C0 hA hP hD hl hret
  obtain ⟨hx, hb, hml, hts, hown, hK⟩ := C0
  have hown : s.vm.findClass RX1 = some m.cls := hown
  have hS : va_S A s.heap s.heap [] := va_S.rf
  have hl : lv_has ls 5 [(0, .ref a_t), (1, .int i1)] := hl
  have J48 : ∀ (k4 : Int32 → Int32 → Option (Int32)) (w2 : Int32) (w3 : Int32) (hk4 : ∀ (w2 : Int32) (w3 : Int32) (H : Heap) (locs : List Loc) (ls : Array Slot), k4 w2 w3 = some o → va_P D vwCl [(a_t, .inr (1, [.ref a_lineCounts, .ref a_ends, .ref a_overflowing, .ref a_ahead, .ref a_behind, .ref a_setParts, .ref a_baselines, .ref a_lineBlocks, .ref a_reached, .int v_height, .int v_first, .int v_step, .int v_rounding, .int v_cursor])), (a_lineCounts, .inl (cI, 4, .inl v_lineCounts)), (a_baselines, .inl (cI, 2560, .inl v_baselines))] H → va_D A [(a_t, .inr (1, [.ref a_lineCounts, .ref a_ends, .ref a_overflowing, .ref a_ahead, .ref a_behind, .ref a_setParts, .ref a_baselines, .ref a_lineBlocks, .ref a_reached, .int v_height, .int v_first, .int v_step, .int v_rounding, .int v_cursor])), (a_lineCounts, .inl (cI, 4, .inl v_lineCounts)), (a_baselines, .inl (cI, 2560, .inl v_baselines))] → va_S A s.heap H locs → lv_has ls 5 [(0, .ref a_t), (1, .int i1), (2, .int w2), (3, .int w3)] → W p l e rX1_metLines s m args below meth c H locs 0 0 Q (F0 m 4 ls [])) (H : Heap) (locs : List Loc) (ls : Array Slot), fX1_metLines_48 k4 i1 v_lineCounts v_baselines w2 w3 = some o → va_P D vwCl [(a_t, .inr (1, [.ref a_lineCounts, .ref a_ends, .ref a_overflowing, .ref a_ahead, .ref a_behind, .ref a_setParts, .ref a_baselines, .ref a_lineBlocks, .ref a_reached, .int v_height, .int v_first, .int v_step, .int v_rounding, .int v_cursor])), (a_lineCounts, .inl (cI, 4, .inl v_lineCounts)), (a_baselines, .inl (cI, 2560, .inl v_baselines))] H → va_D A [(a_t, .inr (1, [.ref a_lineCounts, .ref a_ends, .ref a_overflowing, .ref a_ahead, .ref a_behind, .ref a_setParts, .ref a_baselines, .ref a_lineBlocks, .ref a_reached, .int v_height, .int v_first, .int v_step, .int v_rounding, .int v_cursor])), (a_lineCounts, .inl (cI, 4, .inl v_lineCounts)), (a_baselines, .inl (cI, 2560, .inl v_baselines))] → va_S A s.heap H locs → lv_has ls 5 [(0, .ref a_t), (1, .int i1), (2, .int w2), (3, .int w3)] → W p l e rX1_metLines s m args below meth c H locs 0 0 Q (F0 m 48 ls []) := by
    intro k4 w2 w3 hk4 H locs ls hf hP hD hS hl
    unfold fX1_metLines_48 at hf
    replace hf := nm_some hf
    obtain ⟨qx5, eqx5, hf⟩ := hf
    refine lv_iinc (v := qx5) (lv' := [(3, .int qx5), (0, .ref a_t), (1, .int i1), (2, .int w2)]) hx hb dX1_metLines_48 hl (k := 3) rfl (by rw [eqx5]; rfl) (by decide) rfl (fun ls hl => ?_)
    refine lv_goto (tgt := 4) hx hb dX1_metLines_51 (by decide) ?_
    exact hk4 w2 qx5 _ _ _ hf (hP.sub (ws' := [(a_t, .inr (1, [.ref a_lineCounts, .ref a_ends, .ref a_overflowing, .ref a_ahead, .ref a_behind, .ref a_setParts, .ref a_baselines, .ref a_lineBlocks, .ref a_reached, .int v_height, .int v_first, .int v_step, .int v_rounding, .int v_cursor])), (a_lineCounts, .inl (cI, 4, .inl v_lineCounts)), (a_baselines, .inl (cI, 2560, .inl v_baselines))]) [0, 1, 2] rfl) (hD.sub (ws' := [(a_t, .inr (1, [.ref a_lineCounts, .ref a_ends, .ref a_overflowing, .ref a_ahead, .ref a_behind, .ref a_setParts, .ref a_baselines, .ref a_lineBlocks, .ref a_reached, .int v_height, .int v_first, .int v_step, .int v_rounding, .int v_cursor])), (a_lineCounts, .inl (cI, 4, .inl v_lineCounts)), (a_baselines, .inl (cI, 2560, .inl v_baselines))]) [0, 1, 2] (by decide) rfl) hS (lv_sub hl [1, 2, 3, 0] rfl)
  have J45 : ∀ (k4 : Int32 → Int32 → Option (Int32)) (w2 : Int32) (w3 : Int32) (hk4 : ∀ (w2 : Int32) (w3 : Int32) (H : Heap) (locs : List Loc) (ls : Array Slot), k4 w2 w3 = some o → va_P D vwCl [(a_t, .inr (1, [.ref a_lineCounts, .ref a_ends, .ref a_overflowing, .ref a_ahead, .ref a_behind, .ref a_setParts, .ref a_baselines, .ref a_lineBlocks, .ref a_reached, .int v_height, .int v_first, .int v_step, .int v_rounding, .int v_cursor])), (a_lineCounts, .inl (cI, 4, .inl v_lineCounts)), (a_baselines, .inl (cI, 2560, .inl v_baselines))] H → va_D A [(a_t, .inr (1, [.ref a_lineCounts, .ref a_ends, .ref a_overflowing, .ref a_ahead, .ref a_behind, .ref a_setParts, .ref a_baselines, .ref a_lineBlocks, .ref a_reached, .int v_height, .int v_first, .int v_step, .int v_rounding, .int v_cursor])), (a_lineCounts, .inl (cI, 4, .inl v_lineCounts)), (a_baselines, .inl (cI, 2560, .inl v_baselines))] → va_S A s.heap H locs → lv_has ls 5 [(0, .ref a_t), (1, .int i1), (2, .int w2), (3, .int w3)] → W p l e rX1_metLines s m args below meth c H locs 0 0 Q (F0 m 4 ls [])) (H : Heap) (locs : List Loc) (ls : Array Slot), fX1_metLines_45 k4 i1 v_lineCounts v_baselines w2 w3 = some o → va_P D vwCl [(a_t, .inr (1, [.ref a_lineCounts, .ref a_ends, .ref a_overflowing, .ref a_ahead, .ref a_behind, .ref a_setParts, .ref a_baselines, .ref a_lineBlocks, .ref a_reached, .int v_height, .int v_first, .int v_step, .int v_rounding, .int v_cursor])), (a_lineCounts, .inl (cI, 4, .inl v_lineCounts)), (a_baselines, .inl (cI, 2560, .inl v_baselines))] H → va_D A [(a_t, .inr (1, [.ref a_lineCounts, .ref a_ends, .ref a_overflowing, .ref a_ahead, .ref a_behind, .ref a_setParts, .ref a_baselines, .ref a_lineBlocks, .ref a_reached, .int v_height, .int v_first, .int v_step, .int v_rounding, .int v_cursor])), (a_lineCounts, .inl (cI, 4, .inl v_lineCounts)), (a_baselines, .inl (cI, 2560, .inl v_baselines))] → va_S A s.heap H locs → lv_has ls 5 [(0, .ref a_t), (1, .int i1), (2, .int w2), (3, .int w3)] → W p l e rX1_metLines s m args below meth c H locs 0 0 Q (F0 m 45 ls []) := by
    intro k4 w2 w3 hk4 H locs ls hf hP hD hS hl
    unfold fX1_metLines_45 at hf
    replace hf := nm_some hf
    obtain ⟨qx4, eqx4, hf⟩ := hf
    refine lv_iinc (v := qx4) (lv' := [(2, .int qx4), (0, .ref a_t), (1, .int i1), (3, .int w3)]) hx hb dX1_metLines_45 hl (k := 2) rfl (by rw [eqx4]; rfl) (by decide) rfl (fun ls hl => ?_)
    exact J48 k4 qx4 w3 hk4 _ _ _ hf (hP.sub (ws' := [(a_t, .inr (1, [.ref a_lineCounts, .ref a_ends, .ref a_overflowing, .ref a_ahead, .ref a_behind, .ref a_setParts, .ref a_baselines, .ref a_lineBlocks, .ref a_reached, .int v_height, .int v_first, .int v_step, .int v_rounding, .int v_cursor])), (a_lineCounts, .inl (cI, 4, .inl v_lineCounts)), (a_baselines, .inl (cI, 2560, .inl v_baselines))]) [0, 1, 2] rfl) (hD.sub (ws' := [(a_t, .inr (1, [.ref a_lineCounts, .ref a_ends, .ref a_overflowing, .ref a_ahead, .ref a_behind, .ref a_setParts, .ref a_baselines, .ref a_lineBlocks, .ref a_reached, .int v_height, .int v_first, .int v_step, .int v_rounding, .int v_cursor])), (a_lineCounts, .inl (cI, 4, .inl v_lineCounts)), (a_baselines, .inl (cI, 2560, .inl v_baselines))]) [0, 1, 2] (by decide) rfl) hS (lv_sub hl [1, 2, 0, 3] rfl)
  have J4 : ∀   (n : Nat) (w2 : Int32) (w3 : Int32) (H : Heap) (locs : List Loc) (ls : Array Slot), fX1_metLines_4 i1 v_lineCounts v_baselines n w2 w3 = some o → va_P D vwCl [(a_t, .inr (1, [.ref a_lineCounts, .ref a_ends, .ref a_overflowing, .ref a_ahead, .ref a_behind, .ref a_setParts, .ref a_baselines, .ref a_lineBlocks, .ref a_reached, .int v_height, .int v_first, .int v_step, .int v_rounding, .int v_cursor])), (a_lineCounts, .inl (cI, 4, .inl v_lineCounts)), (a_baselines, .inl (cI, 2560, .inl v_baselines))] H → va_D A [(a_t, .inr (1, [.ref a_lineCounts, .ref a_ends, .ref a_overflowing, .ref a_ahead, .ref a_behind, .ref a_setParts, .ref a_baselines, .ref a_lineBlocks, .ref a_reached, .int v_height, .int v_first, .int v_step, .int v_rounding, .int v_cursor])), (a_lineCounts, .inl (cI, 4, .inl v_lineCounts)), (a_baselines, .inl (cI, 2560, .inl v_baselines))] → va_S A s.heap H locs → lv_has ls 5 [(0, .ref a_t), (1, .int i1), (2, .int w2), (3, .int w3)] → W p l e rX1_metLines s m args below meth c H locs 0 0 Q (F0 m 4 ls []) := by
    intro  n
    induction n with
    | zero =>
      intro w2 w3 H locs ls hf
      have hf0 : (none : Option (Int32)) = some o := hf
      cases hf0
    | succ n hk4 =>
      intro w2 w3 H locs ls hf hP hD hS hl
      rw [fX1_metLines_4] at hf
      refine lv_iload_n hx hb dX1_metLines_4 rfl (lv_at hl 3 rfl) ?_
      refine lv_aload_n hx hb dX1_metLines_5 rfl (lv_at hl 0 rfl) ?_
      refine lv_iload_n hx hb dX1_metLines_6 rfl (lv_at hl 1 rfl) ?_
      replace hf := bd_some hf
      obtain ⟨qo1, hqo1, hf⟩ := hf
      refine g_Vi (As := [.int i1]) (rest := [.int w3]) (wr := [(a_baselines, .inl (cI, 2560, .inl v_baselines))]) ⟨hx, hb, hml, hown, hts⟩ (k_X1_linesOf l D cI cC a_t a_lineCounts a_ends a_overflowing a_ahead a_behind a_setParts a_baselines a_lineBlocks a_reached i1 v_height v_first v_step v_rounding v_cursor v_lineCounts qo1 hqo1) (cwV 1 hts gX1_metLines_X1_linesOf rfl rfl rfl (by decide +kernel) ⟨Nat.le_of_ble_eq_true rfl, Nat.le_of_ble_eq_true rfl⟩) hK hP hD hS hA 1 0 rfl rfl rfl [0, 1] [2] rfl rfl rfl rfl rfl (by decide) rfl hl.1 rfl (Nat.le_of_ble_eq_true rfl) dX1_metLines_7 (Nat.zero_le _) (Nat.zero_le _) (fun H locs hP hD hS => ?_)
      have hP : va_P D vwCl [(a_baselines, .inl (cI, 2560, .inl v_baselines)), (a_t, .inr (1, [.ref a_lineCounts, .ref a_ends, .ref a_overflowing, .ref a_ahead, .ref a_behind, .ref a_setParts, .ref a_baselines, .ref a_lineBlocks, .ref a_reached, .int v_height, .int v_first, .int v_step, .int v_rounding, .int v_cursor])), (a_lineCounts, .inl (cI, 4, .inl v_lineCounts))] H := hP
      have hD : va_D A [(a_baselines, .inl (cI, 2560, .inl v_baselines)), (a_t, .inr (1, [.ref a_lineCounts, .ref a_ends, .ref a_overflowing, .ref a_ahead, .ref a_behind, .ref a_setParts, .ref a_baselines, .ref a_lineBlocks, .ref a_reached, .int v_height, .int v_first, .int v_step, .int v_rounding, .int v_cursor])), (a_lineCounts, .inl (cI, 4, .inl v_lineCounts))] := hD
      refine lv_icmp_ge (tgt := 54) hx hb dX1_metLines_10 (by decide) (fun hc => ?_) (fun hc => ?_)
      · replace hf := ip hc hf
        refine lv_iload_n hx hb dX1_metLines_54 rfl (lv_at hl 2 rfl) ?_
        have ho := Option.some.inj hf
        subst ho
        exact hret dX1_metLines_55 rfl (hP.sub (ws' := [(a_t, .inr (1, [.ref a_lineCounts, .ref a_ends, .ref a_overflowing, .ref a_ahead, .ref a_behind, .ref a_setParts, .ref a_baselines, .ref a_lineBlocks, .ref a_reached, .int v_height, .int v_first, .int v_step, .int v_rounding, .int v_cursor])), (a_lineCounts, .inl (cI, 4, .inl v_lineCounts)), (a_baselines, .inl (cI, 2560, .inl v_baselines))]) [1, 2, 0] rfl) (hD.sub (ws' := [(a_t, .inr (1, [.ref a_lineCounts, .ref a_ends, .ref a_overflowing, .ref a_ahead, .ref a_behind, .ref a_setParts, .ref a_baselines, .ref a_lineBlocks, .ref a_reached, .int v_height, .int v_first, .int v_step, .int v_rounding, .int v_cursor])), (a_lineCounts, .inl (cI, 4, .inl v_lineCounts)), (a_baselines, .inl (cI, 2560, .inl v_baselines))]) [1, 2, 0] (by decide) rfl) hS
      · replace hf := ineg hc hf
        refine lv_aload_n hx hb dX1_metLines_13 rfl (lv_at hl 0 rfl) ?_
        refine lv_iload_n hx hb dX1_metLines_14 rfl (lv_at hl 1 rfl) ?_
        refine lv_iload_n hx hb dX1_metLines_15 rfl (lv_at hl 3 rfl) ?_
        replace hf := bd_some hf
        obtain ⟨qo2, hqo2, hf⟩ := hf
        refine g_Vi (As := [.int i1, .int w3]) (rest := []) (wr := [(a_lineCounts, .inl (cI, 4, .inl v_lineCounts))]) ⟨hx, hb, hml, hown, hts⟩ (k_X1_baselineOf l D cI cC a_t a_lineCounts a_ends a_overflowing a_ahead a_behind a_setParts a_baselines a_lineBlocks a_reached i1 w3 v_height v_first v_step v_rounding v_cursor v_baselines qo2 hqo2) (cwV 2 hts gX1_metLines_X1_baselineOf rfl rfl rfl (by decide +kernel) ⟨Nat.le_of_ble_eq_true rfl, Nat.le_of_ble_eq_true rfl⟩) hK hP hD hS hA 1 1 rfl rfl rfl [1, 0] [2] rfl rfl rfl rfl rfl (by decide) rfl hl.1 rfl (Nat.le_of_ble_eq_true rfl) dX1_metLines_16 (Nat.zero_le _) (Nat.zero_le _) (fun H locs hP hD hS => ?_)
        have hP : va_P D vwCl [(a_lineCounts, .inl (cI, 4, .inl v_lineCounts)), (a_t, .inr (1, [.ref a_lineCounts, .ref a_ends, .ref a_overflowing, .ref a_ahead, .ref a_behind, .ref a_setParts, .ref a_baselines, .ref a_lineBlocks, .ref a_reached, .int v_height, .int v_first, .int v_step, .int v_rounding, .int v_cursor])), (a_baselines, .inl (cI, 2560, .inl v_baselines))] H := hP
        have hD : va_D A [(a_lineCounts, .inl (cI, 4, .inl v_lineCounts)), (a_t, .inr (1, [.ref a_lineCounts, .ref a_ends, .ref a_overflowing, .ref a_ahead, .ref a_behind, .ref a_setParts, .ref a_baselines, .ref a_lineBlocks, .ref a_reached, .int v_height, .int v_first, .int v_step, .int v_rounding, .int v_cursor])), (a_baselines, .inl (cI, 2560, .inl v_baselines))] := hD
        refine lv_istore (lv' := [(4, .int qo2), (0, .ref a_t), (1, .int i1), (2, .int w2), (3, .int w3)]) hx hb dX1_metLines_19 hl (by decide) rfl (fun ls hl => ?_)
        refine lv_aload_n hx hb dX1_metLines_21 rfl (lv_at hl 1 rfl) ?_
        refine lv_iload_n hx hb dX1_metLines_22 rfl (lv_at hl 2 rfl) ?_
        refine lv_iconst (v := 1) hx hb dX1_metLines_23 (by decide) ?_
        refine lv_isub hx hb dX1_metLines_24 ?_
        refine lv_iload hx hb dX1_metLines_25 (lv_at hl 0 rfl) ?_
        replace hf := bd_some hf
        obtain ⟨qo3, hqo3, hf⟩ := hf
        refine g_Vi (As := [.int (i1 - 1), .int qo2]) (rest := []) (wr := []) ⟨hx, hb, hml, hown, hts⟩ (k_X1_hasLineAt l D cI cC a_t a_lineCounts a_ends a_overflowing a_ahead a_behind a_setParts a_baselines a_lineBlocks a_reached (i1 - 1) qo2 v_height v_first v_step v_rounding v_cursor v_lineCounts v_baselines qo3 hqo3) (cwV 2 hts gX1_metLines_X1_hasLineAt rfl rfl rfl (by decide +kernel) ⟨Nat.le_of_ble_eq_true rfl, Nat.le_of_ble_eq_true rfl⟩) hK hP hD hS hA 1 1 rfl rfl rfl [1, 0, 2] [] rfl rfl rfl rfl rfl (by decide) rfl hl.1 rfl (Nat.le_of_ble_eq_true rfl) dX1_metLines_27 (Nat.zero_le _) (Nat.zero_le _) (fun H locs hP hD hS => ?_)
        have hP : va_P D vwCl [(a_t, .inr (1, [.ref a_lineCounts, .ref a_ends, .ref a_overflowing, .ref a_ahead, .ref a_behind, .ref a_setParts, .ref a_baselines, .ref a_lineBlocks, .ref a_reached, .int v_height, .int v_first, .int v_step, .int v_rounding, .int v_cursor])), (a_lineCounts, .inl (cI, 4, .inl v_lineCounts)), (a_baselines, .inl (cI, 2560, .inl v_baselines))] H := hP
        have hD : va_D A [(a_t, .inr (1, [.ref a_lineCounts, .ref a_ends, .ref a_overflowing, .ref a_ahead, .ref a_behind, .ref a_setParts, .ref a_baselines, .ref a_lineBlocks, .ref a_reached, .int v_height, .int v_first, .int v_step, .int v_rounding, .int v_cursor])), (a_lineCounts, .inl (cI, 4, .inl v_lineCounts)), (a_baselines, .inl (cI, 2560, .inl v_baselines))] := hD
        refine lv_if_ne (tgt := 45) hx hb dX1_metLines_30 (by decide) (fun hc => ?_) (fun hc => ?_)
        · replace hf := ineg hc hf
          exact J45 (fX1_metLines_4 i1 v_lineCounts v_baselines n) w2 w3 hk4 _ _ _ hf (hP.sub (ws' := [(a_t, .inr (1, [.ref a_lineCounts, .ref a_ends, .ref a_overflowing, .ref a_ahead, .ref a_behind, .ref a_setParts, .ref a_baselines, .ref a_lineBlocks, .ref a_reached, .int v_height, .int v_first, .int v_step, .int v_rounding, .int v_cursor])), (a_lineCounts, .inl (cI, 4, .inl v_lineCounts)), (a_baselines, .inl (cI, 2560, .inl v_baselines))]) [0, 1, 2] rfl) (hD.sub (ws' := [(a_t, .inr (1, [.ref a_lineCounts, .ref a_ends, .ref a_overflowing, .ref a_ahead, .ref a_behind, .ref a_setParts, .ref a_baselines, .ref a_lineBlocks, .ref a_reached, .int v_height, .int v_first, .int v_step, .int v_rounding, .int v_cursor])), (a_lineCounts, .inl (cI, 4, .inl v_lineCounts)), (a_baselines, .inl (cI, 2560, .inl v_baselines))]) [0, 1, 2] (by decide) rfl) hS (lv_sub hl [1, 2, 3, 4] rfl)
        · replace hf := ip hc hf
          refine lv_aload_n hx hb dX1_metLines_33 rfl (lv_at hl 1 rfl) ?_
          refine lv_iload_n hx hb dX1_metLines_34 rfl (lv_at hl 2 rfl) ?_
          refine lv_iconst (v := 1) hx hb dX1_metLines_35 (by decide) ?_
          refine lv_iadd hx hb dX1_metLines_36 ?_
          refine lv_iload hx hb dX1_metLines_37 (lv_at hl 0 rfl) ?_
          replace hf := bd_some hf
          obtain ⟨qo6, hqo6, hf⟩ := hf
          refine g_Vi (As := [.int (i1 + 1), .int qo2]) (rest := []) (wr := []) ⟨hx, hb, hml, hown, hts⟩ (k_X1_hasLineAt l D cI cC a_t a_lineCounts a_ends a_overflowing a_ahead a_behind a_setParts a_baselines a_lineBlocks a_reached (i1 + 1) qo2 v_height v_first v_step v_rounding v_cursor v_lineCounts v_baselines qo6 hqo6) (cwV 2 hts gX1_metLines_X1_hasLineAt rfl rfl rfl (by decide +kernel) ⟨Nat.le_of_ble_eq_true rfl, Nat.le_of_ble_eq_true rfl⟩) hK hP hD hS hA 1 0 rfl rfl rfl [0, 1, 2] [] rfl rfl rfl rfl rfl (by decide) rfl hl.1 rfl (Nat.le_of_ble_eq_true rfl) dX1_metLines_39 (Nat.zero_le _) (Nat.zero_le _) (fun H locs hP hD hS => ?_)
          have hP : va_P D vwCl [(a_t, .inr (1, [.ref a_lineCounts, .ref a_ends, .ref a_overflowing, .ref a_ahead, .ref a_behind, .ref a_setParts, .ref a_baselines, .ref a_lineBlocks, .ref a_reached, .int v_height, .int v_first, .int v_step, .int v_rounding, .int v_cursor])), (a_lineCounts, .inl (cI, 4, .inl v_lineCounts)), (a_baselines, .inl (cI, 2560, .inl v_baselines))] H := hP
          have hD : va_D A [(a_t, .inr (1, [.ref a_lineCounts, .ref a_ends, .ref a_overflowing, .ref a_ahead, .ref a_behind, .ref a_setParts, .ref a_baselines, .ref a_lineBlocks, .ref a_reached, .int v_height, .int v_first, .int v_step, .int v_rounding, .int v_cursor])), (a_lineCounts, .inl (cI, 4, .inl v_lineCounts)), (a_baselines, .inl (cI, 2560, .inl v_baselines))] := hD
          refine lv_if_eq (tgt := 48) hx hb dX1_metLines_42 (by decide) (fun hc => ?_) (fun hc => ?_)
          · replace hf := ip hc hf
            exact J48 (fX1_metLines_4 i1 v_lineCounts v_baselines n) w2 w3 hk4 _ _ _ hf (hP.sub (ws' := [(a_t, .inr (1, [.ref a_lineCounts, .ref a_ends, .ref a_overflowing, .ref a_ahead, .ref a_behind, .ref a_setParts, .ref a_baselines, .ref a_lineBlocks, .ref a_reached, .int v_height, .int v_first, .int v_step, .int v_rounding, .int v_cursor])), (a_lineCounts, .inl (cI, 4, .inl v_lineCounts)), (a_baselines, .inl (cI, 2560, .inl v_baselines))]) [0, 1, 2] rfl) (hD.sub (ws' := [(a_t, .inr (1, [.ref a_lineCounts, .ref a_ends, .ref a_overflowing, .ref a_ahead, .ref a_behind, .ref a_setParts, .ref a_baselines, .ref a_lineBlocks, .ref a_reached, .int v_height, .int v_first, .int v_step, .int v_rounding, .int v_cursor])), (a_lineCounts, .inl (cI, 4, .inl v_lineCounts)), (a_baselines, .inl (cI, 2560, .inl v_baselines))]) [0, 1, 2] (by decide) rfl) hS (lv_sub hl [1, 2, 3, 4] rfl)
          · replace hf := ineg hc hf
            exact J45 (fX1_metLines_4 i1 v_lineCounts v_baselines n) w2 w3 hk4 _ _ _ hf (hP.sub (ws' := [(a_t, .inr (1, [.ref a_lineCounts, .ref a_ends, .ref a_overflowing, .ref a_ahead, .ref a_behind, .ref a_setParts, .ref a_baselines, .ref a_lineBlocks, .ref a_reached, .int v_height, .int v_first, .int v_step, .int v_rounding, .int v_cursor])), (a_lineCounts, .inl (cI, 4, .inl v_lineCounts)), (a_baselines, .inl (cI, 2560, .inl v_baselines))]) [0, 1, 2] rfl) (hD.sub (ws' := [(a_t, .inr (1, [.ref a_lineCounts, .ref a_ends, .ref a_overflowing, .ref a_ahead, .ref a_behind, .ref a_setParts, .ref a_baselines, .ref a_lineBlocks, .ref a_reached, .int v_height, .int v_first, .int v_step, .int v_rounding, .int v_cursor])), (a_lineCounts, .inl (cI, 4, .inl v_lineCounts)), (a_baselines, .inl (cI, 2560, .inl v_baselines))]) [0, 1, 2] (by decide) rfl) hS (lv_sub hl [1, 2, 3, 4] rfl)
  unfold fX1_metLines at hf
  refine lv_iconst (v := 0) hx hb dX1_metLines_0 (by decide) ?_
  refine lv_istore_n (lv' := [(2, .int 0), (0, .ref a_t), (1, .int i1)]) hx hb dX1_metLines_1 rfl hl (by decide) rfl (fun ls hl => ?_)
  refine lv_iconst (v := 0) hx hb dX1_metLines_2 (by decide) ?_
  refine lv_istore_n (lv' := [(3, .int 0), (2, .int 0), (0, .ref a_t), (1, .int i1)]) hx hb dX1_metLines_3 rfl hl (by decide) rfl (fun ls hl => ?_)
  exact J4 Fu 0 0 _ _ _ hf (hP.sub (ws' := [(a_t, .inr (1, [.ref a_lineCounts, .ref a_ends, .ref a_overflowing, .ref a_ahead, .ref a_behind, .ref a_setParts, .ref a_baselines, .ref a_lineBlocks, .ref a_reached, .int v_height, .int v_first, .int v_step, .int v_rounding, .int v_cursor])), (a_lineCounts, .inl (cI, 4, .inl v_lineCounts)), (a_baselines, .inl (cI, 2560, .inl v_baselines))]) [0, 1, 2] rfl) (hD.sub (ws' := [(a_t, .inr (1, [.ref a_lineCounts, .ref a_ends, .ref a_overflowing, .ref a_ahead, .ref a_behind, .ref a_setParts, .ref a_baselines, .ref a_lineBlocks, .ref a_reached, .int v_height, .int v_first, .int v_step, .int v_rounding, .int v_cursor])), (a_lineCounts, .inl (cI, 4, .inl v_lineCounts)), (a_baselines, .inl (cI, 2560, .inl v_baselines))]) [0, 1, 2] (by decide) rfl) hS (lv_sub hl [2, 3, 1, 0] rfl)
