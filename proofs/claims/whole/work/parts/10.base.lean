abbrev vwCl : List vw_C := [(RX0, TX0, 2), (RX1, TX1, 14), (RX2, TX2, 1), (RX3, TX3, 7), (RX4, TX4, 7), (RX5, TX5, 16)]
/-! THE PURE SIDE: what a walk computes, in continuations; 'none' where the machine would throw -/
def aget {α : Type} (n : Nat) (f : Nat → Int32) (i : Int32) (k : Int32 → Option α) : Option α := if i < 0 ∨ n ≤ i.toNatClampNeg then none else k (f i.toNatClampNeg)
def aset {α : Type} (n : Nat) (f : Nat → Int32) (i x : Int32) (k : (Nat → Int32) → Option α) : Option α := if i < 0 ∨ n ≤ i.toNatClampNeg then none else k (upd f i.toNatClampNeg x)
def asetc {α : Type} (n : Nat) (f : Nat → Int32) (i x : Int32) (k : (Nat → Int32) → Option α) : Option α := if i < 0 ∨ n ≤ i.toNatClampNeg then none else k (upd f i.toNatClampNeg (vp_nar .char x))
def adiv {α : Type} (x y : Int32) (k : Int32 → Option α) : Option α := if y = 0 then none else k (x / y)
def arem {α : Type} (x y : Int32) (k : Int32 → Option α) : Option α := if y = 0 then none else k (x - x / y * y)
def nm {α : Type} (v : Int32) (k : Int32 → Option α) : Option α := k v
def bchk {α : Type} (v : Int32) (k : Option α) : Option α := if v = 0 ∨ v = 1 then k else none
def bd {α β : Type} (x : Option β) (k : β → Option α) : Option α := match x with
  | none => none
  | some b => k b
def acpy {α : Type} (n0 n1 : Nat) (f g : Nat → Int32) (sp dp n : Int32) (k : (Nat → Int32) → Option α) : Option α := if (¬ sp < 0) ∧ (¬ dp < 0) ∧ (¬ n < 0) ∧ sp.toNatClampNeg + n.toNatClampNeg ≤ n0 ∧ dp.toNatClampNeg + n.toNatClampNeg ≤ n1 then k (va_cpy f g sp.toNatClampNeg dp.toNatClampNeg n.toNatClampNeg) else none
def Fu : Nat := 100000
theorem ip {α : Type} {c : Prop} [Decidable c] {a b : Option α} {o : α} (hc : c) (h : (if c then a else b) = some o) : a = some o := by rw [if_pos hc] at h; exact h
theorem ineg {α : Type} {c : Prop} [Decidable c] {a b : Option α} {o : α} (hc : ¬ c) (h : (if c then a else b) = some o) : b = some o := by rw [if_neg hc] at h; exact h
theorem bd_some {α β : Type} {x : Option β} {k : β → Option α} {o : α} (h : bd x k = some o) : ∃ b, x = some b ∧ k b = some o := by
  cases x with
  | none => cases h
  | some b => exact ⟨b, rfl, h⟩
theorem bchk_some {α : Type} {v : Int32} {k : Option α} {o : α} (h : bchk v k = some o) : (v = 0 ∨ v = 1) ∧ k = some o := by
  unfold bchk at h
  split at h
  · rename_i q; exact ⟨q, h⟩
  · cases h
theorem nbool {v : Int32} (h : v = 0 ∨ v = 1) : narrow .boolean (.int v) = .int v := by
  rcases h with rfl | rfl <;> rfl
/-! what the tables say of nest mates, and of the classes: it goes with every contract -/
def NWl : List Cond := [.methodLinkNest RX4 18 yX1_init RX4, .methodLinkNest RX4 28 yX0_init RX4, .methodLinkNest RX4 43 yX3_init RX4, .methodLinkNest RX0 19 yX4_copyCells RX4, .methodLinkNest RX1 98 yX4_isColumn RX4, .methodLinkNest RX2 18 yX4_isColumn RX4, .methodLinkNest RX2 41 yX4_writeParagraph RX4, .methodLinkNest RX2 49 yX4_writeLineless RX4, .methodLinkNest RX2 53 yX4_copyCells RX4, .methodLinkNest RX3 54 yX4_writeParagraph RX4, .methodLinkNest RX3 58 yX4_isFitting RX4, .methodLinkNest RX3 62 yX4_writeLineless RX4]
def NWf : Cond := .fieldLinkNest RX2 15 RX4 "FIRST_SETTINGS" "[I" RX4
def KK (D : va_G) (cI cC : ClassId) (U : State) : Prop := va_K D vwCl [(cI, .int), (cC, .char)] U ∧ (∀ w ∈ NWl, va_Nw w U) ∧ va_Nw NWf U
theorem NWl_warm {s U : State} (hW : s.WarmedH U.vm) : ∀ w ∈ NWl, va_Nw w s → va_Nw w U := by
  intro w hw h
  simp only [NWl, List.mem_cons, List.not_mem_nil, or_false] at hw
  rcases hw with rfl | rfl | rfl | rfl | rfl | rfl | rfl | rfl | rfl | rfl | rfl | rfl <;> exact va_Nw.warmM hW h
theorem NWl_same {u U : State} (hv : u.vm = U.vm) : ∀ w ∈ NWl, va_Nw w u → va_Nw w U := by
  intro w hw h
  simp only [NWl, List.mem_cons, List.not_mem_nil, or_false] at hw
  rcases hw with rfl | rfl | rfl | rfl | rfl | rfl | rfl | rfl | rfl | rfl | rfl | rfl <;> exact va_Nw.same rfl hv h
theorem KK.warm {D : va_G} {cI cC : ClassId} {s U : State} (hW : s.WarmedH U.vm) (h : KK D cI cC s) : KK D cI cC U := ⟨va_K.moved hW.alike h.1, fun w hw => NWl_warm hW w hw (h.2.1 w hw), va_Nw.warmF hW h.2.2⟩
theorem KK.frame {D : va_G} {cI cC : ClassId} {U : State} (a : Array Value) (g : JFrame) (mk : MethodId) (h : KK D cI cC U) : KK D cI cC (U.calling g mk a) := ⟨va_K.moved (u := U) (U := U.calling g mk a) (Vm.Alike.refl U.vm) h.1, fun w hw => NWl_same (u := U) (U := U.calling g mk a) rfl w hw (h.2.1 w hw), va_Nw.same (u := U) (U := U.calling g mk a) rfl rfl h.2.2⟩
/-! contracts of one form: over a world of cells, an answer, the world behind it; nothing is made -/
def CPre (D : va_G) (cI cC : ClassId) (w : va_W) (sz : Nat) (U : State) : Prop := U.heap.size = sz ∧ va_P D vwCl w U.heap ∧ KK D cI cC U ∧ va_D (fun _ => True) w
def CPost (D : va_G) (w w' : va_W) (sz : Nat) (t : State) : Prop := va_P D vwCl w' t.heap ∧ va_D (va_A w sz) w'
def CTi (l : Launch) (y : MethodName) (ws : List Cond) (rm : Room) (D : va_G) (cI cC : ClassId) (av : List Value) (w w' : va_W) (r : Int32) : Prop :=
  ∀ sz : Nat, Met l y ws rm (va_Pc av (CPre D cI cC w sz)) (va_Qi (fun (r' : Int32) (_ : Unit) => r' = r) (fun _ t => CPost D w w' sz t) (va_A w sz)) 0 0 (va_A w sz)
def CTv (l : Launch) (y : MethodName) (ws : List Cond) (rm : Room) (D : va_G) (cI cC : ClassId) (av : List Value) (w w' : va_W) : Prop :=
  ∀ sz : Nat, Met l y ws rm (va_Pc av (CPre D cI cC w sz)) (va_Qv (fun (_ : Unit) => True) (fun _ t => CPost D w w' sz t) (va_A w sz)) 0 0 (va_A w sz)
def CTr (l : Launch) (y : MethodName) (ws : List Cond) (rm : Room) (D : va_G) (cI cC : ClassId) (av : List Value) (w w' : va_W) (r : Nat) : Prop :=
  ∀ sz : Nat, Met l y ws rm (va_Pc av (CPre D cI cC w sz)) (va_Qr (fun (_ : Unit) => True) (fun _ a t => a = r ∧ CPost D w w' sz t) (va_A w sz)) 0 0 (va_A w sz)
theorem CPre.blind {D : va_G} {cI cC : ClassId} {w : va_W} {sz : Nat} {av : List Value} : FrameBlind (va_Pc av (CPre D cI cC w sz)) := fun a U g mk q => by
  obtain ⟨q0, q1, qP, qK, qD⟩ := q
  exact ⟨q0, q1, qP, qK.frame a g mk, qD⟩
section GW
variable {p : Program} {l : Launch} {e : Env} {R : Room} {s : State} {m : MethodId} {args : Array Value} {below : List Frame} {meth : Method} {c : Code} {H : Heap} {locs : List Loc} {cells slots : Nat} {Q : State → Prop}
variable {cc : ByteArray} {pc : Nat} {ls : Array Slot} {rest : List Value} {D : va_G} {cl : List vw_C} {A : Nat → Prop} {a : Nat} {tys : List (ClassId × FieldType)} {ws : va_W} {H0 : Heap} {α : Type} {o : α}
theorem g_nm {v : Int32} {k : Int32 → Option α} (hf : nm v k = some o) (kk : ∀ y, k y = some o → W p l e R s m args below meth c H locs cells slots Q (F0 m pc ls (.int y :: rest))) : W p l e R s m args below meth c H locs cells slots Q (F0 m pc ls (.int v :: rest)) := kk v hf
theorem g_iald (hexec : p.tables.exec = Jvm.exec) (hb : c.code = cc) (hK : va_K D cl tys s) (hP : va_P D cl ws H) (q0 t0 : Nat) {cA : ClassId} {n : Nat} {f : Nat → Int32} (ha : ws[q0]? = some (a, .inl (cA, n, .inl f))) (ht : tys[t0]? = some (cA, .int)) {i : Int32} {k : Int32 → Option α} (hf : aget n f i k = some o) (hdg : decode cc pc = .ok (.iaload, 1))
    (kk : ∀ x, k x = some o → W p l e R s m args below meth c H locs cells slots Q (F0 m (pc + 1) ls (.int x :: rest))) : W p l e R s m args below meth c H locs cells slots Q (F0 m pc ls (.int i :: .ref a :: rest)) := by
  unfold aget at hf
  split at hf
  · cases hf
  · rename_i h; exact va_iald hexec hb hK hP q0 t0 ha ht h hdg (kk _ hf)
theorem g_cald (hexec : p.tables.exec = Jvm.exec) (hb : c.code = cc) (hK : va_K D cl tys s) (hP : va_P D cl ws H) (q0 t0 : Nat) {cA : ClassId} {n : Nat} {f : Nat → Int32} (ha : ws[q0]? = some (a, .inl (cA, n, .inl f))) (ht : tys[t0]? = some (cA, .char)) {i : Int32} {k : Int32 → Option α} (hf : aget n f i k = some o) (hdg : decode cc pc = .ok (.caload, 1))
    (kk : ∀ x, k x = some o → W p l e R s m args below meth c H locs cells slots Q (F0 m (pc + 1) ls (.int x :: rest))) : W p l e R s m args below meth c H locs cells slots Q (F0 m pc ls (.int i :: .ref a :: rest)) := by
  unfold aget at hf
  split at hf
  · cases hf
  · rename_i h; exact va_cald hexec hb hK hP q0 t0 ha ht h hdg (kk _ hf)
theorem g_iast (hexec : p.tables.exec = Jvm.exec) (hb : c.code = cc) (hK : va_K D cl tys s) (hP : va_P D cl ws H) (hD : va_D A ws) (hS : va_S A H0 H locs) (q0 t0 : Nat) {cA : ClassId} {n : Nat} {f : Nat → Int32} (ha : ws[q0]? = some (a, .inl (cA, n, .inl f))) (ht : tys[t0]? = some (cA, .int)) {i : Int32} {x : Int32} {k : (Nat → Int32) → Option α} (hf : aset n f i x k = some o) (hdg : decode cc pc = .ok (.iastore, 1))
    (kk : ∀ (g : Nat → Int32) (H1 : Heap) (locs1 : List Loc), k g = some o → va_P D cl (ws.set q0 (a, .inl (cA, n, .inl g))) H1 → va_D A (ws.set q0 (a, .inl (cA, n, .inl g))) → va_S A H0 H1 locs1 → W p l e R s m args below meth c H1 locs1 cells slots Q (F0 m (pc + 1) ls rest)) : W p l e R s m args below meth c H locs cells slots Q (F0 m pc ls (.int x :: .int i :: .ref a :: rest)) := by
  unfold aset at hf
  split at hf
  · cases hf
  · rename_i h; exact va_iast hexec hb hK hP hD hS q0 t0 ha ht h hdg (fun H1 locs1 => kk _ H1 locs1 hf)
theorem g_cast (hexec : p.tables.exec = Jvm.exec) (hb : c.code = cc) (hK : va_K D cl tys s) (hP : va_P D cl ws H) (hD : va_D A ws) (hS : va_S A H0 H locs) (q0 t0 : Nat) {cA : ClassId} {n : Nat} {f : Nat → Int32} (ha : ws[q0]? = some (a, .inl (cA, n, .inl f))) (ht : tys[t0]? = some (cA, .char)) {i : Int32} {x : Int32} {k : (Nat → Int32) → Option α} (hf : asetc n f i x k = some o) (hdg : decode cc pc = .ok (.castore, 1))
    (kk : ∀ (g : Nat → Int32) (H1 : Heap) (locs1 : List Loc), k g = some o → va_P D cl (ws.set q0 (a, .inl (cA, n, .inl g))) H1 → va_D A (ws.set q0 (a, .inl (cA, n, .inl g))) → va_S A H0 H1 locs1 → W p l e R s m args below meth c H1 locs1 cells slots Q (F0 m (pc + 1) ls rest)) : W p l e R s m args below meth c H locs cells slots Q (F0 m pc ls (.int x :: .int i :: .ref a :: rest)) := by
  unfold asetc at hf
  split at hf
  · cases hf
  · rename_i h; exact va_cast hexec hb hK hP hD hS q0 t0 ha ht h hdg (fun H1 locs1 => kk _ H1 locs1 hf)
theorem g_idiv (hexec : p.tables.exec = Jvm.exec) (hb : c.code = cc) {x y : Int32} {k : Int32 → Option α} (hf : adiv x y k = some o) (hdg : decode cc pc = .ok (.idiv, 1))
    (kk : ∀ z, k z = some o → W p l e R s m args below meth c H locs cells slots Q (F0 m (pc + 1) ls (.int z :: rest))) : W p l e R s m args below meth c H locs cells slots Q (F0 m pc ls (.int y :: .int x :: rest)) := by
  unfold adiv at hf
  split at hf
  · cases hf
  · rename_i h; exact lv_idiv hexec hb hdg h (kk _ hf)
theorem g_irem (hexec : p.tables.exec = Jvm.exec) (hb : c.code = cc) {x y : Int32} {k : Int32 → Option α} (hf : arem x y k = some o) (hdg : decode cc pc = .ok (.irem, 1))
    (kk : ∀ z, k z = some o → W p l e R s m args below meth c H locs cells slots Q (F0 m (pc + 1) ls (.int z :: rest))) : W p l e R s m args below meth c H locs cells slots Q (F0 m pc ls (.int y :: .int x :: rest)) := by
  unfold arem at hf
  split at hf
  · cases hf
  · rename_i h; exact lv_irem hexec hb hdg h (kk _ hf)
theorem g_copy (hexec : p.tables.exec = Jvm.exec) (hb : c.code = cc) (hml : c.maxLocals = ls.size) {own : String} {index : Nat} (hown : s.vm.findClass own = some m.cls) (hlink : (Cond.methodLink own index arraycopyName).before args s = true) (hnat : (Cond.native arraycopyName).before args s = true) (hstat : (Cond.static arraycopyName).before args s = true) (hini : (Cond.initialized "java/lang/System").before args s = true)
    (hK : va_K D cl tys s) (hP : va_P D cl ws H) (hD : va_D A ws) (hS : va_S A H0 H locs) (q0 q1 t0 : Nat) {a0 : Nat} {cI : ClassId} {n0 n1 : Nat} {f g : Nat → Int32} (ha0 : ws[q0]? = some (a0, .inl (cI, n0, .inl f))) (ha1 : ws[q1]? = some (a, .inl (cI, n1, .inl g))) (ht0 : tys[t0]? = some (cI, .int))
    {sp dp n : Int32} {k : (Nat → Int32) → Option α} (hf : acpy n0 n1 f g sp dp n k = some o)
    (hframes : 1 ≤ R.frames) (hlocals : (rest.map fun v => v.category).sum + (nativeFrameWords "java/lang/System" "arraycopy" 5 + 11) ≤ R.locals) (hdg : decode cc pc = .ok (.invokestatic index, 3))
    (kk : ∀ (g1 : Nat → Int32) (H1 : Heap) (locs1 : List Loc), k g1 = some o → va_P D cl (ws.set q1 (a, .inl (cI, n1, .inl g1))) H1 → va_D A (ws.set q1 (a, .inl (cI, n1, .inl g1))) → va_S A H0 H1 locs1 → W p l e R s m args below meth c H1 locs1 cells slots Q (F0 m (pc + 3) ls rest)) : W p l e R s m args below meth c H locs cells slots Q (F0 m pc ls (.int n :: .int dp :: .ref a :: .int sp :: .ref a0 :: rest)) := by
  unfold acpy at hf
  split at hf
  · rename_i h
    obtain ⟨h1, h2, h3, h4, h5⟩ := h
    exact va_copyi hexec hb hml hown hlink hnat hstat hini hK hP hD hS q0 q1 t0 t0 ha0 ha1 ht0 ht0 rfl h1 h2 h3 h4 h5 (fun _ _ => rfl) hframes hlocals hdg (fun H1 locs1 => kk _ H1 locs1 hf)
  · cases hf
end GW
theorem nm_some {α : Type} {v : Int32} {k : Int32 → Option α} {o : α} (h : nm v k = some o) : ∃ y, y = v ∧ k y = some o := ⟨v, rfl, h⟩
