/-! calls and ends in the one form of contracts -/
section GC
variable {p : Program} {l : Launch} {e : Env} {R : Room} {s : State} {m : MethodId} {args : Array Value} {below : List Frame} {meth : Method} {c : Code} {H : Heap} {locs : List Loc} {cells slots : Nat} {Q : State → Prop}
variable {y : MethodName} {bytes cc : ByteArray} {maxL nL n index : Nat} {ret : Option FieldType} {wsc : List Cond} {rm : Room} {Ts : List Cond} {own C : String} {b : Nat} {As rest st0 : List Value} {pc : Nat} {ls : Array Slot}
variable {D : va_G} {cI cC : ClassId} {A : Nat → Prop} {H0 : Heap} {w wc wr w1 : va_W} {r : Int32} {ra : Nat} {q : vw_C} {fs : List Value}
theorem g_Vi (S : CallFix p m c cc nL s args Ts own) (hM : CTi l y wsc rm D cI cC (.ref b :: As) wc w1 r) (cw : CallW R s args own C index y bytes maxL ret wsc rm 0 0 n) (hKK : KK D cI cC s) (hP : va_P D vwCl w H) (hD : va_D A w) (hS : va_S A H0 H locs) (hA : ∀ x, H0.size ≤ x → A x)
    (ci qr : Nat) (hc : vwCl[ci]? = some q) (hC : q.1 = C) (hr : w[qr]? = some (b, .inr (ci, fs))) (isC isR : List Nat) (hc1 : isC.filterMap (fun i => w[i]?) = wc) (hc2 : isC.map (fun i => w[i]?) = wc.map some) (hr2 : isR.map (fun i => w[i]?) = wr.map some) (hn1 : va_nd isC = true) (hn2 : va_nd isR = true) (hdis : ∀ i ∈ isR, i ∉ isC)
    (hn : As.length = n) (hsize : ls.size = nL) (hstack : st0 = As.reverse ++ .ref b :: rest) (hW : (rest.map fun v => v.category).sum ≤ 8) (hdg : decode cc pc = .ok (.invokevirtual index, 3)) (hf1 : cells ≤ R.cells) (hf2 : slots ≤ R.slots)
    (kk : ∀ (H1 : Heap) (locs1 : List Loc), va_P D vwCl (wr ++ w1) H1 → va_D A (wr ++ w1) → va_S A H0 H1 locs1 → W p l e R s m args below meth c H1 locs1 cells slots Q (F0 m (pc + 3) ls (.int r :: rest))) : W p l e R s m args below meth c H locs cells slots Q (F0 m pc ls st0) := by
  subst hC
  have hPc := hP.sub isC hc1
  have hDc := hD.sub isC hn1 hc2
  have hFc := va_free hD hS hA isC hc2
  refine va_calli (va_runV (As := As) (rest := rest) S (hM H.size) cw ⟨CPre.blind, va_recv hKK.1 hP hc hr, fun U hU hW2 => ⟨rfl, by rw [hU], by rw [hU]; exact hPc, hKK.warm hW2, hDc.weaken (fun _ _ _ _ => trivial)⟩⟩ rfl hn hsize hstack (lv_room hW) hdg ⟨hf1, hf2⟩) hS (fun q _ h => hFc q h) hFc (fun r2 u t H1 locs1 ht hvm hw hB hz1 hk1 hS1 => ?_)
  obtain ⟨hP1, hD1⟩ := hB
  rw [ht] at hP1
  have hJ := va_join hP hD isC isR hc2 hr2 hn2 hdis hk1 hFc hP1 hD1
  rw [hw]
  exact kk H1 locs1 hJ.1 hJ.2 hS1
theorem g_Vv (S : CallFix p m c cc nL s args Ts own) (hM : CTv l y wsc rm D cI cC (.ref b :: As) wc w1) (cw : CallW R s args own C index y bytes maxL ret wsc rm 0 0 n) (hKK : KK D cI cC s) (hP : va_P D vwCl w H) (hD : va_D A w) (hS : va_S A H0 H locs) (hA : ∀ x, H0.size ≤ x → A x)
    (ci qr : Nat) (hc : vwCl[ci]? = some q) (hC : q.1 = C) (hr : w[qr]? = some (b, .inr (ci, fs))) (isC isR : List Nat) (hc1 : isC.filterMap (fun i => w[i]?) = wc) (hc2 : isC.map (fun i => w[i]?) = wc.map some) (hr2 : isR.map (fun i => w[i]?) = wr.map some) (hn1 : va_nd isC = true) (hn2 : va_nd isR = true) (hdis : ∀ i ∈ isR, i ∉ isC)
    (hn : As.length = n) (hsize : ls.size = nL) (hstack : st0 = As.reverse ++ .ref b :: rest) (hW : (rest.map fun v => v.category).sum ≤ 8) (hdg : decode cc pc = .ok (.invokevirtual index, 3)) (hf1 : cells ≤ R.cells) (hf2 : slots ≤ R.slots)
    (kk : ∀ (H1 : Heap) (locs1 : List Loc), va_P D vwCl (wr ++ w1) H1 → va_D A (wr ++ w1) → va_S A H0 H1 locs1 → W p l e R s m args below meth c H1 locs1 cells slots Q (F0 m (pc + 3) ls rest)) : W p l e R s m args below meth c H locs cells slots Q (F0 m pc ls st0) := by
  subst hC
  have hPc := hP.sub isC hc1
  have hDc := hD.sub isC hn1 hc2
  have hFc := va_free hD hS hA isC hc2
  refine va_callv (va_runV (As := As) (rest := rest) S (hM H.size) cw ⟨CPre.blind, va_recv hKK.1 hP hc hr, fun U hU hW2 => ⟨rfl, by rw [hU], by rw [hU]; exact hPc, hKK.warm hW2, hDc.weaken (fun _ _ _ _ => trivial)⟩⟩ rfl hn hsize hstack (lv_room hW) hdg ⟨hf1, hf2⟩) hS (fun q _ h => hFc q h) hFc (fun u t H1 locs1 ht hvm hw hB hz1 hk1 hS1 => ?_)
  obtain ⟨hP1, hD1⟩ := hB
  rw [ht] at hP1
  have hJ := va_join hP hD isC isR hc2 hr2 hn2 hdis hk1 hFc hP1 hD1
  exact kk H1 locs1 hJ.1 hJ.2 hS1
theorem g_Vr (S : CallFix p m c cc nL s args Ts own) (hM : CTr l y wsc rm D cI cC (.ref b :: As) wc w1 ra) (cw : CallW R s args own C index y bytes maxL ret wsc rm 0 0 n) (hKK : KK D cI cC s) (hP : va_P D vwCl w H) (hD : va_D A w) (hS : va_S A H0 H locs) (hA : ∀ x, H0.size ≤ x → A x)
    (ci qr : Nat) (hc : vwCl[ci]? = some q) (hC : q.1 = C) (hr : w[qr]? = some (b, .inr (ci, fs))) (isC isR : List Nat) (hc1 : isC.filterMap (fun i => w[i]?) = wc) (hc2 : isC.map (fun i => w[i]?) = wc.map some) (hr2 : isR.map (fun i => w[i]?) = wr.map some) (hn1 : va_nd isC = true) (hn2 : va_nd isR = true) (hdis : ∀ i ∈ isR, i ∉ isC)
    (hn : As.length = n) (hsize : ls.size = nL) (hstack : st0 = As.reverse ++ .ref b :: rest) (hW : (rest.map fun v => v.category).sum ≤ 8) (hdg : decode cc pc = .ok (.invokevirtual index, 3)) (hf1 : cells ≤ R.cells) (hf2 : slots ≤ R.slots)
    (kk : ∀ (H1 : Heap) (locs1 : List Loc), va_P D vwCl (wr ++ w1) H1 → va_D A (wr ++ w1) → va_S A H0 H1 locs1 → W p l e R s m args below meth c H1 locs1 cells slots Q (F0 m (pc + 3) ls (.ref ra :: rest))) : W p l e R s m args below meth c H locs cells slots Q (F0 m pc ls st0) := by
  subst hC
  have hPc := hP.sub isC hc1
  have hDc := hD.sub isC hn1 hc2
  have hFc := va_free hD hS hA isC hc2
  refine va_callr (va_runV (As := As) (rest := rest) S (hM H.size) cw ⟨CPre.blind, va_recv hKK.1 hP hc hr, fun U hU hW2 => ⟨rfl, by rw [hU], by rw [hU]; exact hPc, hKK.warm hW2, hDc.weaken (fun _ _ _ _ => trivial)⟩⟩ rfl hn hsize hstack (lv_room hW) hdg ⟨hf1, hf2⟩) hS (fun q _ h => hFc q h) hFc (fun u a2 t H1 locs1 ht hvm hw hB hz1 hk1 hS1 => ?_)
  obtain ⟨ha2, hP1, hD1⟩ := hB
  rw [ht] at hP1
  have hJ := va_join hP hD isC isR hc2 hr2 hn2 hdis hk1 hFc hP1 hD1
  rw [ha2]
  exact kk H1 locs1 hJ.1 hJ.2 hS1
theorem g_Si (S : CallFix p m c cc nL s args Ts own) (hM : CTi l y wsc rm D cI cC As wc w1 r) (cw : CallB R s args own index y bytes maxL ret wsc rm 0 0 n ∧ (Cond.static y).before args s = true) (hKK : KK D cI cC s) (hP : va_P D vwCl w H) (hD : va_D A w) (hS : va_S A H0 H locs) (hA : ∀ x, H0.size ≤ x → A x)
    (isC isR : List Nat) (hc1 : isC.filterMap (fun i => w[i]?) = wc) (hc2 : isC.map (fun i => w[i]?) = wc.map some) (hr2 : isR.map (fun i => w[i]?) = wr.map some) (hn1 : va_nd isC = true) (hn2 : va_nd isR = true) (hdis : ∀ i ∈ isR, i ∉ isC)
    (hn : As.length = n) (hsize : ls.size = nL) (hstack : st0 = As.reverse ++ rest) (hW : (rest.map fun v => v.category).sum ≤ 8) (hdg : decode cc pc = .ok (.invokestatic index, 3)) (hf1 : cells ≤ R.cells) (hf2 : slots ≤ R.slots)
    (kk : ∀ (H1 : Heap) (locs1 : List Loc), va_P D vwCl (wr ++ w1) H1 → va_D A (wr ++ w1) → va_S A H0 H1 locs1 → W p l e R s m args below meth c H1 locs1 cells slots Q (F0 m (pc + 3) ls (.int r :: rest))) : W p l e R s m args below meth c H locs cells slots Q (F0 m pc ls st0) := by
  have hPc := hP.sub isC hc1
  have hDc := hD.sub isC hn1 hc2
  have hFc := va_free hD hS hA isC hc2
  refine va_calli (va_runS (As := As) (rest := rest) S (hM H.size) cw ⟨CPre.blind, fun U hU hW2 => ⟨rfl, by rw [hU], by rw [hU]; exact hPc, hKK.warm hW2, hDc.weaken (fun _ _ _ _ => trivial)⟩⟩ rfl hn hsize hstack (lv_room hW) hdg ⟨hf1, hf2⟩) hS (fun q _ h => hFc q h) hFc (fun r2 u t H1 locs1 ht hvm hw hB hz1 hk1 hS1 => ?_)
  obtain ⟨hP1, hD1⟩ := hB
  rw [ht] at hP1
  have hJ := va_join hP hD isC isR hc2 hr2 hn2 hdis hk1 hFc hP1 hD1
  rw [hw]
  exact kk H1 locs1 hJ.1 hJ.2 hS1
theorem g_Ni {host : String} (S : CallFix p m c cc nL s args Ts own) (hM : CTi l y wsc rm D cI cC As wc w1 r) (cw : va_CN R s args own index y host bytes maxL ret wsc rm 0 0 n) (hst : (Cond.static y).before args s = true) (hKK : KK D cI cC s) (hP : va_P D vwCl w H) (hD : va_D A w) (hS : va_S A H0 H locs) (hA : ∀ x, H0.size ≤ x → A x)
    (isC isR : List Nat) (hc1 : isC.filterMap (fun i => w[i]?) = wc) (hc2 : isC.map (fun i => w[i]?) = wc.map some) (hr2 : isR.map (fun i => w[i]?) = wr.map some) (hn1 : va_nd isC = true) (hn2 : va_nd isR = true) (hdis : ∀ i ∈ isR, i ∉ isC)
    (hn : As.length = n) (hsize : ls.size = nL) (hstack : st0 = As.reverse ++ rest) (hW : (rest.map fun v => v.category).sum ≤ 8) (hdg : decode cc pc = .ok (.invokestatic index, 3)) (hf1 : cells ≤ R.cells) (hf2 : slots ≤ R.slots)
    (kk : ∀ (H1 : Heap) (locs1 : List Loc), va_P D vwCl (wr ++ w1) H1 → va_D A (wr ++ w1) → va_S A H0 H1 locs1 → W p l e R s m args below meth c H1 locs1 cells slots Q (F0 m (pc + 3) ls (.int r :: rest))) : W p l e R s m args below meth c H locs cells slots Q (F0 m pc ls st0) := by
  have hPc := hP.sub isC hc1
  have hDc := hD.sub isC hn1 hc2
  have hFc := va_free hD hS hA isC hc2
  refine va_calli (va_runSN (As := As) (rest := rest) S (hM H.size) ⟨cw, hst, trivial⟩ ⟨CPre.blind, fun U hU hW2 => ⟨rfl, by rw [hU], by rw [hU]; exact hPc, hKK.warm hW2, hDc.weaken (fun _ _ _ _ => trivial)⟩⟩ rfl hn hsize hstack (lv_room hW) hdg ⟨hf1, hf2⟩) hS (fun q _ h => hFc q h) hFc (fun r2 u t H1 locs1 ht hvm hw hB hz1 hk1 hS1 => ?_)
  obtain ⟨hP1, hD1⟩ := hB
  rw [ht] at hP1
  have hJ := va_join hP hD isC isR hc2 hr2 hn2 hdis hk1 hFc hP1 hD1
  rw [hw]
  exact kk H1 locs1 hJ.1 hJ.2 hS1
theorem g_Nv {host : String} (S : CallFix p m c cc nL s args Ts own) (hM : CTv l y wsc rm D cI cC As wc w1) (cw : va_CN R s args own index y host bytes maxL ret wsc rm 0 0 n) (hst : (Cond.static y).before args s = true) (hKK : KK D cI cC s) (hP : va_P D vwCl w H) (hD : va_D A w) (hS : va_S A H0 H locs) (hA : ∀ x, H0.size ≤ x → A x)
    (isC isR : List Nat) (hc1 : isC.filterMap (fun i => w[i]?) = wc) (hc2 : isC.map (fun i => w[i]?) = wc.map some) (hr2 : isR.map (fun i => w[i]?) = wr.map some) (hn1 : va_nd isC = true) (hn2 : va_nd isR = true) (hdis : ∀ i ∈ isR, i ∉ isC)
    (hn : As.length = n) (hsize : ls.size = nL) (hstack : st0 = As.reverse ++ rest) (hW : (rest.map fun v => v.category).sum ≤ 8) (hdg : decode cc pc = .ok (.invokestatic index, 3)) (hf1 : cells ≤ R.cells) (hf2 : slots ≤ R.slots)
    (kk : ∀ (H1 : Heap) (locs1 : List Loc), va_P D vwCl (wr ++ w1) H1 → va_D A (wr ++ w1) → va_S A H0 H1 locs1 → W p l e R s m args below meth c H1 locs1 cells slots Q (F0 m (pc + 3) ls rest)) : W p l e R s m args below meth c H locs cells slots Q (F0 m pc ls st0) := by
  have hPc := hP.sub isC hc1
  have hDc := hD.sub isC hn1 hc2
  have hFc := va_free hD hS hA isC hc2
  refine va_callv (va_runSN (As := As) (rest := rest) S (hM H.size) ⟨cw, hst, trivial⟩ ⟨CPre.blind, fun U hU hW2 => ⟨rfl, by rw [hU], by rw [hU]; exact hPc, hKK.warm hW2, hDc.weaken (fun _ _ _ _ => trivial)⟩⟩ rfl hn hsize hstack (lv_room hW) hdg ⟨hf1, hf2⟩) hS (fun q _ h => hFc q h) hFc (fun u t H1 locs1 ht hvm hw hB hz1 hk1 hS1 => ?_)
  obtain ⟨hP1, hD1⟩ := hB
  rw [ht] at hP1
  have hJ := va_join hP hD isC isR hc2 hr2 hn2 hdis hk1 hFc hP1 hD1
  exact kk H1 locs1 hJ.1 hJ.2 hS1
end GC
section GE
variable {l : Launch} {y : MethodName} {ws ws' : List Cond} {rm : Room} {D : va_G} {cI cC : ClassId} {av : List Value} {w w' : va_W} {r : Int32} {ra : Nat} {cc : ByteArray} {maxL : Nat} {ty : FieldType}
/-- what a method's body has at its start -/
def GAt (p : Program) (ws : List Cond) (D : va_G) (cI cC : ClassId) (cc : ByteArray) (maxL : Nat) (y : MethodName) (s : State) (m : MethodId) (args : Array Value) (meth : Method) (c : Code) : Prop :=
  p.tables.exec = Jvm.exec ∧ c.code = cc ∧ c.maxLocals = maxL ∧ (∀ v ∈ ws, v.before args s = true) ∧ s.vm.findClass y.cls = some m.cls ∧ KK D cI cC s
theorem CTi_of (hy : plainName y.cls = true) (hw : ws = Cond.code y cc maxL (some ty) :: ws') (hlen : (lg_sl av).length ≤ maxL)
    (body : ∀ (p : Program) (e : Env) (s : State) (m : MethodId) (args : Array Value) (below : List Frame) (meth : Method) (c : Code) (A : Nat → Prop) (Q : State → Prop) (ls : Array Slot), GAt p ws D cI cC cc maxL y s m args meth c →
      (∀ q, s.heap.size ≤ q → A q) → va_P D vwCl w s.heap → va_D A w → lv_has ls maxL (lv_args 0 av) →
      (∀ {pc : Nat} {ls : Array Slot} {H : Heap} {locs : List Loc}, decode cc pc = .ok (.ireturn, 1) → narrow ty (.int r) = .int r → va_P D vwCl w' H → va_D A w' → va_S A s.heap H locs → W p l e rm s m args below meth c H locs 0 0 Q (F0 m pc ls [.int r])) →
      W p l e rm s m args below meth c s.heap [] 0 0 Q (F0 m 0 ls [])) : CTi l y ws rm D cI cC av w w' r := by
  intro sz
  refine Met.ofW (cc := cc) (maxL := maxL) (ret := some ty) hy hw ?_
  intro p e s m args below meth c s₁ B hml hv
  obtain ⟨rfl, hsz, hP, hK, hD0⟩ := hv
  have hl := lv_entry av (n := maxL) hlen
  rw [lg_entry_eq]
  subst hsz
  have hlk := B.notSynchronized
  refine body p e s m _ below meth c (va_A w s.heap.size) _ _ ⟨B.exec, B.bytes, hml, atoms_spec (ws := ws) B.pre, findClass_of_methodNamed B.named, hK⟩ (fun q h => Or.inr h) hP hD0.self hl ?_
  intro pc ls H locs hd hn hP1 hD1 hS1
  exact W.zret B.exec B.bytes B.returns hn (fun t ht hW => ⟨⟨r, (), rfl, rfl, by rw [ht]; exact hP1, hD1⟩, hS1.F ht⟩) hS1.2.2 hd
theorem CTv_of (hy : plainName y.cls = true) (hw : ws = Cond.code y cc maxL none :: ws') (hlen : (lg_sl av).length ≤ maxL)
    (body : ∀ (p : Program) (e : Env) (s : State) (m : MethodId) (args : Array Value) (below : List Frame) (meth : Method) (c : Code) (A : Nat → Prop) (Q : State → Prop) (ls : Array Slot), GAt p ws D cI cC cc maxL y s m args meth c →
      (∀ q, s.heap.size ≤ q → A q) → va_P D vwCl w s.heap → va_D A w → lv_has ls maxL (lv_args 0 av) →
      (∀ {pc : Nat} {ls : Array Slot} {H : Heap} {locs : List Loc}, decode cc pc = .ok (.return_, 1) → va_P D vwCl w' H → va_D A w' → va_S A s.heap H locs → W p l e rm s m args below meth c H locs 0 0 Q (F0 m pc ls [])) →
      W p l e rm s m args below meth c s.heap [] 0 0 Q (F0 m 0 ls [])) : CTv l y ws rm D cI cC av w w' := by
  intro sz
  refine Met.ofW (cc := cc) (maxL := maxL) (ret := none) hy hw ?_
  intro p e s m args below meth c s₁ B hml hv
  obtain ⟨rfl, hsz, hP, hK, hD0⟩ := hv
  have hl := lv_entry av (n := maxL) hlen
  rw [lg_entry_eq]
  subst hsz
  have hlk := B.notSynchronized
  refine body p e s m _ below meth c (va_A w s.heap.size) _ _ ⟨B.exec, B.bytes, hml, atoms_spec (ws := ws) B.pre, findClass_of_methodNamed B.named, hK⟩ (fun q h => Or.inr h) hP hD0.self hl ?_
  intro pc ls H locs hd hP1 hD1 hS1
  exact W.vret B.exec B.bytes B.returns (fun t ht hW => ⟨⟨(), rfl, trivial, by rw [ht]; exact hP1, hD1⟩, hS1.F ht⟩) hS1.2.2 hd
theorem CTr_of (hy : plainName y.cls = true) (hw : ws = Cond.code y cc maxL (some ty) :: ws') (hrt : (∃ n, ty = .object n) ∨ ∃ t, ty = .array t) (hlen : (lg_sl av).length ≤ maxL)
    (body : ∀ (p : Program) (e : Env) (s : State) (m : MethodId) (args : Array Value) (below : List Frame) (meth : Method) (c : Code) (A : Nat → Prop) (Q : State → Prop) (ls : Array Slot), GAt p ws D cI cC cc maxL y s m args meth c →
      (∀ q, s.heap.size ≤ q → A q) → va_P D vwCl w s.heap → va_D A w → lv_has ls maxL (lv_args 0 av) →
      (∀ {pc : Nat} {ls : Array Slot} {H : Heap} {locs : List Loc}, decode cc pc = .ok (.areturn, 1) → va_P D vwCl w' H → va_D A w' → va_S A s.heap H locs → W p l e rm s m args below meth c H locs 0 0 Q (F0 m pc ls [.ref ra])) →
      W p l e rm s m args below meth c s.heap [] 0 0 Q (F0 m 0 ls [])) : CTr l y ws rm D cI cC av w w' ra := by
  intro sz
  refine Met.ofW (cc := cc) (maxL := maxL) (ret := some ty) hy hw ?_
  intro p e s m args below meth c s₁ B hml hv
  obtain ⟨rfl, hsz, hP, hK, hD0⟩ := hv
  have hl := lv_entry av (n := maxL) hlen
  rw [lg_entry_eq]
  subst hsz
  have hlk := B.notSynchronized
  refine body p e s m _ below meth c (va_A w s.heap.size) _ _ ⟨B.exec, B.bytes, hml, atoms_spec (ws := ws) B.pre, findClass_of_methodNamed B.named, hK⟩ (fun q h => Or.inr h) hP hD0.self hl ?_
  intro pc ls H locs hd hP1 hD1 hS1
  exact W.aret B.exec B.bytes B.returns hrt (Or.inr ⟨_, rfl⟩) (fun t ht hW => ⟨⟨(), ra, rfl, trivial, rfl, by rw [ht]; exact hP1, hD1⟩, hS1.F ht⟩) hS1.2.2 hd
end GE
