/-! contracts of constructors: the world behind one has new cells -/
theorem rA_uniq {U : State} {c1 c2 : ClassId} {ty : FieldType} (hp : refKind ty = false) (h1 : va_RA U c1 ty) (h2 : va_RA U c2 ty) : c1 = c2 := by
  cases ty with
  | object C => cases hp
  | _ => exact Option.some.inj (h1.symm.trans h2)
def CTn (stL stG stF : Nat) (l : Launch) (y : MethodName) (ws : List Cond) (rm : Room) (D : va_G) (cI cC : ClassId) (av : List Value) (w : va_W) (PW : va_W → Prop) (mc ms : Nat) : Prop :=
  ∀ sz : Nat, Met l y ws rm (va_Pc av (CPreS stL stG stF D cI cC w sz)) (va_Qv (fun w' : va_W => PW w') (fun w' t => CPost D w w' sz t) (va_A w sz)) mc ms (va_A w sz)
section GN
variable {p : Program} {l : Launch} {e : Env} {R : Room} {s : State} {m : MethodId} {args : Array Value} {below : List Frame} {meth : Method} {c : Code} {H : Heap} {locs : List Loc} {cells slots : Nat} {Q : State → Prop}
variable {y : MethodName} {bytes cc : ByteArray} {maxL nL n index mc ms : Nat} {ret : Option FieldType} {wsc : List Cond} {rm : Room} {Ts : List Cond} {own C : String} {b : Nat} {As rest st0 : List Value} {pc : Nat} {ls : Array Slot}
variable {D : va_G} {cI cC : ClassId} {A : Nat → Prop} {H0 : Heap} {w wc wr w1 : va_W} {r : Int32} {ra : Nat} {q : vw_C} {fs : List Value} {stL stG stF : Nat} {PW : va_W → Prop}
theorem g_newI (hexec : p.tables.exec = Jvm.exec) (hb : c.code = cc) (harr : (Cond.arrayClass .int).before args s = true) (hKK : KK D cI cC s) (hP : va_P D vwCl w H) (hD : va_D A w) (hS : va_S A H0 H locs) (hA : ∀ q, H0.size ≤ q → A q)
    {n : Int32} {N : Nat} {k2 n2 : Nat} (hn : ¬ n < 0) (hN : n.toNatClampNeg = N) (hbytes : N * componentBytes .int ≤ 536870912) (hcells : cells + 1 ≤ R.cells) (hslots : slots + N ≤ R.slots) (hk : cells + 1 ≤ k2) (hn2 : slots + N ≤ n2) (hdg : decode cc pc = .ok (.newarray .int, 2))
    (kk : ∀ (q : Nat) (H1 : Heap), va_P D vwCl (w ++ [(q, .inl (cI, N, .inl (fun _ => 0)))]) H1 → va_D A (w ++ [(q, .inl (cI, N, .inl (fun _ => 0)))]) → va_S A H0 H1 locs →
      W p l e R s m args below meth c H1 locs k2 n2 Q (F0 m (pc + 2) ls (.ref q :: rest))) : W p l e R s m args below meth c H locs cells slots Q (F0 m pc ls (.int n :: rest)) := by
  refine va_newa (atype := .int) (ty := .int) (a0 := (N, .inl (fun _ => 0))) hexec hb harr rfl hKK.1 hP hD hS hA (fun cA => rfl) hn hN hbytes hcells hslots hdg (fun q cA H1 hK1 hP1 hD1 hS1 => ?_)
  have e1 : cA = cI := rA_uniq (U := s) (ty := .int) rfl (hK1.2 2 _ rfl).2 (hKK.1.2 0 _ rfl).2
  subst e1
  exact W.widen hk hn2 (kk q H1 hP1 hD1 hS1)
theorem g_newC (hexec : p.tables.exec = Jvm.exec) (hb : c.code = cc) (harr : (Cond.arrayClass .char).before args s = true) (hKK : KK D cI cC s) (hP : va_P D vwCl w H) (hD : va_D A w) (hS : va_S A H0 H locs) (hA : ∀ q, H0.size ≤ q → A q)
    {n : Int32} {N : Nat} {k2 n2 : Nat} (hn : ¬ n < 0) (hN : n.toNatClampNeg = N) (hbytes : N * componentBytes .char ≤ 536870912) (hcells : cells + 1 ≤ R.cells) (hslots : slots + N ≤ R.slots) (hk : cells + 1 ≤ k2) (hn2 : slots + N ≤ n2) (hdg : decode cc pc = .ok (.newarray .char, 2))
    (kk : ∀ (q : Nat) (H1 : Heap), va_P D vwCl (w ++ [(q, .inl (cC, N, .inl (fun _ => 0)))]) H1 → va_D A (w ++ [(q, .inl (cC, N, .inl (fun _ => 0)))]) → va_S A H0 H1 locs →
      W p l e R s m args below meth c H1 locs k2 n2 Q (F0 m (pc + 2) ls (.ref q :: rest))) : W p l e R s m args below meth c H locs cells slots Q (F0 m pc ls (.int n :: rest)) := by
  refine va_newa (atype := .char) (ty := .char) (a0 := (N, .inl (fun _ => 0))) hexec hb harr rfl hKK.1 hP hD hS hA (fun cA => rfl) hn hN hbytes hcells hslots hdg (fun q cA H1 hK1 hP1 hD1 hS1 => ?_)
  have e1 : cA = cC := rA_uniq (U := s) (ty := .char) rfl (hK1.2 2 _ rfl).2 (hKK.1.2 1 _ rfl).2
  subst e1
  exact W.widen hk hn2 (kk q H1 hP1 hD1 hS1)
/-- a call of a constructor: behind it the caller's other cells and the new object's world -/
theorem g_In (S : CallFix p m c cc nL s args Ts own) (hM : CTn stL stG stF l y wsc rm D cI cC (.ref b :: As) wc PW mc ms) (cw : CallB R s args own index y bytes maxL none wsc rm mc ms n ∧ y.name = "<init>" ∧ (Cond.instanceMethod y).before args s = true) (hSS : SS stL stG stF A s H0) (hKK : KK D cI cC s) (hP : va_P D vwCl w H) (hD : va_D A w) (hS : va_S A H0 H locs) (hA : ∀ x, H0.size ≤ x → A x)
    (isC isR : List Nat) (hc1 : isC.filterMap (fun i => w[i]?) = wc) (hc2 : isC.map (fun i => w[i]?) = wc.map some) (hr2 : isR.map (fun i => w[i]?) = wr.map some) (hn1 : va_nd isC = true) (hn2 : va_nd isR = true) (hdis : ∀ i ∈ isR, i ∉ isC)
    (hn : As.length = n) (hsize : ls.size = nL) (hstack : st0 = As.reverse ++ .ref b :: rest) (hW : (rest.map fun v => v.category).sum ≤ 8) (hdg : decode cc pc = .ok (.invokespecial index, 3)) (hf1 : cells + mc ≤ R.cells) (hf2 : slots + ms ≤ R.slots) {k2 n2 : Nat} (hk : cells + mc ≤ k2) (hn3 : slots + ms ≤ n2)
    (kk : ∀ (w1 : va_W) (H1 : Heap) (locs1 : List Loc), PW w1 → va_P D vwCl (wr ++ w1) H1 → va_D A (wr ++ w1) → va_S A H0 H1 locs1 → W p l e R s m args below meth c H1 locs1 k2 n2 Q (F0 m (pc + 3) ls rest)) : W p l e R s m args below meth c H locs cells slots Q (F0 m pc ls st0) := by
  have hPc := hP.sub isC hc1
  have hDc := hD.sub isC hn1 hc2
  have hFc := va_free hD hS hA isC hc2
  refine va_callv (va_runI (As := As) (rest := rest) S (hM H.size) cw ⟨CPreS.blind, fun U hU hW2 => ⟨rfl, ⟨by rw [hU], by rw [hU]; exact hPc, hKK.warm hW2, hDc.weaken (fun _ _ _ _ => trivial)⟩, by rw [hU]; exact hSS.step hS.2.1 hFc hW2.alike⟩⟩ rfl hn hsize hstack (lv_room hW) hdg ⟨hf1, hf2⟩) hS (fun q _ h => hFc q h) hFc (fun u t H1 locs1 ht hvm hw hB hz1 hk1 hS1 => ?_)
  obtain ⟨hP1, hD1⟩ := hB
  rw [ht] at hP1
  have hJ := va_join hP hD isC isR hc2 hr2 hn2 hdis hk1 hFc hP1 hD1
  exact W.widen hk hn3 (kk u H1 locs1 hw hJ.1 hJ.2 hS1)
theorem g_NIn {host : String} (S : CallFix p m c cc nL s args Ts own) (hM : CTn stL stG stF l y wsc rm D cI cC (.ref b :: As) wc PW mc ms) (cw : va_CN R s args own index y host bytes maxL none wsc rm mc ms n ∧ y.name = "<init>" ∧ (Cond.instanceMethod y).before args s = true) (hSS : SS stL stG stF A s H0) (hKK : KK D cI cC s) (hP : va_P D vwCl w H) (hD : va_D A w) (hS : va_S A H0 H locs) (hA : ∀ x, H0.size ≤ x → A x)
    (isC isR : List Nat) (hc1 : isC.filterMap (fun i => w[i]?) = wc) (hc2 : isC.map (fun i => w[i]?) = wc.map some) (hr2 : isR.map (fun i => w[i]?) = wr.map some) (hn1 : va_nd isC = true) (hn2 : va_nd isR = true) (hdis : ∀ i ∈ isR, i ∉ isC)
    (hn : As.length = n) (hsize : ls.size = nL) (hstack : st0 = As.reverse ++ .ref b :: rest) (hW : (rest.map fun v => v.category).sum ≤ 8) (hdg : decode cc pc = .ok (.invokespecial index, 3)) (hf1 : cells + mc ≤ R.cells) (hf2 : slots + ms ≤ R.slots) {k2 n2 : Nat} (hk : cells + mc ≤ k2) (hn3 : slots + ms ≤ n2)
    (kk : ∀ (w1 : va_W) (H1 : Heap) (locs1 : List Loc), PW w1 → va_P D vwCl (wr ++ w1) H1 → va_D A (wr ++ w1) → va_S A H0 H1 locs1 → W p l e R s m args below meth c H1 locs1 k2 n2 Q (F0 m (pc + 3) ls rest)) : W p l e R s m args below meth c H locs cells slots Q (F0 m pc ls st0) := by
  have hPc := hP.sub isC hc1
  have hDc := hD.sub isC hn1 hc2
  have hFc := va_free hD hS hA isC hc2
  refine va_callv (va_runIN (As := As) (rest := rest) S (hM H.size) cw ⟨CPreS.blind, fun U hU hW2 => ⟨rfl, ⟨by rw [hU], by rw [hU]; exact hPc, hKK.warm hW2, hDc.weaken (fun _ _ _ _ => trivial)⟩, by rw [hU]; exact hSS.step hS.2.1 hFc hW2.alike⟩⟩ rfl hn hsize hstack (lv_room hW) hdg ⟨hf1, hf2⟩) hS (fun q _ h => hFc q h) hFc (fun u t H1 locs1 ht hvm hw hB hz1 hk1 hS1 => ?_)
  obtain ⟨hP1, hD1⟩ := hB
  rw [ht] at hP1
  have hJ := va_join hP hD isC isR hc2 hr2 hn2 hdis hk1 hFc hP1 hD1
  exact W.widen hk hn3 (kk u H1 locs1 hw hJ.1 hJ.2 hS1)
end GN
section GNE
variable {l : Launch} {y : MethodName} {ws ws' : List Cond} {rm : Room} {D : va_G} {cI cC : ClassId} {av : List Value} {w : va_W} {PW : va_W → Prop} {cc : ByteArray} {maxL mc ms : Nat} {stL stG stF : Nat}
theorem CTn_of (hy : plainName y.cls = true) (hw : ws = Cond.code y cc maxL none :: ws') (hlen : (lg_sl av).length ≤ maxL)
    (body : ∀ (p : Program) (e : Env) (s : State) (m : MethodId) (args : Array Value) (below : List Frame) (meth : Method) (c : Code) (A : Nat → Prop) (Q : State → Prop) (ls : Array Slot), GAt p ws D cI cC cc maxL y s m args meth c → meth.name = y.name → SS stL stG stF A s s.heap →
      (∀ q, s.heap.size ≤ q → A q) → va_P D vwCl w s.heap → va_D A w → lv_has ls maxL (lv_args 0 av) →
      (∀ {pc : Nat} {ls : Array Slot} {H : Heap} {locs : List Loc} (w' : va_W), decode cc pc = .ok (.return_, 1) → PW w' → va_P D vwCl w' H → va_D A w' → va_S A s.heap H locs → W p l e rm s m args below meth c H locs mc ms Q (F0 m pc ls [])) →
      W p l e rm s m args below meth c s.heap [] 0 0 Q (F0 m 0 ls [])) : CTn stL stG stF l y ws rm D cI cC av w PW mc ms := by
  intro sz
  refine Met.ofW (cc := cc) (maxL := maxL) (ret := none) hy hw ?_
  intro p e s m args below meth c s₁ B hml hv
  obtain ⟨rfl, ⟨hsz, hP, hK, hD0⟩, hSS⟩ := hv
  have hl := lv_entry av (n := maxL) hlen
  rw [lg_entry_eq]
  subst hsz
  have hlk := B.notSynchronized
  refine body p e s m _ below meth c (va_A w s.heap.size) _ _ ⟨B.exec, B.bytes, hml, atoms_spec (ws := ws) B.pre, findClass_of_methodNamed B.named, hK⟩ (name_of_methodNamed B.named B.method).1 hSS (fun q h => Or.inr h) hP hD0.self hl ?_
  intro pc ls H locs w' hd hp1 hP1 hD1 hS1
  exact W.vret B.exec B.bytes B.returns (fun t ht hW => ⟨⟨w', rfl, hp1, by rw [ht]; exact hP1, hD1⟩, hS1.F ht⟩) hS1.2.2 hd
end GNE
theorem fbool {v : Int32} (h : v = 0 ∨ v = 1) : fits .boolean (.int v) = true := by
  rcases h with rfl | rfl <;> rfl
/-- a method of a class whose name has a slash -/
theorem Met_ofWF {l : Launch} {y : MethodName} {ws ws' : List Cond} {rm : Room} {Pc : Array Value → State → Prop} {Qc : Array Value → State → Outcome → State → Prop} {mc ms : Nat} {free : Addr → Prop} {cc : ByteArray} {maxL : Nat} {ret : Option FieldType}
    (hy : plainFor y = true) (hw : ws = Cond.code y cc maxL ret :: ws')
    (body : ∀ p e s m args below meth c s₁, BodyLoose p l y (headSpec ws rm) cc maxL ret e s m args below meth c s₁ → c.maxLocals = maxL → Pc args s →
      W p l e (headSpec ws rm).room s m args below meth c s.heap [] 0 0 (MQ below Qc args s mc ms free) (entryFrame m args maxL)) : Met l y ws rm Pc Qc mc ms free := by
  refine MetFree.of_bodySF (code := cc) (maxLocals := maxL) (ret := ret) hy ?_ ?_
  · intro args s m h hn
    obtain ⟨meth, c, h1, h2, h3, h4, h5, h6, -, -⟩ := Cond.code_spec hn (atoms_spec (ws := ws) h _ (by rw [hw]; exact List.mem_cons_self))
    exact ⟨meth, c, h1, h2, h3, h4, h5, h6⟩
  · intro p e s m args below meth c s₁ B hml hP _
    have hh0 : s₁.heap = s.heap := by rw [B.state]; rfl
    obtain ⟨t, a1, o, b1, b2, b3⟩ := body p e s m args below meth c s₁ B hml hP s₁ hh0 (Stand.of_body B)
    exact ⟨t, o, a1, b1, b2, ⟨b3.1, b3.2⟩⟩
section GEF
variable {l : Launch} {y : MethodName} {ws ws' : List Cond} {rm : Room} {D : va_G} {cI cC : ClassId} {av : List Value} {w w' : va_W} {r : Int32} {ra : Nat} {cc : ByteArray} {maxL : Nat} {ty : FieldType}
theorem CTiF_of (hy : plainFor y = true) (hw : ws = Cond.code y cc maxL (some ty) :: ws') (hlen : (lg_sl av).length ≤ maxL)
    (body : ∀ (p : Program) (e : Env) (s : State) (m : MethodId) (args : Array Value) (below : List Frame) (meth : Method) (c : Code) (A : Nat → Prop) (Q : State → Prop) (ls : Array Slot), GAt p ws D cI cC cc maxL y s m args meth c →
      (∀ q, s.heap.size ≤ q → A q) → va_P D vwCl w s.heap → va_D A w → lv_has ls maxL (lv_args 0 av) →
      (∀ {pc : Nat} {ls : Array Slot} {H : Heap} {locs : List Loc}, decode cc pc = .ok (.ireturn, 1) → narrow ty (.int r) = .int r → va_P D vwCl w' H → va_D A w' → va_S A s.heap H locs → W p l e rm s m args below meth c H locs 0 0 Q (F0 m pc ls [.int r])) →
      W p l e rm s m args below meth c s.heap [] 0 0 Q (F0 m 0 ls [])) : CTi l y ws rm D cI cC av w w' r := by
  intro sz
  refine Met_ofWF (cc := cc) (maxL := maxL) (ret := some ty) hy hw ?_
  intro p e s m args below meth c s₁ B hml hv
  obtain ⟨rfl, hsz, hP, hK, hD0⟩ := hv
  have hl := lv_entry av (n := maxL) hlen
  rw [lg_entry_eq]
  subst hsz
  have hlk := B.notSynchronized
  refine body p e s m _ below meth c (va_A w s.heap.size) _ _ ⟨B.exec, B.bytes, hml, atoms_spec (ws := ws) B.pre, findClass_of_methodNamed B.named, hK⟩ (fun q h => Or.inr h) hP hD0.self hl ?_
  intro pc ls H locs hd hn hP1 hD1 hS1
  exact W.zret B.exec B.bytes B.returns hn (fun t ht hW => ⟨⟨r, (), rfl, rfl, by rw [ht]; exact hP1, hD1⟩, hS1.F ht⟩) hS1.2.2 hd
end GEF
