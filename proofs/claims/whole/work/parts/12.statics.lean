/-! the three static rows of BaselineGrid: what they hold, and contracts that read them -/
def cstL : Nat → Int32 := fun j => match j with
  | 0 => 200
  | 1 => 0
  | 2 => 20
  | 3 => 0
  | _ => 1
def cstG : Nat → Int32 := fun j => match j with
  | 0 => 9999
  | 1 => 500
  | 2 => 500
  | 3 => 1
  | _ => 3
def cstF : Nat → Int32 := fun j => match j with
  | 0 => 6000
  | 1 => 100
  | 2 => 120
  | 3 => 1
  | _ => 2
def SS1 (nm : String) (f : Nat → Int32) (t : Nat) (A : Nat → Prop) (U : State) (H : Heap) : Prop := va_Z "BaselineGrid" nm "[I" (.ref t) A U H ∧ va_T .int t 5 (fun j => .int (f j)) A U H
def SS (stL stG stF : Nat) (A : Nat → Prop) (U : State) (H : Heap) : Prop := SS1 "LEAST_SETTINGS" cstL stL A U H ∧ SS1 "GREATEST_SETTINGS" cstG stG A U H ∧ SS1 "FIRST_SETTINGS" cstF stF A U H
theorem SS1.step {nm : String} {f : Nat → Int32} {t : Nat} {A B : Nat → Prop} {u U : State} {H H1 : Heap} (h : SS1 nm f t A u H) (hq : ∀ a : Nat, a < H.size → ¬ A a → H1[a]? = H[a]?) (hAB : ∀ q, B q → A q) (hvm : u.vm.Alike U.vm) : SS1 nm f t B U H1 :=
  ⟨((h.1.kept hq).narrow hAB).moved hvm, ((h.2.kept hq).narrow hAB).moved hvm⟩
theorem SS.step {stL stG stF : Nat} {A B : Nat → Prop} {u U : State} {H H1 : Heap} (h : SS stL stG stF A u H) (hq : ∀ a : Nat, a < H.size → ¬ A a → H1[a]? = H[a]?) (hAB : ∀ q, B q → A q) (hvm : u.vm.Alike U.vm) : SS stL stG stF B U H1 :=
  ⟨h.1.step hq hAB hvm, h.2.1.step hq hAB hvm, h.2.2.step hq hAB hvm⟩
def CPreS (stL stG stF : Nat) (D : va_G) (cI cC : ClassId) (w : va_W) (sz : Nat) (U : State) : Prop := CPre D cI cC w sz U ∧ SS stL stG stF (va_A w sz) U U.heap
def CTiS (stL stG stF : Nat) (l : Launch) (y : MethodName) (ws : List Cond) (rm : Room) (D : va_G) (cI cC : ClassId) (av : List Value) (w w' : va_W) (r : Int32) : Prop :=
  ∀ sz : Nat, Met l y ws rm (va_Pc av (CPreS stL stG stF D cI cC w sz)) (va_Qi (fun (r' : Int32) (_ : Unit) => r' = r) (fun _ t => CPost D w w' sz t) (va_A w sz)) 0 0 (va_A w sz)
theorem CPreS.blind {stL stG stF : Nat} {D : va_G} {cI cC : ClassId} {w : va_W} {sz : Nat} {av : List Value} : FrameBlind (va_Pc av (CPreS stL stG stF D cI cC w sz)) := fun a U g mk q => by
  obtain ⟨q0, q1, qS⟩ := q
  exact ⟨q0, (CPre.blind (av := av) a U g mk ⟨q0, q1⟩).2, qS.step (U := U.calling g mk a) (fun _ _ _ => rfl) (fun _ h => h) (Vm.Alike.refl U.vm)⟩
section GS
variable {p : Program} {l : Launch} {e : Env} {R : Room} {s : State} {m : MethodId} {args : Array Value} {below : List Frame} {meth : Method} {c : Code} {H : Heap} {locs : List Loc} {cells slots : Nat} {Q : State → Prop}
variable {y : MethodName} {bytes cc : ByteArray} {maxL nL n index : Nat} {ret : Option FieldType} {wsc : List Cond} {rm : Room} {Ts : List Cond} {own C : String} {b : Nat} {As rest st0 : List Value} {pc : Nat} {ls : Array Slot}
variable {D : va_G} {cI cC : ClassId} {A : Nat → Prop} {H0 : Heap} {w wc wr w1 : va_W} {r : Int32} {ra : Nat} {q : vw_C} {fs : List Value} {stL stG stF : Nat} {α : Type} {o : α}
theorem g_ti {t : Nat} {f : Nat → Int32} (hexec : p.tables.exec = Jvm.exec) (hb : c.code = cc) (hT : va_T .int t 5 (fun j => .int (f j)) A s s.heap) (hS : va_S A s.heap H locs) {i : Int32} {k : Int32 → Option α} (hf : aget 5 f i k = some o) (hdg : decode cc pc = .ok (.iaload, 1))
    (kk : ∀ x, k x = some o → W p l e R s m args below meth c H locs cells slots Q (F0 m (pc + 1) ls (.int x :: rest))) : W p l e R s m args below meth c H locs cells slots Q (F0 m pc ls (.int i :: .ref t :: rest)) := by
  unfold aget at hf
  split at hf
  · cases hf
  · rename_i h; exact va_ti hexec hb hT hS h rfl hdg (kk _ hf)
theorem g_ViS (S : CallFix p m c cc nL s args Ts own) (hM : CTiS stL stG stF l y wsc rm D cI cC (.ref b :: As) wc w1 r) (cw : CallW R s args own C index y bytes maxL ret wsc rm 0 0 n) (hSS : SS stL stG stF A s H0) (hKK : KK D cI cC s) (hP : va_P D vwCl w H) (hD : va_D A w) (hS : va_S A H0 H locs) (hA : ∀ x, H0.size ≤ x → A x)
    (ci qr : Nat) (hc : vwCl[ci]? = some q) (hC : q.1 = C) (hr : w[qr]? = some (b, .inr (ci, fs))) (isC isR : List Nat) (hc1 : isC.filterMap (fun i => w[i]?) = wc) (hc2 : isC.map (fun i => w[i]?) = wc.map some) (hr2 : isR.map (fun i => w[i]?) = wr.map some) (hn1 : va_nd isC = true) (hn2 : va_nd isR = true) (hdis : ∀ i ∈ isR, i ∉ isC)
    (hn : As.length = n) (hsize : ls.size = nL) (hstack : st0 = As.reverse ++ .ref b :: rest) (hW : (rest.map fun v => v.category).sum ≤ 8) (hdg : decode cc pc = .ok (.invokevirtual index, 3)) (hf1 : cells ≤ R.cells) (hf2 : slots ≤ R.slots)
    (kk : ∀ (H1 : Heap) (locs1 : List Loc), va_P D vwCl (wr ++ w1) H1 → va_D A (wr ++ w1) → va_S A H0 H1 locs1 → W p l e R s m args below meth c H1 locs1 cells slots Q (F0 m (pc + 3) ls (.int r :: rest))) : W p l e R s m args below meth c H locs cells slots Q (F0 m pc ls st0) := by
  subst hC
  have hPc := hP.sub isC hc1
  have hDc := hD.sub isC hn1 hc2
  have hFc := va_free hD hS hA isC hc2
  refine va_calli (va_runV (As := As) (rest := rest) S (hM H.size) cw ⟨CPreS.blind, va_recv hKK.1 hP hc hr, fun U hU hW2 => ⟨rfl, ⟨by rw [hU], by rw [hU]; exact hPc, hKK.warm hW2, hDc.weaken (fun _ _ _ _ => trivial)⟩, by rw [hU]; exact hSS.step hS.2.1 hFc hW2.alike⟩⟩ rfl hn hsize hstack (lv_room hW) hdg ⟨hf1, hf2⟩) hS (fun q _ h => hFc q h) hFc (fun r2 u t H1 locs1 ht hvm hw hB hz1 hk1 hS1 => ?_)
  obtain ⟨hP1, hD1⟩ := hB
  rw [ht] at hP1
  have hJ := va_join hP hD isC isR hc2 hr2 hn2 hdis hk1 hFc hP1 hD1
  rw [hw]
  exact kk H1 locs1 hJ.1 hJ.2 hS1
end GS
section GSE
variable {l : Launch} {y : MethodName} {ws ws' : List Cond} {rm : Room} {D : va_G} {cI cC : ClassId} {av : List Value} {w w' : va_W} {r : Int32} {ra : Nat} {cc : ByteArray} {maxL : Nat} {ty : FieldType} {stL stG stF : Nat}
theorem CTiS_of (hy : plainName y.cls = true) (hw : ws = Cond.code y cc maxL (some ty) :: ws') (hlen : (lg_sl av).length ≤ maxL)
    (body : ∀ (p : Program) (e : Env) (s : State) (m : MethodId) (args : Array Value) (below : List Frame) (meth : Method) (c : Code) (A : Nat → Prop) (Q : State → Prop) (ls : Array Slot), GAt p ws D cI cC cc maxL y s m args meth c → SS stL stG stF A s s.heap →
      (∀ q, s.heap.size ≤ q → A q) → va_P D vwCl w s.heap → va_D A w → lv_has ls maxL (lv_args 0 av) →
      (∀ {pc : Nat} {ls : Array Slot} {H : Heap} {locs : List Loc}, decode cc pc = .ok (.ireturn, 1) → narrow ty (.int r) = .int r → va_P D vwCl w' H → va_D A w' → va_S A s.heap H locs → W p l e rm s m args below meth c H locs 0 0 Q (F0 m pc ls [.int r])) →
      W p l e rm s m args below meth c s.heap [] 0 0 Q (F0 m 0 ls [])) : CTiS stL stG stF l y ws rm D cI cC av w w' r := by
  intro sz
  refine Met.ofW (cc := cc) (maxL := maxL) (ret := some ty) hy hw ?_
  intro p e s m args below meth c s₁ B hml hv
  obtain ⟨rfl, ⟨hsz, hP, hK, hD0⟩, hSS⟩ := hv
  have hl := lv_entry av (n := maxL) hlen
  rw [lg_entry_eq]
  subst hsz
  have hlk := B.notSynchronized
  refine body p e s m _ below meth c (va_A w s.heap.size) _ _ ⟨B.exec, B.bytes, hml, atoms_spec (ws := ws) B.pre, findClass_of_methodNamed B.named, hK⟩ hSS (fun q h => Or.inr h) hP hD0.self hl ?_
  intro pc ls H locs hd hn hP1 hD1 hS1
  exact W.zret B.exec B.bytes B.returns hn (fun t ht hW => ⟨⟨r, (), rfl, rfl, by rw [ht]; exact hP1, hD1⟩, hS1.F ht⟩) hS1.2.2 hd
end GSE
/-! switches, by cases -/
theorem sw_out {x : Int32} {n : Nat} (hn : n < 2 ^ 31) (h : ∀ j : Nat, j < n → ¬ x = nI j) : x.toInt < 0 ∨ (n : Int) ≤ x.toInt := by
  rcases Classical.em (vp_in x n) with q | q
  · obtain ⟨j, h1, h2⟩ := vp_in_of q hn
    exact absurd h2 (h j h1)
  · rw [vp_in_iff] at q
    omega
theorem sw_out14 {x : Int32} (h0 : ¬ x = 0) (h1 : ¬ x = 1) (h2 : ¬ x = 2) (h3 : ¬ x = 3) (h4 : ¬ x = 4) (h5 : ¬ x = 5) (h6 : ¬ x = 6) (h7 : ¬ x = 7) (h8 : ¬ x = 8) (h9 : ¬ x = 9) (h10 : ¬ x = 10) (h11 : ¬ x = 11) (h12 : ¬ x = 12) (h13 : ¬ x = 13) (h14 : ¬ x = 14) : x.toInt < 0 ∨ 14 < x.toInt := by
  have := sw_out (x := x) (n := 15) (by decide) (fun j hj => by
    match j, hj with
    | 0, _ => exact h0
    | 1, _ => exact h1
    | 2, _ => exact h2
    | 3, _ => exact h3
    | 4, _ => exact h4
    | 5, _ => exact h5
    | 6, _ => exact h6
    | 7, _ => exact h7
    | 8, _ => exact h8
    | 9, _ => exact h9
    | 10, _ => exact h10
    | 11, _ => exact h11
    | 12, _ => exact h12
    | 13, _ => exact h13
    | 14, _ => exact h14)
  omega
theorem sw_out3 {x : Int32} (h0 : ¬ x = 0) (h1 : ¬ x = 1) (h2 : ¬ x = 2) (h3 : ¬ x = 3) : x.toInt < 0 ∨ 3 < x.toInt := by
  have := sw_out (x := x) (n := 4) (by decide) (fun j hj => by
    match j, hj with
    | 0, _ => exact h0
    | 1, _ => exact h1
    | 2, _ => exact h2
    | 3, _ => exact h3)
  omega
theorem sw_out9 {x : Int32} (h0 : ¬ x = 0) (h1 : ¬ x = 1) (h2 : ¬ x = 2) (h3 : ¬ x = 3) (h4 : ¬ x = 4) (h5 : ¬ x = 5) (h6 : ¬ x = 6) (h7 : ¬ x = 7) (h8 : ¬ x = 8) (h9 : ¬ x = 9) : x.toInt < 0 ∨ 9 < x.toInt := by
  have := sw_out (x := x) (n := 10) (by decide) (fun j hj => by
    match j, hj with
    | 0, _ => exact h0
    | 1, _ => exact h1
    | 2, _ => exact h2
    | 3, _ => exact h3
    | 4, _ => exact h4
    | 5, _ => exact h5
    | 6, _ => exact h6
    | 7, _ => exact h7
    | 8, _ => exact h8
    | 9, _ => exact h9)
  omega
theorem sw_out19 {x : Int32} (h0 : ¬ x = 0) (h1 : ¬ x = 1) (h2 : ¬ x = 2) (h3 : ¬ x = 3) (h4 : ¬ x = 4) (h5 : ¬ x = 5) (h6 : ¬ x = 6) (h7 : ¬ x = 7) (h8 : ¬ x = 8) (h9 : ¬ x = 9) (h10 : ¬ x = 10) (h11 : ¬ x = 11) (h12 : ¬ x = 12) (h13 : ¬ x = 13) (h14 : ¬ x = 14) (h15 : ¬ x = 15) (h16 : ¬ x = 16) (h17 : ¬ x = 17) (h18 : ¬ x = 18) (h19 : ¬ x = 19) : x.toInt < 0 ∨ 19 < x.toInt := by
  have := sw_out (x := x) (n := 20) (by decide) (fun j hj => by
    rcases (show j = 0 ∨ j = 1 ∨ j = 2 ∨ j = 3 ∨ j = 4 ∨ j = 5 ∨ j = 6 ∨ j = 7 ∨ j = 8 ∨ j = 9 ∨ j = 10 ∨ j = 11 ∨ j = 12 ∨ j = 13 ∨ j = 14 ∨ j = 15 ∨ j = 16 ∨ j = 17 ∨ j = 18 ∨ j = 19 by omega) with rfl | rfl | rfl | rfl | rfl | rfl | rfl | rfl | rfl | rfl | rfl | rfl | rfl | rfl | rfl | rfl | rfl | rfl | rfl | rfl
    · exact h0
    · exact h1
    · exact h2
    · exact h3
    · exact h4
    · exact h5
    · exact h6
    · exact h7
    · exact h8
    · exact h9
    · exact h10
    · exact h11
    · exact h12
    · exact h13
    · exact h14
    · exact h15
    · exact h16
    · exact h17
    · exact h18
    · exact h19)
  omega
theorem ne_int {x y : Int32} (h : ¬ x = y) : ¬ y.toInt = x.toInt := fun q => h (Int32.toInt_inj.mp q.symm)
theorem lk_out2 {x : Int32} (h0 : ¬ x = 0) (h1 : ¬ x = 1) {o0 o1 d : Int} : Op.lookupswitch.offset [(0, o0), (1, o1)] d x.toInt = d := by
  rw [Op.lookupswitch.offset_cons, if_neg (show ¬ (0 : Int) = x.toInt from ne_int (y := 0) h0), Op.lookupswitch.offset_cons, if_neg (show ¬ (1 : Int) = x.toInt from ne_int (y := 1) h1)]
  rfl
