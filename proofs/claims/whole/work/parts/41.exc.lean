def xStrs : List (Nat × String) := [(236, "no such block"), (243, "no such kind"), (245, "the number is out of range"), (241, "no such variable"), (97, "the block has all its steps"), (270, "no form"), (127, "the form is not valid"), (239, "neither a block nor the entry"), (257, "no such step"), (259, "which is neither 0 nor 1"), (261, "no such use"), (266, "no such name"), (273, "no such form"), (205, "a quotient by 0 is wanted"), (208, "too many blocks are come to, or too much is said"), (215, "no such number was said")]
/-! Methods that may throw: contracts that end either way, and what a caller does with them. Rows of my own over the library's laws -/
/-- the frame of a method that returned or threw -/
def xFE (first : State) (t : State) (L : List Loc) (k n : Nat) : Prop := first.WarmedH t.vm ∧ first.sameButNew ({ t with vm := first.vm } : State) L k n
/-- a contract whose end may be a throw -/
def MetX (l : Launch) (y : MethodName) (ws : List Cond) (rm : Room) (Pc : Array Value → State → Prop) (Qc : Array Value → State → Outcome → State → Prop) (mc ms : Nat) (free : Addr → Prop) : Prop :=
  MetFree l y (headSpec ws rm) Pc (fun _ _ _ _ _ => True) (fun a st o t => Qc a st o t ∧ ∃ L, xFE st t L mc ms ∧ ∀ q ∈ L, free q.base)
def MQX (below : List Frame) (Qc : Array Value → State → Outcome → State → Prop) (a : Array Value) (s : State) (mc ms : Nat) (free : Addr → Prop) : State → Prop := fun t =>
  ∃ o, t.status = .running ∧ Ended t below o ∧ Qc a s o t ∧ ∃ L, xFE s t L mc ms ∧ ∀ q ∈ L, free q.base
theorem MQX.of {below : List Frame} {Qc : Array Value → State → Outcome → State → Prop} {a : Array Value} {s : State} {mc ms : Nat} {free : Addr → Prop} {t : State} (h : MQ below Qc a s mc ms free t) : MQX below Qc a s mc ms free t := by
  obtain ⟨o, h1, h2, h3, L, h4, h5⟩ := h
  exact ⟨o, h1, h2, h3, L, ⟨h4.2.1, h4.2.2⟩, h5⟩
theorem xWmono {p : Program} {l : Launch} {e : Env} {R : Room} {s : State} {m : MethodId} {args : Array Value} {below : List Frame} {meth : Method} {c : Code} {H : Heap} {locs : List Loc} {cells slots : Nat} {Q Q' : State → Prop} {g : JFrame} (hq : ∀ t, Q t → Q' t) (h : W p l e R s m args below meth c H locs cells slots Q g) : W p l e R s m args below meth c H locs cells slots Q' g := by
  intro T hT X
  obtain ⟨t, h1, h2⟩ := h T hT X
  exact ⟨t, h1, hq t h2⟩
theorem MetX.ofW {l : Launch} {y : MethodName} {ws ws' : List Cond} {rm : Room} {Pc : Array Value → State → Prop} {Qc : Array Value → State → Outcome → State → Prop} {mc ms : Nat} {free : Addr → Prop} {cc : ByteArray} {maxL : Nat} {ret : Option FieldType}
    (hy : plainName y.cls = true) (hw : ws = Cond.code y cc maxL ret :: ws')
    (body : ∀ p e s m args below meth c s₁, BodyLoose p l y (headSpec ws rm) cc maxL ret e s m args below meth c s₁ → c.maxLocals = maxL → Pc args s →
      W p l e (headSpec ws rm).room s m args below meth c s.heap [] 0 0 (MQX below Qc args s mc ms free) (entryFrame m args maxL)) : MetX l y ws rm Pc Qc mc ms free := by
  refine MetFree.of_bodyS (code := cc) (maxLocals := maxL) (ret := ret) hy ?_ ?_
  · intro args s m h hn
    obtain ⟨meth, c, h1, h2, h3, h4, h5, h6, -, -⟩ := Cond.code_spec hn (atoms_spec (ws := ws) h _ (by rw [hw]; exact List.mem_cons_self))
    exact ⟨meth, c, h1, h2, h3, h4, h5, h6⟩
  · intro p e s m args below meth c s₁ B hml hP _
    have hh0 : s₁.heap = s.heap := by rw [B.state]; rfl
    obtain ⟨t, a1, o, b1, b2, b3⟩ := body p e s m args below meth c s₁ B hml hP s₁ hh0 (Stand.of_body B)
    exact ⟨t, o, a1, b1, b2, ⟨b3.1, b3.2⟩⟩
section XB
variable {p : Program} {l : Launch} {e : Env} {R : Room} {s : State} {m : MethodId} {sargs : Array Value} {below : List Frame} {meth : Method} {c : Code} {U : State} {Ls : List Loc} {c0 s0 : Nat}
theorem xBack {y : MethodName} {ws : List Cond} {rm : Room} {Pc : Array Value → State → Prop} {Qc : Array Value → State → Outcome → State → Prop} {mc ms maxL len : Nat} {free : Addr → Prop} {bytes : ByteArray} {ret : Option FieldType} {g : JFrame} {ig : Instr} {mk : MethodId} {a : Array Value}
    (X : Stand p l e R s m sargs below meth c U Ls c0 s0) (hM : MetX l y ws rm Pc Qc mc ms free) (hblind : FrameBlind Pc) (hrc : rm.cells = mc) (hrs : rm.slots = ms) (hframes : rm.frames + 1 ≤ R.frames) (hlocals : 8 + (maxL + 11) + rm.locals ≤ R.locals)
    (hws : ∀ w ∈ ws, ∀ a' V, s.WarmedH V.vm → w.before a' V = true) (hcode : Cond.code y bytes maxL ret ∈ ws) (hinit : ∀ a' V, s.WarmedH V.vm → (Cond.initialized y.cls).before a' V = true)
    (hg : g.method = m) (hsize : g.locals.size = c.maxLocals) (hdg : decode c.code g.pc = .ok (ig, len)) (hW : 2 * g.monitorRoom + (g.stack.map fun v => v.category).sum ≤ 8) (hn : U.methodNamed? y = some mk) (hroom : c0 + mc ≤ R.cells ∧ s0 + ms ≤ R.slots) (hPc : Pc a U) :
    ∃ (o : Outcome) (t T' : State) (L : List Loc), Stand p l e R s m sargs below meth c T' (Ls ++ L) (c0 + mc) (s0 + ms) ∧ T'.heap = t.heap ∧ T'.vm = t.vm ∧ (∀ q ∈ L, free q.base) ∧ Qc a (U.calling g mk a) o t ∧
      ((∃ v, o = .returned v ∧ Steps p.tables e below (doInvoke e (U.setTop g) [] mk a).1 (T'.setTop { g with pc := g.pc + len, stack := v.toList ++ g.stack })) ∨
       (∃ x, o = .threw x ∧ Steps p.tables e below (doInvoke e (U.setTop g) [] mk a).1 ((T'.setTop g).pushFrame (.throwing x)))) := by
  have h2 := hws _ hcode a U X.warmed
  obtain ⟨methY, cY, hmY, hcY, -, hlY, -, -, -, -⟩ := Cond.code_spec hn h2
  obtain ⟨kY, hkY, -⟩ := className_of_methodNamed hn
  have hinitY : kY.init = .initialized := Cond.initialized_spec (findClass_of_methodNamed hn) hkY (hinit a U X.warmed)
  have h : At U g.method c below := by rw [hg]; exact X.here
  have happ : (headSpec ws rm).appliesLoose y e.platform (U.calling g mk a) = true :=
    Spec.appliesLoose_calling (g := g) h hdg hn hkY hinitY
      (X.room_calling (g := g) (R' := (headSpec ws rm).room) hsize hmY hcY hframes (by rw [hlY]; exact Nat.le_trans (by show _ + (maxL + 11) + rm.locals ≤ 8 + (maxL + 11) + rm.locals; omega) hlocals) (by rw [show (headSpec ws rm).room.cells = mc from hrc]; exact hroom.1) (by rw [show (headSpec ws rm).room.slots = ms from hrs]; exact hroom.2)) (atoms_intro fun w hw => hws w hw _ _ X.warmed)
  obtain ⟨mid, hmid⟩ := h.above
  have hfr : (U.setTop g).frames = (.java g :: mid) ++ below := by rw [State.frames_setTop' g h.top, hmid]; rfl
  obtain ⟨o, s₂, hsteps, -, hend, hq⟩ := Steps.callFree hM p X.admits X.cas X.clock (acts := []) hfr happ (hblind _ _ _ _ hPc) trivial
  rw [State.frames_setTop' g h.top] at hend
  obtain ⟨hq', L, ⟨hW₂, hsb⟩, hL⟩ := hq
  cases o with
  | threw x =>
    rw [X.tail] at hend
    obtain ⟨T', X', hW', hsm, ht⟩ := X.outOfThrown hg hend hW₂ hsb
    refine ⟨.threw x, s₂, T', L, X', ?_, ?_, hL, hq', Or.inr ⟨x, rfl, ?_⟩⟩
    · rw [ht]; exact (Stand.throwing_heap T' g x).symm
    · rw [ht]; exact (Stand.throwing_vm T' g x).symm
    · rw [← ht]; exact hsteps
  | returned v =>
    rw [X.tail] at hend
    obtain ⟨T', X', hW', hsm, ht⟩ := X.outOf hg hdg hend hW₂ hsb
    refine ⟨.returned v, s₂, T', L, X', ?_, ?_, hL, hq', Or.inl ⟨v, rfl, ?_⟩⟩
    · rw [ht]; simp [State.setTop, State.modifyTopJava, State.setFrames]
    · rw [ht]; simp [State.setTop, State.modifyTopJava, State.setFrames]
    · rw [← ht]; exact hsteps
end XB
section XT
variable {p : Program} {l : Launch} {e : Env} {R : Room} {s : State} {m : MethodId} {args : Array Value} {below : List Frame} {meth : Method} {c : Code} {H : Heap} {locs : List Loc} {cells slots : Nat}
/-- the walk from here on, as if the invocation had begun with this heap -/
theorem xrebase {T : State} (X : Stand p l e R s m args below meth c T locs cells slots) (hc : cells ≤ R.cells) (hs : slots ≤ R.slots) : Stand p l e { R with cells := R.cells - cells, slots := R.slots - slots } { s with heap := T.heap, slotsUsed := T.slotsUsed } m args below meth c T [] 0 0 := by
  have h1 := X.room
  have h2 := X.heapSize
  have h3 := X.used
  have h4 := X.book
  have h5 := X.same.1
  refine ⟨X.admits, X.cas, X.clock, X.frames, ?_, X.hears, X.method, X.code, X.here, X.tail, X.warmed, X.limits, X.bytes, ?_⟩
  · simp only [State.hasRoom, Bool.and_eq_true, decide_eq_true_eq] at h1 ⊢
    obtain ⟨⟨⟨⟨a1, a2⟩, a3⟩, a4⟩, a5⟩ := h1
    exact ⟨⟨⟨⟨a1, a2⟩, by show T.heap.size + (R.cells - cells) ≤ _; omega⟩, by show T.slotsUsed + (R.slots - slots) ≤ _; omega⟩, h4⟩
  · have hd : T.heap.toList.drop T.heap.size = [] := by simp
    refine ⟨h5, Nat.le_refl _, Nat.le_refl _, ?_, ?_, fun a c h => ⟨c, h, rfl, rfl, fun _ _ => rfl⟩⟩
    · show T.slotsUsed = T.slotsUsed + ((T.heap.toList.drop T.heap.size).map (·.slots.size)).sum
      rw [hd]; rfl
    · show ((T.heap.toList.drop T.heap.size).map (·.slots.size)).sum ≤ 0
      rw [hd]; exact Nat.le_refl _
theorem xkeep {s s' : State} {k n : Nat} (h : s.sameButNew s' [] k n) {a : Nat} {c : Cell} (hc : s.heap[a]? = some c) : s'.heap[a]? = some c := by
  obtain ⟨-, -, -, -, -, h⟩ := h
  obtain ⟨c', h1, h2, -, h4⟩ := h a c hc
  have h5 : c'.slots = c.slots := Array.ext_getElem? (fun i => h4 i (by simp))
  rw [h1, h2, h5]
/-- what a throw of an own making leaves -/
def xThrown (s : State) (below : List Frame) (X : String) : State → Prop := fun U => ∃ (a : Addr) (ce : Cell), U.status = .running ∧ Ended U below (.threw a) ∧ s.WarmedH U.vm ∧ s.sameButNew ({ U with vm := s.vm } : State) [] 1 6 ∧ s.heap.size ≤ a ∧ U.heap[a]? = some ce ∧ s.vm.findClass X = some ce.cls ∧ ce.vm.isStatics = false
variable {cc : ByteArray} {pc : Nat} {ls : Array Slot} {rest : List Value}
theorem xthrowA (hexec : p.tables.exec = Jvm.exec) (hb : c.code = cc) (htr : e.platform.stackTraces = false) {own X : String} {ia ic q k : Nat} {names : List String} (hown : s.vm.findClass own = some m.cls) (hX : Bundle.fit X = true) (hn : ∀ n ∈ names, Bundle.fit n = true) (hat : ∀ a ∈ Bundle.ownAtoms own ic X names, a.before args s = true) (hcl : (Cond.classLink own ia X).before args s = true) (hini : (Cond.initialized X).before args s = true) (hout : ∀ x ∈ c.exceptionTable.toList, covers x (k + 3) = false) (hlocks : meth.locks = false) (hsize : ls.size = c.maxLocals)
    (hd0 : decode cc pc = .ok (.new ia, 3)) (hd3 : decode cc (pc + 3) = .ok (.dup, 1))
    (hldc : ∀ (H : Heap) (st : List Value) (cells slots : Nat) (Q : State → Prop), W p l e R s m args below meth c H [] cells slots Q (F0 m k ls (.ref q :: st)) → W p l e R s m args below meth c H [] cells slots Q (F0 m (pc + 4) ls st))
    (hd6 : decode cc k = .ok (.invokespecial ic, 3)) (hd9 : decode cc (k + 3) = .ok (.athrow, 1)) (hRf : names.length + 3 < R.frames) (hRl : (rest.map fun v => v.category).sum + (13 * (names.length + 1) + 43) ≤ R.locals) (hRc : 1 ≤ R.cells) (hRs : 6 ≤ R.slots) : W p l e R s m args below meth c s.heap [] 0 0 (xThrown s below X) (F0 m pc ls rest) := by
  refine W.newc hexec hb hown hcl (hat (.instantiable X 6) (by simp [Bundle.ownAtoms])) hini rfl hd0 (by omega) (by omega) (fun cC kC h1 h2 h3 h4 => ?_)
  refine W.eq (g2 := F0 m (pc + 3) ls (.ref s.heap.size :: rest)) rfl ?_
  refine lv_dup hexec hb hd3 rfl ?_
  refine hldc _ _ _ _ _ ?_
  intro T hT Y
  obtain ⟨U, a1, a2, a3, a4, a5, ce, a6, a7⟩ := Y.ctorThrowS hexec htr (own := own) (cls := X) (names := names) (ic := ic) hown hX hn hat (fun x h => by cases h) (a := s.heap.size) (cX := cC) (kX := kC) h1 h2 (by rw [hT]; simp [freshCell]) (Nat.le_refl _) (msg := .ref q) rfl (g := F0 m k ls (.ref q :: .ref s.heap.size :: .ref s.heap.size :: rest)) rfl hsize rfl rfl (rest := rest) rfl (by rw [hb]; exact hd6) (by rw [hb]; exact hd9) hout hRf (by
      have e1 : ((Value.ref s.heap.size :: rest).map fun v => v.category).sum = 1 + (rest.map fun v => v.category).sum := by simp [Value.category]
      rw [e1]
      show 2 * 0 + _ + _ ≤ _
      omega) (hlocks := hlocks)
  exact ⟨U, a1, s.heap.size, ce, a2, a3, a4, a5, Nat.le_refl _, a6, a7.cls, by rw [a7.vm]; rfl⟩
end XT
/-! what is thrown -/
def xEx (k : Nat) : String := match k with
  | 0 => "java/lang/IllegalArgumentException"
  | 1 => "java/lang/IllegalStateException"
  | 2 => "java/lang/UnsupportedOperationException"
  | 3 => "java/lang/ArithmeticException"
  | _ => "java/lang/IndexOutOfBoundsException"
def xExc (k x sz : Nat) (t : State) : Prop := sz ≤ x ∧ ∃ ce : Cell, t.heap[x]? = some ce ∧ t.vm.findClass (xEx k) = some ce.cls ∧ ce.vm.isStatics = false
theorem xPkeep {D : va_G} {cl : List vw_C} {ws : va_W} {H H1 : Heap} (h : va_P D cl ws H) (hk : ∀ (q : Nat) (cell : Cell), H[q]? = some cell → H1[q]? = some cell) : va_P D cl ws H1 := by
  refine h.kept (fun k q hq => ?_)
  have hl := (h k q hq).lt
  have e : H[q.1]? = some H[q.1] := Array.getElem?_eq_getElem hl
  rw [e, hk _ _ e]
theorem xSkeep {A : Nat → Prop} {H0 H H1 : Heap} {locs : List Loc} (h : va_S A H0 H locs) (hz : H.size ≤ H1.size) (hk : ∀ (q : Nat) (cell : Cell), H[q]? = some cell → H1[q]? = some cell) : va_S A H0 H1 locs := by
  refine ⟨Nat.le_trans h.1 hz, fun q h1 h2 => ?_, h.2.2⟩
  have hl : q < H.size := Nat.lt_of_lt_of_le h1 h.1
  have e : H[q]? = some H[q] := Array.getElem?_eq_getElem hl
  rw [← h.2.1 q h1 h2, e, hk _ _ e]
section XR
variable {p : Program} {l : Launch} {e : Env} {R : Room} {s : State} {m : MethodId} {args : Array Value} {below : List Frame} {meth : Method} {c : Code} {H : Heap} {locs : List Loc} {cells slots : Nat} {Q : State → Prop}
/-- a call that comes back either way -/
def xRun (p : Program) (l : Launch) (e : Env) (R : Room) (s : State) (m : MethodId) (args : Array Value) (below : List Frame) (meth : Method) (c : Code) (H : Heap) (locs : List Loc) (cells slots mc ms : Nat) (g : JFrame) (rest : List Value) (Qa : State → Outcome → State → Prop) (free : Addr → Prop) : Prop :=
  ∀ T : State, T.heap = H → Stand p l e R s m args below meth c T locs cells slots → ∃ (o : Outcome) (st₀ t T' : State) (L : List Loc), st₀.heap = H ∧ Stand p l e R s m args below meth c T' (locs ++ L) (cells + mc) (slots + ms) ∧ (∀ q ∈ L, free q.base) ∧ T'.heap = t.heap ∧ T'.vm = t.vm ∧ Qa st₀ o t ∧
    ((∃ v, o = .returned v ∧ ∀ tg, Steps p.tables e below (T'.setTop { g with pc := g.pc + 3, stack := v.toList ++ rest }) tg → Steps p.tables e below (T.setTop g) tg) ∨
     (∃ x, o = .threw x ∧ ∀ tg, Steps p.tables e below ((T'.setTop { g with stack := rest }).pushFrame (.throwing x)) tg → Steps p.tables e below (T.setTop g) tg))
variable {y : MethodName} {bytes cc : ByteArray} {maxL nL mc ms n index : Nat} {ret : Option FieldType} {ws : List Cond} {rm : Room} {Pc : Array Value → State → Prop} {Qc : Array Value → State → Outcome → State → Prop} {free : Addr → Prop} {Ts : List Cond} {own C : String} {b : Addr} {As rest : List Value} {g : JFrame}
theorem xrunV (S : CallFix p m c cc nL s args Ts own) (hM : MetX l y ws rm Pc Qc mc ms free) (cw : CallW R s args own C index y bytes maxL ret ws rm mc ms n) (hp : PreV s H C b Pc As)
    (hg : g.method = m) (hn : As.length = n) (hsize : g.locals.size = nL) (hstack : g.stack = As.reverse ++ .ref b :: rest) (hW : 2 * g.monitorRoom + (rest.map fun v => v.category).sum ≤ 8) (hdg : decode cc g.pc = .ok (.invokevirtual index, 3)) (hf : cells + mc ≤ R.cells ∧ slots + ms ≤ R.slots) :
    xRun p l e R s m args below meth c H locs cells slots mc ms g rest (Qc (Value.ref b :: As).toArray) free := by
  obtain ⟨⟨hrc, hrs, hfr, hlo, hws, hcw, hcode, hini, hy, hlen, hl⟩, hin, hse⟩ := cw
  obtain ⟨hx, hb, hml, ho, -⟩ := S
  obtain ⟨hbl, ⟨cellB, hcB, hoB, hclB⟩, hPc⟩ := hp
  intro T hT X
  obtain ⟨mk, methM, hnamed, hmethM, hstM, habM⟩ := Cond.instanceMethod_spec hin
  obtain ⟨methM', cM, hmethM', -, -, -, -, -, -, hsigM⟩ := Cond.code_spec hnamed hcode
  cases hmethM.symm.trans hmethM'
  obtain ⟨c2, r2, m2, q1, q2, q3, q4, kP, hkP, hkPi⟩ := Cond.selects_spec hse
  cases hclB.symm.trans q1
  cases (State.methodFound?_of_named hnamed hy).symm.trans q2
  cases hnamed.symm.trans q3
  have hselP : selectMethod e.platform s.vm cellB.cls mk = .method mk := by rw [Launch.admits_selectMethod X.admits]; exact q4
  obtain ⟨vm₁, X₁, hstep₁⟩ := X.invokevirtual hx ho hl hnamed hmethM hstM hkP hkPi hy (a := b) (cell := cellB) (by rw [hT]; exact hcB)
    (fun z h => by rw [h] at hoB; cases hoB) hselP hmethM habM hkP hkPi (g := g) hg (argsL := As) (rest := rest) (hn.trans (hlen _ hsigM)) hstack (by rw [hb]; exact hdg)
  obtain ⟨o, t, T', L, X', e1, e2, hL, hq, hor⟩ := xBack (g := { g with stack := rest }) (ig := .invokevirtual index) (len := 3) X₁ hM hbl hrc hrs hfr hlo hws hcw (fun a' U hW' => word_at hW' (Or.inl (by first | rfl | simp [Cond.onTables, Cond.keeps, Cond.steady])) hini) hg (hsize.trans hml.symm) (by rw [hb]; exact hdg) hW (X₁.named hnamed) hf (hPc (T.setVm vm₁) hT X₁.warmed)
  refine ⟨o, _, t, T', L, ?_, X', hL, e1, e2, hq, ?_⟩
  · exact hT
  · rcases hor with ⟨v, rfl, hs⟩ | ⟨x, rfl, hs⟩
    · exact Or.inl ⟨v, rfl, fun tg h => hstep₁ _ fun acts => by rw [doInvoke_state]; exact hs.trans h⟩
    · exact Or.inr ⟨x, rfl, fun tg h => hstep₁ _ fun acts => by rw [doInvoke_state]; exact hs.trans h⟩
theorem xrunS (S : CallFix p m c cc nL s args Ts own) (hM : MetX l y ws rm Pc Qc mc ms free) (cw : CallB R s args own index y bytes maxL ret ws rm mc ms n ∧ (Cond.static y).before args s = true) (hp : PreS s H Pc As)
    (hg : g.method = m) (hn : As.length = n) (hsize : g.locals.size = nL) (hstack : g.stack = As.reverse ++ rest) (hW : 2 * g.monitorRoom + (rest.map fun v => v.category).sum ≤ 8) (hdg : decode cc g.pc = .ok (.invokestatic index, 3)) (hf : cells + mc ≤ R.cells ∧ slots + ms ≤ R.slots) :
    xRun p l e R s m args below meth c H locs cells slots mc ms g rest (Qc As.toArray) free := by
  obtain ⟨⟨hrc, hrs, hfr, hlo, hws, hcw, hcode, hini, hy, hlen, hl⟩, hstt⟩ := cw
  obtain ⟨hx, hb, hml, ho, -⟩ := S
  obtain ⟨hbl, hPc⟩ := hp
  intro T hT X
  obtain ⟨mk, hnamed⟩ := Cond.code_named hcode
  obtain ⟨methM, cM, hmethM, -, -, -, -, -, -, hsigM⟩ := Cond.code_spec hnamed hcode
  have hstatic : methM.isStatic = true := Cond.static_spec hnamed hmethM hstt
  obtain ⟨kP, hkP, -⟩ := className_of_methodNamed hnamed
  have hinitP : kP.init = .initialized := Cond.initialized_spec (findClass_of_methodNamed hnamed) hkP hini
  obtain ⟨vm₁, X₁, hstep₁⟩ := X.invokestatic hx ho hl hnamed hmethM hstatic hkP hinitP hy (g := g) hg (argsL := As) (rest := rest) (hn.trans (hlen _ hsigM)) hstack (by rw [hb]; exact hdg)
  obtain ⟨o, t, T', L, X', e1, e2, hL, hq, hor⟩ := xBack (g := { g with stack := rest }) (ig := .invokestatic index) (len := 3) X₁ hM hbl hrc hrs hfr hlo hws hcw (fun a' U hW' => word_at hW' (Or.inl (by first | rfl | simp [Cond.onTables, Cond.keeps, Cond.steady])) hini) hg (hsize.trans hml.symm) (by rw [hb]; exact hdg) hW (X₁.named hnamed) hf (hPc (T.setVm vm₁) hT X₁.warmed)
  refine ⟨o, _, t, T', L, ?_, X', hL, e1, e2, hq, ?_⟩
  · exact hT
  · rcases hor with ⟨v, rfl, hs⟩ | ⟨x, rfl, hs⟩
    · exact Or.inl ⟨v, rfl, fun tg h => hstep₁ _ fun acts => by rw [doInvoke_state]; exact hs.trans h⟩
    · exact Or.inr ⟨x, rfl, fun tg h => hstep₁ _ fun acts => by rw [doInvoke_state]; exact hs.trans h⟩
end XR
/-- the end of a method that may throw: an int, or nothing, comes back; or it throws -/
def xQi {S : Type} (post : Int32 → S → Prop) (postX : Nat → S → Prop) (B : S → State → Prop) (A : Nat → Prop) : Array Value → State → Outcome → State → Prop := fun _ st oc t => ((∃ (r : Int32) (u : S), oc = .returned (some (.int r)) ∧ post r u ∧ B u t) ∨ (∃ (k x : Nat) (u : S), oc = .threw x ∧ xExc k x st.heap.size t ∧ postX k u ∧ B u t)) ∧ va_F A st t
def xQv {S : Type} (post : S → Prop) (postX : Nat → S → Prop) (B : S → State → Prop) (A : Nat → Prop) : Array Value → State → Outcome → State → Prop := fun _ st oc t => ((∃ u : S, oc = .returned none ∧ post u ∧ B u t) ∨ (∃ (k x : Nat) (u : S), oc = .threw x ∧ xExc k x st.heap.size t ∧ postX k u ∧ B u t)) ∧ va_F A st t
section XCX
variable {p : Program} {l : Launch} {e : Env} {R : Room} {s : State} {m : MethodId} {args : Array Value} {below : List Frame} {meth : Method} {c : Code} {H : Heap} {locs : List Loc} {cells slots : Nat} {Q : State → Prop}
variable {pc : Nat} {ls : Array Slot} {rest st0 : List Value} {a : Array Value} {A0 : Nat → Prop} {mc ms : Nat} {D : va_G} {tys : List (ClassId × FieldType)} {WD wc : va_W}
/-- behind a call that came back either way: the caller's cells, and what is left of the frame -/
theorem xafter {st₀ t T' : State} {L : List Loc} {w1 : va_W} (hP : va_P D vwCl WD H) (hD : va_D A0 WD) (hS : va_S A0 s.heap H locs) (hA : ∀ q, s.heap.size ≤ q → A0 q) (isC isR : List Nat) (hC : isC.map (fun i => WD[i]?) = wc.map some) (hR : isR.map (fun i => WD[i]?) = (isR.filterMap (fun i => WD[i]?)).map some) (hn : va_nd isR = true) (hdis : (isR.all fun i => !isC.contains i) = true)
    (h0 : st₀.heap = H) (hL : ∀ q ∈ L, va_A wc H.size q.base) (e1 : T'.heap = t.heap) (hB : xB D tys (va_A wc H.size) w1 t) (hF : va_F (va_A wc H.size) st₀ t) :
    va_P D vwCl (isR.filterMap (fun i => WD[i]?) ++ w1) T'.heap ∧ va_D A0 (isR.filterMap (fun i => WD[i]?) ++ w1) ∧ va_S A0 s.heap T'.heap (locs ++ L) := by
  have hFc := va_free hD hS hA isC hC
  obtain ⟨hP1, -, hD1⟩ := hB
  obtain ⟨hz, hk⟩ := hF
  rw [h0] at hz hk
  rw [← e1] at hP1 hz hk
  obtain ⟨hP', hD'⟩ := va_join hP hD isC isR hC hR hn (fun i hi hc => by
    have h1 := List.all_eq_true.mp hdis i hi
    simp at h1
    exact h1 hc) hk hFc hP1 hD1
  refine ⟨hP', hD', Nat.le_trans hS.1 hz, fun q h1 h2 => ?_, fun q hq => ?_⟩
  · rw [hk q (Nat.lt_of_lt_of_le h1 hS.1) (fun z => h2 (hFc q z))]
    exact hS.2.1 q h1 h2
  · rcases List.mem_append.mp hq with h | h
    · exact hS.2.2 q h
    · exact hFc _ (hL q h)
theorem xcxv {S : Type} {post : S → Prop} {postX : Nat → S → Prop} {w1 : S → va_W}
    (hr : xRun p l e R s m args below meth c H locs cells slots mc ms (F0 m pc ls st0) rest (xQv post postX (fun u t => xB D tys (va_A wc H.size) (w1 u) t) (va_A wc H.size) a) (va_A wc H.size))
    (hout : ∀ x ∈ c.exceptionTable.toList, covers x pc = false) (hlocks : meth.locks = false)
    (hP : va_P D vwCl WD H) (hD : va_D A0 WD) (hS : va_S A0 s.heap H locs) (hA : ∀ q, s.heap.size ≤ q → A0 q) (isC isR : List Nat) (hC : isC.map (fun i => WD[i]?) = wc.map some) (hR : isR.map (fun i => WD[i]?) = (isR.filterMap (fun i => WD[i]?)).map some) (hn : va_nd isR = true) (hdis : (isR.all fun i => !isC.contains i) = true) (isP : List Nat) (hn2 : va_nd isP = true)
    (hP2 : ∀ u, isP.map (fun i => (isR.filterMap (fun i => WD[i]?) ++ w1 u)[i]?) = (isP.filterMap (fun i => (isR.filterMap (fun i => WD[i]?) ++ w1 u)[i]?)).map some)
    (kk : ∀ (u : S) (H1 : Heap) (locs1 : List Loc), post u → va_P D vwCl (isP.filterMap (fun i => (isR.filterMap (fun i => WD[i]?) ++ w1 u)[i]?)) H1 → va_D A0 (isP.filterMap (fun i => (isR.filterMap (fun i => WD[i]?) ++ w1 u)[i]?)) → va_S A0 s.heap H1 locs1 → W p l e R s m args below meth c H1 locs1 (cells + mc) (slots + ms) Q (F0 m (pc + 3) ls rest))
    (kx : ∀ (k x : Nat) (u : S) (t : State) (locs1 : List Loc), t.status = .running → Ended t below (.threw x) → s.WarmedH t.vm → s.sameButNew ({ t with vm := s.vm } : State) locs1 (cells + mc) (slots + ms) → xExc k x s.heap.size t → va_P D vwCl (isP.filterMap (fun i => (isR.filterMap (fun i => WD[i]?) ++ w1 u)[i]?)) t.heap → va_D A0 (isP.filterMap (fun i => (isR.filterMap (fun i => WD[i]?) ++ w1 u)[i]?)) → va_S A0 s.heap t.heap locs1 → postX k u → Q t) : W p l e R s m args below meth c H locs cells slots Q (F0 m pc ls st0) := by
  intro T hT X
  obtain ⟨o, st₀, t, T', L, h0, X', hL, e1, e2, ⟨hq, hF⟩, hor⟩ := hr T hT X
  rcases hor with ⟨v, rfl, hs⟩ | ⟨x, rfl, hs⟩
  · rcases hq with ⟨u, hv, hp, hB⟩ | ⟨k, x, u, hv, -⟩
    · cases hv
      obtain ⟨hP', hD', hS'⟩ := xafter hP hD hS hA isC isR hC hR hn hdis h0 hL e1 hB hF
      obtain ⟨t2, a1, b1⟩ := kk u T'.heap (locs ++ L) hp (hP'.sub isP rfl) (hD'.sub isP hn2 (hP2 u)) hS' T' rfl X'
      exact ⟨t2, hs t2 a1, b1⟩
    · cases hv
  · rcases hq with ⟨u, hv, -⟩ | ⟨k, x', u, hv, ⟨hx1, ce, hx2, hx3, hx4⟩, hp, hB⟩
    · cases hv
    · cases hv
      obtain ⟨hP', hD', hS'⟩ := xafter hP hD hS hA isC isR hC hR hn hdis h0 hL e1 hB hF
      obtain ⟨b1, b2, b3, b4, b5⟩ := X'.leaveThrown x (g := { F0 m pc ls st0 with stack := rest }) rfl rfl rfl hout (hlocks := hlocks)
      refine ⟨_, hs _ b1, kx k x u _ (locs ++ L) b2 b3 b4 b5 ⟨?_, ce, ?_, ?_, hx4⟩ (hP'.sub isP rfl) (hD'.sub isP hn2 (hP2 u)) hS' hp⟩
      · rw [h0] at hx1
        exact Nat.le_trans hS.1 hx1
      · show T'.heap[x]? = some ce
        rw [e1]; exact hx2
      · show T'.vm.findClass (xEx k) = some ce.cls
        rw [e2]; exact hx3
theorem xcxi {S : Type} {post : Int32 → S → Prop} {postX : Nat → S → Prop} {w1 : S → va_W}
    (hr : xRun p l e R s m args below meth c H locs cells slots mc ms (F0 m pc ls st0) rest (xQi post postX (fun u t => xB D tys (va_A wc H.size) (w1 u) t) (va_A wc H.size) a) (va_A wc H.size))
    (hout : ∀ x ∈ c.exceptionTable.toList, covers x pc = false) (hlocks : meth.locks = false)
    (hP : va_P D vwCl WD H) (hD : va_D A0 WD) (hS : va_S A0 s.heap H locs) (hA : ∀ q, s.heap.size ≤ q → A0 q) (isC isR : List Nat) (hC : isC.map (fun i => WD[i]?) = wc.map some) (hR : isR.map (fun i => WD[i]?) = (isR.filterMap (fun i => WD[i]?)).map some) (hn : va_nd isR = true) (hdis : (isR.all fun i => !isC.contains i) = true) (isP : List Nat) (hn2 : va_nd isP = true)
    (hP2 : ∀ u, isP.map (fun i => (isR.filterMap (fun i => WD[i]?) ++ w1 u)[i]?) = (isP.filterMap (fun i => (isR.filterMap (fun i => WD[i]?) ++ w1 u)[i]?)).map some)
    (kk : ∀ (r : Int32) (u : S) (H1 : Heap) (locs1 : List Loc), post r u → va_P D vwCl (isP.filterMap (fun i => (isR.filterMap (fun i => WD[i]?) ++ w1 u)[i]?)) H1 → va_D A0 (isP.filterMap (fun i => (isR.filterMap (fun i => WD[i]?) ++ w1 u)[i]?)) → va_S A0 s.heap H1 locs1 → W p l e R s m args below meth c H1 locs1 (cells + mc) (slots + ms) Q (F0 m (pc + 3) ls (.int r :: rest)))
    (kx : ∀ (k x : Nat) (u : S) (t : State) (locs1 : List Loc), t.status = .running → Ended t below (.threw x) → s.WarmedH t.vm → s.sameButNew ({ t with vm := s.vm } : State) locs1 (cells + mc) (slots + ms) → xExc k x s.heap.size t → va_P D vwCl (isP.filterMap (fun i => (isR.filterMap (fun i => WD[i]?) ++ w1 u)[i]?)) t.heap → va_D A0 (isP.filterMap (fun i => (isR.filterMap (fun i => WD[i]?) ++ w1 u)[i]?)) → va_S A0 s.heap t.heap locs1 → postX k u → Q t) : W p l e R s m args below meth c H locs cells slots Q (F0 m pc ls st0) := by
  intro T hT X
  obtain ⟨o, st₀, t, T', L, h0, X', hL, e1, e2, ⟨hq, hF⟩, hor⟩ := hr T hT X
  rcases hor with ⟨v, rfl, hs⟩ | ⟨x, rfl, hs⟩
  · rcases hq with ⟨r, u, hv, hp, hB⟩ | ⟨k, x, u, hv, -⟩
    · cases hv
      obtain ⟨hP', hD', hS'⟩ := xafter hP hD hS hA isC isR hC hR hn hdis h0 hL e1 hB hF
      obtain ⟨t2, a1, b1⟩ := kk r u T'.heap (locs ++ L) hp (hP'.sub isP rfl) (hD'.sub isP hn2 (hP2 u)) hS' T' rfl X'
      exact ⟨t2, hs t2 a1, b1⟩
    · cases hv
  · rcases hq with ⟨r, u, hv, -⟩ | ⟨k, x', u, hv, ⟨hx1, ce, hx2, hx3, hx4⟩, hp, hB⟩
    · cases hv
    · cases hv
      obtain ⟨hP', hD', hS'⟩ := xafter hP hD hS hA isC isR hC hR hn hdis h0 hL e1 hB hF
      obtain ⟨b1, b2, b3, b4, b5⟩ := X'.leaveThrown x (g := { F0 m pc ls st0 with stack := rest }) rfl rfl rfl hout (hlocks := hlocks)
      refine ⟨_, hs _ b1, kx k x u _ (locs ++ L) b2 b3 b4 b5 ⟨?_, ce, ?_, ?_, hx4⟩ (hP'.sub isP rfl) (hD'.sub isP hn2 (hP2 u)) hS' hp⟩
      · rw [h0] at hx1
        exact Nat.le_trans hS.1 hx1
      · show T'.heap[x]? = some ce
        rw [e1]; exact hx2
      · show T'.vm.findClass (xEx k) = some ce.cls
        rw [e2]; exact hx3
end XCX
/-! what a throw needs besides the tables' words -/
def xUn : Cond := .isRef (.static "java/lang/Throwable" "UNASSIGNED_STACK" "[Ljava/lang/StackTraceElement;")
def xUs : Cond := .laysStatic "java/lang/Throwable" "UNASSIGNED_STACK" "[Ljava/lang/StackTraceElement;"
def xSs : Cond := .laysStatic "java/lang/Throwable" "SUPPRESSED_SENTINEL" "Ljava/util/List;"
def xSn : Cond := .isRef (.static "java/lang/Throwable" "SUPPRESSED_SENTINEL" "Ljava/util/List;")
theorem xisRef {C n d : String} {A : Nat → Prop} {U : State} {args : Array Value} (h : va_Zq C n d A U U.heap) : (Cond.isRef (.static C n d)).before args U = true := by
  have key : ∀ v : Value, v = .null ∨ (∃ t, v = .ref t) → va_Z C n d v A U U.heap → (Cond.isRef (.static C n d)).before args U = true := by
    intro v hv h
    obtain ⟨cf, kf, fi, f, a, cell, h1, h2, h3, h4, h5, h6, h7, h8⟩ := h
    have he : (Term.static C n d).eval args U none [] U = some v := by
      simp [Term.eval, State.fieldNamed?, h1, h2, h4, h5, h6, h7]
    rcases hv with rfl | ⟨t, rfl⟩
    · simp [Cond.before, Cond.holds, Cond.value, he]
    · simp [Cond.before, Cond.holds, Cond.value, he]
  rcases h with h | ⟨t, h⟩
  · exact key _ (Or.inl rfl) h
  · exact key _ (Or.inr ⟨t, rfl⟩) h
/-- what 'laysStatic' says, with the cell apart from A -/
def xLs (C n d : String) (A : Nat → Prop) (U : State) (H : Heap) : Prop := ∃ (c : ClassId) (k : Class) (i : Nat) (f : Field) (a : Nat) (cell : Cell), U.vm.findClass C = some c ∧ U.fieldFound? C n d = some (c, k, i, f) ∧ f.isStatic = true ∧ k.statics = some a ∧ H[a]? = some cell ∧ cell.vm.isStatics = true ∧ cell.cls = c ∧ f.slot < cell.slots.size ∧ k.staticTypes[f.slot]? = some f.type ∧ ¬ A a
theorem xLs.word {C n d : String} {A : Nat → Prop} {U : State} {args : Array Value} (h : xLs C n d A U U.heap) : (Cond.laysStatic C n d).before args U = true := by
  obtain ⟨c, k, i, f, a, cell, h1, h2, h3, h4, h5, h6, h7, h8, h9, -⟩ := h
  simp [Cond.before, Cond.holds, Cond.value, h1, h2, h3, h4, h5, h6, h7, h8, h9]
theorem xLs.of {C n d : String} {A : Nat → Prop} {U : State} {args : Array Value} (hA : ∀ a : Nat, a < U.heap.size → ¬ A a) (h : (Cond.laysStatic C n d).before args U = true) : xLs C n d A U U.heap := by
  obtain ⟨c, k, i, f, a, cell, h1, h2, h3, h4, h5, h6, h7, h8, h9⟩ := Cond.laysStatic_spec h
  exact ⟨c, k, i, f, a, cell, h1, h2, h3, h4, h5, h6, h7, h8, h9, hA a (Array.getElem?_eq_some_iff.mp h5).1⟩
theorem xLs.kept {C n d : String} {A : Nat → Prop} {U : State} {H H1 : Heap} (h : xLs C n d A U H) (hq : ∀ a : Nat, a < H.size → ¬ A a → H1[a]? = H[a]?) : xLs C n d A U H1 := by
  obtain ⟨c, k, i, f, a, cell, h1, h2, h3, h4, h5, h6, h7, h8, h9, h10⟩ := h
  exact ⟨c, k, i, f, a, cell, h1, h2, h3, h4, by rw [hq a (Array.getElem?_eq_some_iff.mp h5).1 h10]; exact h5, h6, h7, h8, h9, h10⟩
theorem xLs.moved {C n d : String} {A B : Nat → Prop} {u U : State} {H : Heap} (hvm : u.vm.Alike U.vm) (hAB : ∀ q, B q → A q) (h : xLs C n d A u H) : xLs C n d B U H := by
  obtain ⟨c, k, i, f, a, cell, h1, h2, h3, h4, h5, h6, h7, h8, h9, h10⟩ := h
  obtain ⟨k', hi', he⟩ := State.fieldFound?_setVm hvm h2
  exact ⟨c, k', i, f, a, cell, by rw [hvm.findClass]; exact h1, hi', h3, by rw [he]; exact h4, h5, h6, h7, h8, by rw [he]; exact h9, fun z => h10 (hAB a z)⟩
theorem xLs.full {C n d : String} {WD : va_W} {U : State} {H : Heap} (h : xLs C n d (fun q => ∃ (k : Nat) (e : va_E), WD[k]? = some (q, e)) U H) : xLs C n d (va_A WD H.size) U H := by
  obtain ⟨c, k, i, f, a, cell, h1, h2, h3, h4, h5, h6, h7, h8, h9, h10⟩ := h
  refine ⟨c, k, i, f, a, cell, h1, h2, h3, h4, h5, h6, h7, h8, h9, fun q => ?_⟩
  rcases q with q | q
  · exact h10 q
  · have := (Array.getElem?_eq_some_iff.mp h5).1
    omega
/-- words that hold on, though not of the kind that the kit carries -/
def xKd : List Cond := [.declares (Bundle.initS "java/lang/RuntimeException"), .declares (Bundle.initS "java/lang/Exception"), .declares (Bundle.initS "java/lang/Throwable"), .castable "java/lang/IllegalArgumentException" "java/lang/IllegalArgumentException", .castable "java/lang/IllegalStateException" "java/lang/IllegalStateException", .castable "java/lang/UnsupportedOperationException" "java/lang/UnsupportedOperationException", .castable "java/lang/ArithmeticException" "java/lang/ArithmeticException", .castable "java/lang/IndexOutOfBoundsException" "java/lang/IndexOutOfBoundsException"]
theorem xKd_like {w : Cond} (hw : w ∈ xKd) {A A' : Array Value} {u U : State} (hvm : u.vm.Alike U.vm) (h : w.before A u = true) : w.before A' U = true := by
  have ht : w.onTables = true := by
    have := List.all_eq_true.mp (show xKd.all Cond.onTables = true by decide) w hw
    exact this
  refine va_tabs (u := u.setVm U.vm) (A := A) ht rfl ?_
  simp only [xKd, List.mem_cons, List.not_mem_nil, or_false] at hw
  rcases hw with rfl | rfl | rfl | rfl | rfl | rfl | rfl | rfl
  · rw [Cond.declares_setVm hvm]; exact h
  · rw [Cond.declares_setVm hvm]; exact h
  · rw [Cond.declares_setVm hvm]; exact h
  · rw [Cond.castable_setVm hvm]; exact h
  · rw [Cond.castable_setVm hvm]; exact h
  · rw [Cond.castable_setVm hvm]; exact h
  · rw [Cond.castable_setVm hvm]; exact h
  · rw [Cond.castable_setVm hvm]; exact h
def xMem (WD : va_W) : Nat → Prop := fun q => ∃ (k : Nat) (e : va_E), WD[k]? = some (q, e)
def xEE (A : Nat → Prop) (U : State) (H : Heap) : Prop := va_Zq "java/lang/Throwable" "UNASSIGNED_STACK" "[Ljava/lang/StackTraceElement;" A U H ∧ va_Zq "java/lang/Throwable" "SUPPRESSED_SENTINEL" "Ljava/util/List;" A U H ∧ (∀ q ∈ xStrs, ∃ a, vk_R "OnceNamed" q.1 q.2 a U) ∧ xLs "java/lang/Throwable" "UNASSIGNED_STACK" "[Ljava/lang/StackTraceElement;" A U H ∧ xLs "java/lang/Throwable" "SUPPRESSED_SENTINEL" "Ljava/util/List;" A U H ∧ ∀ w ∈ xKd, w.before #[] U = true
theorem xZfull {C n d : String} {WD : va_W} {U : State} {H : Heap} (h : va_Zq C n d (xMem WD) U H) : va_Zq C n d (va_A WD H.size) U H := by
  have key : ∀ v : Value, va_Z C n d v (xMem WD) U H → va_Z C n d v (va_A WD H.size) U H := by
    intro v h
    obtain ⟨cf, kf, fi, f, a, cell, h1, h2, h3, h4, h5, h6, h7, h8⟩ := h
    refine ⟨cf, kf, fi, f, a, cell, h1, h2, h3, h4, h5, h6, h7, fun q => ?_⟩
    rcases q with q | q
    · exact h8 q
    · have := (Array.getElem?_eq_some_iff.mp h5).1
      omega
  rcases h with h | ⟨t, h⟩
  · exact Or.inl (key _ h)
  · exact Or.inr ⟨t, key _ h⟩
theorem xEEfull {WD : va_W} {U : State} {H : Heap} (h : xEE (xMem WD) U H) : xEE (va_A WD H.size) U H := ⟨xZfull h.1, xZfull h.2.1, h.2.2.1, xLs.full h.2.2.2.1, xLs.full h.2.2.2.2.1, h.2.2.2.2.2⟩
def xPcE (D : va_G) (tys : List (ClassId × FieldType)) (WD : va_W) (sz : Nat) (U : State) : Prop := xPc D tys WD sz U ∧ xEE (xMem WD) U U.heap
theorem xWat {args a' : Array Value} {s U : State} (hW : s.WarmedH U.vm) {w : Cond} (hw : w ∈ xW) (h : w.before args s = true) : w.before a' U = true := word_at hW (good_of_word (xW_good w hw)) h
theorem xEE_kept {A : Nat → Prop} {s : State} {H : Heap} {locs : List Loc} (h : xEE A s s.heap) (hS : va_S A s.heap H locs) : xEE A s H := ⟨h.1.kept hS.2.1, h.2.1.kept hS.2.1, h.2.2.1, h.2.2.2.1.kept hS.2.1, h.2.2.2.2.1.kept hS.2.1, h.2.2.2.2.2⟩
theorem xEE_moved {A B : Nat → Prop} {s U : State} {H : Heap} (hW : s.WarmedH U.vm) (hAB : ∀ q, B q → A q) (h : xEE A s H) : xEE B U H :=
  ⟨(va_Zq.moved hW.alike h.1).narrow hAB, (va_Zq.moved hW.alike h.2.1).narrow hAB, fun q hq => by
    obtain ⟨a, ha⟩ := h.2.2.1 q hq
    exact ⟨a, vk_R.warm hW ha⟩, h.2.2.2.1.moved hW.alike hAB, h.2.2.2.2.1.moved hW.alike hAB, fun w hw => xKd_like hw hW.alike (h.2.2.2.2.2 w hw)⟩
def xNm : List String := ["java/lang/RuntimeException", "java/lang/Exception"]
section XTB
variable {p : Program} {l : Launch} {e : Env} {R : Room} {s : State} {m : MethodId} {args : Array Value} {below : List Frame} {meth : Method} {c : Code} {H : Heap} {locs : List Loc} {cells slots : Nat} {Q : State → Prop}
variable {cc : ByteArray} {pc : Nat} {ls : Array Slot} {rest : List Value} {A : Nat → Prop}
theorem xldcwS (hexec : p.tables.exec = Jvm.exec) (hb : c.code = cc) {own tx : String} {index q : Nat} (hown : s.vm.findClass own = some m.cls) (hZ : vk_R own index tx q s) (hdg : decode cc pc = .ok (.ldc_w index, 3))
    (k : W p l e R s m args below meth c H locs cells slots Q (F0 m (pc + 3) ls (.ref q :: rest))) : W p l e R s m args below meth c H locs cells slots Q (F0 m pc ls rest) := by
  intro T hT X
  obtain ⟨t, a1, b1⟩ := k T hT X
  obtain ⟨k0, cf, i, a', hk, hcf, hcp, -, hr, hev'⟩ := Cond.stringRef_spec (args := #[]) hown hZ.1
  cases hZ.2.symm.trans hev'
  obtain ⟨k', hk', he⟩ := X.warmed.alike.2.2 _ _ hk
  have hr' : k'.resolved[index]? = some (some (.string q)) := by
    rcases X.warmed.entry hk hk' index with h | ⟨h, -⟩
    · rw [h]; exact hr
    · rw [hr] at h; cases h
  refine ⟨t, ?_, b1⟩
  jvm_step X.here [X.here.top, hexec, hb, hdg, Op.ldc_w.wp_string (e := e) (s := T) (f := F0 m pc ls rest) X.here.top hk' (by rw [he]; exact hcf) hcp hr']
  exact a1
/-- a throw of an own making, anywhere in a walk -/
theorem xthrowB (k : Nat) {ia ib ic kp : Nat} {tx : String} (hexec : p.tables.exec = Jvm.exec) (hb : c.code = cc) (htr : e.platform.stackTraces = false) (hown : s.vm.findClass "OnceNamed" = some m.cls) (hts : ∀ w ∈ xW, w.before args s = true)
    (hX : Bundle.fit (xEx k) = true) (hat : ∀ w ∈ Bundle.ownAtoms "OnceNamed" ic (xEx k) xNm, w ∈ xW ∨ w ∈ xKd ∨ w = xUn ∨ w = xSn ∨ w = xUs ∨ w = xSs) (hcl : Cond.classLink "OnceNamed" ia (xEx k) ∈ xW) (hini : Cond.initialized (xEx k) ∈ xW) (hE : xEE A s s.heap) (hS : va_S A s.heap H locs) (hstr : (ib, tx) ∈ xStrs)
    (hout : ∀ x ∈ c.exceptionTable.toList, covers x (kp + 3) = false) (hlocks : meth.locks = false) (hsize : ls.size = c.maxLocals)
    (hd0 : decode cc pc = .ok (.new ia, 3)) (hd3 : decode cc (pc + 3) = .ok (.dup, 1)) (hd4 : (decode cc (pc + 4) = .ok (.ldc ib, 2) ∧ kp = pc + 6) ∨ (decode cc (pc + 4) = .ok (.ldc_w ib, 3) ∧ kp = pc + 7))
    (hd6 : decode cc kp = .ok (.invokespecial ic, 3)) (hd9 : decode cc (kp + 3) = .ok (.athrow, 1)) (hRf : 6 ≤ R.frames) (hRl : (rest.map fun v => v.category).sum + 82 ≤ R.locals) (hRc : cells + 1 ≤ R.cells) (hRs : slots + 6 ≤ R.slots)
    (kk : ∀ (x : Nat) (t : State), t.status = .running → Ended t below (.threw x) → s.WarmedH t.vm → s.sameButNew ({ t with vm := s.vm } : State) locs (cells + 1) (slots + 6) → xExc k x s.heap.size t → H.size ≤ t.heap.size → (∀ (q : Nat) (cell : Cell), H[q]? = some cell → t.heap[q]? = some cell) → Q t) : W p l e R s m args below meth c H locs cells slots Q (F0 m pc ls rest) := by
  intro T hT X
  subst hT
  have X' := xrebase X (by omega) (by omega)
  have hE' := xEE_kept hE hS
  obtain ⟨q, hq⟩ := hE'.2.2.1 _ hstr
  have hat' : ∀ w ∈ Bundle.ownAtoms "OnceNamed" ic (xEx k) xNm, w.before args { s with heap := T.heap, slotsUsed := T.slotsUsed } = true := by
    intro w hw
    rcases hat w hw with h | h | rfl | rfl | rfl | rfl
    · exact xWat (s := s) (U := { s with heap := T.heap, slotsUsed := T.slotsUsed }) (State.WarmedH.refl s) h (hts w h)
    · exact xKd_like (u := s) (U := { s with heap := T.heap, slotsUsed := T.slotsUsed }) h (Vm.Alike.refl s.vm) (hE'.2.2.2.2.2 w h)
    · exact xisRef (U := { s with heap := T.heap, slotsUsed := T.slotsUsed }) (va_Zq.moved (u := s) (U := { s with heap := T.heap, slotsUsed := T.slotsUsed }) (Vm.Alike.refl s.vm) hE'.1)
    · exact xisRef (U := { s with heap := T.heap, slotsUsed := T.slotsUsed }) (va_Zq.moved (u := s) (U := { s with heap := T.heap, slotsUsed := T.slotsUsed }) (Vm.Alike.refl s.vm) hE'.2.1)
    · exact xLs.word (U := { s with heap := T.heap, slotsUsed := T.slotsUsed }) (xLs.moved (u := s) (U := { s with heap := T.heap, slotsUsed := T.slotsUsed }) (Vm.Alike.refl s.vm) (fun _ h => h) hE'.2.2.2.1)
    · exact xLs.word (U := { s with heap := T.heap, slotsUsed := T.slotsUsed }) (xLs.moved (u := s) (U := { s with heap := T.heap, slotsUsed := T.slotsUsed }) (Vm.Alike.refl s.vm) (fun _ h => h) hE'.2.2.2.2.1)
  have hq' : vk_R "OnceNamed" ib tx q { s with heap := T.heap, slotsUsed := T.slotsUsed } := vk_R.same (u := s) rfl hq
  have hw := xthrowA (s := { s with heap := T.heap, slotsUsed := T.slotsUsed }) (below := below) (R := { R with cells := R.cells - cells, slots := R.slots - slots }) (l := l) (q := q) (k := kp) (rest := rest) hexec hb htr (own := "OnceNamed") (X := xEx k) (names := xNm) hown hX (by decide) hat'
    (xWat (s := s) (U := { s with heap := T.heap, slotsUsed := T.slotsUsed }) (State.WarmedH.refl s) hcl (hts _ hcl)) (xWat (s := s) (U := { s with heap := T.heap, slotsUsed := T.slotsUsed }) (State.WarmedH.refl s) hini (hts _ hini)) hout hlocks hsize hd0 hd3
    (fun H st cells slots Q kk => by
      rcases hd4 with ⟨h4, rfl⟩ | ⟨h4, rfl⟩
      · exact va_ldcS hexec hb hown hq' h4 kk
      · exact xldcwS hexec hb hown hq' h4 kk) hd6 hd9 (by show 2 + 3 < R.frames; omega) (by show _ + (13 * (2 + 1) + 43) ≤ R.locals; omega) (by show 1 ≤ R.cells - cells; omega) (by show 6 ≤ R.slots - slots; omega)
  obtain ⟨U, st, a, ce, b1, b2, b3, b4, b5, b6, b7, b8⟩ := hw T rfl X'
  refine ⟨U, st, kk a U b1 b2 b3 ?_ ⟨?_, ce, b6, ?_, b8⟩ b4.2.1 (fun q cell h => xkeep b4 h)⟩
  · have h1 := X.same
    have h2 : (T.setVm s.vm).sameButNew ({ U with vm := s.vm } : State) [] 1 6 := by
      obtain ⟨c1, c2, c3, c4, c5, c6⟩ := b4
      refine ⟨?_, c2, c3, c4, c5, c6⟩
      have e1 := h1.1
      obtain ⟨g₀, hr⟩ := X.frames_eq
      rw [e1]
      refine c1.trans ?_
      show ({ s.setFrames ({ U with vm := s.vm } : State).frames with heap := U.heap, slotsUsed := U.slotsUsed } : State) = ({ (s.setFrames (T.setVm s.vm).frames).setFrames ({ U with vm := s.vm } : State).frames with heap := U.heap, slotsUsed := U.slotsUsed } : State)
      rw [State.setFrames_setFrames]
    have h3 := h1.trans h2
    rw [List.append_nil] at h3
    exact h3
  · have := hS.1
    exact Nat.le_trans this b5
  · rw [b3.alike.findClass]; exact b7
end XTB
theorem xblindE {D : va_G} {tys : List (ClassId × FieldType)} {WD : va_W} {sz : Nat} {av : List Value} : FrameBlind (va_Pc av (xPcE D tys WD sz)) := by
  intro a U g mk q
  obtain ⟨q0, q1, q2⟩ := q
  have h := xblind (D := D) (tys := tys) (WD := WD) (sz := sz) (av := av) a U g mk ⟨q0, q1⟩
  refine ⟨h.1, h.2, ?_⟩
  exact xEE_moved (s := U) (U := U.calling g mk a) (State.WarmedH.refl U) (fun _ h => h) q2
theorem xMem_sub {WD wc : va_W} {isC : List Nat} (hC : isC.map (fun i => WD[i]?) = wc.map some) : ∀ q, xMem wc q → xMem WD q := by
  intro q ⟨k, e, h⟩
  have h1 : (isC.map (fun i => WD[i]?))[k]? = some (some (q, e)) := by rw [hC, List.getElem?_map, h]; rfl
  rw [List.getElem?_map] at h1
  cases hi : isC[k]? with
  | none => rw [hi] at h1; cases h1
  | some i => rw [hi] at h1; exact ⟨i, e, Option.some.inj h1⟩
theorem xMemA {WD wc : va_W} {A : Nat → Prop} {isC : List Nat} (hD : va_D A WD) (hC : isC.map (fun i => WD[i]?) = wc.map some) : ∀ q, xMem wc q → A q := by
  intro q h
  obtain ⟨k, e, h⟩ := xMem_sub hC q h
  exact hD.2 k (q, e) h
theorem xpreSE {s : State} {H : Heap} {D : va_G} {tys : List (ClassId × FieldType)} {WD wc : va_W} {A : Nat → Prop} {As : List Value} {locs : List Loc} (hE : xEE A s s.heap) (hS : va_S A s.heap H locs) (hK : va_K D vwCl tys s) (hP : va_P D vwCl WD H) (hD : va_D A WD) (hN : xNN s) (isC : List Nat) (hC : isC.map (fun i => WD[i]?) = wc.map some) (hn : va_nd isC = true) : PreS s H (va_Pc As (xPcE D tys wc H.size)) As := by
  have h := xpreS (As := As) hK hP hD hN isC hC hn
  exact ⟨xblindE, fun U hU hW => ⟨rfl, (h.2 U hU hW).2, by rw [hU]; exact xEE_moved hW (xMemA hD hC) (xEE_kept hE hS)⟩⟩
theorem xpreVE {s : State} {H : Heap} {D : va_G} {tys : List (ClassId × FieldType)} {WD wc : va_W} {A : Nat → Prop} {As : List Value} {b ci : Nat} {q : vw_C} {fs : List Value} {locs : List Loc} (hE : xEE A s s.heap) (hS : va_S A s.heap H locs) (hK : va_K D vwCl tys s) (hP : va_P D vwCl WD H) (hD : va_D A WD) (hN : xNN s) (isC : List Nat) (hC : isC.map (fun i => WD[i]?) = wc.map some) (hn : va_nd isC = true) (q0 : Nat) (he : WD[q0]? = some (b, .inr (ci, fs))) (hc : vwCl[ci]? = some q) : PreV s H q.1 b (va_Pc (.ref b :: As) (xPcE D tys wc H.size)) As := by
  have h := xpreV (As := As) hK hP hD hN isC hC hn q0 he hc
  exact ⟨xblindE, h.2.1, fun U hU hW => ⟨rfl, (h.2.2 U hU hW).2, by rw [hU]; exact xEE_moved hW (xMemA hD hC) (xEE_kept hE hS)⟩⟩
theorem xnoout {c : Code} (h : c.exceptionTable.isEmpty = true) : ∀ (pc : Nat), ∀ x ∈ c.exceptionTable.toList, covers x pc = false := by
  intro pc x hx
  have e : c.exceptionTable = #[] := by simpa using h
  rw [e] at hx
  cases hx
theorem xat_of (ws : List Cond) (h : ws.all (fun w => (decide (w ∈ lw_tbl) && goodWord w) || (decide (w ∈ xKd) || (decide (w = xUn) || (decide (w = xSn) || (decide (w = xUs) || decide (w = xSs)))))) = true) : ∀ w ∈ ws, w ∈ xW ∨ w ∈ xKd ∨ w = xUn ∨ w = xSn ∨ w = xUs ∨ w = xSs := by
  intro w hw
  have h1 := List.all_eq_true.mp h w hw
  simp only [Bool.or_eq_true, Bool.and_eq_true, decide_eq_true_eq] at h1
  rcases h1 with ⟨h2, h3⟩ | h2
  · exact Or.inl (List.mem_filter.mpr ⟨h2, h3⟩)
  · exact Or.inr h2
