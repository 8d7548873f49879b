/-! a handler whose class is linked at its first use -/
section XG
variable {E : CtlPost} {e : Env} {d : Bool} {acts : List Action} {s : State} {f : JFrame} {a : Addr} {Q : Handler → Pre}
theorem xgo_transfer {x : ClassFile.ExceptionTableEntry} {t : List ClassFile.ExceptionTableEntry} {c : ClassId} {vm' : Vm} (hx : covers x f.pc = true) (h0 : x.catchType ≠ 0)
    (hg : (Jvm.resolveClass f.method.cls x.catchType).Gives e.toSetting s.vm (.ok c) vm') (hr : vm'.classReady f.method.cls x.catchType c) (hsz : vm'.classes.size ≤ s.vm.classes.size) :
    wp (findHandler.go f a (x :: t)) Q E e d acts s ↔ wp (findHandler.go f a (x :: t)) Q E e d acts (s.setVm vm') := by
  simp only [covers] at hx
  obtain ⟨ha, ht⟩ := hg.op (op := VmOp.resolveClass f.method.cls x.catchType) rfl
  obtain ⟨k, hkd, hres⟩ := hr
  simp [findHandler.go, hx, h0, ha, ht, hsz, resolveClass_memo e hkd hres, VmOp.dirties, VmOp.acts]
  exact Iff.rfl
end XG
theorem xstepCatch {e : Env} {s s' : State} {a : Addr} {f : JFrame} {r : List Frame} {pc : Nat} (hfind : ∀ (Q : Handler → Pre) (E : CtlPost) (d : Bool) (acts : List Action), wp (findHandler f a) Q E e d acts s ↔ Q (.found pc) d acts s') :
    (stepThrowing e s a (.java f :: r)).Is (s'.setFrames (.java { f with pc := pc, stack := [.ref a] } :: r)) [] := by
  simp only [stepThrowing, searchFrame, vmDo]
  generalize hr : Sem.go _ e false [] s = res
  obtain ⟨as, rfl, ha⟩ := Sem.eq_ok_of hr (a := Handler.found pc) (s' := s') (acts' := []) (by simp [hfind])
  exact ⟨rfl, ha⟩
/-- entries that all hold the pc, with the numbers of their classes; where the one of number k stands -/
def xHp (k : Nat) : List (ClassFile.ExceptionTableEntry × Nat) → Nat
  | [] => 0
  | (x, j) :: r => if j = k then x.handlerPc else xHp k r
def xNc (U : State) : Prop := ∀ i j : Nat, i < 5 → j < 5 → i ≠ j → va_Nc (xEx i) (xEx j) U
section XH
variable {p : Program} {l : Launch} {e : Env} {R : Room} {s : State} {m : MethodId} {args : Array Value} {below : List Frame} {meth : Method} {c : Code} {locs : List Loc} {cells slots : Nat}
theorem xgo {own : String} (hown : s.vm.findClass own = some m.cls) (hpl : e.platform.magicAccessors = ({} : Platform).magicAccessors) (hN : xNc s) {f : JFrame} (hf : f.method = m) {a : Addr} {ce : Cell} {k : Nat} (hk5 : k < 5) (hcls : s.vm.findClass (xEx k) = some ce.cls) (hobj : ce.vm.isStatics = false) :
    ∀ (es : List (ClassFile.ExceptionTableEntry × Nat)) (U : State), (∀ q ∈ es, covers q.1 f.pc = true ∧ q.1.catchType ≠ 0 ∧ q.2 < 5 ∧ (Cond.classLink own q.1.catchType (xEx q.2)).before args s = true) → k ∈ es.map (·.2) → s.WarmedH U.vm → U.heap[a]? = some ce →
      ∃ vm', s.WarmedH vm' ∧ ∀ (Q : Handler → Pre) (E : CtlPost) (d : Bool) (acts : List Action), wp (findHandler.go f a (es.map (·.1))) Q E e d acts U ↔ Q (.found (xHp k es)) d acts (U.setVm vm') := by
  subst hf
  intro es
  induction es with
  | nil => intro U _ hk; cases hk
  | cons q0 es ih =>
    obtain ⟨x, j⟩ := q0
    intro U hq hk hW hcell
    obtain ⟨q1, q2, q3, q4⟩ := hq (x, j) List.mem_cons_self
    obtain ⟨c', hc', hcl⟩ := Cond.classLink_spec hown q4 e.platform hpl
    obtain ⟨dk, _, _, kt, hd, _, _, _, _, hkt, _, hopen⟩ := hcl.here
    have hcl₀ := hW.classLinks hcl
    have hW' : s.WarmedH (U.vm.noted f.method.cls x.catchType (.cls c')) := hW.noted hd hopen (State.rightAt_cls hcl)
    obtain ⟨ks, hks⟩ := Vm.classAt_of_findClass hcls
    obtain ⟨ks', hks', -⟩ := hW'.alike.2.2 _ _ hks
    obtain ⟨kt', hkt', -⟩ := hW'.alike.2.2 _ _ hkt
    have key : ∀ (Q : Handler → Pre) (E : CtlPost) (d : Bool) (acts : List Action), wp (findHandler.go f a (x :: es.map (·.1))) Q E e d acts U ↔
        if (U.vm.noted f.method.cls x.catchType (.cls c')).assignable ce.cls c' = true then Q (.found x.handlerPc) d acts (U.setVm (U.vm.noted f.method.cls x.catchType (.cls c'))) else wp (findHandler.go f a (es.map (·.1))) Q E e d acts (U.setVm (U.vm.noted f.method.cls x.catchType (.cls c'))) := by
      intro Q E d acts
      rw [xgo_transfer q1 q2 (resolveClass_links e.toSetting hcl₀) hcl₀.ready (Nat.le_of_eq (hW'.2.1.trans hW.2.1.symm))]
      exact W.findHandler_go_class (s := U.setVm (U.vm.noted f.method.cls x.catchType (.cls c'))) q1 q2 hcl₀.ready hcell (VmData.ne_statics_of hobj) ⟨ks', hks'⟩ ⟨kt', hkt'⟩
    by_cases hjk : j = k
    · subst hjk
      have e1 : c' = ce.cls := Option.some.inj (hc'.symm.trans hcls)
      subst e1
      refine ⟨_, hW', fun Q E d acts => ?_⟩
      show wp (findHandler.go f a (x :: es.map (·.1))) Q E e d acts U ↔ _
      rw [key, if_pos (va_asg _ _)]
      simp [xHp]
    · have hno : (U.vm.noted f.method.cls x.catchType (.cls c')).assignable ce.cls c' = false := by
        obtain ⟨c1, t1, g1, g2, g3⟩ := hN k j hk5 q3 (Ne.symm hjk)
        cases hcls.symm.trans g1
        cases hc'.symm.trans g2
        rw [hW'.alike.assignable]; exact g3
      have hk' : k ∈ es.map (·.2) := by
        rcases List.mem_cons.mp hk with h | h
        · exact absurd h.symm hjk
        · exact h
      obtain ⟨vm', hW2, h2⟩ := ih (U.setVm (U.vm.noted f.method.cls x.catchType (.cls c'))) (fun q h => hq q (List.mem_cons_of_mem _ h)) hk' hW' hcell
      refine ⟨vm', hW2, fun Q E d acts => ?_⟩
      show wp (findHandler.go f a (x :: es.map (·.1))) Q E e d acts U ↔ _
      rw [key, if_neg (by rw [hno]; decide), h2]
      simp [xHp, hjk]
      exact Iff.rfl
/-- what is thrown under a frame is caught there -/
theorem xcatch {T : State} (X : Stand p l e R s m args below meth c T locs cells slots) {own : String} (hown : s.vm.findClass own = some m.cls) (hN : xNc s) {g : JFrame} (hg : g.method = m) {a : Addr} {ce : Cell} {k : Nat} (hk5 : k < 5) (hcell : T.heap[a]? = some ce) (hcls : T.vm.findClass (xEx k) = some ce.cls) (hobj : ce.vm.isStatics = false)
    (es : List (ClassFile.ExceptionTableEntry × Nat)) (hes : c.exceptionTable.toList = es.map (·.1)) (hq : ∀ q ∈ es, covers q.1 g.pc = true ∧ q.1.catchType ≠ 0 ∧ q.2 < 5 ∧ (Cond.classLink own q.1.catchType (xEx q.2)).before args s = true) (hk : k ∈ es.map (·.2)) :
    ∃ vm', Stand p l e R s m args below meth c (T.setVm vm') locs cells slots ∧ ∀ target, Steps p.tables e below ((T.setVm vm').setTop { g with pc := xHp k es, stack := [.ref a] }) target → Steps p.tables e below ((T.setTop g).pushFrame (.throwing a)) target := by
  have hpl : e.platform.magicAccessors = ({} : Platform).magicAccessors := by rw [X.admits.platform]
  have hcls' : s.vm.findClass (xEx k) = some ce.cls := by rw [← X.warmed.alike.findClass]; exact hcls
  have hUh : ((T.setTop g).pushFrame (.throwing a)).heap = T.heap := Stand.throwing_heap T g a
  have hUv : ((T.setTop g).pushFrame (.throwing a)).vm = T.vm := Stand.throwing_vm T g a
  obtain ⟨vm', hW', hfind⟩ := xgo (args := args) (e := e) hown hpl hN hg hk5 hcls' hobj es ((T.setTop g).pushFrame (.throwing a)) hq hk (by rw [hUv]; exact X.warmed) (by rw [hUh]; exact hcell)
  refine ⟨vm', X.noted hW', fun target hrest => ?_⟩
  subst hg
  obtain ⟨hgo, hw⟩ := X.here.throwing a
  refine Steps.head hgo hw ?_
  rw [stepThread_throwing (frames_entered X.here.top _)]
  have hfind' : ∀ (Q : Handler → Pre) (E : CtlPost) (d : Bool) (acts : List Action), wp (findHandler g a) Q E e d acts ((T.setTop g).pushFrame (.throwing a)) ↔ Q (.found (xHp k es)) d acts (((T.setTop g).pushFrame (.throwing a)).setVm vm') := by
    intro Q E d acts
    rw [W.findHandler_eq (meth := meth) (code := c) (by rw [hUv]; exact X.method') X.code, hes]
    exact hfind Q E d acts
  rw [(xstepCatch hfind').1]
  obtain ⟨g₀, hr⟩ := X.frames_eq
  have hrr : (T.setVm vm').frames = .java g₀ :: below := hr
  rw [State.setTop_of_frames _ hrr] at hrest
  have e1 : (((T.setTop g).pushFrame (.throwing a)).setVm vm').setFrames (.java { g with pc := xHp k es, stack := [.ref a] } :: T.frames.tail) = (T.setVm vm').setFrames (.java { g with pc := xHp k es, stack := [.ref a] } :: below) := by
    rw [State.pushFrame, State.setTop_of_frames _ hr, State.setFrames_setFrames, hr]
    show ((T.setFrames _).setVm vm').setFrames _ = _
    rw [show (T.setFrames (.throwing a :: (T.setFrames (.java g :: below)).frames)).setVm vm' = (T.setVm vm').setFrames (.throwing a :: (T.setFrames (.java g :: below)).frames) from rfl, State.setFrames_setFrames]
    rfl
  rw [e1]
  exact hrest
end XH
section XCC
variable {p : Program} {l : Launch} {e : Env} {R : Room} {s : State} {m : MethodId} {args : Array Value} {below : List Frame} {meth : Method} {c : Code} {H : Heap} {locs : List Loc} {cells slots : Nat} {Q : State → Prop}
variable {pc : Nat} {ls : Array Slot} {rest st0 : List Value} {a : Array Value} {A0 : Nat → Prop} {mc ms : Nat} {D : va_G} {tys : List (ClassId × FieldType)} {WD wc : va_W} {own : String}
theorem xccv {S : Type} {post : S → Prop} {postX : Nat → S → Prop} {w1 : S → va_W}
    (hr : xRun p l e R s m args below meth c H locs cells slots mc ms (F0 m pc ls st0) rest (xQv post postX (fun u t => xB D tys (va_A wc H.size) (w1 u) t) (va_A wc H.size) a) (va_A wc H.size))
    (hown : s.vm.findClass own = some m.cls) (hNc : xNc s) (es : List (ClassFile.ExceptionTableEntry × Nat)) (hes : c.exceptionTable.toList = es.map (·.1)) (hq : ∀ q ∈ es, covers q.1 pc = true ∧ q.1.catchType ≠ 0 ∧ q.2 < 5 ∧ (Cond.classLink own q.1.catchType (xEx q.2)).before args s = true) (hks : ∀ (k : Nat) (u : S), postX k u → k < 5 ∧ k ∈ es.map (·.2))
    (hP : va_P D vwCl WD H) (hD : va_D A0 WD) (hS : va_S A0 s.heap H locs) (hA : ∀ q, s.heap.size ≤ q → A0 q) (isC isR : List Nat) (hC : isC.map (fun i => WD[i]?) = wc.map some) (hR : isR.map (fun i => WD[i]?) = (isR.filterMap (fun i => WD[i]?)).map some) (hn : va_nd isR = true) (hdis : (isR.all fun i => !isC.contains i) = true) (isP : List Nat) (hn2 : va_nd isP = true)
    (hP2 : ∀ u, isP.map (fun i => (isR.filterMap (fun i => WD[i]?) ++ w1 u)[i]?) = (isP.filterMap (fun i => (isR.filterMap (fun i => WD[i]?) ++ w1 u)[i]?)).map some)
    (kk : ∀ (u : S) (H1 : Heap) (locs1 : List Loc), post u → va_P D vwCl (isP.filterMap (fun i => (isR.filterMap (fun i => WD[i]?) ++ w1 u)[i]?)) H1 → va_D A0 (isP.filterMap (fun i => (isR.filterMap (fun i => WD[i]?) ++ w1 u)[i]?)) → va_S A0 s.heap H1 locs1 → W p l e R s m args below meth c H1 locs1 (cells + mc) (slots + ms) Q (F0 m (pc + 3) ls rest))
    (kx : ∀ (k x : Nat) (u : S) (H1 : Heap) (locs1 : List Loc), postX k u → va_P D vwCl (isP.filterMap (fun i => (isR.filterMap (fun i => WD[i]?) ++ w1 u)[i]?)) H1 → va_D A0 (isP.filterMap (fun i => (isR.filterMap (fun i => WD[i]?) ++ w1 u)[i]?)) → va_S A0 s.heap H1 locs1 → W p l e R s m args below meth c H1 locs1 (cells + mc) (slots + ms) Q (F0 m (xHp k es) ls [.ref x])) : W p l e R s m args below meth c H locs cells slots Q (F0 m pc ls st0) := by
  intro T hT X
  obtain ⟨o, st₀, t, T', L, h0, X', hL, e1, e2, ⟨hqq, hF⟩, hor⟩ := hr T hT X
  rcases hor with ⟨v, rfl, hs⟩ | ⟨x, rfl, hs⟩
  · rcases hqq with ⟨u, hv, hp, hB⟩ | ⟨k, x, u, hv, -⟩
    · cases hv
      obtain ⟨hP', hD', hS'⟩ := xafter hP hD hS hA isC isR hC hR hn hdis h0 hL e1 hB hF
      obtain ⟨t2, a1, b1⟩ := kk u T'.heap (locs ++ L) hp (hP'.sub isP rfl) (hD'.sub isP hn2 (hP2 u)) hS' T' rfl X'
      exact ⟨t2, hs t2 a1, b1⟩
    · cases hv
  · rcases hqq with ⟨u, hv, -⟩ | ⟨k, x', u, hv, ⟨hx1, ce, hx2, hx3, hx4⟩, hp, hB⟩
    · cases hv
    · cases hv
      obtain ⟨hP', hD', hS'⟩ := xafter hP hD hS hA isC isR hC hR hn hdis h0 hL e1 hB hF
      obtain ⟨hk5, hk⟩ := hks k u hp
      obtain ⟨vm', X'', st⟩ := xcatch X' hown hNc (g := { F0 m pc ls st0 with stack := rest }) rfl hk5 (by rw [e1]; exact hx2) (by rw [e2]; exact hx3) hx4 es hes hq hk
      obtain ⟨t2, a1, b1⟩ := kx k x u T'.heap (locs ++ L) hp (hP'.sub isP rfl) (hD'.sub isP hn2 (hP2 u)) hS' (T'.setVm vm') rfl X''
      exact ⟨t2, hs _ (st _ a1), b1⟩
theorem xcci {S : Type} {post : Int32 → S → Prop} {postX : Nat → S → Prop} {w1 : S → va_W}
    (hr : xRun p l e R s m args below meth c H locs cells slots mc ms (F0 m pc ls st0) rest (xQi post postX (fun u t => xB D tys (va_A wc H.size) (w1 u) t) (va_A wc H.size) a) (va_A wc H.size))
    (hown : s.vm.findClass own = some m.cls) (hNc : xNc s) (es : List (ClassFile.ExceptionTableEntry × Nat)) (hes : c.exceptionTable.toList = es.map (·.1)) (hq : ∀ q ∈ es, covers q.1 pc = true ∧ q.1.catchType ≠ 0 ∧ q.2 < 5 ∧ (Cond.classLink own q.1.catchType (xEx q.2)).before args s = true) (hks : ∀ (k : Nat) (u : S), postX k u → k < 5 ∧ k ∈ es.map (·.2))
    (hP : va_P D vwCl WD H) (hD : va_D A0 WD) (hS : va_S A0 s.heap H locs) (hA : ∀ q, s.heap.size ≤ q → A0 q) (isC isR : List Nat) (hC : isC.map (fun i => WD[i]?) = wc.map some) (hR : isR.map (fun i => WD[i]?) = (isR.filterMap (fun i => WD[i]?)).map some) (hn : va_nd isR = true) (hdis : (isR.all fun i => !isC.contains i) = true) (isP : List Nat) (hn2 : va_nd isP = true)
    (hP2 : ∀ u, isP.map (fun i => (isR.filterMap (fun i => WD[i]?) ++ w1 u)[i]?) = (isP.filterMap (fun i => (isR.filterMap (fun i => WD[i]?) ++ w1 u)[i]?)).map some)
    (kk : ∀ (r : Int32) (u : S) (H1 : Heap) (locs1 : List Loc), post r u → va_P D vwCl (isP.filterMap (fun i => (isR.filterMap (fun i => WD[i]?) ++ w1 u)[i]?)) H1 → va_D A0 (isP.filterMap (fun i => (isR.filterMap (fun i => WD[i]?) ++ w1 u)[i]?)) → va_S A0 s.heap H1 locs1 → W p l e R s m args below meth c H1 locs1 (cells + mc) (slots + ms) Q (F0 m (pc + 3) ls (.int r :: rest)))
    (kx : ∀ (k x : Nat) (u : S) (H1 : Heap) (locs1 : List Loc), postX k u → va_P D vwCl (isP.filterMap (fun i => (isR.filterMap (fun i => WD[i]?) ++ w1 u)[i]?)) H1 → va_D A0 (isP.filterMap (fun i => (isR.filterMap (fun i => WD[i]?) ++ w1 u)[i]?)) → va_S A0 s.heap H1 locs1 → W p l e R s m args below meth c H1 locs1 (cells + mc) (slots + ms) Q (F0 m (xHp k es) ls [.ref x])) : W p l e R s m args below meth c H locs cells slots Q (F0 m pc ls st0) := by
  intro T hT X
  obtain ⟨o, st₀, t, T', L, h0, X', hL, e1, e2, ⟨hqq, hF⟩, hor⟩ := hr T hT X
  rcases hor with ⟨v, rfl, hs⟩ | ⟨x, rfl, hs⟩
  · rcases hqq with ⟨r, u, hv, hp, hB⟩ | ⟨k, x, u, hv, -⟩
    · cases hv
      obtain ⟨hP', hD', hS'⟩ := xafter hP hD hS hA isC isR hC hR hn hdis h0 hL e1 hB hF
      obtain ⟨t2, a1, b1⟩ := kk r u T'.heap (locs ++ L) hp (hP'.sub isP rfl) (hD'.sub isP hn2 (hP2 u)) hS' T' rfl X'
      exact ⟨t2, hs t2 a1, b1⟩
    · cases hv
  · rcases hqq with ⟨r, u, hv, -⟩ | ⟨k, x', u, hv, ⟨hx1, ce, hx2, hx3, hx4⟩, hp, hB⟩
    · cases hv
    · cases hv
      obtain ⟨hP', hD', hS'⟩ := xafter hP hD hS hA isC isR hC hR hn hdis h0 hL e1 hB hF
      obtain ⟨hk5, hk⟩ := hks k u hp
      obtain ⟨vm', X'', st⟩ := xcatch X' hown hNc (g := { F0 m pc ls st0 with stack := rest }) rfl hk5 (by rw [e1]; exact hx2) (by rw [e2]; exact hx3) hx4 es hes hq hk
      obtain ⟨t2, a1, b1⟩ := kx k x u T'.heap (locs ++ L) hp (hP'.sub isP rfl) (hD'.sub isP hn2 (hP2 u)) hS' (T'.setVm vm') rfl X''
      exact ⟨t2, hs _ (st _ a1), b1⟩
end XCC
def xPcL (D : va_G) (tys : List (ClassId × FieldType)) (WD : va_W) (sz : Nat) (U : State) : Prop := xPcE D tys WD sz U ∧ xNc U
theorem xNc_moved {u U : State} (h : u.vm.Alike U.vm) (hN : xNc u) : xNc U := fun i j h1 h2 h3 => va_Nc.moved h (hN i j h1 h2 h3)
/-- the handlers of a method, as the tables say them -/
theorem xhandlers {x : MethodName} {bytes : ByteArray} {maxL : Nat} {ret : Option FieldType} {hh : List (Nat × Nat × Nat × Nat)} {args : Array Value} {s : State} {m : MethodId} {meth : Method} {c : Code} (hn : s.methodNamed? x = some m) (hm : s.vm.method? m = some meth) (hc : meth.code = some c) (h : (Cond.codeWith x bytes maxL ret hh).before args s = true) : c.exceptionTable.toList = hh.map (fun q => ⟨q.1, q.2.1, q.2.2.1, q.2.2.2⟩) := by
  obtain ⟨m', meth', c', h1, h2, h3, -, -, h6, -⟩ := Cond.codeWith_spec h
  cases hn.symm.trans h1
  cases hm.symm.trans h2
  cases hc.symm.trans h3
  rw [← h6, List.map_map]
  symm
  have : ((fun q : Nat × Nat × Nat × Nat => (⟨q.1, q.2.1, q.2.2.1, q.2.2.2⟩ : ClassFile.ExceptionTableEntry)) ∘ fun h : ClassFile.ExceptionTableEntry => (h.startPc, h.endPc, h.handlerPc, h.catchType)) = id := by
    funext z; cases z; rfl
  rw [this, List.map_id]
