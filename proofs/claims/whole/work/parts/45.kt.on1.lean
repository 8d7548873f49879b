abbrev wdOn_requireBlock (cA : ClassId) (ad : Nat → Nat) (N : Nat) (formStands : Bool) : va_W := [((ad 0), .inr (0, [.int (nI N), .ref (ad 1), .ref (ad 11), .ref (ad 18), .ref (ad 30), .ref (ad 35), .ref (ad 38), .ref (ad 40), .ref (ad 42), .int (bI formStands)]))]
abbrev qcOn_requireBlock (D : va_G) (cA : ClassId) (ad : Nat → Nat) (N : Nat) (formStands : Bool) (post : Prop) (postX : Nat → Prop) (A : Nat → Prop) : Array Value → State → Outcome → State → Prop := xQv (S := Unit) (fun u => post ) (fun k u => postX k ) (fun u t => xB D [(cA, .int)] A (wdOn_requireBlock cA ad N formStands) t) A
abbrev rmOn_requireBlock : Room := { frames := 6, cells := 1, slots := 6, locals := 90 }
set_option maxHeartbeats 4000000 in
set_option maxRecDepth 100000 in
theorem ktOn_requireBlock (l : Launch) (hfl : l.flags = Jvm.pinnedFlags ++ [Jvm.noTraceFlag]) (D : va_G) (cA : ClassId) (ad : Nat → Nat) (N : Nat) (sz : Nat) (formStands : Bool) (v1 : Int32) (post : Prop) (postX : Nat → Prop) (hw : wpOn_requireBlock N v1 post postX) : MetX l yOn_requireBlock (Cond.code yOn_requireBlock cOn_requireBlock 2 none :: xW) rmOn_requireBlock (va_Pc [.ref (ad 0), .int v1] (xPcE D [(cA, .int)] (wdOn_requireBlock cA ad N formStands) sz)) (qcOn_requireBlock D cA ad N formStands post postX (va_A (wdOn_requireBlock cA ad N formStands) sz)) 1 6 (va_A (wdOn_requireBlock cA ad N formStands) sz) := by
  refine MetX.ofW (cc := cOn_requireBlock) (maxL := 2) (ret := none) (by decide) rfl ?_
  intro p e s m args below meth c s₁ B hml hv
  obtain ⟨rfl, ⟨hsz, hP, hK, hD0, hN⟩, hE0⟩ := hv
  have hx := B.exec
  have hb := B.bytes
  have hr := B.returns
  have hts := atoms_spec (ws := (Cond.code yOn_requireBlock cOn_requireBlock 2 none :: xW)) B.pre
  have hown : s.vm.findClass "OnceNamed" = some m.cls := findClass_of_methodNamed B.named
  have hlocks := B.notSynchronized
  subst hsz
  have hD := hD0.self (sz := s.heap.size)
  have hE := xEEfull hE0
  have htr := Launch.traces_off hfl B.admits
  have hout := xnoout (B.noHandlers (hts _ List.mem_cons_self))
  have htsx : ∀ w ∈ xW, w.before ([.ref (ad 0), .int v1] : List Value).toArray s = true := fun w h => hts w (List.mem_cons_of_mem _ h)
  generalize hAe : va_A (wdOn_requireBlock cA ad N formStands) s.heap.size = A at hD hE ⊢
  have hA : ∀ q : Nat, s.heap.size ≤ q → A q := fun q h => by rw [← hAe]; exact Or.inr h
  have hS : va_S A s.heap s.heap [] := va_S.rf
  have hend : ∀  (H : Heap) (locs : List Loc) (pc : Nat) (ls : Array Slot), decode cOn_requireBlock pc = .ok (.return_, 1) → va_P D vwCl (wdOn_requireBlock cA ad N formStands) H → va_D A (wdOn_requireBlock cA ad N formStands) → va_S A s.heap H locs → post  → W p l e (headSpec (Cond.code yOn_requireBlock cOn_requireBlock 2 none :: xW) rmOn_requireBlock).room s m ([.ref (ad 0), .int v1] : List Value).toArray below meth c H locs 1 6 (MQX below (qcOn_requireBlock D cA ad N formStands post postX A) ([.ref (ad 0), .int v1] : List Value).toArray s 1 6 A) (F0 m pc ls []) := fun  H locs pc ls hd hP hD hS hw => xWmono (fun _ => MQX.of) (W.vret hx hb hr (fun t ht hW => ⟨Or.inl ⟨(), rfl, hw, ⟨by rw [ht]; exact hP, va_K.moved hW.alike hK, hD⟩⟩, hS.F ht⟩) hS.2.2 hd)
  have hendX : ∀ (k x : Nat)  (t : State) (locs : List Loc) (cells slots : Nat), cells ≤ 1 → slots ≤ 6 → t.status = .running → Ended t below (.threw x) → s.WarmedH t.vm → s.sameButNew ({ t with vm := s.vm } : State) locs cells slots → xExc k x s.heap.size t → va_P D vwCl (wdOn_requireBlock cA ad N formStands) t.heap → va_D A (wdOn_requireBlock cA ad N formStands) → va_S A s.heap t.heap locs → postX k  → MQX below (qcOn_requireBlock D cA ad N formStands post postX A) ([.ref (ad 0), .int v1] : List Value).toArray s 1 6 A t := fun k x  t locs cells slots h1 h2 b1 b2 b3 b4 b5 hP hD hS hw => ⟨.threw x, b1, b2, ⟨Or.inr ⟨k, x, (), rfl, b5, hw, ⟨hP, va_K.moved b3.alike hK, hD⟩⟩, hS.F rfl⟩, locs, ⟨b3, b4.mono h1 h2⟩, hS.2.2⟩
  generalize hQ : MQX below (qcOn_requireBlock D cA ad N formStands post postX A) ([.ref (ad 0), .int v1] : List Value).toArray s 1 6 A = Q at hend hendX ⊢
  have hl := lv_entry ([.ref (ad 0), .int v1]) (n := 2) (Nat.le_of_ble_eq_true rfl)
  rw [lg_entry_eq]
  generalize (lg_sl ([.ref (ad 0), .int v1]) ++ List.replicate (2 - (lg_sl ([.ref (ad 0), .int v1])).length) Slot.unset).toArray = ls at hl ⊢
  have hl : lv_has ls 2 [(0, .ref (ad 0)), (1, .int v1)] := hl
  unfold wpOn_requireBlock at hw
  refine lv_iload_n hx hb dOn_requireBlock_0 rfl (lv_at hl 1 rfl) ?_
  refine lv_if_lt (tgt := 12) hx hb dOn_requireBlock_1 rfl (fun hc => ?_) (fun hc => ?_)
  · have hw := hw.1 hc
    exact xthrowB 0 hx hb htr hown htsx (by decide) xat_0 kw_417 kw_15 hE hS (List.mem_of_getElem? (i := 0) rfl) (hout _) hlocks (hl.1.trans hml.symm) dOn_requireBlock_12 dOn_requireBlock_15 (Or.inl ⟨dOn_requireBlock_16, rfl⟩) dOn_requireBlock_18 dOn_requireBlock_21 (Nat.le_of_ble_eq_true rfl) (Nat.le_of_ble_eq_true rfl) (Nat.le_of_ble_eq_true rfl) (Nat.le_of_ble_eq_true rfl) (fun x t b1 b2 b3 b4 b5 b6 b7 => hendX 0 x  t _ _ _ (Nat.le_of_ble_eq_true rfl) (Nat.le_of_ble_eq_true rfl) b1 b2 b3 b4 b5 (xPkeep hP b7) hD (xSkeep hS b6 b7) hw)
  · have hw := hw.2 hc
    refine lv_iload_n hx hb dOn_requireBlock_4 rfl (lv_at hl 1 rfl) ?_
    refine lv_aload_n hx hb dOn_requireBlock_5 rfl (lv_at hl 0 rfl) ?_
    refine va_get (D := D) (ci := 0) (v := .int (nI N)) (C := "OnceNamed") (T := TX0) (N := 10) hx hb hts (fun w h => List.mem_cons_of_mem _ (inX0 w h)) hown hK hP 0 rfl rfl 0 (by decide) (hts _ (List.mem_cons_of_mem _ kw_267)) (fun _ h9 => h9) rfl dOn_requireBlock_6 ?_
    refine lv_icmp_lt (tgt := 22) hx hb dOn_requireBlock_9 rfl (fun hc => ?_) (fun hc => ?_)
    · have hw := hw.1 hc
      refine W.widen (k := 1) (n := 6) (Nat.le_of_ble_eq_true rfl) (Nat.le_of_ble_eq_true rfl) ?_
      exact hend  _ _ _ _ dOn_requireBlock_22 hP hD hS hw
    · have hw := hw.2 hc
      exact xthrowB 0 hx hb htr hown htsx (by decide) xat_0 kw_417 kw_15 hE hS (List.mem_of_getElem? (i := 0) rfl) (hout _) hlocks (hl.1.trans hml.symm) dOn_requireBlock_12 dOn_requireBlock_15 (Or.inl ⟨dOn_requireBlock_16, rfl⟩) dOn_requireBlock_18 dOn_requireBlock_21 (Nat.le_of_ble_eq_true rfl) (Nat.le_of_ble_eq_true rfl) (Nat.le_of_ble_eq_true rfl) (Nat.le_of_ble_eq_true rfl) (fun x t b1 b2 b3 b4 b5 b6 b7 => hendX 0 x  t _ _ _ (Nat.le_of_ble_eq_true rfl) (Nat.le_of_ble_eq_true rfl) b1 b2 b3 b4 b5 (xPkeep hP b7) hD (xSkeep hS b6 b7) hw)
abbrev wdOn_requireVariable (cA : ClassId) (ad : Nat → Nat) (N : Nat)  : va_W := []
abbrev qcOn_requireVariable (D : va_G) (cA : ClassId) (ad : Nat → Nat) (N : Nat)  (post : Prop) (postX : Nat → Prop) (A : Nat → Prop) : Array Value → State → Outcome → State → Prop := xQv (S := Unit) (fun u => post ) (fun k u => postX k ) (fun u t => xB D [(cA, .int)] A (wdOn_requireVariable cA ad N) t) A
abbrev rmOn_requireVariable : Room := { frames := 6, cells := 1, slots := 6, locals := 90 }
set_option maxHeartbeats 4000000 in
set_option maxRecDepth 100000 in
theorem ktOn_requireVariable (l : Launch) (hfl : l.flags = Jvm.pinnedFlags ++ [Jvm.noTraceFlag]) (D : va_G) (cA : ClassId) (ad : Nat → Nat) (N : Nat) (sz : Nat)  (v0 : Int32) (post : Prop) (postX : Nat → Prop) (hw : wpOn_requireVariable v0 post postX) : MetX l yOn_requireVariable (Cond.code yOn_requireVariable cOn_requireVariable 1 none :: xW) rmOn_requireVariable (va_Pc [.int v0] (xPcE D [(cA, .int)] (wdOn_requireVariable cA ad N) sz)) (qcOn_requireVariable D cA ad N  post postX (va_A (wdOn_requireVariable cA ad N) sz)) 1 6 (va_A (wdOn_requireVariable cA ad N) sz) := by
  refine MetX.ofW (cc := cOn_requireVariable) (maxL := 1) (ret := none) (by decide) rfl ?_
  intro p e s m args below meth c s₁ B hml hv
  obtain ⟨rfl, ⟨hsz, hP, hK, hD0, hN⟩, hE0⟩ := hv
  have hx := B.exec
  have hb := B.bytes
  have hr := B.returns
  have hts := atoms_spec (ws := (Cond.code yOn_requireVariable cOn_requireVariable 1 none :: xW)) B.pre
  have hown : s.vm.findClass "OnceNamed" = some m.cls := findClass_of_methodNamed B.named
  have hlocks := B.notSynchronized
  subst hsz
  have hD := hD0.self (sz := s.heap.size)
  have hE := xEEfull hE0
  have htr := Launch.traces_off hfl B.admits
  have hout := xnoout (B.noHandlers (hts _ List.mem_cons_self))
  have htsx : ∀ w ∈ xW, w.before ([.int v0] : List Value).toArray s = true := fun w h => hts w (List.mem_cons_of_mem _ h)
  generalize hAe : va_A (wdOn_requireVariable cA ad N) s.heap.size = A at hD hE ⊢
  have hA : ∀ q : Nat, s.heap.size ≤ q → A q := fun q h => by rw [← hAe]; exact Or.inr h
  have hS : va_S A s.heap s.heap [] := va_S.rf
  have hend : ∀  (H : Heap) (locs : List Loc) (pc : Nat) (ls : Array Slot), decode cOn_requireVariable pc = .ok (.return_, 1) → va_P D vwCl (wdOn_requireVariable cA ad N) H → va_D A (wdOn_requireVariable cA ad N) → va_S A s.heap H locs → post  → W p l e (headSpec (Cond.code yOn_requireVariable cOn_requireVariable 1 none :: xW) rmOn_requireVariable).room s m ([.int v0] : List Value).toArray below meth c H locs 1 6 (MQX below (qcOn_requireVariable D cA ad N  post postX A) ([.int v0] : List Value).toArray s 1 6 A) (F0 m pc ls []) := fun  H locs pc ls hd hP hD hS hw => xWmono (fun _ => MQX.of) (W.vret hx hb hr (fun t ht hW => ⟨Or.inl ⟨(), rfl, hw, ⟨by rw [ht]; exact hP, va_K.moved hW.alike hK, hD⟩⟩, hS.F ht⟩) hS.2.2 hd)
  have hendX : ∀ (k x : Nat)  (t : State) (locs : List Loc) (cells slots : Nat), cells ≤ 1 → slots ≤ 6 → t.status = .running → Ended t below (.threw x) → s.WarmedH t.vm → s.sameButNew ({ t with vm := s.vm } : State) locs cells slots → xExc k x s.heap.size t → va_P D vwCl (wdOn_requireVariable cA ad N) t.heap → va_D A (wdOn_requireVariable cA ad N) → va_S A s.heap t.heap locs → postX k  → MQX below (qcOn_requireVariable D cA ad N  post postX A) ([.int v0] : List Value).toArray s 1 6 A t := fun k x  t locs cells slots h1 h2 b1 b2 b3 b4 b5 hP hD hS hw => ⟨.threw x, b1, b2, ⟨Or.inr ⟨k, x, (), rfl, b5, hw, ⟨hP, va_K.moved b3.alike hK, hD⟩⟩, hS.F rfl⟩, locs, ⟨b3, b4.mono h1 h2⟩, hS.2.2⟩
  generalize hQ : MQX below (qcOn_requireVariable D cA ad N  post postX A) ([.int v0] : List Value).toArray s 1 6 A = Q at hend hendX ⊢
  have hl := lv_entry ([.int v0]) (n := 1) (Nat.le_of_ble_eq_true rfl)
  rw [lg_entry_eq]
  generalize (lg_sl ([.int v0]) ++ List.replicate (1 - (lg_sl ([.int v0])).length) Slot.unset).toArray = ls at hl ⊢
  have hl : lv_has ls 1 [(0, .int v0)] := hl
  unfold wpOn_requireVariable at hw
  refine lv_iload_n hx hb dOn_requireVariable_0 rfl (lv_at hl 0 rfl) ?_
  refine lv_if_lt (tgt := 10) hx hb dOn_requireVariable_1 rfl (fun hc => ?_) (fun hc => ?_)
  · have hw := hw.1 hc
    exact xthrowB 0 hx hb htr hown htsx (by decide) xat_0 kw_417 kw_15 hE hS (List.mem_of_getElem? (i := 3) rfl) (hout _) hlocks (hl.1.trans hml.symm) dOn_requireVariable_10 dOn_requireVariable_13 (Or.inl ⟨dOn_requireVariable_14, rfl⟩) dOn_requireVariable_16 dOn_requireVariable_19 (Nat.le_of_ble_eq_true rfl) (Nat.le_of_ble_eq_true rfl) (Nat.le_of_ble_eq_true rfl) (Nat.le_of_ble_eq_true rfl) (fun x t b1 b2 b3 b4 b5 b6 b7 => hendX 0 x  t _ _ _ (Nat.le_of_ble_eq_true rfl) (Nat.le_of_ble_eq_true rfl) b1 b2 b3 b4 b5 (xPkeep hP b7) hD (xSkeep hS b6 b7) hw)
  · have hw := hw.2 hc
    refine lv_iload_n hx hb dOn_requireVariable_4 rfl (lv_at hl 0 rfl) ?_
    refine lv_bipush (v := 6) hx hb dOn_requireVariable_5 (by decide) ?_
    refine lv_icmp_lt (tgt := 20) hx hb dOn_requireVariable_7 rfl (fun hc => ?_) (fun hc => ?_)
    · have hw := hw.1 hc
      refine W.widen (k := 1) (n := 6) (Nat.le_of_ble_eq_true rfl) (Nat.le_of_ble_eq_true rfl) ?_
      exact hend  _ _ _ _ dOn_requireVariable_20 hP hD hS hw
    · have hw := hw.2 hc
      exact xthrowB 0 hx hb htr hown htsx (by decide) xat_0 kw_417 kw_15 hE hS (List.mem_of_getElem? (i := 3) rfl) (hout _) hlocks (hl.1.trans hml.symm) dOn_requireVariable_10 dOn_requireVariable_13 (Or.inl ⟨dOn_requireVariable_14, rfl⟩) dOn_requireVariable_16 dOn_requireVariable_19 (Nat.le_of_ble_eq_true rfl) (Nat.le_of_ble_eq_true rfl) (Nat.le_of_ble_eq_true rfl) (Nat.le_of_ble_eq_true rfl) (fun x t b1 b2 b3 b4 b5 b6 b7 => hendX 0 x  t _ _ _ (Nat.le_of_ble_eq_true rfl) (Nat.le_of_ble_eq_true rfl) b1 b2 b3 b4 b5 (xPkeep hP b7) hD (xSkeep hS b6 b7) hw)
abbrev wdOn_requireStepParts (cA : ClassId) (ad : Nat → Nat) (N : Nat)  : va_W := []
abbrev qcOn_requireStepParts (D : va_G) (cA : ClassId) (ad : Nat → Nat) (N : Nat)  (post : Prop) (postX : Nat → Prop) (A : Nat → Prop) : Array Value → State → Outcome → State → Prop := xQv (S := Unit) (fun u => post ) (fun k u => postX k ) (fun u t => xB D [(cA, .int)] A (wdOn_requireStepParts cA ad N) t) A
abbrev rmOn_requireStepParts : Room := { frames := 7, cells := 3, slots := 18, locals := 110 }
set_option maxHeartbeats 4000000 in
set_option maxRecDepth 100000 in
theorem ktOn_requireStepParts (l : Launch) (hfl : l.flags = Jvm.pinnedFlags ++ [Jvm.noTraceFlag]) (D : va_G) (cA : ClassId) (ad : Nat → Nat) (N : Nat) (sz : Nat)  (v0 : Int32) (v1 : Int32) (v2 : Int32) (v3 : Int32) (post : Prop) (postX : Nat → Prop) (hw : wpOn_requireStepParts v0 v1 v2 v3 post postX) : MetX l yOn_requireStepParts (Cond.code yOn_requireStepParts cOn_requireStepParts 4 none :: xW) rmOn_requireStepParts (va_Pc [.int v0, .int v1, .int v2, .int v3] (xPcE D [(cA, .int)] (wdOn_requireStepParts cA ad N) sz)) (qcOn_requireStepParts D cA ad N  post postX (va_A (wdOn_requireStepParts cA ad N) sz)) 3 18 (va_A (wdOn_requireStepParts cA ad N) sz) := by
  refine MetX.ofW (cc := cOn_requireStepParts) (maxL := 4) (ret := none) (by decide) rfl ?_
  intro p e s m args below meth c s₁ B hml hv
  obtain ⟨rfl, ⟨hsz, hP, hK, hD0, hN⟩, hE0⟩ := hv
  have hx := B.exec
  have hb := B.bytes
  have hr := B.returns
  have hts := atoms_spec (ws := (Cond.code yOn_requireStepParts cOn_requireStepParts 4 none :: xW)) B.pre
  have hown : s.vm.findClass "OnceNamed" = some m.cls := findClass_of_methodNamed B.named
  have hlocks := B.notSynchronized
  subst hsz
  have hD := hD0.self (sz := s.heap.size)
  have hE := xEEfull hE0
  have htr := Launch.traces_off hfl B.admits
  have hout := xnoout (B.noHandlers (hts _ List.mem_cons_self))
  have htsx : ∀ w ∈ xW, w.before ([.int v0, .int v1, .int v2, .int v3] : List Value).toArray s = true := fun w h => hts w (List.mem_cons_of_mem _ h)
  generalize hAe : va_A (wdOn_requireStepParts cA ad N) s.heap.size = A at hD hE ⊢
  have hA : ∀ q : Nat, s.heap.size ≤ q → A q := fun q h => by rw [← hAe]; exact Or.inr h
  have hS : va_S A s.heap s.heap [] := va_S.rf
  have hend : ∀  (H : Heap) (locs : List Loc) (pc : Nat) (ls : Array Slot), decode cOn_requireStepParts pc = .ok (.return_, 1) → va_P D vwCl (wdOn_requireStepParts cA ad N) H → va_D A (wdOn_requireStepParts cA ad N) → va_S A s.heap H locs → post  → W p l e (headSpec (Cond.code yOn_requireStepParts cOn_requireStepParts 4 none :: xW) rmOn_requireStepParts).room s m ([.int v0, .int v1, .int v2, .int v3] : List Value).toArray below meth c H locs 3 18 (MQX below (qcOn_requireStepParts D cA ad N  post postX A) ([.int v0, .int v1, .int v2, .int v3] : List Value).toArray s 3 18 A) (F0 m pc ls []) := fun  H locs pc ls hd hP hD hS hw => xWmono (fun _ => MQX.of) (W.vret hx hb hr (fun t ht hW => ⟨Or.inl ⟨(), rfl, hw, ⟨by rw [ht]; exact hP, va_K.moved hW.alike hK, hD⟩⟩, hS.F ht⟩) hS.2.2 hd)
  have hendX : ∀ (k x : Nat)  (t : State) (locs : List Loc) (cells slots : Nat), cells ≤ 3 → slots ≤ 18 → t.status = .running → Ended t below (.threw x) → s.WarmedH t.vm → s.sameButNew ({ t with vm := s.vm } : State) locs cells slots → xExc k x s.heap.size t → va_P D vwCl (wdOn_requireStepParts cA ad N) t.heap → va_D A (wdOn_requireStepParts cA ad N) → va_S A s.heap t.heap locs → postX k  → MQX below (qcOn_requireStepParts D cA ad N  post postX A) ([.int v0, .int v1, .int v2, .int v3] : List Value).toArray s 3 18 A t := fun k x  t locs cells slots h1 h2 b1 b2 b3 b4 b5 hP hD hS hw => ⟨.threw x, b1, b2, ⟨Or.inr ⟨k, x, (), rfl, b5, hw, ⟨hP, va_K.moved b3.alike hK, hD⟩⟩, hS.F rfl⟩, locs, ⟨b3, b4.mono h1 h2⟩, hS.2.2⟩
  generalize hQ : MQX below (qcOn_requireStepParts D cA ad N  post postX A) ([.int v0, .int v1, .int v2, .int v3] : List Value).toArray s 3 18 A = Q at hend hendX ⊢
  have hl := lv_entry ([.int v0, .int v1, .int v2, .int v3]) (n := 4) (Nat.le_of_ble_eq_true rfl)
  rw [lg_entry_eq]
  generalize (lg_sl ([.int v0, .int v1, .int v2, .int v3]) ++ List.replicate (4 - (lg_sl ([.int v0, .int v1, .int v2, .int v3])).length) Slot.unset).toArray = ls at hl ⊢
  have hl : lv_has ls 4 [(0, .int v0), (1, .int v1), (2, .int v2), (3, .int v3)] := hl
  unfold wpOn_requireStepParts at hw
  refine lv_iload_n hx hb dOn_requireStepParts_0 rfl (lv_at hl 0 rfl) ?_
  refine lv_if_lt (tgt := 10) hx hb dOn_requireStepParts_1 rfl (fun hc => ?_) (fun hc => ?_)
  · have hw := hw.1 hc
    exact xthrowB 0 hx hb htr hown htsx (by decide) xat_0 kw_417 kw_15 hE hS (List.mem_of_getElem? (i := 1) rfl) (hout _) hlocks (hl.1.trans hml.symm) dOn_requireStepParts_10 dOn_requireStepParts_13 (Or.inl ⟨dOn_requireStepParts_14, rfl⟩) dOn_requireStepParts_16 dOn_requireStepParts_19 (Nat.le_of_ble_eq_true rfl) (Nat.le_of_ble_eq_true rfl) (Nat.le_of_ble_eq_true rfl) (Nat.le_of_ble_eq_true rfl) (fun x t b1 b2 b3 b4 b5 b6 b7 => hendX 0 x  t _ _ _ (Nat.le_of_ble_eq_true rfl) (Nat.le_of_ble_eq_true rfl) b1 b2 b3 b4 b5 (xPkeep hP b7) hD (xSkeep hS b6 b7) hw)
  · have hw := hw.2 hc
    refine lv_iload_n hx hb dOn_requireStepParts_4 rfl (lv_at hl 0 rfl) ?_
    refine lv_bipush (v := 8) hx hb dOn_requireStepParts_5 (by decide) ?_
    refine lv_icmp_lt (tgt := 20) hx hb dOn_requireStepParts_7 rfl (fun hc => ?_) (fun hc => ?_)
    · have hw := hw.1 hc
      refine lv_iload_n hx hb dOn_requireStepParts_20 rfl (lv_at hl 0 rfl) ?_
      obtain ⟨J48, hJ48, hw⟩ := hw
      have hj48 : ∀  (ls : Array Slot) (H : Heap) (locs : List Loc), lv_has ls 4 [(0, .int v0), (1, .int v1), (2, .int v2), (3, .int v3)] → va_P D vwCl (wdOn_requireStepParts cA ad N) H → va_D A (wdOn_requireStepParts cA ad N) → va_S A s.heap H locs → J48 → W p l e (headSpec (Cond.code yOn_requireStepParts cOn_requireStepParts 4 none :: xW) rmOn_requireStepParts).room s m ([.int v0, .int v1, .int v2, .int v3] : List Value).toArray below meth c H locs 0 0 Q (F0 m 48 ls []) := by
        intro  ls H locs hl hP hD hS hw
        have hw := hJ48  hw
        refine lv_iload_n hx hb dOn_requireStepParts_48 rfl (lv_at hl 0 rfl) ?_
        refine xci (va_runS ⟨hx, hb, hml, hown, hts⟩ (ktProgram_setsVariable l D cA ad N _ v0 _ hw) (va_cwS 1 hts (goodS kw_492 kw_332 kw_3 kw_333) rfl rfl rfl (by decide +kernel) ⟨Nat.le_of_ble_eq_true rfl, Nat.le_of_ble_eq_true rfl⟩) (xpreS hK hP hD hN [] rfl rfl) rfl rfl hl.1 rfl (lv_room (Nat.le_of_ble_eq_true rfl)) dOn_requireStepParts_49 ⟨Nat.le_of_ble_eq_true rfl, Nat.le_of_ble_eq_true rfl⟩) hP hD hS hA [] [] rfl rfl rfl rfl [] rfl (fun _ => rfl) (fun r49 u H locs hw hP hD hS => ?_)
        obtain ⟨r49, rfl, hw⟩ := hw
        have hP : va_P D vwCl (wdOn_requireStepParts cA ad N) H := hP
        have hD : va_D A (wdOn_requireStepParts cA ad N) := hD
        obtain ⟨J59, hJ59, hw⟩ := hw
        have hj59 : ∀  (ls : Array Slot) (H : Heap) (locs : List Loc), lv_has ls 4 [(0, .int v0), (1, .int v1), (2, .int v2), (3, .int v3)] → va_P D vwCl (wdOn_requireStepParts cA ad N) H → va_D A (wdOn_requireStepParts cA ad N) → va_S A s.heap H locs → J59 → W p l e (headSpec (Cond.code yOn_requireStepParts cOn_requireStepParts 4 none :: xW) rmOn_requireStepParts).room s m ([.int v0, .int v1, .int v2, .int v3] : List Value).toArray below meth c H locs 1 6 Q (F0 m 59 ls []) := by
          intro  ls H locs hl hP hD hS hw
          have hw := hJ59  hw
          refine lv_iload_n hx hb dOn_requireStepParts_59 rfl (lv_at hl 0 rfl) ?_
          refine xci (va_runS ⟨hx, hb, hml, hown, hts⟩ (ktProgram_usesFirst l D cA ad N _ v0 _ hw) (va_cwS 1 hts (goodS kw_497 kw_367 kw_3 kw_368) rfl rfl rfl (by decide +kernel) ⟨Nat.le_of_ble_eq_true rfl, Nat.le_of_ble_eq_true rfl⟩) (xpreS hK hP hD hN [] rfl rfl) rfl rfl hl.1 rfl (lv_room (Nat.le_of_ble_eq_true rfl)) dOn_requireStepParts_60 ⟨Nat.le_of_ble_eq_true rfl, Nat.le_of_ble_eq_true rfl⟩) hP hD hS hA [] [] rfl rfl rfl rfl [] rfl (fun _ => rfl) (fun r60 u H locs hw hP hD hS => ?_)
          obtain ⟨r60, rfl, hw⟩ := hw
          have hP : va_P D vwCl (wdOn_requireStepParts cA ad N) H := hP
          have hD : va_D A (wdOn_requireStepParts cA ad N) := hD
          refine lv_if_eq (tgt := 70) hx hb dOn_requireStepParts_63 rfl (fun hc => ?_) (fun hc => ?_)
          · have hw := hw.1 (bI_0 hc)
            refine lv_iload_n hx hb dOn_requireStepParts_70 rfl (lv_at hl 0 rfl) ?_
            refine xci (va_runS ⟨hx, hb, hml, hown, hts⟩ (ktProgram_usesSecond l D cA ad N _ v0 _ hw) (va_cwS 1 hts (goodS kw_498 kw_378 kw_3 kw_379) rfl rfl rfl (by decide +kernel) ⟨Nat.le_of_ble_eq_true rfl, Nat.le_of_ble_eq_true rfl⟩) (xpreS hK hP hD hN [] rfl rfl) rfl rfl hl.1 rfl (lv_room (Nat.le_of_ble_eq_true rfl)) dOn_requireStepParts_71 ⟨Nat.le_of_ble_eq_true rfl, Nat.le_of_ble_eq_true rfl⟩) hP hD hS hA [] [] rfl rfl rfl rfl [] rfl (fun _ => rfl) (fun r71 u H locs hw hP hD hS => ?_)
            obtain ⟨r71, rfl, hw⟩ := hw
            have hP : va_P D vwCl (wdOn_requireStepParts cA ad N) H := hP
            have hD : va_D A (wdOn_requireStepParts cA ad N) := hD
            refine lv_if_eq (tgt := 81) hx hb dOn_requireStepParts_74 rfl (fun hc => ?_) (fun hc => ?_)
            · have hw := hw.1 (bI_0 hc)
              refine W.widen (k := 3) (n := 18) (Nat.le_of_ble_eq_true rfl) (Nat.le_of_ble_eq_true rfl) ?_
              exact hend  _ _ _ _ dOn_requireStepParts_81 hP hD hS hw
            · have hw := hw.2 (bI_1 hc)
              refine lv_iload_n hx hb dOn_requireStepParts_77 rfl (lv_at hl 3 rfl) ?_
              refine xcxv (xrunS ⟨hx, hb, hml, hown, hts⟩ (ktOn_requireVariable l hfl D cA ad N _ v3 _ _ hw) (va_cwS 1 hts (goodS kw_493 kw_494 kw_1 kw_495) rfl rfl rfl (by decide +kernel) ⟨Nat.le_of_ble_eq_true rfl, Nat.le_of_ble_eq_true rfl⟩) (xpreSE hE hS hK hP hD hN [] rfl rfl) rfl rfl hl.1 rfl (lv_room (Nat.le_of_ble_eq_true rfl)) dOn_requireStepParts_78 ⟨Nat.le_of_ble_eq_true rfl, Nat.le_of_ble_eq_true rfl⟩) (hout _) hlocks hP hD hS hA [] [] rfl rfl rfl rfl [] rfl (fun _ => rfl) (fun u H locs hw hP hD hS => ?_) (fun k x u t locs b1 b2 b3 b4 b5 b6 b7 b8 b9 => hendX k x  t locs _ _ (Nat.le_of_ble_eq_true rfl) (Nat.le_of_ble_eq_true rfl) b1 b2 b3 b4 b5 b6 b7 b8 b9)
              have hP : va_P D vwCl (wdOn_requireStepParts cA ad N) H := hP
              have hD : va_D A (wdOn_requireStepParts cA ad N) := hD
              refine W.widen (k := 3) (n := 18) (Nat.le_of_ble_eq_true rfl) (Nat.le_of_ble_eq_true rfl) ?_
              exact hend  _ _ _ _ dOn_requireStepParts_81 hP hD hS hw
          · have hw := hw.2 (bI_1 hc)
            refine lv_iload_n hx hb dOn_requireStepParts_66 rfl (lv_at hl 2 rfl) ?_
            refine xcxv (xrunS ⟨hx, hb, hml, hown, hts⟩ (ktOn_requireVariable l hfl D cA ad N _ v2 _ _ hw) (va_cwS 1 hts (goodS kw_493 kw_494 kw_1 kw_495) rfl rfl rfl (by decide +kernel) ⟨Nat.le_of_ble_eq_true rfl, Nat.le_of_ble_eq_true rfl⟩) (xpreSE hE hS hK hP hD hN [] rfl rfl) rfl rfl hl.1 rfl (lv_room (Nat.le_of_ble_eq_true rfl)) dOn_requireStepParts_67 ⟨Nat.le_of_ble_eq_true rfl, Nat.le_of_ble_eq_true rfl⟩) (hout _) hlocks hP hD hS hA [] [] rfl rfl rfl rfl [] rfl (fun _ => rfl) (fun u H locs hw hP hD hS => ?_) (fun k x u t locs b1 b2 b3 b4 b5 b6 b7 b8 b9 => hendX k x  t locs _ _ (Nat.le_of_ble_eq_true rfl) (Nat.le_of_ble_eq_true rfl) b1 b2 b3 b4 b5 b6 b7 b8 b9)
            have hP : va_P D vwCl (wdOn_requireStepParts cA ad N) H := hP
            have hD : va_D A (wdOn_requireStepParts cA ad N) := hD
            refine lv_iload_n hx hb dOn_requireStepParts_70 rfl (lv_at hl 0 rfl) ?_
            refine xci (va_runS ⟨hx, hb, hml, hown, hts⟩ (ktProgram_usesSecond l D cA ad N _ v0 _ hw) (va_cwS 1 hts (goodS kw_498 kw_378 kw_3 kw_379) rfl rfl rfl (by decide +kernel) ⟨Nat.le_of_ble_eq_true rfl, Nat.le_of_ble_eq_true rfl⟩) (xpreS hK hP hD hN [] rfl rfl) rfl rfl hl.1 rfl (lv_room (Nat.le_of_ble_eq_true rfl)) dOn_requireStepParts_71 ⟨Nat.le_of_ble_eq_true rfl, Nat.le_of_ble_eq_true rfl⟩) hP hD hS hA [] [] rfl rfl rfl rfl [] rfl (fun _ => rfl) (fun r71 u H locs hw hP hD hS => ?_)
            obtain ⟨r71, rfl, hw⟩ := hw
            have hP : va_P D vwCl (wdOn_requireStepParts cA ad N) H := hP
            have hD : va_D A (wdOn_requireStepParts cA ad N) := hD
            refine lv_if_eq (tgt := 81) hx hb dOn_requireStepParts_74 rfl (fun hc => ?_) (fun hc => ?_)
            · have hw := hw.1 (bI_0 hc)
              refine W.widen (k := 3) (n := 18) (Nat.le_of_ble_eq_true rfl) (Nat.le_of_ble_eq_true rfl) ?_
              exact hend  _ _ _ _ dOn_requireStepParts_81 hP hD hS hw
            · have hw := hw.2 (bI_1 hc)
              refine lv_iload_n hx hb dOn_requireStepParts_77 rfl (lv_at hl 3 rfl) ?_
              refine xcxv (xrunS ⟨hx, hb, hml, hown, hts⟩ (ktOn_requireVariable l hfl D cA ad N _ v3 _ _ hw) (va_cwS 1 hts (goodS kw_493 kw_494 kw_1 kw_495) rfl rfl rfl (by decide +kernel) ⟨Nat.le_of_ble_eq_true rfl, Nat.le_of_ble_eq_true rfl⟩) (xpreSE hE hS hK hP hD hN [] rfl rfl) rfl rfl hl.1 rfl (lv_room (Nat.le_of_ble_eq_true rfl)) dOn_requireStepParts_78 ⟨Nat.le_of_ble_eq_true rfl, Nat.le_of_ble_eq_true rfl⟩) (hout _) hlocks hP hD hS hA [] [] rfl rfl rfl rfl [] rfl (fun _ => rfl) (fun u H locs hw hP hD hS => ?_) (fun k x u t locs b1 b2 b3 b4 b5 b6 b7 b8 b9 => hendX k x  t locs _ _ (Nat.le_of_ble_eq_true rfl) (Nat.le_of_ble_eq_true rfl) b1 b2 b3 b4 b5 b6 b7 b8 b9)
              have hP : va_P D vwCl (wdOn_requireStepParts cA ad N) H := hP
              have hD : va_D A (wdOn_requireStepParts cA ad N) := hD
              exact hend  _ _ _ _ dOn_requireStepParts_81 hP hD hS hw
        refine lv_if_eq (tgt := 59) hx hb dOn_requireStepParts_52 rfl (fun hc => ?_) (fun hc => ?_)
        · have hw := hw.1 (bI_0 hc)
          refine W.widen (k := 1) (n := 6) (Nat.le_of_ble_eq_true rfl) (Nat.le_of_ble_eq_true rfl) ?_
          exact hj59  _ _ _ (lv_sub hl [0, 1, 2, 3] rfl) hP hD hS hw
        · have hw := hw.2 (bI_1 hc)
          refine lv_iload_n hx hb dOn_requireStepParts_55 rfl (lv_at hl 1 rfl) ?_
          refine xcxv (xrunS ⟨hx, hb, hml, hown, hts⟩ (ktOn_requireVariable l hfl D cA ad N _ v1 _ _ hw) (va_cwS 1 hts (goodS kw_493 kw_494 kw_1 kw_495) rfl rfl rfl (by decide +kernel) ⟨Nat.le_of_ble_eq_true rfl, Nat.le_of_ble_eq_true rfl⟩) (xpreSE hE hS hK hP hD hN [] rfl rfl) rfl rfl hl.1 rfl (lv_room (Nat.le_of_ble_eq_true rfl)) dOn_requireStepParts_56 ⟨Nat.le_of_ble_eq_true rfl, Nat.le_of_ble_eq_true rfl⟩) (hout _) hlocks hP hD hS hA [] [] rfl rfl rfl rfl [] rfl (fun _ => rfl) (fun u H locs hw hP hD hS => ?_) (fun k x u t locs b1 b2 b3 b4 b5 b6 b7 b8 b9 => hendX k x  t locs _ _ (Nat.le_of_ble_eq_true rfl) (Nat.le_of_ble_eq_true rfl) b1 b2 b3 b4 b5 b6 b7 b8 b9)
          have hP : va_P D vwCl (wdOn_requireStepParts cA ad N) H := hP
          have hD : va_D A (wdOn_requireStepParts cA ad N) := hD
          exact hj59  _ _ _ (lv_sub hl [0, 1, 2, 3] rfl) hP hD hS hw
      refine lv_if_ne (tgt := 48) hx hb dOn_requireStepParts_21 rfl (fun hc => ?_) (fun hc => ?_)
      · have hw := hw.1 hc
        exact hj48  _ _ _ (lv_sub hl [0, 1, 2, 3] rfl) hP hD hS hw
      · have hw := hw.2 hc
        refine lv_iload_n hx hb dOn_requireStepParts_24 rfl (lv_at hl 2 rfl) ?_
        refine lv_sipush (v := (-999)) hx hb dOn_requireStepParts_25 (by decide) ?_
        refine lv_icmp_lt (tgt := 38) hx hb dOn_requireStepParts_28 rfl (fun hc => ?_) (fun hc => ?_)
        · have hw := hw.1 hc
          exact xthrowB 0 hx hb htr hown htsx (by decide) xat_0 kw_417 kw_15 hE hS (List.mem_of_getElem? (i := 2) rfl) (hout _) hlocks (hl.1.trans hml.symm) dOn_requireStepParts_38 dOn_requireStepParts_41 (Or.inl ⟨dOn_requireStepParts_42, rfl⟩) dOn_requireStepParts_44 dOn_requireStepParts_47 (Nat.le_of_ble_eq_true rfl) (Nat.le_of_ble_eq_true rfl) (Nat.le_of_ble_eq_true rfl) (Nat.le_of_ble_eq_true rfl) (fun x t b1 b2 b3 b4 b5 b6 b7 => hendX 0 x  t _ _ _ (Nat.le_of_ble_eq_true rfl) (Nat.le_of_ble_eq_true rfl) b1 b2 b3 b4 b5 (xPkeep hP b7) hD (xSkeep hS b6 b7) hw)
        · have hw := hw.2 hc
          refine lv_iload_n hx hb dOn_requireStepParts_31 rfl (lv_at hl 2 rfl) ?_
          refine lv_sipush (v := 999) hx hb dOn_requireStepParts_32 (by decide) ?_
          refine lv_icmp_le (tgt := 48) hx hb dOn_requireStepParts_35 rfl (fun hc => ?_) (fun hc => ?_)
          · have hw := hw.1 hc
            exact hj48  _ _ _ (lv_sub hl [0, 1, 2, 3] rfl) hP hD hS hw
          · have hw := hw.2 hc
            exact xthrowB 0 hx hb htr hown htsx (by decide) xat_0 kw_417 kw_15 hE hS (List.mem_of_getElem? (i := 2) rfl) (hout _) hlocks (hl.1.trans hml.symm) dOn_requireStepParts_38 dOn_requireStepParts_41 (Or.inl ⟨dOn_requireStepParts_42, rfl⟩) dOn_requireStepParts_44 dOn_requireStepParts_47 (Nat.le_of_ble_eq_true rfl) (Nat.le_of_ble_eq_true rfl) (Nat.le_of_ble_eq_true rfl) (Nat.le_of_ble_eq_true rfl) (fun x t b1 b2 b3 b4 b5 b6 b7 => hendX 0 x  t _ _ _ (Nat.le_of_ble_eq_true rfl) (Nat.le_of_ble_eq_true rfl) b1 b2 b3 b4 b5 (xPkeep hP b7) hD (xSkeep hS b6 b7) hw)
    · have hw := hw.2 hc
      exact xthrowB 0 hx hb htr hown htsx (by decide) xat_0 kw_417 kw_15 hE hS (List.mem_of_getElem? (i := 1) rfl) (hout _) hlocks (hl.1.trans hml.symm) dOn_requireStepParts_10 dOn_requireStepParts_13 (Or.inl ⟨dOn_requireStepParts_14, rfl⟩) dOn_requireStepParts_16 dOn_requireStepParts_19 (Nat.le_of_ble_eq_true rfl) (Nat.le_of_ble_eq_true rfl) (Nat.le_of_ble_eq_true rfl) (Nat.le_of_ble_eq_true rfl) (fun x t b1 b2 b3 b4 b5 b6 b7 => hendX 0 x  t _ _ _ (Nat.le_of_ble_eq_true rfl) (Nat.le_of_ble_eq_true rfl) b1 b2 b3 b4 b5 (xPkeep hP b7) hD (xSkeep hS b6 b7) hw)
abbrev wdOn_step (cA : ClassId) (ad : Nat → Nat) (N : Nat) (formStands : Bool) (stepCount : Nat → Int32) (kind : Nat → Int32) (target : Nat → Int32) (first : Nat → Int32) (second : Nat → Int32) : va_W := [((ad 0), .inr (0, [.int (nI N), .ref (ad 1), .ref (ad 11), .ref (ad 18), .ref (ad 30), .ref (ad 35), .ref (ad 38), .ref (ad 40), .ref (ad 42), .int (bI formStands)])), ((ad 1), .inr (1, [.int (nI N), .ref (ad 2), .ref (ad 3), .ref (ad 4), .ref (ad 5), .ref (ad 6), .ref (ad 7), .ref (ad 8), .ref (ad 9), .ref (ad 10)])), ((ad 2), .inl (cA, N, .inl stepCount)), ((ad 3), .inl (cA, N * 6, .inl kind)), ((ad 4), .inl (cA, N * 6, .inl target)), ((ad 5), .inl (cA, N * 6, .inl first)), ((ad 6), .inl (cA, N * 6, .inl second))]
abbrev qcOn_step (D : va_G) (cA : ClassId) (ad : Nat → Nat) (N : Nat) (formStands : Bool) (stepCount : Nat → Int32) (kind : Nat → Int32) (target : Nat → Int32) (first : Nat → Int32) (second : Nat → Int32) (post : Int32 → Bool → (Nat → Int32) → (Nat → Int32) → (Nat → Int32) → (Nat → Int32) → (Nat → Int32) → Prop) (postX : Nat → Bool → (Nat → Int32) → (Nat → Int32) → (Nat → Int32) → (Nat → Int32) → (Nat → Int32) → Prop) (A : Nat → Prop) : Array Value → State → Outcome → State → Prop := xQi (S := (Bool) × (Nat → Int32) × (Nat → Int32) × (Nat → Int32) × (Nat → Int32) × (Nat → Int32)) (fun r u => post r u.1 u.2.1 u.2.2.1 u.2.2.2.1 u.2.2.2.2.1 u.2.2.2.2.2) (fun k u => postX k u.1 u.2.1 u.2.2.1 u.2.2.2.1 u.2.2.2.2.1 u.2.2.2.2.2) (fun u t => xB D [(cA, .int)] A (wdOn_step cA ad N u.1 u.2.1 u.2.2.1 u.2.2.2.1 u.2.2.2.2.1 u.2.2.2.2.2) t) A
abbrev rmOn_step : Room := { frames := 8, cells := 5, slots := 30, locals := 133 }
set_option maxHeartbeats 4000000 in
set_option maxRecDepth 100000 in
theorem ktOn_step (l : Launch) (hfl : l.flags = Jvm.pinnedFlags ++ [Jvm.noTraceFlag]) (D : va_G) (cA : ClassId) (ad : Nat → Nat) (N : Nat) (sz : Nat) (formStands : Bool) (stepCount : Nat → Int32) (kind : Nat → Int32) (target : Nat → Int32) (first : Nat → Int32) (second : Nat → Int32) (v1 : Int32) (v2 : Int32) (v3 : Int32) (v4 : Int32) (v5 : Int32) (post : Int32 → Bool → (Nat → Int32) → (Nat → Int32) → (Nat → Int32) → (Nat → Int32) → (Nat → Int32) → Prop) (postX : Nat → Bool → (Nat → Int32) → (Nat → Int32) → (Nat → Int32) → (Nat → Int32) → (Nat → Int32) → Prop) (hw : wpOn_step N formStands stepCount kind target first second v1 v2 v3 v4 v5 post postX) : MetX l yOn_step (Cond.code yOn_step cOn_step 6 (some .int) :: xW) rmOn_step (va_Pc [.ref (ad 0), .int v1, .int v2, .int v3, .int v4, .int v5] (xPcE D [(cA, .int)] (wdOn_step cA ad N formStands stepCount kind target first second) sz)) (qcOn_step D cA ad N formStands stepCount kind target first second post postX (va_A (wdOn_step cA ad N formStands stepCount kind target first second) sz)) 5 30 (va_A (wdOn_step cA ad N formStands stepCount kind target first second) sz) := by
  refine MetX.ofW (cc := cOn_step) (maxL := 6) (ret := (some .int)) (by decide) rfl ?_
  intro p e s m args below meth c s₁ B hml hv
  obtain ⟨rfl, ⟨hsz, hP, hK, hD0, hN⟩, hE0⟩ := hv
  have hx := B.exec
  have hb := B.bytes
  have hr := B.returns
  have hts := atoms_spec (ws := (Cond.code yOn_step cOn_step 6 (some .int) :: xW)) B.pre
  have hown : s.vm.findClass "OnceNamed" = some m.cls := findClass_of_methodNamed B.named
  have hlocks := B.notSynchronized
  subst hsz
  have hD := hD0.self (sz := s.heap.size)
  have hE := xEEfull hE0
  have htr := Launch.traces_off hfl B.admits
  have hout := xnoout (B.noHandlers (hts _ List.mem_cons_self))
  have htsx : ∀ w ∈ xW, w.before ([.ref (ad 0), .int v1, .int v2, .int v3, .int v4, .int v5] : List Value).toArray s = true := fun w h => hts w (List.mem_cons_of_mem _ h)
  generalize hAe : va_A (wdOn_step cA ad N formStands stepCount kind target first second) s.heap.size = A at hD hE ⊢
  have hA : ∀ q : Nat, s.heap.size ≤ q → A q := fun q h => by rw [← hAe]; exact Or.inr h
  have hS : va_S A s.heap s.heap [] := va_S.rf
  have hend : ∀ (r : Int32) (u0 : Bool) (u1 : Nat → Int32) (u2 : Nat → Int32) (u3 : Nat → Int32) (u4 : Nat → Int32) (u5 : Nat → Int32) (H : Heap) (locs : List Loc) (pc : Nat) (ls : Array Slot), decode cOn_step pc = .ok (.ireturn, 1) → va_P D vwCl (wdOn_step cA ad N u0 u1 u2 u3 u4 u5) H → va_D A (wdOn_step cA ad N u0 u1 u2 u3 u4 u5) → va_S A s.heap H locs → post r u0 u1 u2 u3 u4 u5 → W p l e (headSpec (Cond.code yOn_step cOn_step 6 (some .int) :: xW) rmOn_step).room s m ([.ref (ad 0), .int v1, .int v2, .int v3, .int v4, .int v5] : List Value).toArray below meth c H locs 5 30 (MQX below (qcOn_step D cA ad N formStands stepCount kind target first second post postX A) ([.ref (ad 0), .int v1, .int v2, .int v3, .int v4, .int v5] : List Value).toArray s 5 30 A) (F0 m pc ls [.int r]) := fun r u0 u1 u2 u3 u4 u5 H locs pc ls hd hP hD hS hw => xWmono (fun _ => MQX.of) (W.iret (v := r) hx hb hr (fun t ht hW => ⟨Or.inl ⟨r, (u0, u1, u2, u3, u4, u5), rfl, hw, ⟨by rw [ht]; exact hP, va_K.moved hW.alike hK, hD⟩⟩, hS.F ht⟩) hS.2.2 hd)
  have hendX : ∀ (k x : Nat) (u0 : Bool) (u1 : Nat → Int32) (u2 : Nat → Int32) (u3 : Nat → Int32) (u4 : Nat → Int32) (u5 : Nat → Int32) (t : State) (locs : List Loc) (cells slots : Nat), cells ≤ 5 → slots ≤ 30 → t.status = .running → Ended t below (.threw x) → s.WarmedH t.vm → s.sameButNew ({ t with vm := s.vm } : State) locs cells slots → xExc k x s.heap.size t → va_P D vwCl (wdOn_step cA ad N u0 u1 u2 u3 u4 u5) t.heap → va_D A (wdOn_step cA ad N u0 u1 u2 u3 u4 u5) → va_S A s.heap t.heap locs → postX k u0 u1 u2 u3 u4 u5 → MQX below (qcOn_step D cA ad N formStands stepCount kind target first second post postX A) ([.ref (ad 0), .int v1, .int v2, .int v3, .int v4, .int v5] : List Value).toArray s 5 30 A t := fun k x u0 u1 u2 u3 u4 u5 t locs cells slots h1 h2 b1 b2 b3 b4 b5 hP hD hS hw => ⟨.threw x, b1, b2, ⟨Or.inr ⟨k, x, (u0, u1, u2, u3, u4, u5), rfl, b5, hw, ⟨hP, va_K.moved b3.alike hK, hD⟩⟩, hS.F rfl⟩, locs, ⟨b3, b4.mono h1 h2⟩, hS.2.2⟩
  generalize hQ : MQX below (qcOn_step D cA ad N formStands stepCount kind target first second post postX A) ([.ref (ad 0), .int v1, .int v2, .int v3, .int v4, .int v5] : List Value).toArray s 5 30 A = Q at hend hendX ⊢
  have hl := lv_entry ([.ref (ad 0), .int v1, .int v2, .int v3, .int v4, .int v5]) (n := 6) (Nat.le_of_ble_eq_true rfl)
  rw [lg_entry_eq]
  generalize (lg_sl ([.ref (ad 0), .int v1, .int v2, .int v3, .int v4, .int v5]) ++ List.replicate (6 - (lg_sl ([.ref (ad 0), .int v1, .int v2, .int v3, .int v4, .int v5])).length) Slot.unset).toArray = ls at hl ⊢
  have hl : lv_has ls 6 [(0, .ref (ad 0)), (1, .int v1), (2, .int v2), (3, .int v3), (4, .int v4), (5, .int v5)] := hl
  unfold wpOn_step at hw
  refine lv_aload_n hx hb dOn_step_0 rfl (lv_at hl 0 rfl) ?_
  refine lv_iload_n hx hb dOn_step_1 rfl (lv_at hl 1 rfl) ?_
  refine xcxv (xrunV ⟨hx, hb, hml, hown, hts⟩ (ktOn_requireBlock l hfl D cA ad N _ formStands v1 _ _ hw) (cwV 1 hts (goodV kw_413 kw_415 ks_1_14 kw_1 kw_416) rfl rfl rfl (by decide +kernel) ⟨Nat.le_of_ble_eq_true rfl, Nat.le_of_ble_eq_true rfl⟩) (xpreVE hE hS hK hP hD hN [0] rfl rfl 0 rfl rfl) rfl rfl hl.1 rfl (lv_room (Nat.le_of_ble_eq_true rfl)) dOn_step_2 ⟨Nat.le_of_ble_eq_true rfl, Nat.le_of_ble_eq_true rfl⟩) (hout _) hlocks hP hD hS hA [0] [1, 2, 3, 4, 5, 6] rfl rfl rfl rfl [6, 0, 1, 2, 3, 4, 5] rfl (fun _ => rfl) (fun u H locs hw hP hD hS => ?_) (fun k x u t locs b1 b2 b3 b4 b5 b6 b7 b8 b9 => hendX k x formStands stepCount kind target first second t locs _ _ (Nat.le_of_ble_eq_true rfl) (Nat.le_of_ble_eq_true rfl) b1 b2 b3 b4 b5 b6 b7 b8 b9)
  have hP : va_P D vwCl (wdOn_step cA ad N formStands stepCount kind target first second) H := hP
  have hD : va_D A (wdOn_step cA ad N formStands stepCount kind target first second) := hD
  refine lv_iload_n hx hb dOn_step_5 rfl (lv_at hl 2 rfl) ?_
  refine lv_iload_n hx hb dOn_step_6 rfl (lv_at hl 3 rfl) ?_
  refine lv_iload hx hb dOn_step_7 (lv_at hl 4 rfl) ?_
  refine lv_iload hx hb dOn_step_9 (lv_at hl 5 rfl) ?_
  refine xcxv (xrunS ⟨hx, hb, hml, hown, hts⟩ (ktOn_requireStepParts l hfl D cA ad N _ v2 v3 v4 v5 _ _ hw) (va_cwS 4 hts (goodS kw_487 kw_488 kw_1 kw_489) rfl rfl rfl (by decide +kernel) ⟨Nat.le_of_ble_eq_true rfl, Nat.le_of_ble_eq_true rfl⟩) (xpreSE hE hS hK hP hD hN [] rfl rfl) rfl rfl hl.1 rfl (lv_room (Nat.le_of_ble_eq_true rfl)) dOn_step_11 ⟨Nat.le_of_ble_eq_true rfl, Nat.le_of_ble_eq_true rfl⟩) (hout _) hlocks hP hD hS hA [] [0, 1, 2, 3, 4, 5, 6] rfl rfl rfl rfl [0, 1, 2, 3, 4, 5, 6] rfl (fun _ => rfl) (fun u H locs hw hP hD hS => ?_) (fun k x u t locs b1 b2 b3 b4 b5 b6 b7 b8 b9 => hendX k x formStands stepCount kind target first second t locs _ _ (Nat.le_of_ble_eq_true rfl) (Nat.le_of_ble_eq_true rfl) b1 b2 b3 b4 b5 b6 b7 b8 b9)
  have hP : va_P D vwCl (wdOn_step cA ad N formStands stepCount kind target first second) H := hP
  have hD : va_D A (wdOn_step cA ad N formStands stepCount kind target first second) := hD
  refine lv_aload_n hx hb dOn_step_14 rfl (lv_at hl 0 rfl) ?_
  refine va_get (D := D) (ci := 0) (v := .ref (ad 1)) (C := "OnceNamed") (T := TX0) (N := 10) hx hb hts (fun w h => List.mem_cons_of_mem _ (inX0 w h)) hown hK hP 0 rfl rfl 1 (by decide) (hts _ (List.mem_cons_of_mem _ kw_268)) (fun _ h9 => h9) rfl dOn_step_15 ?_
  refine lv_iload_n hx hb dOn_step_18 rfl (lv_at hl 1 rfl) ?_
  refine xci (va_runV ⟨hx, hb, hml, hown, hts⟩ (ktProgram_stepsOf l D cA ad N _ stepCount v1 _ hw) (cwV 1 hts (goodV kw_499 kw_355 kw_356 kw_3 kw_357) rfl rfl rfl (by decide +kernel) ⟨Nat.le_of_ble_eq_true rfl, Nat.le_of_ble_eq_true rfl⟩) (xpreV hK hP hD hN [1, 2] rfl rfl 1 rfl rfl) rfl rfl hl.1 rfl (lv_room (Nat.le_of_ble_eq_true rfl)) dOn_step_19 ⟨Nat.le_of_ble_eq_true rfl, Nat.le_of_ble_eq_true rfl⟩) hP hD hS hA [1, 2] [0, 3, 4, 5, 6] rfl rfl rfl rfl [0, 5, 6, 1, 2, 3, 4] rfl (fun _ => rfl) (fun r19 u H locs hw hP hD hS => ?_)
  have hP : va_P D vwCl (wdOn_step cA ad N formStands stepCount kind target first second) H := hP
  have hD : va_D A (wdOn_step cA ad N formStands stepCount kind target first second) := hD
  refine lv_bipush (v := 6) hx hb dOn_step_22 (by decide) ?_
  refine lv_icmp_lt (tgt := 37) hx hb dOn_step_24 rfl (fun hc => ?_) (fun hc => ?_)
  · have hw := hw.1 hc
    refine lv_aload_n hx hb dOn_step_37 rfl (lv_at hl 0 rfl) ?_
    refine va_get (D := D) (ci := 0) (v := .ref (ad 1)) (C := "OnceNamed") (T := TX0) (N := 10) hx hb hts (fun w h => List.mem_cons_of_mem _ (inX0 w h)) hown hK hP 0 rfl rfl 1 (by decide) (hts _ (List.mem_cons_of_mem _ kw_268)) (fun _ h9 => h9) rfl dOn_step_38 ?_
    refine lv_iload_n hx hb dOn_step_41 rfl (lv_at hl 1 rfl) ?_
    refine lv_iload_n hx hb dOn_step_42 rfl (lv_at hl 2 rfl) ?_
    refine lv_iload_n hx hb dOn_step_43 rfl (lv_at hl 3 rfl) ?_
    refine lv_iload hx hb dOn_step_44 (lv_at hl 4 rfl) ?_
    refine lv_iload hx hb dOn_step_46 (lv_at hl 5 rfl) ?_
    refine xcv (va_runV ⟨hx, hb, hml, hown, hts⟩ (ktProgram_addStep l D cA ad N _ stepCount kind target first second v1 v2 v3 v4 v5 _ hw) (cwV 5 hts (goodV kw_516 kw_517 kw_518 kw_3 kw_519) rfl rfl rfl (by decide +kernel) ⟨Nat.le_of_ble_eq_true rfl, Nat.le_of_ble_eq_true rfl⟩) (xpreV hK hP hD hN [1, 2, 3, 4, 5, 6] rfl rfl 1 rfl rfl) rfl rfl hl.1 rfl (lv_room (Nat.le_of_ble_eq_true rfl)) dOn_step_48 ⟨Nat.le_of_ble_eq_true rfl, Nat.le_of_ble_eq_true rfl⟩) hP hD hS hA [1, 2, 3, 4, 5, 6] [0] rfl rfl rfl rfl [0, 1, 2, 3, 4, 5, 6] rfl (fun _ => rfl) (fun u H locs hw hP hD hS => ?_)
    obtain ⟨stepCount_48, kind_48, target_48, first_48, second_48⟩ := u
    try dsimp only at hw
    have hP : va_P D vwCl (wdOn_step cA ad N formStands stepCount_48 kind_48 target_48 first_48 second_48) H := hP
    have hD : va_D A (wdOn_step cA ad N formStands stepCount_48 kind_48 target_48 first_48 second_48) := hD
    refine lv_aload_n hx hb dOn_step_51 rfl (lv_at hl 0 rfl) ?_
    refine lv_iconst (v := 0) hx hb dOn_step_52 (by decide) ?_
    refine va_put (D := D) (ci := 0) (v := .int (bI false)) (ty := .boolean) (C := "OnceNamed") (T := TX0) (N := 10) hx hb hts (fun w h => List.mem_cons_of_mem _ (inX0 w h)) tyX0 tyX0_ok nmX0 hown hK hP hD hS 0 rfl rfl 9 (by decide) (hts _ (List.mem_cons_of_mem _ kw_276)) (fun _ h9 => h9) rfl (by decide +kernel) (bI_nar _) (bI_fit _) (Nat.le_of_ble_eq_true rfl) dOn_step_53 (fun H locs hP hD hS => ?_)
    have hP : va_P D vwCl (wdOn_step cA ad N false stepCount_48 kind_48 target_48 first_48 second_48) H := hP
    have hD : va_D A (wdOn_step cA ad N false stepCount_48 kind_48 target_48 first_48 second_48) := hD
    refine lv_aload_n hx hb dOn_step_56 rfl (lv_at hl 0 rfl) ?_
    refine va_get (D := D) (ci := 0) (v := .ref (ad 1)) (C := "OnceNamed") (T := TX0) (N := 10) hx hb hts (fun w h => List.mem_cons_of_mem _ (inX0 w h)) hown hK hP 0 rfl rfl 1 (by decide) (hts _ (List.mem_cons_of_mem _ kw_268)) (fun _ h9 => h9) rfl dOn_step_57 ?_
    refine lv_iload_n hx hb dOn_step_60 rfl (lv_at hl 1 rfl) ?_
    refine xci (va_runV ⟨hx, hb, hml, hown, hts⟩ (ktProgram_stepsOf l D cA ad N _ stepCount_48 v1 _ hw) (cwV 1 hts (goodV kw_499 kw_355 kw_356 kw_3 kw_357) rfl rfl rfl (by decide +kernel) ⟨Nat.le_of_ble_eq_true rfl, Nat.le_of_ble_eq_true rfl⟩) (xpreV hK hP hD hN [1, 2] rfl rfl 1 rfl rfl) rfl rfl hl.1 rfl (lv_room (Nat.le_of_ble_eq_true rfl)) dOn_step_61 ⟨Nat.le_of_ble_eq_true rfl, Nat.le_of_ble_eq_true rfl⟩) hP hD hS hA [1, 2] [0, 3, 4, 5, 6] rfl rfl rfl rfl [0, 5, 6, 1, 2, 3, 4] rfl (fun _ => rfl) (fun r61 u H locs hw hP hD hS => ?_)
    have hP : va_P D vwCl (wdOn_step cA ad N false stepCount_48 kind_48 target_48 first_48 second_48) H := hP
    have hD : va_D A (wdOn_step cA ad N false stepCount_48 kind_48 target_48 first_48 second_48) := hD
    refine W.widen (k := 5) (n := 30) (Nat.le_of_ble_eq_true rfl) (Nat.le_of_ble_eq_true rfl) ?_
    exact hend r61 false stepCount_48 kind_48 target_48 first_48 second_48 _ _ _ _ dOn_step_64 hP hD hS hw
  · have hw := hw.2 hc
    exact xthrowB 1 hx hb htr hown htsx (by decide) xat_1 kw_500 kw_16 hE hS (List.mem_of_getElem? (i := 4) rfl) (hout _) hlocks (hl.1.trans hml.symm) dOn_step_27 dOn_step_30 (Or.inl ⟨dOn_step_31, rfl⟩) dOn_step_33 dOn_step_36 (Nat.le_of_ble_eq_true rfl) (Nat.le_of_ble_eq_true rfl) (Nat.le_of_ble_eq_true rfl) (Nat.le_of_ble_eq_true rfl) (fun x t b1 b2 b3 b4 b5 b6 b7 => hendX 1 x formStands stepCount kind target first second t _ _ _ (Nat.le_of_ble_eq_true rfl) (Nat.le_of_ble_eq_true rfl) b1 b2 b3 b4 b5 (xPkeep hP b7) hD (xSkeep hS b6 b7) hw)
abbrev wdOn_giveEnd (cA : ClassId) (ad : Nat → Nat) (N : Nat) (formStands : Bool) (forkVariable : Nat → Int32) (yes : Nat → Int32) (no : Nat → Int32) (orderSize : Int32) (reached : Int32) (forerunners : Nat → Int32) (blw : Nat → Int32) (frontiers : Nat → Int32) (parents : Nat → Int32) (order : Nat → Int32) (waiting : Nat → Int32) : va_W := [((ad 0), .inr (0, [.int (nI N), .ref (ad 1), .ref (ad 11), .ref (ad 18), .ref (ad 30), .ref (ad 35), .ref (ad 38), .ref (ad 40), .ref (ad 42), .int (bI formStands)])), ((ad 1), .inr (1, [.int (nI N), .ref (ad 2), .ref (ad 3), .ref (ad 4), .ref (ad 5), .ref (ad 6), .ref (ad 7), .ref (ad 8), .ref (ad 9), .ref (ad 10)])), ((ad 7), .inl (cA, N, .inl forkVariable)), ((ad 8), .inl (cA, N, .inl yes)), ((ad 9), .inl (cA, N, .inl no)), ((ad 11), .inr (2, [.int (nI N), .ref (ad 12), .ref (ad 13), .ref (ad 14), .ref (ad 15), .ref (ad 16), .ref (ad 17), .int orderSize, .int reached])), ((ad 12), .inl (cA, N, .inl forerunners)), ((ad 13), .inl (cA, N, .inl blw)), ((ad 14), .inl (cA, N, .inl frontiers)), ((ad 15), .inl (cA, N, .inl parents)), ((ad 16), .inl (cA, N, .inl order)), ((ad 17), .inl (cA, N, .inl waiting))]
abbrev qcOn_giveEnd (D : va_G) (cA : ClassId) (ad : Nat → Nat) (N : Nat) (formStands : Bool) (forkVariable : Nat → Int32) (yes : Nat → Int32) (no : Nat → Int32) (orderSize : Int32) (reached : Int32) (forerunners : Nat → Int32) (blw : Nat → Int32) (frontiers : Nat → Int32) (parents : Nat → Int32) (order : Nat → Int32) (waiting : Nat → Int32) (post : Bool → (Nat → Int32) → (Nat → Int32) → (Nat → Int32) → Int32 → Int32 → (Nat → Int32) → (Nat → Int32) → (Nat → Int32) → (Nat → Int32) → (Nat → Int32) → (Nat → Int32) → Prop) (A : Nat → Prop) : Array Value → State → Outcome → State → Prop := va_Qv (S := (Bool) × (Nat → Int32) × (Nat → Int32) × (Nat → Int32) × (Int32) × (Int32) × (Nat → Int32) × (Nat → Int32) × (Nat → Int32) × (Nat → Int32) × (Nat → Int32) × (Nat → Int32)) (fun u => post u.1 u.2.1 u.2.2.1 u.2.2.2.1 u.2.2.2.2.1 u.2.2.2.2.2.1 u.2.2.2.2.2.2.1 u.2.2.2.2.2.2.2.1 u.2.2.2.2.2.2.2.2.1 u.2.2.2.2.2.2.2.2.2.1 u.2.2.2.2.2.2.2.2.2.2.1 u.2.2.2.2.2.2.2.2.2.2.2) (fun u t => xB D [(cA, .int)] A (wdOn_giveEnd cA ad N u.1 u.2.1 u.2.2.1 u.2.2.2.1 u.2.2.2.2.1 u.2.2.2.2.2.1 u.2.2.2.2.2.2.1 u.2.2.2.2.2.2.2.1 u.2.2.2.2.2.2.2.2.1 u.2.2.2.2.2.2.2.2.2.1 u.2.2.2.2.2.2.2.2.2.2.1 u.2.2.2.2.2.2.2.2.2.2.2) t) A
abbrev rmOn_giveEnd : Room := { frames := 3, cells := 0, slots := 0, locals := 70 }
set_option maxHeartbeats 4000000 in
set_option maxRecDepth 100000 in
theorem ktOn_giveEnd (l : Launch) (D : va_G) (cA : ClassId) (ad : Nat → Nat) (N : Nat) (sz : Nat) (formStands : Bool) (forkVariable : Nat → Int32) (yes : Nat → Int32) (no : Nat → Int32) (orderSize : Int32) (reached : Int32) (forerunners : Nat → Int32) (blw : Nat → Int32) (frontiers : Nat → Int32) (parents : Nat → Int32) (order : Nat → Int32) (waiting : Nat → Int32) (v1 : Int32) (v2 : Int32) (v3 : Int32) (v4 : Int32) (post : Bool → (Nat → Int32) → (Nat → Int32) → (Nat → Int32) → Int32 → Int32 → (Nat → Int32) → (Nat → Int32) → (Nat → Int32) → (Nat → Int32) → (Nat → Int32) → (Nat → Int32) → Prop) (hw : wpOn_giveEnd N forkVariable yes no forerunners blw frontiers parents order waiting v1 v2 v3 v4 post) : Met l yOn_giveEnd (Cond.code yOn_giveEnd cOn_giveEnd 5 none :: xW) rmOn_giveEnd (va_Pc [.ref (ad 0), .int v1, .int v2, .int v3, .int v4] (xPc D [(cA, .int)] (wdOn_giveEnd cA ad N formStands forkVariable yes no orderSize reached forerunners blw frontiers parents order waiting) sz)) (qcOn_giveEnd D cA ad N formStands forkVariable yes no orderSize reached forerunners blw frontiers parents order waiting post (va_A (wdOn_giveEnd cA ad N formStands forkVariable yes no orderSize reached forerunners blw frontiers parents order waiting) sz)) 0 0 (va_A (wdOn_giveEnd cA ad N formStands forkVariable yes no orderSize reached forerunners blw frontiers parents order waiting) sz) := by
  refine Met.ofW (cc := cOn_giveEnd) (maxL := 5) (ret := none) (by decide) rfl ?_
  intro p e s m args below meth c s₁ B hml hv
  obtain ⟨rfl, hsz, hP, hK, hD0, hN⟩ := hv
  have hx := B.exec
  have hb := B.bytes
  have hr := B.returns
  have hts := atoms_spec (ws := (Cond.code yOn_giveEnd cOn_giveEnd 5 none :: xW)) B.pre
  have hown : s.vm.findClass "OnceNamed" = some m.cls := findClass_of_methodNamed B.named
  have hlocks := B.notSynchronized
  subst hsz
  have hD := hD0.self (sz := s.heap.size)
  generalize hAe : va_A (wdOn_giveEnd cA ad N formStands forkVariable yes no orderSize reached forerunners blw frontiers parents order waiting) s.heap.size = A at hD ⊢
  have hA : ∀ q : Nat, s.heap.size ≤ q → A q := fun q h => by rw [← hAe]; exact Or.inr h
  have hS : va_S A s.heap s.heap [] := va_S.rf
  have hend : ∀ (u0 : Bool) (u1 : Nat → Int32) (u2 : Nat → Int32) (u3 : Nat → Int32) (u4 : Int32) (u5 : Int32) (u6 : Nat → Int32) (u7 : Nat → Int32) (u8 : Nat → Int32) (u9 : Nat → Int32) (u10 : Nat → Int32) (u11 : Nat → Int32) (H : Heap) (locs : List Loc) (pc : Nat) (ls : Array Slot), decode cOn_giveEnd pc = .ok (.return_, 1) → va_P D vwCl (wdOn_giveEnd cA ad N u0 u1 u2 u3 u4 u5 u6 u7 u8 u9 u10 u11) H → va_D A (wdOn_giveEnd cA ad N u0 u1 u2 u3 u4 u5 u6 u7 u8 u9 u10 u11) → va_S A s.heap H locs → post u0 u1 u2 u3 u4 u5 u6 u7 u8 u9 u10 u11 → W p l e (headSpec (Cond.code yOn_giveEnd cOn_giveEnd 5 none :: xW) rmOn_giveEnd).room s m ([.ref (ad 0), .int v1, .int v2, .int v3, .int v4] : List Value).toArray below meth c H locs 0 0 (MQ below (qcOn_giveEnd D cA ad N formStands forkVariable yes no orderSize reached forerunners blw frontiers parents order waiting post A) ([.ref (ad 0), .int v1, .int v2, .int v3, .int v4] : List Value).toArray s 0 0 A) (F0 m pc ls []) := fun u0 u1 u2 u3 u4 u5 u6 u7 u8 u9 u10 u11 H locs pc ls hd hP hD hS hw => W.vret hx hb hr (fun t ht hW => ⟨⟨(u0, u1, u2, u3, u4, u5, u6, u7, u8, u9, u10, u11), rfl, hw, ⟨by rw [ht]; exact hP, va_K.moved hW.alike hK, hD⟩⟩, hS.F ht⟩) hS.2.2 hd
  generalize hQ : MQ below (qcOn_giveEnd D cA ad N formStands forkVariable yes no orderSize reached forerunners blw frontiers parents order waiting post A) ([.ref (ad 0), .int v1, .int v2, .int v3, .int v4] : List Value).toArray s 0 0 A = Q at hend ⊢
  have hl := lv_entry ([.ref (ad 0), .int v1, .int v2, .int v3, .int v4]) (n := 5) (Nat.le_of_ble_eq_true rfl)
  rw [lg_entry_eq]
  generalize (lg_sl ([.ref (ad 0), .int v1, .int v2, .int v3, .int v4]) ++ List.replicate (5 - (lg_sl ([.ref (ad 0), .int v1, .int v2, .int v3, .int v4])).length) Slot.unset).toArray = ls at hl ⊢
  have hl : lv_has ls 5 [(0, .ref (ad 0)), (1, .int v1), (2, .int v2), (3, .int v3), (4, .int v4)] := hl
  unfold wpOn_giveEnd at hw
  refine lv_aload_n hx hb dOn_giveEnd_0 rfl (lv_at hl 0 rfl) ?_
  refine va_get (D := D) (ci := 0) (v := .ref (ad 1)) (C := "OnceNamed") (T := TX0) (N := 10) hx hb hts (fun w h => List.mem_cons_of_mem _ (inX0 w h)) hown hK hP 0 rfl rfl 1 (by decide) (hts _ (List.mem_cons_of_mem _ kw_268)) (fun _ h9 => h9) rfl dOn_giveEnd_1 ?_
  refine lv_iload_n hx hb dOn_giveEnd_4 rfl (lv_at hl 1 rfl) ?_
  refine lv_iload_n hx hb dOn_giveEnd_5 rfl (lv_at hl 2 rfl) ?_
  refine lv_iload_n hx hb dOn_giveEnd_6 rfl (lv_at hl 3 rfl) ?_
  refine lv_iload hx hb dOn_giveEnd_7 (lv_at hl 4 rfl) ?_
  refine xcv (va_runV ⟨hx, hb, hml, hown, hts⟩ (ktProgram_changeEnd l D cA ad N _ forkVariable yes no v1 v2 v3 v4 _ hw) (cwV 4 hts (goodV kw_531 kw_532 kw_533 kw_3 kw_534) rfl rfl rfl (by decide +kernel) ⟨Nat.le_of_ble_eq_true rfl, Nat.le_of_ble_eq_true rfl⟩) (xpreV hK hP hD hN [1, 2, 3, 4] rfl rfl 1 rfl rfl) rfl rfl hl.1 rfl (lv_room (Nat.le_of_ble_eq_true rfl)) dOn_giveEnd_9 ⟨Nat.le_of_ble_eq_true rfl, Nat.le_of_ble_eq_true rfl⟩) hP hD hS hA [1, 2, 3, 4] [0, 5, 6, 7, 8, 9, 10, 11] rfl rfl rfl rfl [0, 8, 9, 10, 11, 1, 2, 3, 4, 5, 6, 7] rfl (fun _ => rfl) (fun u H locs hw hP hD hS => ?_)
  obtain ⟨forkVariable_9, yes_9, no_9⟩ := u
  try dsimp only at hw
  have hP : va_P D vwCl (wdOn_giveEnd cA ad N formStands forkVariable_9 yes_9 no_9 orderSize reached forerunners blw frontiers parents order waiting) H := hP
  have hD : va_D A (wdOn_giveEnd cA ad N formStands forkVariable_9 yes_9 no_9 orderSize reached forerunners blw frontiers parents order waiting) := hD
  refine lv_aload_n hx hb dOn_giveEnd_12 rfl (lv_at hl 0 rfl) ?_
  refine va_get (D := D) (ci := 0) (v := .ref (ad 11)) (C := "OnceNamed") (T := TX0) (N := 10) hx hb hts (fun w h => List.mem_cons_of_mem _ (inX0 w h)) hown hK hP 0 rfl rfl 2 (by decide) (hts _ (List.mem_cons_of_mem _ kw_269)) (fun _ h9 => h9) rfl dOn_giveEnd_13 ?_
  refine lv_aload_n hx hb dOn_giveEnd_16 rfl (lv_at hl 0 rfl) ?_
  refine va_get (D := D) (ci := 0) (v := .ref (ad 1)) (C := "OnceNamed") (T := TX0) (N := 10) hx hb hts (fun w h => List.mem_cons_of_mem _ (inX0 w h)) hown hK hP 0 rfl rfl 1 (by decide) (hts _ (List.mem_cons_of_mem _ kw_268)) (fun _ h9 => h9) rfl dOn_giveEnd_17 ?_
  refine xcv (va_runV ⟨hx, hb, hml, hown, hts⟩ (ktGraph_survey l D cA ad N _ yes_9 no_9 orderSize reached forerunners blw frontiers parents order waiting _ hw) (cwV 1 hts (goodV kw_229 kw_230 kw_231 kw_5 kw_232) rfl rfl rfl (by decide +kernel) ⟨Nat.le_of_ble_eq_true rfl, Nat.le_of_ble_eq_true rfl⟩) (xpreV hK hP hD hN [1, 3, 4, 5, 6, 7, 8, 9, 10, 11] rfl rfl 5 rfl rfl) rfl rfl hl.1 rfl (lv_room (Nat.le_of_ble_eq_true rfl)) dOn_giveEnd_20 ⟨Nat.le_of_ble_eq_true rfl, Nat.le_of_ble_eq_true rfl⟩) hP hD hS hA [1, 3, 4, 5, 6, 7, 8, 9, 10, 11] [0, 2] rfl rfl rfl rfl [0, 2, 1, 3, 4, 5, 6, 7, 8, 9, 10, 11] rfl (fun _ => rfl) (fun u H locs hw hP hD hS => ?_)
  obtain ⟨orderSize_20, reached_20, forerunners_20, blw_20, frontiers_20, parents_20, order_20, waiting_20⟩ := u
  try dsimp only at hw
  have hP : va_P D vwCl (wdOn_giveEnd cA ad N formStands forkVariable_9 yes_9 no_9 orderSize_20 reached_20 forerunners_20 blw_20 frontiers_20 parents_20 order_20 waiting_20) H := hP
  have hD : va_D A (wdOn_giveEnd cA ad N formStands forkVariable_9 yes_9 no_9 orderSize_20 reached_20 forerunners_20 blw_20 frontiers_20 parents_20 order_20 waiting_20) := hD
  refine lv_aload_n hx hb dOn_giveEnd_23 rfl (lv_at hl 0 rfl) ?_
  refine lv_iconst (v := 0) hx hb dOn_giveEnd_24 (by decide) ?_
  refine va_put (D := D) (ci := 0) (v := .int (bI false)) (ty := .boolean) (C := "OnceNamed") (T := TX0) (N := 10) hx hb hts (fun w h => List.mem_cons_of_mem _ (inX0 w h)) tyX0 tyX0_ok nmX0 hown hK hP hD hS 0 rfl rfl 9 (by decide) (hts _ (List.mem_cons_of_mem _ kw_276)) (fun _ h9 => h9) rfl (by decide +kernel) (bI_nar _) (bI_fit _) (Nat.le_of_ble_eq_true rfl) dOn_giveEnd_25 (fun H locs hP hD hS => ?_)
  have hP : va_P D vwCl (wdOn_giveEnd cA ad N false forkVariable_9 yes_9 no_9 orderSize_20 reached_20 forerunners_20 blw_20 frontiers_20 parents_20 order_20 waiting_20) H := hP
  have hD : va_D A (wdOn_giveEnd cA ad N false forkVariable_9 yes_9 no_9 orderSize_20 reached_20 forerunners_20 blw_20 frontiers_20 parents_20 order_20 waiting_20) := hD
  exact hend false forkVariable_9 yes_9 no_9 orderSize_20 reached_20 forerunners_20 blw_20 frontiers_20 parents_20 order_20 waiting_20 _ _ _ _ dOn_giveEnd_28 hP hD hS hw
abbrev wdOn_go (cA : ClassId) (ad : Nat → Nat) (N : Nat) (formStands : Bool) (forkVariable : Nat → Int32) (yes : Nat → Int32) (no : Nat → Int32) (orderSize : Int32) (reached : Int32) (forerunners : Nat → Int32) (blw : Nat → Int32) (frontiers : Nat → Int32) (parents : Nat → Int32) (order : Nat → Int32) (waiting : Nat → Int32) : va_W := [((ad 0), .inr (0, [.int (nI N), .ref (ad 1), .ref (ad 11), .ref (ad 18), .ref (ad 30), .ref (ad 35), .ref (ad 38), .ref (ad 40), .ref (ad 42), .int (bI formStands)])), ((ad 1), .inr (1, [.int (nI N), .ref (ad 2), .ref (ad 3), .ref (ad 4), .ref (ad 5), .ref (ad 6), .ref (ad 7), .ref (ad 8), .ref (ad 9), .ref (ad 10)])), ((ad 7), .inl (cA, N, .inl forkVariable)), ((ad 8), .inl (cA, N, .inl yes)), ((ad 9), .inl (cA, N, .inl no)), ((ad 11), .inr (2, [.int (nI N), .ref (ad 12), .ref (ad 13), .ref (ad 14), .ref (ad 15), .ref (ad 16), .ref (ad 17), .int orderSize, .int reached])), ((ad 12), .inl (cA, N, .inl forerunners)), ((ad 13), .inl (cA, N, .inl blw)), ((ad 14), .inl (cA, N, .inl frontiers)), ((ad 15), .inl (cA, N, .inl parents)), ((ad 16), .inl (cA, N, .inl order)), ((ad 17), .inl (cA, N, .inl waiting))]
abbrev qcOn_go (D : va_G) (cA : ClassId) (ad : Nat → Nat) (N : Nat) (formStands : Bool) (forkVariable : Nat → Int32) (yes : Nat → Int32) (no : Nat → Int32) (orderSize : Int32) (reached : Int32) (forerunners : Nat → Int32) (blw : Nat → Int32) (frontiers : Nat → Int32) (parents : Nat → Int32) (order : Nat → Int32) (waiting : Nat → Int32) (post : Bool → (Nat → Int32) → (Nat → Int32) → (Nat → Int32) → Int32 → Int32 → (Nat → Int32) → (Nat → Int32) → (Nat → Int32) → (Nat → Int32) → (Nat → Int32) → (Nat → Int32) → Prop) (postX : Nat → Bool → (Nat → Int32) → (Nat → Int32) → (Nat → Int32) → Int32 → Int32 → (Nat → Int32) → (Nat → Int32) → (Nat → Int32) → (Nat → Int32) → (Nat → Int32) → (Nat → Int32) → Prop) (A : Nat → Prop) : Array Value → State → Outcome → State → Prop := xQv (S := (Bool) × (Nat → Int32) × (Nat → Int32) × (Nat → Int32) × (Int32) × (Int32) × (Nat → Int32) × (Nat → Int32) × (Nat → Int32) × (Nat → Int32) × (Nat → Int32) × (Nat → Int32)) (fun u => post u.1 u.2.1 u.2.2.1 u.2.2.2.1 u.2.2.2.2.1 u.2.2.2.2.2.1 u.2.2.2.2.2.2.1 u.2.2.2.2.2.2.2.1 u.2.2.2.2.2.2.2.2.1 u.2.2.2.2.2.2.2.2.2.1 u.2.2.2.2.2.2.2.2.2.2.1 u.2.2.2.2.2.2.2.2.2.2.2) (fun k u => postX k u.1 u.2.1 u.2.2.1 u.2.2.2.1 u.2.2.2.2.1 u.2.2.2.2.2.1 u.2.2.2.2.2.2.1 u.2.2.2.2.2.2.2.1 u.2.2.2.2.2.2.2.2.1 u.2.2.2.2.2.2.2.2.2.1 u.2.2.2.2.2.2.2.2.2.2.1 u.2.2.2.2.2.2.2.2.2.2.2) (fun u t => xB D [(cA, .int)] A (wdOn_go cA ad N u.1 u.2.1 u.2.2.1 u.2.2.2.1 u.2.2.2.2.1 u.2.2.2.2.2.1 u.2.2.2.2.2.2.1 u.2.2.2.2.2.2.2.1 u.2.2.2.2.2.2.2.2.1 u.2.2.2.2.2.2.2.2.2.1 u.2.2.2.2.2.2.2.2.2.2.1 u.2.2.2.2.2.2.2.2.2.2.2) t) A
abbrev rmOn_go : Room := { frames := 7, cells := 2, slots := 12, locals := 111 }
set_option maxHeartbeats 4000000 in
set_option maxRecDepth 100000 in
theorem ktOn_go (l : Launch) (hfl : l.flags = Jvm.pinnedFlags ++ [Jvm.noTraceFlag]) (D : va_G) (cA : ClassId) (ad : Nat → Nat) (N : Nat) (sz : Nat) (formStands : Bool) (forkVariable : Nat → Int32) (yes : Nat → Int32) (no : Nat → Int32) (orderSize : Int32) (reached : Int32) (forerunners : Nat → Int32) (blw : Nat → Int32) (frontiers : Nat → Int32) (parents : Nat → Int32) (order : Nat → Int32) (waiting : Nat → Int32) (v1 : Int32) (v2 : Int32) (post : Bool → (Nat → Int32) → (Nat → Int32) → (Nat → Int32) → Int32 → Int32 → (Nat → Int32) → (Nat → Int32) → (Nat → Int32) → (Nat → Int32) → (Nat → Int32) → (Nat → Int32) → Prop) (postX : Nat → Bool → (Nat → Int32) → (Nat → Int32) → (Nat → Int32) → Int32 → Int32 → (Nat → Int32) → (Nat → Int32) → (Nat → Int32) → (Nat → Int32) → (Nat → Int32) → (Nat → Int32) → Prop) (hw : wpOn_go N formStands forkVariable yes no orderSize reached forerunners blw frontiers parents order waiting v1 v2 post postX) : MetX l yOn_go (Cond.code yOn_go cOn_go 3 none :: xW) rmOn_go (va_Pc [.ref (ad 0), .int v1, .int v2] (xPcE D [(cA, .int)] (wdOn_go cA ad N formStands forkVariable yes no orderSize reached forerunners blw frontiers parents order waiting) sz)) (qcOn_go D cA ad N formStands forkVariable yes no orderSize reached forerunners blw frontiers parents order waiting post postX (va_A (wdOn_go cA ad N formStands forkVariable yes no orderSize reached forerunners blw frontiers parents order waiting) sz)) 2 12 (va_A (wdOn_go cA ad N formStands forkVariable yes no orderSize reached forerunners blw frontiers parents order waiting) sz) := by
  refine MetX.ofW (cc := cOn_go) (maxL := 3) (ret := none) (by decide) rfl ?_
  intro p e s m args below meth c s₁ B hml hv
  obtain ⟨rfl, ⟨hsz, hP, hK, hD0, hN⟩, hE0⟩ := hv
  have hx := B.exec
  have hb := B.bytes
  have hr := B.returns
  have hts := atoms_spec (ws := (Cond.code yOn_go cOn_go 3 none :: xW)) B.pre
  have hown : s.vm.findClass "OnceNamed" = some m.cls := findClass_of_methodNamed B.named
  have hlocks := B.notSynchronized
  subst hsz
  have hD := hD0.self (sz := s.heap.size)
  have hE := xEEfull hE0
  have htr := Launch.traces_off hfl B.admits
  have hout := xnoout (B.noHandlers (hts _ List.mem_cons_self))
  have htsx : ∀ w ∈ xW, w.before ([.ref (ad 0), .int v1, .int v2] : List Value).toArray s = true := fun w h => hts w (List.mem_cons_of_mem _ h)
  generalize hAe : va_A (wdOn_go cA ad N formStands forkVariable yes no orderSize reached forerunners blw frontiers parents order waiting) s.heap.size = A at hD hE ⊢
  have hA : ∀ q : Nat, s.heap.size ≤ q → A q := fun q h => by rw [← hAe]; exact Or.inr h
  have hS : va_S A s.heap s.heap [] := va_S.rf
  have hend : ∀ (u0 : Bool) (u1 : Nat → Int32) (u2 : Nat → Int32) (u3 : Nat → Int32) (u4 : Int32) (u5 : Int32) (u6 : Nat → Int32) (u7 : Nat → Int32) (u8 : Nat → Int32) (u9 : Nat → Int32) (u10 : Nat → Int32) (u11 : Nat → Int32) (H : Heap) (locs : List Loc) (pc : Nat) (ls : Array Slot), decode cOn_go pc = .ok (.return_, 1) → va_P D vwCl (wdOn_go cA ad N u0 u1 u2 u3 u4 u5 u6 u7 u8 u9 u10 u11) H → va_D A (wdOn_go cA ad N u0 u1 u2 u3 u4 u5 u6 u7 u8 u9 u10 u11) → va_S A s.heap H locs → post u0 u1 u2 u3 u4 u5 u6 u7 u8 u9 u10 u11 → W p l e (headSpec (Cond.code yOn_go cOn_go 3 none :: xW) rmOn_go).room s m ([.ref (ad 0), .int v1, .int v2] : List Value).toArray below meth c H locs 2 12 (MQX below (qcOn_go D cA ad N formStands forkVariable yes no orderSize reached forerunners blw frontiers parents order waiting post postX A) ([.ref (ad 0), .int v1, .int v2] : List Value).toArray s 2 12 A) (F0 m pc ls []) := fun u0 u1 u2 u3 u4 u5 u6 u7 u8 u9 u10 u11 H locs pc ls hd hP hD hS hw => xWmono (fun _ => MQX.of) (W.vret hx hb hr (fun t ht hW => ⟨Or.inl ⟨(u0, u1, u2, u3, u4, u5, u6, u7, u8, u9, u10, u11), rfl, hw, ⟨by rw [ht]; exact hP, va_K.moved hW.alike hK, hD⟩⟩, hS.F ht⟩) hS.2.2 hd)
  have hendX : ∀ (k x : Nat) (u0 : Bool) (u1 : Nat → Int32) (u2 : Nat → Int32) (u3 : Nat → Int32) (u4 : Int32) (u5 : Int32) (u6 : Nat → Int32) (u7 : Nat → Int32) (u8 : Nat → Int32) (u9 : Nat → Int32) (u10 : Nat → Int32) (u11 : Nat → Int32) (t : State) (locs : List Loc) (cells slots : Nat), cells ≤ 2 → slots ≤ 12 → t.status = .running → Ended t below (.threw x) → s.WarmedH t.vm → s.sameButNew ({ t with vm := s.vm } : State) locs cells slots → xExc k x s.heap.size t → va_P D vwCl (wdOn_go cA ad N u0 u1 u2 u3 u4 u5 u6 u7 u8 u9 u10 u11) t.heap → va_D A (wdOn_go cA ad N u0 u1 u2 u3 u4 u5 u6 u7 u8 u9 u10 u11) → va_S A s.heap t.heap locs → postX k u0 u1 u2 u3 u4 u5 u6 u7 u8 u9 u10 u11 → MQX below (qcOn_go D cA ad N formStands forkVariable yes no orderSize reached forerunners blw frontiers parents order waiting post postX A) ([.ref (ad 0), .int v1, .int v2] : List Value).toArray s 2 12 A t := fun k x u0 u1 u2 u3 u4 u5 u6 u7 u8 u9 u10 u11 t locs cells slots h1 h2 b1 b2 b3 b4 b5 hP hD hS hw => ⟨.threw x, b1, b2, ⟨Or.inr ⟨k, x, (u0, u1, u2, u3, u4, u5, u6, u7, u8, u9, u10, u11), rfl, b5, hw, ⟨hP, va_K.moved b3.alike hK, hD⟩⟩, hS.F rfl⟩, locs, ⟨b3, b4.mono h1 h2⟩, hS.2.2⟩
  generalize hQ : MQX below (qcOn_go D cA ad N formStands forkVariable yes no orderSize reached forerunners blw frontiers parents order waiting post postX A) ([.ref (ad 0), .int v1, .int v2] : List Value).toArray s 2 12 A = Q at hend hendX ⊢
  have hl := lv_entry ([.ref (ad 0), .int v1, .int v2]) (n := 3) (Nat.le_of_ble_eq_true rfl)
  rw [lg_entry_eq]
  generalize (lg_sl ([.ref (ad 0), .int v1, .int v2]) ++ List.replicate (3 - (lg_sl ([.ref (ad 0), .int v1, .int v2])).length) Slot.unset).toArray = ls at hl ⊢
  have hl : lv_has ls 3 [(0, .ref (ad 0)), (1, .int v1), (2, .int v2)] := hl
  unfold wpOn_go at hw
  refine lv_aload_n hx hb dOn_go_0 rfl (lv_at hl 0 rfl) ?_
  refine lv_iload_n hx hb dOn_go_1 rfl (lv_at hl 1 rfl) ?_
  refine xcxv (xrunV ⟨hx, hb, hml, hown, hts⟩ (ktOn_requireBlock l hfl D cA ad N _ formStands v1 _ _ hw) (cwV 1 hts (goodV kw_413 kw_415 ks_1_14 kw_1 kw_416) rfl rfl rfl (by decide +kernel) ⟨Nat.le_of_ble_eq_true rfl, Nat.le_of_ble_eq_true rfl⟩) (xpreVE hE hS hK hP hD hN [0] rfl rfl 0 rfl rfl) rfl rfl hl.1 rfl (lv_room (Nat.le_of_ble_eq_true rfl)) dOn_go_2 ⟨Nat.le_of_ble_eq_true rfl, Nat.le_of_ble_eq_true rfl⟩) (hout _) hlocks hP hD hS hA [0] [1, 2, 3, 4, 5, 6, 7, 8, 9, 10, 11] rfl rfl rfl rfl [11, 0, 1, 2, 3, 4, 5, 6, 7, 8, 9, 10] rfl (fun _ => rfl) (fun u H locs hw hP hD hS => ?_) (fun k x u t locs b1 b2 b3 b4 b5 b6 b7 b8 b9 => hendX k x formStands forkVariable yes no orderSize reached forerunners blw frontiers parents order waiting t locs _ _ (Nat.le_of_ble_eq_true rfl) (Nat.le_of_ble_eq_true rfl) b1 b2 b3 b4 b5 b6 b7 b8 b9)
  have hP : va_P D vwCl (wdOn_go cA ad N formStands forkVariable yes no orderSize reached forerunners blw frontiers parents order waiting) H := hP
  have hD : va_D A (wdOn_go cA ad N formStands forkVariable yes no orderSize reached forerunners blw frontiers parents order waiting) := hD
  refine lv_aload_n hx hb dOn_go_5 rfl (lv_at hl 0 rfl) ?_
  refine lv_iload_n hx hb dOn_go_6 rfl (lv_at hl 2 rfl) ?_
  refine xcxv (xrunV ⟨hx, hb, hml, hown, hts⟩ (ktOn_requireBlock l hfl D cA ad N _ formStands v2 _ _ hw) (cwV 1 hts (goodV kw_413 kw_415 ks_1_14 kw_1 kw_416) rfl rfl rfl (by decide +kernel) ⟨Nat.le_of_ble_eq_true rfl, Nat.le_of_ble_eq_true rfl⟩) (xpreVE hE hS hK hP hD hN [0] rfl rfl 0 rfl rfl) rfl rfl hl.1 rfl (lv_room (Nat.le_of_ble_eq_true rfl)) dOn_go_7 ⟨Nat.le_of_ble_eq_true rfl, Nat.le_of_ble_eq_true rfl⟩) (hout _) hlocks hP hD hS hA [0] [1, 2, 3, 4, 5, 6, 7, 8, 9, 10, 11] rfl rfl rfl rfl [11, 0, 1, 2, 3, 4, 5, 6, 7, 8, 9, 10] rfl (fun _ => rfl) (fun u H locs hw hP hD hS => ?_) (fun k x u t locs b1 b2 b3 b4 b5 b6 b7 b8 b9 => hendX k x formStands forkVariable yes no orderSize reached forerunners blw frontiers parents order waiting t locs _ _ (Nat.le_of_ble_eq_true rfl) (Nat.le_of_ble_eq_true rfl) b1 b2 b3 b4 b5 b6 b7 b8 b9)
  have hP : va_P D vwCl (wdOn_go cA ad N formStands forkVariable yes no orderSize reached forerunners blw frontiers parents order waiting) H := hP
  have hD : va_D A (wdOn_go cA ad N formStands forkVariable yes no orderSize reached forerunners blw frontiers parents order waiting) := hD
  refine lv_aload_n hx hb dOn_go_10 rfl (lv_at hl 0 rfl) ?_
  refine lv_iload_n hx hb dOn_go_11 rfl (lv_at hl 1 rfl) ?_
  refine lv_iconst (v := (-1)) hx hb dOn_go_12 (by decide) ?_
  refine lv_iload_n hx hb dOn_go_13 rfl (lv_at hl 2 rfl) ?_
  refine lv_iload_n hx hb dOn_go_14 rfl (lv_at hl 2 rfl) ?_
  refine xcv (va_runV ⟨hx, hb, hml, hown, hts⟩ (ktOn_giveEnd l D cA ad N _ formStands forkVariable yes no orderSize reached forerunners blw frontiers parents order waiting v1 (-1) v2 v2 _ hw) (cwV 4 hts (goodV kw_527 kw_529 ks_2_0 kw_1 kw_530) rfl rfl rfl (by decide +kernel) ⟨Nat.le_of_ble_eq_true rfl, Nat.le_of_ble_eq_true rfl⟩) (xpreV hK hP hD hN [0, 1, 2, 3, 4, 5, 6, 7, 8, 9, 10, 11] rfl rfl 0 rfl rfl) rfl rfl hl.1 rfl (lv_room (Nat.le_of_ble_eq_true rfl)) dOn_go_15 ⟨Nat.le_of_ble_eq_true rfl, Nat.le_of_ble_eq_true rfl⟩) hP hD hS hA [0, 1, 2, 3, 4, 5, 6, 7, 8, 9, 10, 11] [] rfl rfl rfl rfl [0, 1, 2, 3, 4, 5, 6, 7, 8, 9, 10, 11] rfl (fun _ => rfl) (fun u H locs hw hP hD hS => ?_)
  obtain ⟨formStands_15, forkVariable_15, yes_15, no_15, orderSize_15, reached_15, forerunners_15, blw_15, frontiers_15, parents_15, order_15, waiting_15⟩ := u
  try dsimp only at hw
  have hP : va_P D vwCl (wdOn_go cA ad N formStands_15 forkVariable_15 yes_15 no_15 orderSize_15 reached_15 forerunners_15 blw_15 frontiers_15 parents_15 order_15 waiting_15) H := hP
  have hD : va_D A (wdOn_go cA ad N formStands_15 forkVariable_15 yes_15 no_15 orderSize_15 reached_15 forerunners_15 blw_15 frontiers_15 parents_15 order_15 waiting_15) := hD
  exact hend formStands_15 forkVariable_15 yes_15 no_15 orderSize_15 reached_15 forerunners_15 blw_15 frontiers_15 parents_15 order_15 waiting_15 _ _ _ _ dOn_go_18 hP hD hS hw
abbrev wdOn_fork (cA : ClassId) (ad : Nat → Nat) (N : Nat) (formStands : Bool) (forkVariable : Nat → Int32) (yes : Nat → Int32) (no : Nat → Int32) (orderSize : Int32) (reached : Int32) (forerunners : Nat → Int32) (blw : Nat → Int32) (frontiers : Nat → Int32) (parents : Nat → Int32) (order : Nat → Int32) (waiting : Nat → Int32) : va_W := [((ad 0), .inr (0, [.int (nI N), .ref (ad 1), .ref (ad 11), .ref (ad 18), .ref (ad 30), .ref (ad 35), .ref (ad 38), .ref (ad 40), .ref (ad 42), .int (bI formStands)])), ((ad 1), .inr (1, [.int (nI N), .ref (ad 2), .ref (ad 3), .ref (ad 4), .ref (ad 5), .ref (ad 6), .ref (ad 7), .ref (ad 8), .ref (ad 9), .ref (ad 10)])), ((ad 7), .inl (cA, N, .inl forkVariable)), ((ad 8), .inl (cA, N, .inl yes)), ((ad 9), .inl (cA, N, .inl no)), ((ad 11), .inr (2, [.int (nI N), .ref (ad 12), .ref (ad 13), .ref (ad 14), .ref (ad 15), .ref (ad 16), .ref (ad 17), .int orderSize, .int reached])), ((ad 12), .inl (cA, N, .inl forerunners)), ((ad 13), .inl (cA, N, .inl blw)), ((ad 14), .inl (cA, N, .inl frontiers)), ((ad 15), .inl (cA, N, .inl parents)), ((ad 16), .inl (cA, N, .inl order)), ((ad 17), .inl (cA, N, .inl waiting))]
abbrev qcOn_fork (D : va_G) (cA : ClassId) (ad : Nat → Nat) (N : Nat) (formStands : Bool) (forkVariable : Nat → Int32) (yes : Nat → Int32) (no : Nat → Int32) (orderSize : Int32) (reached : Int32) (forerunners : Nat → Int32) (blw : Nat → Int32) (frontiers : Nat → Int32) (parents : Nat → Int32) (order : Nat → Int32) (waiting : Nat → Int32) (post : Bool → (Nat → Int32) → (Nat → Int32) → (Nat → Int32) → Int32 → Int32 → (Nat → Int32) → (Nat → Int32) → (Nat → Int32) → (Nat → Int32) → (Nat → Int32) → (Nat → Int32) → Prop) (postX : Nat → Bool → (Nat → Int32) → (Nat → Int32) → (Nat → Int32) → Int32 → Int32 → (Nat → Int32) → (Nat → Int32) → (Nat → Int32) → (Nat → Int32) → (Nat → Int32) → (Nat → Int32) → Prop) (A : Nat → Prop) : Array Value → State → Outcome → State → Prop := xQv (S := (Bool) × (Nat → Int32) × (Nat → Int32) × (Nat → Int32) × (Int32) × (Int32) × (Nat → Int32) × (Nat → Int32) × (Nat → Int32) × (Nat → Int32) × (Nat → Int32) × (Nat → Int32)) (fun u => post u.1 u.2.1 u.2.2.1 u.2.2.2.1 u.2.2.2.2.1 u.2.2.2.2.2.1 u.2.2.2.2.2.2.1 u.2.2.2.2.2.2.2.1 u.2.2.2.2.2.2.2.2.1 u.2.2.2.2.2.2.2.2.2.1 u.2.2.2.2.2.2.2.2.2.2.1 u.2.2.2.2.2.2.2.2.2.2.2) (fun k u => postX k u.1 u.2.1 u.2.2.1 u.2.2.2.1 u.2.2.2.2.1 u.2.2.2.2.2.1 u.2.2.2.2.2.2.1 u.2.2.2.2.2.2.2.1 u.2.2.2.2.2.2.2.2.1 u.2.2.2.2.2.2.2.2.2.1 u.2.2.2.2.2.2.2.2.2.2.1 u.2.2.2.2.2.2.2.2.2.2.2) (fun u t => xB D [(cA, .int)] A (wdOn_fork cA ad N u.1 u.2.1 u.2.2.1 u.2.2.2.1 u.2.2.2.2.1 u.2.2.2.2.2.1 u.2.2.2.2.2.2.1 u.2.2.2.2.2.2.2.1 u.2.2.2.2.2.2.2.2.1 u.2.2.2.2.2.2.2.2.2.1 u.2.2.2.2.2.2.2.2.2.2.1 u.2.2.2.2.2.2.2.2.2.2.2) t) A
abbrev rmOn_fork : Room := { frames := 7, cells := 4, slots := 24, locals := 111 }
set_option maxHeartbeats 4000000 in
set_option maxRecDepth 100000 in
theorem ktOn_fork (l : Launch) (hfl : l.flags = Jvm.pinnedFlags ++ [Jvm.noTraceFlag]) (D : va_G) (cA : ClassId) (ad : Nat → Nat) (N : Nat) (sz : Nat) (formStands : Bool) (forkVariable : Nat → Int32) (yes : Nat → Int32) (no : Nat → Int32) (orderSize : Int32) (reached : Int32) (forerunners : Nat → Int32) (blw : Nat → Int32) (frontiers : Nat → Int32) (parents : Nat → Int32) (order : Nat → Int32) (waiting : Nat → Int32) (v1 : Int32) (v2 : Int32) (v3 : Int32) (v4 : Int32) (post : Bool → (Nat → Int32) → (Nat → Int32) → (Nat → Int32) → Int32 → Int32 → (Nat → Int32) → (Nat → Int32) → (Nat → Int32) → (Nat → Int32) → (Nat → Int32) → (Nat → Int32) → Prop) (postX : Nat → Bool → (Nat → Int32) → (Nat → Int32) → (Nat → Int32) → Int32 → Int32 → (Nat → Int32) → (Nat → Int32) → (Nat → Int32) → (Nat → Int32) → (Nat → Int32) → (Nat → Int32) → Prop) (hw : wpOn_fork N formStands forkVariable yes no orderSize reached forerunners blw frontiers parents order waiting v1 v2 v3 v4 post postX) : MetX l yOn_fork (Cond.code yOn_fork cOn_fork 5 none :: xW) rmOn_fork (va_Pc [.ref (ad 0), .int v1, .int v2, .int v3, .int v4] (xPcE D [(cA, .int)] (wdOn_fork cA ad N formStands forkVariable yes no orderSize reached forerunners blw frontiers parents order waiting) sz)) (qcOn_fork D cA ad N formStands forkVariable yes no orderSize reached forerunners blw frontiers parents order waiting post postX (va_A (wdOn_fork cA ad N formStands forkVariable yes no orderSize reached forerunners blw frontiers parents order waiting) sz)) 4 24 (va_A (wdOn_fork cA ad N formStands forkVariable yes no orderSize reached forerunners blw frontiers parents order waiting) sz) := by
  refine MetX.ofW (cc := cOn_fork) (maxL := 5) (ret := none) (by decide) rfl ?_
  intro p e s m args below meth c s₁ B hml hv
  obtain ⟨rfl, ⟨hsz, hP, hK, hD0, hN⟩, hE0⟩ := hv
  have hx := B.exec
  have hb := B.bytes
  have hr := B.returns
  have hts := atoms_spec (ws := (Cond.code yOn_fork cOn_fork 5 none :: xW)) B.pre
  have hown : s.vm.findClass "OnceNamed" = some m.cls := findClass_of_methodNamed B.named
  have hlocks := B.notSynchronized
  subst hsz
  have hD := hD0.self (sz := s.heap.size)
  have hE := xEEfull hE0
  have htr := Launch.traces_off hfl B.admits
  have hout := xnoout (B.noHandlers (hts _ List.mem_cons_self))
  have htsx : ∀ w ∈ xW, w.before ([.ref (ad 0), .int v1, .int v2, .int v3, .int v4] : List Value).toArray s = true := fun w h => hts w (List.mem_cons_of_mem _ h)
  generalize hAe : va_A (wdOn_fork cA ad N formStands forkVariable yes no orderSize reached forerunners blw frontiers parents order waiting) s.heap.size = A at hD hE ⊢
  have hA : ∀ q : Nat, s.heap.size ≤ q → A q := fun q h => by rw [← hAe]; exact Or.inr h
  have hS : va_S A s.heap s.heap [] := va_S.rf
  have hend : ∀ (u0 : Bool) (u1 : Nat → Int32) (u2 : Nat → Int32) (u3 : Nat → Int32) (u4 : Int32) (u5 : Int32) (u6 : Nat → Int32) (u7 : Nat → Int32) (u8 : Nat → Int32) (u9 : Nat → Int32) (u10 : Nat → Int32) (u11 : Nat → Int32) (H : Heap) (locs : List Loc) (pc : Nat) (ls : Array Slot), decode cOn_fork pc = .ok (.return_, 1) → va_P D vwCl (wdOn_fork cA ad N u0 u1 u2 u3 u4 u5 u6 u7 u8 u9 u10 u11) H → va_D A (wdOn_fork cA ad N u0 u1 u2 u3 u4 u5 u6 u7 u8 u9 u10 u11) → va_S A s.heap H locs → post u0 u1 u2 u3 u4 u5 u6 u7 u8 u9 u10 u11 → W p l e (headSpec (Cond.code yOn_fork cOn_fork 5 none :: xW) rmOn_fork).room s m ([.ref (ad 0), .int v1, .int v2, .int v3, .int v4] : List Value).toArray below meth c H locs 4 24 (MQX below (qcOn_fork D cA ad N formStands forkVariable yes no orderSize reached forerunners blw frontiers parents order waiting post postX A) ([.ref (ad 0), .int v1, .int v2, .int v3, .int v4] : List Value).toArray s 4 24 A) (F0 m pc ls []) := fun u0 u1 u2 u3 u4 u5 u6 u7 u8 u9 u10 u11 H locs pc ls hd hP hD hS hw => xWmono (fun _ => MQX.of) (W.vret hx hb hr (fun t ht hW => ⟨Or.inl ⟨(u0, u1, u2, u3, u4, u5, u6, u7, u8, u9, u10, u11), rfl, hw, ⟨by rw [ht]; exact hP, va_K.moved hW.alike hK, hD⟩⟩, hS.F ht⟩) hS.2.2 hd)
  have hendX : ∀ (k x : Nat) (u0 : Bool) (u1 : Nat → Int32) (u2 : Nat → Int32) (u3 : Nat → Int32) (u4 : Int32) (u5 : Int32) (u6 : Nat → Int32) (u7 : Nat → Int32) (u8 : Nat → Int32) (u9 : Nat → Int32) (u10 : Nat → Int32) (u11 : Nat → Int32) (t : State) (locs : List Loc) (cells slots : Nat), cells ≤ 4 → slots ≤ 24 → t.status = .running → Ended t below (.threw x) → s.WarmedH t.vm → s.sameButNew ({ t with vm := s.vm } : State) locs cells slots → xExc k x s.heap.size t → va_P D vwCl (wdOn_fork cA ad N u0 u1 u2 u3 u4 u5 u6 u7 u8 u9 u10 u11) t.heap → va_D A (wdOn_fork cA ad N u0 u1 u2 u3 u4 u5 u6 u7 u8 u9 u10 u11) → va_S A s.heap t.heap locs → postX k u0 u1 u2 u3 u4 u5 u6 u7 u8 u9 u10 u11 → MQX below (qcOn_fork D cA ad N formStands forkVariable yes no orderSize reached forerunners blw frontiers parents order waiting post postX A) ([.ref (ad 0), .int v1, .int v2, .int v3, .int v4] : List Value).toArray s 4 24 A t := fun k x u0 u1 u2 u3 u4 u5 u6 u7 u8 u9 u10 u11 t locs cells slots h1 h2 b1 b2 b3 b4 b5 hP hD hS hw => ⟨.threw x, b1, b2, ⟨Or.inr ⟨k, x, (u0, u1, u2, u3, u4, u5, u6, u7, u8, u9, u10, u11), rfl, b5, hw, ⟨hP, va_K.moved b3.alike hK, hD⟩⟩, hS.F rfl⟩, locs, ⟨b3, b4.mono h1 h2⟩, hS.2.2⟩
  generalize hQ : MQX below (qcOn_fork D cA ad N formStands forkVariable yes no orderSize reached forerunners blw frontiers parents order waiting post postX A) ([.ref (ad 0), .int v1, .int v2, .int v3, .int v4] : List Value).toArray s 4 24 A = Q at hend hendX ⊢
  have hl := lv_entry ([.ref (ad 0), .int v1, .int v2, .int v3, .int v4]) (n := 5) (Nat.le_of_ble_eq_true rfl)
  rw [lg_entry_eq]
  generalize (lg_sl ([.ref (ad 0), .int v1, .int v2, .int v3, .int v4]) ++ List.replicate (5 - (lg_sl ([.ref (ad 0), .int v1, .int v2, .int v3, .int v4])).length) Slot.unset).toArray = ls at hl ⊢
  have hl : lv_has ls 5 [(0, .ref (ad 0)), (1, .int v1), (2, .int v2), (3, .int v3), (4, .int v4)] := hl
  unfold wpOn_fork at hw
  refine lv_aload_n hx hb dOn_fork_0 rfl (lv_at hl 0 rfl) ?_
  refine lv_iload_n hx hb dOn_fork_1 rfl (lv_at hl 1 rfl) ?_
  refine xcxv (xrunV ⟨hx, hb, hml, hown, hts⟩ (ktOn_requireBlock l hfl D cA ad N _ formStands v1 _ _ hw) (cwV 1 hts (goodV kw_413 kw_415 ks_1_14 kw_1 kw_416) rfl rfl rfl (by decide +kernel) ⟨Nat.le_of_ble_eq_true rfl, Nat.le_of_ble_eq_true rfl⟩) (xpreVE hE hS hK hP hD hN [0] rfl rfl 0 rfl rfl) rfl rfl hl.1 rfl (lv_room (Nat.le_of_ble_eq_true rfl)) dOn_fork_2 ⟨Nat.le_of_ble_eq_true rfl, Nat.le_of_ble_eq_true rfl⟩) (hout _) hlocks hP hD hS hA [0] [1, 2, 3, 4, 5, 6, 7, 8, 9, 10, 11] rfl rfl rfl rfl [11, 0, 1, 2, 3, 4, 5, 6, 7, 8, 9, 10] rfl (fun _ => rfl) (fun u H locs hw hP hD hS => ?_) (fun k x u t locs b1 b2 b3 b4 b5 b6 b7 b8 b9 => hendX k x formStands forkVariable yes no orderSize reached forerunners blw frontiers parents order waiting t locs _ _ (Nat.le_of_ble_eq_true rfl) (Nat.le_of_ble_eq_true rfl) b1 b2 b3 b4 b5 b6 b7 b8 b9)
  have hP : va_P D vwCl (wdOn_fork cA ad N formStands forkVariable yes no orderSize reached forerunners blw frontiers parents order waiting) H := hP
  have hD : va_D A (wdOn_fork cA ad N formStands forkVariable yes no orderSize reached forerunners blw frontiers parents order waiting) := hD
  refine lv_iload_n hx hb dOn_fork_5 rfl (lv_at hl 2 rfl) ?_
  refine xcxv (xrunS ⟨hx, hb, hml, hown, hts⟩ (ktOn_requireVariable l hfl D cA ad N _ v2 _ _ hw) (va_cwS 1 hts (goodS kw_493 kw_494 kw_1 kw_495) rfl rfl rfl (by decide +kernel) ⟨Nat.le_of_ble_eq_true rfl, Nat.le_of_ble_eq_true rfl⟩) (xpreSE hE hS hK hP hD hN [] rfl rfl) rfl rfl hl.1 rfl (lv_room (Nat.le_of_ble_eq_true rfl)) dOn_fork_6 ⟨Nat.le_of_ble_eq_true rfl, Nat.le_of_ble_eq_true rfl⟩) (hout _) hlocks hP hD hS hA [] [0, 1, 2, 3, 4, 5, 6, 7, 8, 9, 10, 11] rfl rfl rfl rfl [0, 1, 2, 3, 4, 5, 6, 7, 8, 9, 10, 11] rfl (fun _ => rfl) (fun u H locs hw hP hD hS => ?_) (fun k x u t locs b1 b2 b3 b4 b5 b6 b7 b8 b9 => hendX k x formStands forkVariable yes no orderSize reached forerunners blw frontiers parents order waiting t locs _ _ (Nat.le_of_ble_eq_true rfl) (Nat.le_of_ble_eq_true rfl) b1 b2 b3 b4 b5 b6 b7 b8 b9)
  have hP : va_P D vwCl (wdOn_fork cA ad N formStands forkVariable yes no orderSize reached forerunners blw frontiers parents order waiting) H := hP
  have hD : va_D A (wdOn_fork cA ad N formStands forkVariable yes no orderSize reached forerunners blw frontiers parents order waiting) := hD
  refine lv_aload_n hx hb dOn_fork_9 rfl (lv_at hl 0 rfl) ?_
  refine lv_iload_n hx hb dOn_fork_10 rfl (lv_at hl 3 rfl) ?_
  refine xcxv (xrunV ⟨hx, hb, hml, hown, hts⟩ (ktOn_requireBlock l hfl D cA ad N _ formStands v3 _ _ hw) (cwV 1 hts (goodV kw_413 kw_415 ks_1_14 kw_1 kw_416) rfl rfl rfl (by decide +kernel) ⟨Nat.le_of_ble_eq_true rfl, Nat.le_of_ble_eq_true rfl⟩) (xpreVE hE hS hK hP hD hN [0] rfl rfl 0 rfl rfl) rfl rfl hl.1 rfl (lv_room (Nat.le_of_ble_eq_true rfl)) dOn_fork_11 ⟨Nat.le_of_ble_eq_true rfl, Nat.le_of_ble_eq_true rfl⟩) (hout _) hlocks hP hD hS hA [0] [1, 2, 3, 4, 5, 6, 7, 8, 9, 10, 11] rfl rfl rfl rfl [11, 0, 1, 2, 3, 4, 5, 6, 7, 8, 9, 10] rfl (fun _ => rfl) (fun u H locs hw hP hD hS => ?_) (fun k x u t locs b1 b2 b3 b4 b5 b6 b7 b8 b9 => hendX k x formStands forkVariable yes no orderSize reached forerunners blw frontiers parents order waiting t locs _ _ (Nat.le_of_ble_eq_true rfl) (Nat.le_of_ble_eq_true rfl) b1 b2 b3 b4 b5 b6 b7 b8 b9)
  have hP : va_P D vwCl (wdOn_fork cA ad N formStands forkVariable yes no orderSize reached forerunners blw frontiers parents order waiting) H := hP
  have hD : va_D A (wdOn_fork cA ad N formStands forkVariable yes no orderSize reached forerunners blw frontiers parents order waiting) := hD
  refine lv_aload_n hx hb dOn_fork_14 rfl (lv_at hl 0 rfl) ?_
  refine lv_iload hx hb dOn_fork_15 (lv_at hl 4 rfl) ?_
  refine xcxv (xrunV ⟨hx, hb, hml, hown, hts⟩ (ktOn_requireBlock l hfl D cA ad N _ formStands v4 _ _ hw) (cwV 1 hts (goodV kw_413 kw_415 ks_1_14 kw_1 kw_416) rfl rfl rfl (by decide +kernel) ⟨Nat.le_of_ble_eq_true rfl, Nat.le_of_ble_eq_true rfl⟩) (xpreVE hE hS hK hP hD hN [0] rfl rfl 0 rfl rfl) rfl rfl hl.1 rfl (lv_room (Nat.le_of_ble_eq_true rfl)) dOn_fork_17 ⟨Nat.le_of_ble_eq_true rfl, Nat.le_of_ble_eq_true rfl⟩) (hout _) hlocks hP hD hS hA [0] [1, 2, 3, 4, 5, 6, 7, 8, 9, 10, 11] rfl rfl rfl rfl [11, 0, 1, 2, 3, 4, 5, 6, 7, 8, 9, 10] rfl (fun _ => rfl) (fun u H locs hw hP hD hS => ?_) (fun k x u t locs b1 b2 b3 b4 b5 b6 b7 b8 b9 => hendX k x formStands forkVariable yes no orderSize reached forerunners blw frontiers parents order waiting t locs _ _ (Nat.le_of_ble_eq_true rfl) (Nat.le_of_ble_eq_true rfl) b1 b2 b3 b4 b5 b6 b7 b8 b9)
  have hP : va_P D vwCl (wdOn_fork cA ad N formStands forkVariable yes no orderSize reached forerunners blw frontiers parents order waiting) H := hP
  have hD : va_D A (wdOn_fork cA ad N formStands forkVariable yes no orderSize reached forerunners blw frontiers parents order waiting) := hD
  refine lv_aload_n hx hb dOn_fork_20 rfl (lv_at hl 0 rfl) ?_
  refine lv_iload_n hx hb dOn_fork_21 rfl (lv_at hl 1 rfl) ?_
  refine lv_iload_n hx hb dOn_fork_22 rfl (lv_at hl 2 rfl) ?_
  refine lv_iload_n hx hb dOn_fork_23 rfl (lv_at hl 3 rfl) ?_
  refine lv_iload hx hb dOn_fork_24 (lv_at hl 4 rfl) ?_
  refine xcv (va_runV ⟨hx, hb, hml, hown, hts⟩ (ktOn_giveEnd l D cA ad N _ formStands forkVariable yes no orderSize reached forerunners blw frontiers parents order waiting v1 v2 v3 v4 _ hw) (cwV 4 hts (goodV kw_527 kw_529 ks_2_0 kw_1 kw_530) rfl rfl rfl (by decide +kernel) ⟨Nat.le_of_ble_eq_true rfl, Nat.le_of_ble_eq_true rfl⟩) (xpreV hK hP hD hN [0, 1, 2, 3, 4, 5, 6, 7, 8, 9, 10, 11] rfl rfl 0 rfl rfl) rfl rfl hl.1 rfl (lv_room (Nat.le_of_ble_eq_true rfl)) dOn_fork_26 ⟨Nat.le_of_ble_eq_true rfl, Nat.le_of_ble_eq_true rfl⟩) hP hD hS hA [0, 1, 2, 3, 4, 5, 6, 7, 8, 9, 10, 11] [] rfl rfl rfl rfl [0, 1, 2, 3, 4, 5, 6, 7, 8, 9, 10, 11] rfl (fun _ => rfl) (fun u H locs hw hP hD hS => ?_)
  obtain ⟨formStands_26, forkVariable_26, yes_26, no_26, orderSize_26, reached_26, forerunners_26, blw_26, frontiers_26, parents_26, order_26, waiting_26⟩ := u
  try dsimp only at hw
  have hP : va_P D vwCl (wdOn_fork cA ad N formStands_26 forkVariable_26 yes_26 no_26 orderSize_26 reached_26 forerunners_26 blw_26 frontiers_26 parents_26 order_26 waiting_26) H := hP
  have hD : va_D A (wdOn_fork cA ad N formStands_26 forkVariable_26 yes_26 no_26 orderSize_26 reached_26 forerunners_26 blw_26 frontiers_26 parents_26 order_26 waiting_26) := hD
  exact hend formStands_26 forkVariable_26 yes_26 no_26 orderSize_26 reached_26 forerunners_26 blw_26 frontiers_26 parents_26 order_26 waiting_26 _ _ _ _ dOn_fork_29 hP hD hS hw
abbrev wdOn_stop (cA : ClassId) (ad : Nat → Nat) (N : Nat) (formStands : Bool) (forkVariable : Nat → Int32) (yes : Nat → Int32) (no : Nat → Int32) (orderSize : Int32) (reached : Int32) (forerunners : Nat → Int32) (blw : Nat → Int32) (frontiers : Nat → Int32) (parents : Nat → Int32) (order : Nat → Int32) (waiting : Nat → Int32) : va_W := [((ad 0), .inr (0, [.int (nI N), .ref (ad 1), .ref (ad 11), .ref (ad 18), .ref (ad 30), .ref (ad 35), .ref (ad 38), .ref (ad 40), .ref (ad 42), .int (bI formStands)])), ((ad 1), .inr (1, [.int (nI N), .ref (ad 2), .ref (ad 3), .ref (ad 4), .ref (ad 5), .ref (ad 6), .ref (ad 7), .ref (ad 8), .ref (ad 9), .ref (ad 10)])), ((ad 7), .inl (cA, N, .inl forkVariable)), ((ad 8), .inl (cA, N, .inl yes)), ((ad 9), .inl (cA, N, .inl no)), ((ad 11), .inr (2, [.int (nI N), .ref (ad 12), .ref (ad 13), .ref (ad 14), .ref (ad 15), .ref (ad 16), .ref (ad 17), .int orderSize, .int reached])), ((ad 12), .inl (cA, N, .inl forerunners)), ((ad 13), .inl (cA, N, .inl blw)), ((ad 14), .inl (cA, N, .inl frontiers)), ((ad 15), .inl (cA, N, .inl parents)), ((ad 16), .inl (cA, N, .inl order)), ((ad 17), .inl (cA, N, .inl waiting))]
abbrev qcOn_stop (D : va_G) (cA : ClassId) (ad : Nat → Nat) (N : Nat) (formStands : Bool) (forkVariable : Nat → Int32) (yes : Nat → Int32) (no : Nat → Int32) (orderSize : Int32) (reached : Int32) (forerunners : Nat → Int32) (blw : Nat → Int32) (frontiers : Nat → Int32) (parents : Nat → Int32) (order : Nat → Int32) (waiting : Nat → Int32) (post : Bool → (Nat → Int32) → (Nat → Int32) → (Nat → Int32) → Int32 → Int32 → (Nat → Int32) → (Nat → Int32) → (Nat → Int32) → (Nat → Int32) → (Nat → Int32) → (Nat → Int32) → Prop) (postX : Nat → Bool → (Nat → Int32) → (Nat → Int32) → (Nat → Int32) → Int32 → Int32 → (Nat → Int32) → (Nat → Int32) → (Nat → Int32) → (Nat → Int32) → (Nat → Int32) → (Nat → Int32) → Prop) (A : Nat → Prop) : Array Value → State → Outcome → State → Prop := xQv (S := (Bool) × (Nat → Int32) × (Nat → Int32) × (Nat → Int32) × (Int32) × (Int32) × (Nat → Int32) × (Nat → Int32) × (Nat → Int32) × (Nat → Int32) × (Nat → Int32) × (Nat → Int32)) (fun u => post u.1 u.2.1 u.2.2.1 u.2.2.2.1 u.2.2.2.2.1 u.2.2.2.2.2.1 u.2.2.2.2.2.2.1 u.2.2.2.2.2.2.2.1 u.2.2.2.2.2.2.2.2.1 u.2.2.2.2.2.2.2.2.2.1 u.2.2.2.2.2.2.2.2.2.2.1 u.2.2.2.2.2.2.2.2.2.2.2) (fun k u => postX k u.1 u.2.1 u.2.2.1 u.2.2.2.1 u.2.2.2.2.1 u.2.2.2.2.2.1 u.2.2.2.2.2.2.1 u.2.2.2.2.2.2.2.1 u.2.2.2.2.2.2.2.2.1 u.2.2.2.2.2.2.2.2.2.1 u.2.2.2.2.2.2.2.2.2.2.1 u.2.2.2.2.2.2.2.2.2.2.2) (fun u t => xB D [(cA, .int)] A (wdOn_stop cA ad N u.1 u.2.1 u.2.2.1 u.2.2.2.1 u.2.2.2.2.1 u.2.2.2.2.2.1 u.2.2.2.2.2.2.1 u.2.2.2.2.2.2.2.1 u.2.2.2.2.2.2.2.2.1 u.2.2.2.2.2.2.2.2.2.1 u.2.2.2.2.2.2.2.2.2.2.1 u.2.2.2.2.2.2.2.2.2.2.2) t) A
abbrev rmOn_stop : Room := { frames := 7, cells := 1, slots := 6, locals := 111 }
set_option maxHeartbeats 4000000 in
set_option maxRecDepth 100000 in
theorem ktOn_stop (l : Launch) (hfl : l.flags = Jvm.pinnedFlags ++ [Jvm.noTraceFlag]) (D : va_G) (cA : ClassId) (ad : Nat → Nat) (N : Nat) (sz : Nat) (formStands : Bool) (forkVariable : Nat → Int32) (yes : Nat → Int32) (no : Nat → Int32) (orderSize : Int32) (reached : Int32) (forerunners : Nat → Int32) (blw : Nat → Int32) (frontiers : Nat → Int32) (parents : Nat → Int32) (order : Nat → Int32) (waiting : Nat → Int32) (v1 : Int32) (post : Bool → (Nat → Int32) → (Nat → Int32) → (Nat → Int32) → Int32 → Int32 → (Nat → Int32) → (Nat → Int32) → (Nat → Int32) → (Nat → Int32) → (Nat → Int32) → (Nat → Int32) → Prop) (postX : Nat → Bool → (Nat → Int32) → (Nat → Int32) → (Nat → Int32) → Int32 → Int32 → (Nat → Int32) → (Nat → Int32) → (Nat → Int32) → (Nat → Int32) → (Nat → Int32) → (Nat → Int32) → Prop) (hw : wpOn_stop N formStands forkVariable yes no orderSize reached forerunners blw frontiers parents order waiting v1 post postX) : MetX l yOn_stop (Cond.code yOn_stop cOn_stop 2 none :: xW) rmOn_stop (va_Pc [.ref (ad 0), .int v1] (xPcE D [(cA, .int)] (wdOn_stop cA ad N formStands forkVariable yes no orderSize reached forerunners blw frontiers parents order waiting) sz)) (qcOn_stop D cA ad N formStands forkVariable yes no orderSize reached forerunners blw frontiers parents order waiting post postX (va_A (wdOn_stop cA ad N formStands forkVariable yes no orderSize reached forerunners blw frontiers parents order waiting) sz)) 1 6 (va_A (wdOn_stop cA ad N formStands forkVariable yes no orderSize reached forerunners blw frontiers parents order waiting) sz) := by
  refine MetX.ofW (cc := cOn_stop) (maxL := 2) (ret := none) (by decide) rfl ?_
  intro p e s m args below meth c s₁ B hml hv
  obtain ⟨rfl, ⟨hsz, hP, hK, hD0, hN⟩, hE0⟩ := hv
  have hx := B.exec
  have hb := B.bytes
  have hr := B.returns
  have hts := atoms_spec (ws := (Cond.code yOn_stop cOn_stop 2 none :: xW)) B.pre
  have hown : s.vm.findClass "OnceNamed" = some m.cls := findClass_of_methodNamed B.named
  have hlocks := B.notSynchronized
  subst hsz
  have hD := hD0.self (sz := s.heap.size)
  have hE := xEEfull hE0
  have htr := Launch.traces_off hfl B.admits
  have hout := xnoout (B.noHandlers (hts _ List.mem_cons_self))
  have htsx : ∀ w ∈ xW, w.before ([.ref (ad 0), .int v1] : List Value).toArray s = true := fun w h => hts w (List.mem_cons_of_mem _ h)
  generalize hAe : va_A (wdOn_stop cA ad N formStands forkVariable yes no orderSize reached forerunners blw frontiers parents order waiting) s.heap.size = A at hD hE ⊢
  have hA : ∀ q : Nat, s.heap.size ≤ q → A q := fun q h => by rw [← hAe]; exact Or.inr h
  have hS : va_S A s.heap s.heap [] := va_S.rf
  have hend : ∀ (u0 : Bool) (u1 : Nat → Int32) (u2 : Nat → Int32) (u3 : Nat → Int32) (u4 : Int32) (u5 : Int32) (u6 : Nat → Int32) (u7 : Nat → Int32) (u8 : Nat → Int32) (u9 : Nat → Int32) (u10 : Nat → Int32) (u11 : Nat → Int32) (H : Heap) (locs : List Loc) (pc : Nat) (ls : Array Slot), decode cOn_stop pc = .ok (.return_, 1) → va_P D vwCl (wdOn_stop cA ad N u0 u1 u2 u3 u4 u5 u6 u7 u8 u9 u10 u11) H → va_D A (wdOn_stop cA ad N u0 u1 u2 u3 u4 u5 u6 u7 u8 u9 u10 u11) → va_S A s.heap H locs → post u0 u1 u2 u3 u4 u5 u6 u7 u8 u9 u10 u11 → W p l e (headSpec (Cond.code yOn_stop cOn_stop 2 none :: xW) rmOn_stop).room s m ([.ref (ad 0), .int v1] : List Value).toArray below meth c H locs 1 6 (MQX below (qcOn_stop D cA ad N formStands forkVariable yes no orderSize reached forerunners blw frontiers parents order waiting post postX A) ([.ref (ad 0), .int v1] : List Value).toArray s 1 6 A) (F0 m pc ls []) := fun u0 u1 u2 u3 u4 u5 u6 u7 u8 u9 u10 u11 H locs pc ls hd hP hD hS hw => xWmono (fun _ => MQX.of) (W.vret hx hb hr (fun t ht hW => ⟨Or.inl ⟨(u0, u1, u2, u3, u4, u5, u6, u7, u8, u9, u10, u11), rfl, hw, ⟨by rw [ht]; exact hP, va_K.moved hW.alike hK, hD⟩⟩, hS.F ht⟩) hS.2.2 hd)
  have hendX : ∀ (k x : Nat) (u0 : Bool) (u1 : Nat → Int32) (u2 : Nat → Int32) (u3 : Nat → Int32) (u4 : Int32) (u5 : Int32) (u6 : Nat → Int32) (u7 : Nat → Int32) (u8 : Nat → Int32) (u9 : Nat → Int32) (u10 : Nat → Int32) (u11 : Nat → Int32) (t : State) (locs : List Loc) (cells slots : Nat), cells ≤ 1 → slots ≤ 6 → t.status = .running → Ended t below (.threw x) → s.WarmedH t.vm → s.sameButNew ({ t with vm := s.vm } : State) locs cells slots → xExc k x s.heap.size t → va_P D vwCl (wdOn_stop cA ad N u0 u1 u2 u3 u4 u5 u6 u7 u8 u9 u10 u11) t.heap → va_D A (wdOn_stop cA ad N u0 u1 u2 u3 u4 u5 u6 u7 u8 u9 u10 u11) → va_S A s.heap t.heap locs → postX k u0 u1 u2 u3 u4 u5 u6 u7 u8 u9 u10 u11 → MQX below (qcOn_stop D cA ad N formStands forkVariable yes no orderSize reached forerunners blw frontiers parents order waiting post postX A) ([.ref (ad 0), .int v1] : List Value).toArray s 1 6 A t := fun k x u0 u1 u2 u3 u4 u5 u6 u7 u8 u9 u10 u11 t locs cells slots h1 h2 b1 b2 b3 b4 b5 hP hD hS hw => ⟨.threw x, b1, b2, ⟨Or.inr ⟨k, x, (u0, u1, u2, u3, u4, u5, u6, u7, u8, u9, u10, u11), rfl, b5, hw, ⟨hP, va_K.moved b3.alike hK, hD⟩⟩, hS.F rfl⟩, locs, ⟨b3, b4.mono h1 h2⟩, hS.2.2⟩
  generalize hQ : MQX below (qcOn_stop D cA ad N formStands forkVariable yes no orderSize reached forerunners blw frontiers parents order waiting post postX A) ([.ref (ad 0), .int v1] : List Value).toArray s 1 6 A = Q at hend hendX ⊢
  have hl := lv_entry ([.ref (ad 0), .int v1]) (n := 2) (Nat.le_of_ble_eq_true rfl)
  rw [lg_entry_eq]
  generalize (lg_sl ([.ref (ad 0), .int v1]) ++ List.replicate (2 - (lg_sl ([.ref (ad 0), .int v1])).length) Slot.unset).toArray = ls at hl ⊢
  have hl : lv_has ls 2 [(0, .ref (ad 0)), (1, .int v1)] := hl
  unfold wpOn_stop at hw
  refine lv_aload_n hx hb dOn_stop_0 rfl (lv_at hl 0 rfl) ?_
  refine lv_iload_n hx hb dOn_stop_1 rfl (lv_at hl 1 rfl) ?_
  refine xcxv (xrunV ⟨hx, hb, hml, hown, hts⟩ (ktOn_requireBlock l hfl D cA ad N _ formStands v1 _ _ hw) (cwV 1 hts (goodV kw_413 kw_415 ks_1_14 kw_1 kw_416) rfl rfl rfl (by decide +kernel) ⟨Nat.le_of_ble_eq_true rfl, Nat.le_of_ble_eq_true rfl⟩) (xpreVE hE hS hK hP hD hN [0] rfl rfl 0 rfl rfl) rfl rfl hl.1 rfl (lv_room (Nat.le_of_ble_eq_true rfl)) dOn_stop_2 ⟨Nat.le_of_ble_eq_true rfl, Nat.le_of_ble_eq_true rfl⟩) (hout _) hlocks hP hD hS hA [0] [1, 2, 3, 4, 5, 6, 7, 8, 9, 10, 11] rfl rfl rfl rfl [11, 0, 1, 2, 3, 4, 5, 6, 7, 8, 9, 10] rfl (fun _ => rfl) (fun u H locs hw hP hD hS => ?_) (fun k x u t locs b1 b2 b3 b4 b5 b6 b7 b8 b9 => hendX k x formStands forkVariable yes no orderSize reached forerunners blw frontiers parents order waiting t locs _ _ (Nat.le_of_ble_eq_true rfl) (Nat.le_of_ble_eq_true rfl) b1 b2 b3 b4 b5 b6 b7 b8 b9)
  have hP : va_P D vwCl (wdOn_stop cA ad N formStands forkVariable yes no orderSize reached forerunners blw frontiers parents order waiting) H := hP
  have hD : va_D A (wdOn_stop cA ad N formStands forkVariable yes no orderSize reached forerunners blw frontiers parents order waiting) := hD
  refine lv_aload_n hx hb dOn_stop_5 rfl (lv_at hl 0 rfl) ?_
  refine lv_iload_n hx hb dOn_stop_6 rfl (lv_at hl 1 rfl) ?_
  refine lv_iconst (v := (-1)) hx hb dOn_stop_7 (by decide) ?_
  refine lv_iconst (v := (-1)) hx hb dOn_stop_8 (by decide) ?_
  refine lv_iconst (v := (-1)) hx hb dOn_stop_9 (by decide) ?_
  refine xcv (va_runV ⟨hx, hb, hml, hown, hts⟩ (ktOn_giveEnd l D cA ad N _ formStands forkVariable yes no orderSize reached forerunners blw frontiers parents order waiting v1 (-1) (-1) (-1) _ hw) (cwV 4 hts (goodV kw_527 kw_529 ks_2_0 kw_1 kw_530) rfl rfl rfl (by decide +kernel) ⟨Nat.le_of_ble_eq_true rfl, Nat.le_of_ble_eq_true rfl⟩) (xpreV hK hP hD hN [0, 1, 2, 3, 4, 5, 6, 7, 8, 9, 10, 11] rfl rfl 0 rfl rfl) rfl rfl hl.1 rfl (lv_room (Nat.le_of_ble_eq_true rfl)) dOn_stop_10 ⟨Nat.le_of_ble_eq_true rfl, Nat.le_of_ble_eq_true rfl⟩) hP hD hS hA [0, 1, 2, 3, 4, 5, 6, 7, 8, 9, 10, 11] [] rfl rfl rfl rfl [0, 1, 2, 3, 4, 5, 6, 7, 8, 9, 10, 11] rfl (fun _ => rfl) (fun u H locs hw hP hD hS => ?_)
  obtain ⟨formStands_10, forkVariable_10, yes_10, no_10, orderSize_10, reached_10, forerunners_10, blw_10, frontiers_10, parents_10, order_10, waiting_10⟩ := u
  try dsimp only at hw
  have hP : va_P D vwCl (wdOn_stop cA ad N formStands_10 forkVariable_10 yes_10 no_10 orderSize_10 reached_10 forerunners_10 blw_10 frontiers_10 parents_10 order_10 waiting_10) H := hP
  have hD : va_D A (wdOn_stop cA ad N formStands_10 forkVariable_10 yes_10 no_10 orderSize_10 reached_10 forerunners_10 blw_10 frontiers_10 parents_10 order_10 waiting_10) := hD
  exact hend formStands_10 forkVariable_10 yes_10 no_10 orderSize_10 reached_10 forerunners_10 blw_10 frontiers_10 parents_10 order_10 waiting_10 _ _ _ _ dOn_stop_13 hP hD hS hw
