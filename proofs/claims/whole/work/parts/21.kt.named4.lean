abbrev wdNamedForm_hasName (cA : ClassId) (ad : Nat → Nat) (N : Nat) (homeBlock : Nat → Int32) : va_W := [((ad 18), .inr (3, [.ref (ad 1), .ref (ad 11), .int (nI N), .ref (ad 19), .ref (ad 20), .ref (ad 21), .ref (ad 22), .ref (ad 23), .ref (ad 24), .ref (ad 25), .ref (ad 26), .ref (ad 27), .ref (ad 28), .ref (ad 29)])), ((ad 27), .inl (cA, 600, .inl homeBlock))]
abbrev qcNamedForm_hasName (D : va_G) (cA : ClassId) (ad : Nat → Nat) (N : Nat) (homeBlock : Nat → Int32) (post : Bool → Prop) (A : Nat → Prop) : Array Value → State → Outcome → State → Prop := va_Qi (S := Unit) (fun r u => ∃ z : Bool, r = bI z ∧ post z ) (fun u t => xB D [(cA, .int)] A (wdNamedForm_hasName cA ad N homeBlock) t) A
abbrev rmNamedForm_hasName : Room := { frames := 0, cells := 0, slots := 0, locals := 0 }
set_option maxHeartbeats 4000000 in
set_option maxRecDepth 100000 in
theorem ktNamedForm_hasName (l : Launch) (D : va_G) (cA : ClassId) (ad : Nat → Nat) (N : Nat) (sz : Nat) (homeBlock : Nat → Int32) (v1 : Int32) (post : Bool → Prop) (hw : wpNamedForm_hasName homeBlock v1 post) : Met l yNamedForm_hasName (Cond.code yNamedForm_hasName cNamedForm_hasName 2 (some .boolean) :: xW) rmNamedForm_hasName (va_Pc [.ref (ad 18), .int v1] (xPc D [(cA, .int)] (wdNamedForm_hasName cA ad N homeBlock) sz)) (qcNamedForm_hasName D cA ad N homeBlock post (va_A (wdNamedForm_hasName cA ad N homeBlock) sz)) 0 0 (va_A (wdNamedForm_hasName cA ad N homeBlock) sz) := by
  refine Met.ofW (cc := cNamedForm_hasName) (maxL := 2) (ret := (some .boolean)) (by decide) rfl ?_
  intro p e s m args below meth c s₁ B hml hv
  obtain ⟨rfl, hsz, hP, hK, hD0, hN⟩ := hv
  have hx := B.exec
  have hb := B.bytes
  have hr := B.returns
  have hts := atoms_spec (ws := (Cond.code yNamedForm_hasName cNamedForm_hasName 2 (some .boolean) :: xW)) B.pre
  have hown : s.vm.findClass "OnceNamed$NamedForm" = some m.cls := findClass_of_methodNamed B.named
  have hlocks := B.notSynchronized
  subst hsz
  have hD := hD0.self (sz := s.heap.size)
  generalize hAe : va_A (wdNamedForm_hasName cA ad N homeBlock) s.heap.size = A at hD ⊢
  have hA : ∀ q : Nat, s.heap.size ≤ q → A q := fun q h => by rw [← hAe]; exact Or.inr h
  have hS : va_S A s.heap s.heap [] := va_S.rf
  have hend : ∀ (r : Bool)  (H : Heap) (locs : List Loc) (pc : Nat) (ls : Array Slot), decode cNamedForm_hasName pc = .ok (.ireturn, 1) → va_P D vwCl (wdNamedForm_hasName cA ad N homeBlock) H → va_D A (wdNamedForm_hasName cA ad N homeBlock) → va_S A s.heap H locs → post r  → W p l e (headSpec (Cond.code yNamedForm_hasName cNamedForm_hasName 2 (some .boolean) :: xW) rmNamedForm_hasName).room s m ([.ref (ad 18), .int v1] : List Value).toArray below meth c H locs 0 0 (MQ below (qcNamedForm_hasName D cA ad N homeBlock post A) ([.ref (ad 18), .int v1] : List Value).toArray s 0 0 A) (F0 m pc ls [.int (bI r)]) := fun r  H locs pc ls hd hP hD hS hw => W.zret (v := bI r) hx hb hr (bI_nar r) (fun t ht hW => ⟨⟨bI r, (), rfl, ⟨r, rfl, hw⟩, ⟨by rw [ht]; exact hP, va_K.moved hW.alike hK, hD⟩⟩, hS.F ht⟩) hS.2.2 hd
  generalize hQ : MQ below (qcNamedForm_hasName D cA ad N homeBlock post A) ([.ref (ad 18), .int v1] : List Value).toArray s 0 0 A = Q at hend ⊢
  have hl := lv_entry ([.ref (ad 18), .int v1]) (n := 2) (Nat.le_of_ble_eq_true rfl)
  rw [lg_entry_eq]
  generalize (lg_sl ([.ref (ad 18), .int v1]) ++ List.replicate (2 - (lg_sl ([.ref (ad 18), .int v1])).length) Slot.unset).toArray = ls at hl ⊢
  have hl : lv_has ls 2 [(0, .ref (ad 18)), (1, .int v1)] := hl
  unfold wpNamedForm_hasName at hw
  refine lv_iload_n hx hb dNamedForm_hasName_0 rfl (lv_at hl 1 rfl) ?_
  refine lv_if_lt (tgt := 25) hx hb dNamedForm_hasName_1 rfl (fun hc => ?_) (fun hc => ?_)
  · have hw := hw.1 hc
    refine lv_iconst (v := 0) hx hb dNamedForm_hasName_25 (by decide) ?_
    exact hend false _ _ _ _ dNamedForm_hasName_26 hP hD hS hw
  · have hw := hw.2 hc
    refine lv_iload_n hx hb dNamedForm_hasName_4 rfl (lv_at hl 1 rfl) ?_
    refine lv_sipush (v := 600) hx hb dNamedForm_hasName_5 (by decide) ?_
    refine lv_icmp_ge (tgt := 25) hx hb dNamedForm_hasName_8 rfl (fun hc => ?_) (fun hc => ?_)
    · have hw := hw.1 hc
      refine lv_iconst (v := 0) hx hb dNamedForm_hasName_25 (by decide) ?_
      exact hend false _ _ _ _ dNamedForm_hasName_26 hP hD hS hw
    · have hw := hw.2 hc
      refine lv_aload_n hx hb dNamedForm_hasName_11 rfl (lv_at hl 0 rfl) ?_
      refine va_get (D := D) (ci := 3) (v := .ref (ad 27)) (C := "OnceNamed$NamedForm") (T := TX3) (N := 14) hx hb hts (fun w h => List.mem_cons_of_mem _ (inX3 w h)) hown hK hP 0 rfl rfl 11 (by decide) (hts _ (List.mem_cons_of_mem _ kw_131)) (fun _ h9 => h9) rfl dNamedForm_hasName_12 ?_
      refine lv_iload_n hx hb dNamedForm_hasName_15 rfl (lv_at hl 1 rfl) ?_
      have ho := hw.1
      have hw := hw.2
      refine va_iald hx hb hK hP 1 0 rfl rfl ho dNamedForm_hasName_16 ?_
      refine lv_iconst (v := (-1)) hx hb dNamedForm_hasName_17 (by decide) ?_
      refine lv_icmp_eq (tgt := 25) hx hb dNamedForm_hasName_18 rfl (fun hc => ?_) (fun hc => ?_)
      · have hw := hw.1 hc
        refine lv_iconst (v := 0) hx hb dNamedForm_hasName_25 (by decide) ?_
        exact hend false _ _ _ _ dNamedForm_hasName_26 hP hD hS hw
      · have hw := hw.2 hc
        refine lv_iconst (v := 1) hx hb dNamedForm_hasName_21 (by decide) ?_
        refine lv_goto (tgt := 26) hx hb dNamedForm_hasName_22 rfl ?_
        exact hend true _ _ _ _ dNamedForm_hasName_26 hP hD hS hw
abbrev wdNamedForm_entryName (cA : ClassId) (ad : Nat → Nat) (N : Nat)  : va_W := []
abbrev qcNamedForm_entryName (D : va_G) (cA : ClassId) (ad : Nat → Nat) (N : Nat)  (post : Int32 → Prop) (A : Nat → Prop) : Array Value → State → Outcome → State → Prop := va_Qi (S := Unit) (fun r u => post r ) (fun u t => xB D [(cA, .int)] A (wdNamedForm_entryName cA ad N) t) A
abbrev rmNamedForm_entryName : Room := { frames := 0, cells := 0, slots := 0, locals := 0 }
set_option maxHeartbeats 4000000 in
set_option maxRecDepth 100000 in
theorem ktNamedForm_entryName (l : Launch) (D : va_G) (cA : ClassId) (ad : Nat → Nat) (N : Nat) (sz : Nat)  (v1 : Int32) (post : Int32 → Prop) (hw : wpNamedForm_entryName v1 post) : Met l yNamedForm_entryName (Cond.code yNamedForm_entryName cNamedForm_entryName 2 (some .int) :: xW) rmNamedForm_entryName (va_Pc [.ref (ad 18), .int v1] (xPc D [(cA, .int)] (wdNamedForm_entryName cA ad N) sz)) (qcNamedForm_entryName D cA ad N  post (va_A (wdNamedForm_entryName cA ad N) sz)) 0 0 (va_A (wdNamedForm_entryName cA ad N) sz) := by
  refine Met.ofW (cc := cNamedForm_entryName) (maxL := 2) (ret := (some .int)) (by decide) rfl ?_
  intro p e s m args below meth c s₁ B hml hv
  obtain ⟨rfl, hsz, hP, hK, hD0, hN⟩ := hv
  have hx := B.exec
  have hb := B.bytes
  have hr := B.returns
  have hts := atoms_spec (ws := (Cond.code yNamedForm_entryName cNamedForm_entryName 2 (some .int) :: xW)) B.pre
  have hown : s.vm.findClass "OnceNamed$NamedForm" = some m.cls := findClass_of_methodNamed B.named
  have hlocks := B.notSynchronized
  subst hsz
  have hD := hD0.self (sz := s.heap.size)
  generalize hAe : va_A (wdNamedForm_entryName cA ad N) s.heap.size = A at hD ⊢
  have hA : ∀ q : Nat, s.heap.size ≤ q → A q := fun q h => by rw [← hAe]; exact Or.inr h
  have hS : va_S A s.heap s.heap [] := va_S.rf
  have hend : ∀ (r : Int32)  (H : Heap) (locs : List Loc) (pc : Nat) (ls : Array Slot), decode cNamedForm_entryName pc = .ok (.ireturn, 1) → va_P D vwCl (wdNamedForm_entryName cA ad N) H → va_D A (wdNamedForm_entryName cA ad N) → va_S A s.heap H locs → post r  → W p l e (headSpec (Cond.code yNamedForm_entryName cNamedForm_entryName 2 (some .int) :: xW) rmNamedForm_entryName).room s m ([.ref (ad 18), .int v1] : List Value).toArray below meth c H locs 0 0 (MQ below (qcNamedForm_entryName D cA ad N  post A) ([.ref (ad 18), .int v1] : List Value).toArray s 0 0 A) (F0 m pc ls [.int r]) := fun r  H locs pc ls hd hP hD hS hw => W.iret (v := r) hx hb hr (fun t ht hW => ⟨⟨r, (), rfl, hw, ⟨by rw [ht]; exact hP, va_K.moved hW.alike hK, hD⟩⟩, hS.F ht⟩) hS.2.2 hd
  generalize hQ : MQ below (qcNamedForm_entryName D cA ad N  post A) ([.ref (ad 18), .int v1] : List Value).toArray s 0 0 A = Q at hend ⊢
  have hl := lv_entry ([.ref (ad 18), .int v1]) (n := 2) (Nat.le_of_ble_eq_true rfl)
  rw [lg_entry_eq]
  generalize (lg_sl ([.ref (ad 18), .int v1]) ++ List.replicate (2 - (lg_sl ([.ref (ad 18), .int v1])).length) Slot.unset).toArray = ls at hl ⊢
  have hl : lv_has ls 2 [(0, .ref (ad 18)), (1, .int v1)] := hl
  unfold wpNamedForm_entryName at hw
  refine lv_bipush (v := 100) hx hb dNamedForm_entryName_0 (by decide) ?_
  refine lv_iload_n hx hb dNamedForm_entryName_2 rfl (lv_at hl 1 rfl) ?_
  refine lv_imul hx hb dNamedForm_entryName_3 ?_
  exact hend (100 * v1) _ _ _ _ dNamedForm_entryName_4 hP hD hS hw
abbrev wdNamedForm_meetingName (cA : ClassId) (ad : Nat → Nat) (N : Nat) (meetingNames : Nat → Int32) : va_W := [((ad 18), .inr (3, [.ref (ad 1), .ref (ad 11), .int (nI N), .ref (ad 19), .ref (ad 20), .ref (ad 21), .ref (ad 22), .ref (ad 23), .ref (ad 24), .ref (ad 25), .ref (ad 26), .ref (ad 27), .ref (ad 28), .ref (ad 29)])), ((ad 19), .inl (cA, N * 6, .inl meetingNames))]
abbrev qcNamedForm_meetingName (D : va_G) (cA : ClassId) (ad : Nat → Nat) (N : Nat) (meetingNames : Nat → Int32) (post : Int32 → Prop) (A : Nat → Prop) : Array Value → State → Outcome → State → Prop := va_Qi (S := Unit) (fun r u => post r ) (fun u t => xB D [(cA, .int)] A (wdNamedForm_meetingName cA ad N meetingNames) t) A
abbrev rmNamedForm_meetingName : Room := { frames := 0, cells := 0, slots := 0, locals := 0 }
set_option maxHeartbeats 4000000 in
set_option maxRecDepth 100000 in
theorem ktNamedForm_meetingName (l : Launch) (D : va_G) (cA : ClassId) (ad : Nat → Nat) (N : Nat) (sz : Nat) (meetingNames : Nat → Int32) (v1 : Int32) (v2 : Int32) (post : Int32 → Prop) (hw : wpNamedForm_meetingName N meetingNames v1 v2 post) : Met l yNamedForm_meetingName (Cond.code yNamedForm_meetingName cNamedForm_meetingName 3 (some .int) :: xW) rmNamedForm_meetingName (va_Pc [.ref (ad 18), .int v1, .int v2] (xPc D [(cA, .int)] (wdNamedForm_meetingName cA ad N meetingNames) sz)) (qcNamedForm_meetingName D cA ad N meetingNames post (va_A (wdNamedForm_meetingName cA ad N meetingNames) sz)) 0 0 (va_A (wdNamedForm_meetingName cA ad N meetingNames) sz) := by
  refine Met.ofW (cc := cNamedForm_meetingName) (maxL := 3) (ret := (some .int)) (by decide) rfl ?_
  intro p e s m args below meth c s₁ B hml hv
  obtain ⟨rfl, hsz, hP, hK, hD0, hN⟩ := hv
  have hx := B.exec
  have hb := B.bytes
  have hr := B.returns
  have hts := atoms_spec (ws := (Cond.code yNamedForm_meetingName cNamedForm_meetingName 3 (some .int) :: xW)) B.pre
  have hown : s.vm.findClass "OnceNamed$NamedForm" = some m.cls := findClass_of_methodNamed B.named
  have hlocks := B.notSynchronized
  subst hsz
  have hD := hD0.self (sz := s.heap.size)
  generalize hAe : va_A (wdNamedForm_meetingName cA ad N meetingNames) s.heap.size = A at hD ⊢
  have hA : ∀ q : Nat, s.heap.size ≤ q → A q := fun q h => by rw [← hAe]; exact Or.inr h
  have hS : va_S A s.heap s.heap [] := va_S.rf
  have hend : ∀ (r : Int32)  (H : Heap) (locs : List Loc) (pc : Nat) (ls : Array Slot), decode cNamedForm_meetingName pc = .ok (.ireturn, 1) → va_P D vwCl (wdNamedForm_meetingName cA ad N meetingNames) H → va_D A (wdNamedForm_meetingName cA ad N meetingNames) → va_S A s.heap H locs → post r  → W p l e (headSpec (Cond.code yNamedForm_meetingName cNamedForm_meetingName 3 (some .int) :: xW) rmNamedForm_meetingName).room s m ([.ref (ad 18), .int v1, .int v2] : List Value).toArray below meth c H locs 0 0 (MQ below (qcNamedForm_meetingName D cA ad N meetingNames post A) ([.ref (ad 18), .int v1, .int v2] : List Value).toArray s 0 0 A) (F0 m pc ls [.int r]) := fun r  H locs pc ls hd hP hD hS hw => W.iret (v := r) hx hb hr (fun t ht hW => ⟨⟨r, (), rfl, hw, ⟨by rw [ht]; exact hP, va_K.moved hW.alike hK, hD⟩⟩, hS.F ht⟩) hS.2.2 hd
  generalize hQ : MQ below (qcNamedForm_meetingName D cA ad N meetingNames post A) ([.ref (ad 18), .int v1, .int v2] : List Value).toArray s 0 0 A = Q at hend ⊢
  have hl := lv_entry ([.ref (ad 18), .int v1, .int v2]) (n := 3) (Nat.le_of_ble_eq_true rfl)
  rw [lg_entry_eq]
  generalize (lg_sl ([.ref (ad 18), .int v1, .int v2]) ++ List.replicate (3 - (lg_sl ([.ref (ad 18), .int v1, .int v2])).length) Slot.unset).toArray = ls at hl ⊢
  have hl : lv_has ls 3 [(0, .ref (ad 18)), (1, .int v1), (2, .int v2)] := hl
  unfold wpNamedForm_meetingName at hw
  refine lv_aload_n hx hb dNamedForm_meetingName_0 rfl (lv_at hl 0 rfl) ?_
  refine va_get (D := D) (ci := 3) (v := .ref (ad 19)) (C := "OnceNamed$NamedForm") (T := TX3) (N := 14) hx hb hts (fun w h => List.mem_cons_of_mem _ (inX3 w h)) hown hK hP 0 rfl rfl 3 (by decide) (hts _ (List.mem_cons_of_mem _ kw_123)) (fun _ h9 => h9) rfl dNamedForm_meetingName_1 ?_
  refine lv_iload_n hx hb dNamedForm_meetingName_4 rfl (lv_at hl 1 rfl) ?_
  refine lv_bipush (v := 6) hx hb dNamedForm_meetingName_5 (by decide) ?_
  refine lv_imul hx hb dNamedForm_meetingName_7 ?_
  refine lv_iload_n hx hb dNamedForm_meetingName_8 rfl (lv_at hl 2 rfl) ?_
  refine lv_iadd hx hb dNamedForm_meetingName_9 ?_
  have ho := hw.1
  have hw := hw.2
  refine va_iald hx hb hK hP 1 0 rfl rfl ho dNamedForm_meetingName_10 ?_
  exact hend (meetingNames (Int32.toNatClampNeg ((v1 * 6) + v2))) _ _ _ _ dNamedForm_meetingName_11 hP hD hS hw
abbrev wdNamedForm_meetingUse (cA : ClassId) (ad : Nat → Nat) (N : Nat) (meetingUses : Nat → Int32) : va_W := [((ad 18), .inr (3, [.ref (ad 1), .ref (ad 11), .int (nI N), .ref (ad 19), .ref (ad 20), .ref (ad 21), .ref (ad 22), .ref (ad 23), .ref (ad 24), .ref (ad 25), .ref (ad 26), .ref (ad 27), .ref (ad 28), .ref (ad 29)])), ((ad 20), .inl (cA, N * 6 * (N + 1), .inl meetingUses))]
abbrev qcNamedForm_meetingUse (D : va_G) (cA : ClassId) (ad : Nat → Nat) (N : Nat) (meetingUses : Nat → Int32) (post : Int32 → Prop) (A : Nat → Prop) : Array Value → State → Outcome → State → Prop := va_Qi (S := Unit) (fun r u => post r ) (fun u t => xB D [(cA, .int)] A (wdNamedForm_meetingUse cA ad N meetingUses) t) A
abbrev rmNamedForm_meetingUse : Room := { frames := 1, cells := 0, slots := 0, locals := 23 }
set_option maxHeartbeats 4000000 in
set_option maxRecDepth 100000 in
theorem ktNamedForm_meetingUse (l : Launch) (D : va_G) (cA : ClassId) (ad : Nat → Nat) (N : Nat) (sz : Nat) (meetingUses : Nat → Int32) (v1 : Int32) (v2 : Int32) (v3 : Int32) (post : Int32 → Prop) (hw : wpNamedForm_meetingUse N meetingUses v1 v2 v3 post) : Met l yNamedForm_meetingUse (Cond.code yNamedForm_meetingUse cNamedForm_meetingUse 4 (some .int) :: xW) rmNamedForm_meetingUse (va_Pc [.ref (ad 18), .int v1, .int v2, .int v3] (xPc D [(cA, .int)] (wdNamedForm_meetingUse cA ad N meetingUses) sz)) (qcNamedForm_meetingUse D cA ad N meetingUses post (va_A (wdNamedForm_meetingUse cA ad N meetingUses) sz)) 0 0 (va_A (wdNamedForm_meetingUse cA ad N meetingUses) sz) := by
  refine Met.ofW (cc := cNamedForm_meetingUse) (maxL := 4) (ret := (some .int)) (by decide) rfl ?_
  intro p e s m args below meth c s₁ B hml hv
  obtain ⟨rfl, hsz, hP, hK, hD0, hN⟩ := hv
  have hx := B.exec
  have hb := B.bytes
  have hr := B.returns
  have hts := atoms_spec (ws := (Cond.code yNamedForm_meetingUse cNamedForm_meetingUse 4 (some .int) :: xW)) B.pre
  have hown : s.vm.findClass "OnceNamed$NamedForm" = some m.cls := findClass_of_methodNamed B.named
  have hlocks := B.notSynchronized
  subst hsz
  have hD := hD0.self (sz := s.heap.size)
  generalize hAe : va_A (wdNamedForm_meetingUse cA ad N meetingUses) s.heap.size = A at hD ⊢
  have hA : ∀ q : Nat, s.heap.size ≤ q → A q := fun q h => by rw [← hAe]; exact Or.inr h
  have hS : va_S A s.heap s.heap [] := va_S.rf
  have hend : ∀ (r : Int32)  (H : Heap) (locs : List Loc) (pc : Nat) (ls : Array Slot), decode cNamedForm_meetingUse pc = .ok (.ireturn, 1) → va_P D vwCl (wdNamedForm_meetingUse cA ad N meetingUses) H → va_D A (wdNamedForm_meetingUse cA ad N meetingUses) → va_S A s.heap H locs → post r  → W p l e (headSpec (Cond.code yNamedForm_meetingUse cNamedForm_meetingUse 4 (some .int) :: xW) rmNamedForm_meetingUse).room s m ([.ref (ad 18), .int v1, .int v2, .int v3] : List Value).toArray below meth c H locs 0 0 (MQ below (qcNamedForm_meetingUse D cA ad N meetingUses post A) ([.ref (ad 18), .int v1, .int v2, .int v3] : List Value).toArray s 0 0 A) (F0 m pc ls [.int r]) := fun r  H locs pc ls hd hP hD hS hw => W.iret (v := r) hx hb hr (fun t ht hW => ⟨⟨r, (), rfl, hw, ⟨by rw [ht]; exact hP, va_K.moved hW.alike hK, hD⟩⟩, hS.F ht⟩) hS.2.2 hd
  generalize hQ : MQ below (qcNamedForm_meetingUse D cA ad N meetingUses post A) ([.ref (ad 18), .int v1, .int v2, .int v3] : List Value).toArray s 0 0 A = Q at hend ⊢
  have hl := lv_entry ([.ref (ad 18), .int v1, .int v2, .int v3]) (n := 4) (Nat.le_of_ble_eq_true rfl)
  rw [lg_entry_eq]
  generalize (lg_sl ([.ref (ad 18), .int v1, .int v2, .int v3]) ++ List.replicate (4 - (lg_sl ([.ref (ad 18), .int v1, .int v2, .int v3])).length) Slot.unset).toArray = ls at hl ⊢
  have hl : lv_has ls 4 [(0, .ref (ad 18)), (1, .int v1), (2, .int v2), (3, .int v3)] := hl
  unfold wpNamedForm_meetingUse at hw
  refine lv_aload_n hx hb dNamedForm_meetingUse_0 rfl (lv_at hl 0 rfl) ?_
  refine va_get (D := D) (ci := 3) (v := .ref (ad 20)) (C := "OnceNamed$NamedForm") (T := TX3) (N := 14) hx hb hts (fun w h => List.mem_cons_of_mem _ (inX3 w h)) hown hK hP 0 rfl rfl 4 (by decide) (hts _ (List.mem_cons_of_mem _ kw_124)) (fun _ h9 => h9) rfl dNamedForm_meetingUse_1 ?_
  refine lv_aload_n hx hb dNamedForm_meetingUse_4 rfl (lv_at hl 0 rfl) ?_
  refine lv_iload_n hx hb dNamedForm_meetingUse_5 rfl (lv_at hl 1 rfl) ?_
  refine lv_iload_n hx hb dNamedForm_meetingUse_6 rfl (lv_at hl 2 rfl) ?_
  refine lv_iload_n hx hb dNamedForm_meetingUse_7 rfl (lv_at hl 3 rfl) ?_
  refine xci (va_runV ⟨hx, hb, hml, hown, hts⟩ (ktNamedForm_useOfMeeting l D cA ad N _ v1 v2 v3 _ hw) (cwV 3 hts (goodV kw_397 kw_399 ks_1_13 kw_6 kw_400) rfl rfl rfl (by decide +kernel) ⟨Nat.le_of_ble_eq_true rfl, Nat.le_of_ble_eq_true rfl⟩) (xpreV hK hP hD hN [0] rfl rfl 0 rfl rfl) rfl rfl hl.1 rfl (lv_room (Nat.le_of_ble_eq_true rfl)) dNamedForm_meetingUse_8 ⟨Nat.le_of_ble_eq_true rfl, Nat.le_of_ble_eq_true rfl⟩) hP hD hS hA [0] [1] rfl rfl rfl rfl [1, 0] rfl (fun _ => rfl) (fun r8 u H locs hw hP hD hS => ?_)
  have hP : va_P D vwCl (wdNamedForm_meetingUse cA ad N meetingUses) H := hP
  have hD : va_D A (wdNamedForm_meetingUse cA ad N meetingUses) := hD
  have ho := hw.1
  have hw := hw.2
  refine va_iald hx hb hK hP 1 0 rfl rfl ho dNamedForm_meetingUse_11 ?_
  exact hend (meetingUses (Int32.toNatClampNeg r8)) _ _ _ _ dNamedForm_meetingUse_12 hP hD hS hw
abbrev wdNamedForm_nameSet (cA : ClassId) (ad : Nat → Nat) (N : Nat) (stepNames : Nat → Int32) : va_W := [((ad 18), .inr (3, [.ref (ad 1), .ref (ad 11), .int (nI N), .ref (ad 19), .ref (ad 20), .ref (ad 21), .ref (ad 22), .ref (ad 23), .ref (ad 24), .ref (ad 25), .ref (ad 26), .ref (ad 27), .ref (ad 28), .ref (ad 29)])), ((ad 21), .inl (cA, N * 6, .inl stepNames))]
abbrev qcNamedForm_nameSet (D : va_G) (cA : ClassId) (ad : Nat → Nat) (N : Nat) (stepNames : Nat → Int32) (post : Int32 → Prop) (A : Nat → Prop) : Array Value → State → Outcome → State → Prop := va_Qi (S := Unit) (fun r u => post r ) (fun u t => xB D [(cA, .int)] A (wdNamedForm_nameSet cA ad N stepNames) t) A
abbrev rmNamedForm_nameSet : Room := { frames := 0, cells := 0, slots := 0, locals := 0 }
set_option maxHeartbeats 4000000 in
set_option maxRecDepth 100000 in
theorem ktNamedForm_nameSet (l : Launch) (D : va_G) (cA : ClassId) (ad : Nat → Nat) (N : Nat) (sz : Nat) (stepNames : Nat → Int32) (v1 : Int32) (v2 : Int32) (post : Int32 → Prop) (hw : wpNamedForm_nameSet N stepNames v1 v2 post) : Met l yNamedForm_nameSet (Cond.code yNamedForm_nameSet cNamedForm_nameSet 3 (some .int) :: xW) rmNamedForm_nameSet (va_Pc [.ref (ad 18), .int v1, .int v2] (xPc D [(cA, .int)] (wdNamedForm_nameSet cA ad N stepNames) sz)) (qcNamedForm_nameSet D cA ad N stepNames post (va_A (wdNamedForm_nameSet cA ad N stepNames) sz)) 0 0 (va_A (wdNamedForm_nameSet cA ad N stepNames) sz) := by
  refine Met.ofW (cc := cNamedForm_nameSet) (maxL := 3) (ret := (some .int)) (by decide) rfl ?_
  intro p e s m args below meth c s₁ B hml hv
  obtain ⟨rfl, hsz, hP, hK, hD0, hN⟩ := hv
  have hx := B.exec
  have hb := B.bytes
  have hr := B.returns
  have hts := atoms_spec (ws := (Cond.code yNamedForm_nameSet cNamedForm_nameSet 3 (some .int) :: xW)) B.pre
  have hown : s.vm.findClass "OnceNamed$NamedForm" = some m.cls := findClass_of_methodNamed B.named
  have hlocks := B.notSynchronized
  subst hsz
  have hD := hD0.self (sz := s.heap.size)
  generalize hAe : va_A (wdNamedForm_nameSet cA ad N stepNames) s.heap.size = A at hD ⊢
  have hA : ∀ q : Nat, s.heap.size ≤ q → A q := fun q h => by rw [← hAe]; exact Or.inr h
  have hS : va_S A s.heap s.heap [] := va_S.rf
  have hend : ∀ (r : Int32)  (H : Heap) (locs : List Loc) (pc : Nat) (ls : Array Slot), decode cNamedForm_nameSet pc = .ok (.ireturn, 1) → va_P D vwCl (wdNamedForm_nameSet cA ad N stepNames) H → va_D A (wdNamedForm_nameSet cA ad N stepNames) → va_S A s.heap H locs → post r  → W p l e (headSpec (Cond.code yNamedForm_nameSet cNamedForm_nameSet 3 (some .int) :: xW) rmNamedForm_nameSet).room s m ([.ref (ad 18), .int v1, .int v2] : List Value).toArray below meth c H locs 0 0 (MQ below (qcNamedForm_nameSet D cA ad N stepNames post A) ([.ref (ad 18), .int v1, .int v2] : List Value).toArray s 0 0 A) (F0 m pc ls [.int r]) := fun r  H locs pc ls hd hP hD hS hw => W.iret (v := r) hx hb hr (fun t ht hW => ⟨⟨r, (), rfl, hw, ⟨by rw [ht]; exact hP, va_K.moved hW.alike hK, hD⟩⟩, hS.F ht⟩) hS.2.2 hd
  generalize hQ : MQ below (qcNamedForm_nameSet D cA ad N stepNames post A) ([.ref (ad 18), .int v1, .int v2] : List Value).toArray s 0 0 A = Q at hend ⊢
  have hl := lv_entry ([.ref (ad 18), .int v1, .int v2]) (n := 3) (Nat.le_of_ble_eq_true rfl)
  rw [lg_entry_eq]
  generalize (lg_sl ([.ref (ad 18), .int v1, .int v2]) ++ List.replicate (3 - (lg_sl ([.ref (ad 18), .int v1, .int v2])).length) Slot.unset).toArray = ls at hl ⊢
  have hl : lv_has ls 3 [(0, .ref (ad 18)), (1, .int v1), (2, .int v2)] := hl
  unfold wpNamedForm_nameSet at hw
  refine lv_aload_n hx hb dNamedForm_nameSet_0 rfl (lv_at hl 0 rfl) ?_
  refine va_get (D := D) (ci := 3) (v := .ref (ad 21)) (C := "OnceNamed$NamedForm") (T := TX3) (N := 14) hx hb hts (fun w h => List.mem_cons_of_mem _ (inX3 w h)) hown hK hP 0 rfl rfl 5 (by decide) (hts _ (List.mem_cons_of_mem _ kw_125)) (fun _ h9 => h9) rfl dNamedForm_nameSet_1 ?_
  refine lv_iload_n hx hb dNamedForm_nameSet_4 rfl (lv_at hl 1 rfl) ?_
  refine lv_bipush (v := 6) hx hb dNamedForm_nameSet_5 (by decide) ?_
  refine lv_imul hx hb dNamedForm_nameSet_7 ?_
  refine lv_iload_n hx hb dNamedForm_nameSet_8 rfl (lv_at hl 2 rfl) ?_
  refine lv_iadd hx hb dNamedForm_nameSet_9 ?_
  have ho := hw.1
  have hw := hw.2
  refine va_iald hx hb hK hP 1 0 rfl rfl ho dNamedForm_nameSet_10 ?_
  exact hend (stepNames (Int32.toNatClampNeg ((v1 * 6) + v2))) _ _ _ _ dNamedForm_nameSet_11 hP hD hS hw
abbrev wdNamedForm_stepUse (cA : ClassId) (ad : Nat → Nat) (N : Nat) (firstUses : Nat → Int32) (secondUses : Nat → Int32) : va_W := [((ad 18), .inr (3, [.ref (ad 1), .ref (ad 11), .int (nI N), .ref (ad 19), .ref (ad 20), .ref (ad 21), .ref (ad 22), .ref (ad 23), .ref (ad 24), .ref (ad 25), .ref (ad 26), .ref (ad 27), .ref (ad 28), .ref (ad 29)])), ((ad 22), .inl (cA, N * 6, .inl firstUses)), ((ad 23), .inl (cA, N * 6, .inl secondUses))]
abbrev qcNamedForm_stepUse (D : va_G) (cA : ClassId) (ad : Nat → Nat) (N : Nat) (firstUses : Nat → Int32) (secondUses : Nat → Int32) (post : Int32 → Prop) (A : Nat → Prop) : Array Value → State → Outcome → State → Prop := va_Qi (S := Unit) (fun r u => post r ) (fun u t => xB D [(cA, .int)] A (wdNamedForm_stepUse cA ad N firstUses secondUses) t) A
abbrev rmNamedForm_stepUse : Room := { frames := 0, cells := 0, slots := 0, locals := 0 }
set_option maxHeartbeats 4000000 in
set_option maxRecDepth 100000 in
theorem ktNamedForm_stepUse (l : Launch) (D : va_G) (cA : ClassId) (ad : Nat → Nat) (N : Nat) (sz : Nat) (firstUses : Nat → Int32) (secondUses : Nat → Int32) (v1 : Int32) (v2 : Int32) (v3 : Int32) (post : Int32 → Prop) (hw : wpNamedForm_stepUse N firstUses secondUses v1 v2 v3 post) : Met l yNamedForm_stepUse (Cond.code yNamedForm_stepUse cNamedForm_stepUse 5 (some .int) :: xW) rmNamedForm_stepUse (va_Pc [.ref (ad 18), .int v1, .int v2, .int v3] (xPc D [(cA, .int)] (wdNamedForm_stepUse cA ad N firstUses secondUses) sz)) (qcNamedForm_stepUse D cA ad N firstUses secondUses post (va_A (wdNamedForm_stepUse cA ad N firstUses secondUses) sz)) 0 0 (va_A (wdNamedForm_stepUse cA ad N firstUses secondUses) sz) := by
  refine Met.ofW (cc := cNamedForm_stepUse) (maxL := 5) (ret := (some .int)) (by decide) rfl ?_
  intro p e s m args below meth c s₁ B hml hv
  obtain ⟨rfl, hsz, hP, hK, hD0, hN⟩ := hv
  have hx := B.exec
  have hb := B.bytes
  have hr := B.returns
  have hts := atoms_spec (ws := (Cond.code yNamedForm_stepUse cNamedForm_stepUse 5 (some .int) :: xW)) B.pre
  have hown : s.vm.findClass "OnceNamed$NamedForm" = some m.cls := findClass_of_methodNamed B.named
  have hlocks := B.notSynchronized
  subst hsz
  have hD := hD0.self (sz := s.heap.size)
  generalize hAe : va_A (wdNamedForm_stepUse cA ad N firstUses secondUses) s.heap.size = A at hD ⊢
  have hA : ∀ q : Nat, s.heap.size ≤ q → A q := fun q h => by rw [← hAe]; exact Or.inr h
  have hS : va_S A s.heap s.heap [] := va_S.rf
  have hend : ∀ (r : Int32)  (H : Heap) (locs : List Loc) (pc : Nat) (ls : Array Slot), decode cNamedForm_stepUse pc = .ok (.ireturn, 1) → va_P D vwCl (wdNamedForm_stepUse cA ad N firstUses secondUses) H → va_D A (wdNamedForm_stepUse cA ad N firstUses secondUses) → va_S A s.heap H locs → post r  → W p l e (headSpec (Cond.code yNamedForm_stepUse cNamedForm_stepUse 5 (some .int) :: xW) rmNamedForm_stepUse).room s m ([.ref (ad 18), .int v1, .int v2, .int v3] : List Value).toArray below meth c H locs 0 0 (MQ below (qcNamedForm_stepUse D cA ad N firstUses secondUses post A) ([.ref (ad 18), .int v1, .int v2, .int v3] : List Value).toArray s 0 0 A) (F0 m pc ls [.int r]) := fun r  H locs pc ls hd hP hD hS hw => W.iret (v := r) hx hb hr (fun t ht hW => ⟨⟨r, (), rfl, hw, ⟨by rw [ht]; exact hP, va_K.moved hW.alike hK, hD⟩⟩, hS.F ht⟩) hS.2.2 hd
  generalize hQ : MQ below (qcNamedForm_stepUse D cA ad N firstUses secondUses post A) ([.ref (ad 18), .int v1, .int v2, .int v3] : List Value).toArray s 0 0 A = Q at hend ⊢
  have hl := lv_entry ([.ref (ad 18), .int v1, .int v2, .int v3]) (n := 5) (Nat.le_of_ble_eq_true rfl)
  rw [lg_entry_eq]
  generalize (lg_sl ([.ref (ad 18), .int v1, .int v2, .int v3]) ++ List.replicate (5 - (lg_sl ([.ref (ad 18), .int v1, .int v2, .int v3])).length) Slot.unset).toArray = ls at hl ⊢
  have hl : lv_has ls 5 [(0, .ref (ad 18)), (1, .int v1), (2, .int v2), (3, .int v3)] := hl
  unfold wpNamedForm_stepUse at hw
  refine lv_iload_n hx hb dNamedForm_stepUse_0 rfl (lv_at hl 1 rfl) ?_
  refine lv_bipush (v := 6) hx hb dNamedForm_stepUse_1 (by decide) ?_
  refine lv_imul hx hb dNamedForm_stepUse_3 ?_
  refine lv_iload_n hx hb dNamedForm_stepUse_4 rfl (lv_at hl 2 rfl) ?_
  refine lv_iadd hx hb dNamedForm_stepUse_5 ?_
  refine lv_topi (fun v4_6 e_v4_6 => ?_)
  have hw := hw v4_6 e_v4_6
  refine lv_istore (lv' := [(4, .int v4_6), (0, .ref (ad 18)), (1, .int v1), (2, .int v2), (3, .int v3)]) hx hb dNamedForm_stepUse_6 hl (by decide) rfl (fun ls hl => ?_)
  refine lv_iload_n hx hb dNamedForm_stepUse_8 rfl (lv_at hl 4 rfl) ?_
  refine lv_if_ne (tgt := 22) hx hb dNamedForm_stepUse_9 rfl (fun hc => ?_) (fun hc => ?_)
  · have hw := hw.1 hc
    refine lv_aload_n hx hb dNamedForm_stepUse_22 rfl (lv_at hl 1 rfl) ?_
    refine va_get (D := D) (ci := 3) (v := .ref (ad 23)) (C := "OnceNamed$NamedForm") (T := TX3) (N := 14) hx hb hts (fun w h => List.mem_cons_of_mem _ (inX3 w h)) hown hK hP 0 rfl rfl 7 (by decide) (hts _ (List.mem_cons_of_mem _ kw_127)) (fun _ h9 => h9) rfl dNamedForm_stepUse_23 ?_
    refine lv_iload hx hb dNamedForm_stepUse_26 (lv_at hl 0 rfl) ?_
    have ho := hw.1
    have hw := hw.2
    refine va_iald hx hb hK hP 2 0 rfl rfl ho dNamedForm_stepUse_28 ?_
    exact hend (secondUses (Int32.toNatClampNeg v4_6)) _ _ _ _ dNamedForm_stepUse_29 hP hD hS hw
  · have hw := hw.2 hc
    refine lv_aload_n hx hb dNamedForm_stepUse_12 rfl (lv_at hl 1 rfl) ?_
    refine va_get (D := D) (ci := 3) (v := .ref (ad 22)) (C := "OnceNamed$NamedForm") (T := TX3) (N := 14) hx hb hts (fun w h => List.mem_cons_of_mem _ (inX3 w h)) hown hK hP 0 rfl rfl 6 (by decide) (hts _ (List.mem_cons_of_mem _ kw_126)) (fun _ h9 => h9) rfl dNamedForm_stepUse_13 ?_
    refine lv_iload hx hb dNamedForm_stepUse_16 (lv_at hl 0 rfl) ?_
    have ho := hw.1
    have hw := hw.2
    refine va_iald hx hb hK hP 1 0 rfl rfl ho dNamedForm_stepUse_18 ?_
    refine lv_goto (tgt := 29) hx hb dNamedForm_stepUse_19 rfl ?_
    exact hend (firstUses (Int32.toNatClampNeg v4_6)) _ _ _ _ dNamedForm_stepUse_29 hP hD hS hw
abbrev wdNamedForm_endUse (cA : ClassId) (ad : Nat → Nat) (N : Nat) (endUses : Nat → Int32) : va_W := [((ad 18), .inr (3, [.ref (ad 1), .ref (ad 11), .int (nI N), .ref (ad 19), .ref (ad 20), .ref (ad 21), .ref (ad 22), .ref (ad 23), .ref (ad 24), .ref (ad 25), .ref (ad 26), .ref (ad 27), .ref (ad 28), .ref (ad 29)])), ((ad 24), .inl (cA, N, .inl endUses))]
abbrev qcNamedForm_endUse (D : va_G) (cA : ClassId) (ad : Nat → Nat) (N : Nat) (endUses : Nat → Int32) (post : Int32 → Prop) (A : Nat → Prop) : Array Value → State → Outcome → State → Prop := va_Qi (S := Unit) (fun r u => post r ) (fun u t => xB D [(cA, .int)] A (wdNamedForm_endUse cA ad N endUses) t) A
abbrev rmNamedForm_endUse : Room := { frames := 0, cells := 0, slots := 0, locals := 0 }
set_option maxHeartbeats 4000000 in
set_option maxRecDepth 100000 in
theorem ktNamedForm_endUse (l : Launch) (D : va_G) (cA : ClassId) (ad : Nat → Nat) (N : Nat) (sz : Nat) (endUses : Nat → Int32) (v1 : Int32) (post : Int32 → Prop) (hw : wpNamedForm_endUse N endUses v1 post) : Met l yNamedForm_endUse (Cond.code yNamedForm_endUse cNamedForm_endUse 2 (some .int) :: xW) rmNamedForm_endUse (va_Pc [.ref (ad 18), .int v1] (xPc D [(cA, .int)] (wdNamedForm_endUse cA ad N endUses) sz)) (qcNamedForm_endUse D cA ad N endUses post (va_A (wdNamedForm_endUse cA ad N endUses) sz)) 0 0 (va_A (wdNamedForm_endUse cA ad N endUses) sz) := by
  refine Met.ofW (cc := cNamedForm_endUse) (maxL := 2) (ret := (some .int)) (by decide) rfl ?_
  intro p e s m args below meth c s₁ B hml hv
  obtain ⟨rfl, hsz, hP, hK, hD0, hN⟩ := hv
  have hx := B.exec
  have hb := B.bytes
  have hr := B.returns
  have hts := atoms_spec (ws := (Cond.code yNamedForm_endUse cNamedForm_endUse 2 (some .int) :: xW)) B.pre
  have hown : s.vm.findClass "OnceNamed$NamedForm" = some m.cls := findClass_of_methodNamed B.named
  have hlocks := B.notSynchronized
  subst hsz
  have hD := hD0.self (sz := s.heap.size)
  generalize hAe : va_A (wdNamedForm_endUse cA ad N endUses) s.heap.size = A at hD ⊢
  have hA : ∀ q : Nat, s.heap.size ≤ q → A q := fun q h => by rw [← hAe]; exact Or.inr h
  have hS : va_S A s.heap s.heap [] := va_S.rf
  have hend : ∀ (r : Int32)  (H : Heap) (locs : List Loc) (pc : Nat) (ls : Array Slot), decode cNamedForm_endUse pc = .ok (.ireturn, 1) → va_P D vwCl (wdNamedForm_endUse cA ad N endUses) H → va_D A (wdNamedForm_endUse cA ad N endUses) → va_S A s.heap H locs → post r  → W p l e (headSpec (Cond.code yNamedForm_endUse cNamedForm_endUse 2 (some .int) :: xW) rmNamedForm_endUse).room s m ([.ref (ad 18), .int v1] : List Value).toArray below meth c H locs 0 0 (MQ below (qcNamedForm_endUse D cA ad N endUses post A) ([.ref (ad 18), .int v1] : List Value).toArray s 0 0 A) (F0 m pc ls [.int r]) := fun r  H locs pc ls hd hP hD hS hw => W.iret (v := r) hx hb hr (fun t ht hW => ⟨⟨r, (), rfl, hw, ⟨by rw [ht]; exact hP, va_K.moved hW.alike hK, hD⟩⟩, hS.F ht⟩) hS.2.2 hd
  generalize hQ : MQ below (qcNamedForm_endUse D cA ad N endUses post A) ([.ref (ad 18), .int v1] : List Value).toArray s 0 0 A = Q at hend ⊢
  have hl := lv_entry ([.ref (ad 18), .int v1]) (n := 2) (Nat.le_of_ble_eq_true rfl)
  rw [lg_entry_eq]
  generalize (lg_sl ([.ref (ad 18), .int v1]) ++ List.replicate (2 - (lg_sl ([.ref (ad 18), .int v1])).length) Slot.unset).toArray = ls at hl ⊢
  have hl : lv_has ls 2 [(0, .ref (ad 18)), (1, .int v1)] := hl
  unfold wpNamedForm_endUse at hw
  refine lv_aload_n hx hb dNamedForm_endUse_0 rfl (lv_at hl 0 rfl) ?_
  refine va_get (D := D) (ci := 3) (v := .ref (ad 24)) (C := "OnceNamed$NamedForm") (T := TX3) (N := 14) hx hb hts (fun w h => List.mem_cons_of_mem _ (inX3 w h)) hown hK hP 0 rfl rfl 8 (by decide) (hts _ (List.mem_cons_of_mem _ kw_128)) (fun _ h9 => h9) rfl dNamedForm_endUse_1 ?_
  refine lv_iload_n hx hb dNamedForm_endUse_4 rfl (lv_at hl 1 rfl) ?_
  have ho := hw.1
  have hw := hw.2
  refine va_iald hx hb hK hP 1 0 rfl rfl ho dNamedForm_endUse_5 ?_
  exact hend (endUses (Int32.toNatClampNeg v1)) _ _ _ _ dNamedForm_endUse_6 hP hD hS hw
abbrev wdNamedForm_changeEndUse (cA : ClassId) (ad : Nat → Nat) (N : Nat) (endUses : Nat → Int32) : va_W := [((ad 18), .inr (3, [.ref (ad 1), .ref (ad 11), .int (nI N), .ref (ad 19), .ref (ad 20), .ref (ad 21), .ref (ad 22), .ref (ad 23), .ref (ad 24), .ref (ad 25), .ref (ad 26), .ref (ad 27), .ref (ad 28), .ref (ad 29)])), ((ad 24), .inl (cA, N, .inl endUses))]
abbrev qcNamedForm_changeEndUse (D : va_G) (cA : ClassId) (ad : Nat → Nat) (N : Nat) (endUses : Nat → Int32) (post : (Nat → Int32) → Prop) (A : Nat → Prop) : Array Value → State → Outcome → State → Prop := va_Qv (S := (Nat → Int32)) (fun u => post u) (fun u t => xB D [(cA, .int)] A (wdNamedForm_changeEndUse cA ad N u) t) A
abbrev rmNamedForm_changeEndUse : Room := { frames := 0, cells := 0, slots := 0, locals := 0 }
set_option maxHeartbeats 4000000 in
set_option maxRecDepth 100000 in
theorem ktNamedForm_changeEndUse (l : Launch) (D : va_G) (cA : ClassId) (ad : Nat → Nat) (N : Nat) (sz : Nat) (endUses : Nat → Int32) (v1 : Int32) (v2 : Int32) (post : (Nat → Int32) → Prop) (hw : wpNamedForm_changeEndUse N endUses v1 v2 post) : Met l yNamedForm_changeEndUse (Cond.code yNamedForm_changeEndUse cNamedForm_changeEndUse 3 none :: xW) rmNamedForm_changeEndUse (va_Pc [.ref (ad 18), .int v1, .int v2] (xPc D [(cA, .int)] (wdNamedForm_changeEndUse cA ad N endUses) sz)) (qcNamedForm_changeEndUse D cA ad N endUses post (va_A (wdNamedForm_changeEndUse cA ad N endUses) sz)) 0 0 (va_A (wdNamedForm_changeEndUse cA ad N endUses) sz) := by
  refine Met.ofW (cc := cNamedForm_changeEndUse) (maxL := 3) (ret := none) (by decide) rfl ?_
  intro p e s m args below meth c s₁ B hml hv
  obtain ⟨rfl, hsz, hP, hK, hD0, hN⟩ := hv
  have hx := B.exec
  have hb := B.bytes
  have hr := B.returns
  have hts := atoms_spec (ws := (Cond.code yNamedForm_changeEndUse cNamedForm_changeEndUse 3 none :: xW)) B.pre
  have hown : s.vm.findClass "OnceNamed$NamedForm" = some m.cls := findClass_of_methodNamed B.named
  have hlocks := B.notSynchronized
  subst hsz
  have hD := hD0.self (sz := s.heap.size)
  generalize hAe : va_A (wdNamedForm_changeEndUse cA ad N endUses) s.heap.size = A at hD ⊢
  have hA : ∀ q : Nat, s.heap.size ≤ q → A q := fun q h => by rw [← hAe]; exact Or.inr h
  have hS : va_S A s.heap s.heap [] := va_S.rf
  have hend : ∀ (u0 : Nat → Int32) (H : Heap) (locs : List Loc) (pc : Nat) (ls : Array Slot), decode cNamedForm_changeEndUse pc = .ok (.return_, 1) → va_P D vwCl (wdNamedForm_changeEndUse cA ad N u0) H → va_D A (wdNamedForm_changeEndUse cA ad N u0) → va_S A s.heap H locs → post u0 → W p l e (headSpec (Cond.code yNamedForm_changeEndUse cNamedForm_changeEndUse 3 none :: xW) rmNamedForm_changeEndUse).room s m ([.ref (ad 18), .int v1, .int v2] : List Value).toArray below meth c H locs 0 0 (MQ below (qcNamedForm_changeEndUse D cA ad N endUses post A) ([.ref (ad 18), .int v1, .int v2] : List Value).toArray s 0 0 A) (F0 m pc ls []) := fun u0 H locs pc ls hd hP hD hS hw => W.vret hx hb hr (fun t ht hW => ⟨⟨u0, rfl, hw, ⟨by rw [ht]; exact hP, va_K.moved hW.alike hK, hD⟩⟩, hS.F ht⟩) hS.2.2 hd
  generalize hQ : MQ below (qcNamedForm_changeEndUse D cA ad N endUses post A) ([.ref (ad 18), .int v1, .int v2] : List Value).toArray s 0 0 A = Q at hend ⊢
  have hl := lv_entry ([.ref (ad 18), .int v1, .int v2]) (n := 3) (Nat.le_of_ble_eq_true rfl)
  rw [lg_entry_eq]
  generalize (lg_sl ([.ref (ad 18), .int v1, .int v2]) ++ List.replicate (3 - (lg_sl ([.ref (ad 18), .int v1, .int v2])).length) Slot.unset).toArray = ls at hl ⊢
  have hl : lv_has ls 3 [(0, .ref (ad 18)), (1, .int v1), (2, .int v2)] := hl
  unfold wpNamedForm_changeEndUse at hw
  refine lv_aload_n hx hb dNamedForm_changeEndUse_0 rfl (lv_at hl 0 rfl) ?_
  refine va_get (D := D) (ci := 3) (v := .ref (ad 24)) (C := "OnceNamed$NamedForm") (T := TX3) (N := 14) hx hb hts (fun w h => List.mem_cons_of_mem _ (inX3 w h)) hown hK hP 0 rfl rfl 8 (by decide) (hts _ (List.mem_cons_of_mem _ kw_128)) (fun _ h9 => h9) rfl dNamedForm_changeEndUse_1 ?_
  refine lv_iload_n hx hb dNamedForm_changeEndUse_4 rfl (lv_at hl 1 rfl) ?_
  refine lv_iload_n hx hb dNamedForm_changeEndUse_5 rfl (lv_at hl 2 rfl) ?_
  have ho := hw.1
  have hw := hw.2
  refine va_iast hx hb hK hP hD hS 1 0 rfl rfl ho dNamedForm_changeEndUse_6 (fun H locs hP hD hS => ?_)
  have hP : va_P D vwCl (wdNamedForm_changeEndUse cA ad N (upd endUses (Int32.toNatClampNeg v1) v2)) H := hP
  have hD : va_D A (wdNamedForm_changeEndUse cA ad N (upd endUses (Int32.toNatClampNeg v1) v2)) := hD
  exact hend (upd endUses (Int32.toNatClampNeg v1) v2) _ _ _ _ dNamedForm_changeEndUse_7 hP hD hS hw
abbrev wdNamedForm_changeStepUse (cA : ClassId) (ad : Nat → Nat) (N : Nat) (firstUses : Nat → Int32) (secondUses : Nat → Int32) : va_W := [((ad 18), .inr (3, [.ref (ad 1), .ref (ad 11), .int (nI N), .ref (ad 19), .ref (ad 20), .ref (ad 21), .ref (ad 22), .ref (ad 23), .ref (ad 24), .ref (ad 25), .ref (ad 26), .ref (ad 27), .ref (ad 28), .ref (ad 29)])), ((ad 22), .inl (cA, N * 6, .inl firstUses)), ((ad 23), .inl (cA, N * 6, .inl secondUses))]
abbrev qcNamedForm_changeStepUse (D : va_G) (cA : ClassId) (ad : Nat → Nat) (N : Nat) (firstUses : Nat → Int32) (secondUses : Nat → Int32) (post : (Nat → Int32) → (Nat → Int32) → Prop) (A : Nat → Prop) : Array Value → State → Outcome → State → Prop := va_Qv (S := (Nat → Int32) × (Nat → Int32)) (fun u => post u.1 u.2) (fun u t => xB D [(cA, .int)] A (wdNamedForm_changeStepUse cA ad N u.1 u.2) t) A
abbrev rmNamedForm_changeStepUse : Room := { frames := 0, cells := 0, slots := 0, locals := 0 }
set_option maxHeartbeats 4000000 in
set_option maxRecDepth 100000 in
theorem ktNamedForm_changeStepUse (l : Launch) (D : va_G) (cA : ClassId) (ad : Nat → Nat) (N : Nat) (sz : Nat) (firstUses : Nat → Int32) (secondUses : Nat → Int32) (v1 : Int32) (v2 : Int32) (v3 : Int32) (v4 : Int32) (post : (Nat → Int32) → (Nat → Int32) → Prop) (hw : wpNamedForm_changeStepUse N firstUses secondUses v1 v2 v3 v4 post) : Met l yNamedForm_changeStepUse (Cond.code yNamedForm_changeStepUse cNamedForm_changeStepUse 6 none :: xW) rmNamedForm_changeStepUse (va_Pc [.ref (ad 18), .int v1, .int v2, .int v3, .int v4] (xPc D [(cA, .int)] (wdNamedForm_changeStepUse cA ad N firstUses secondUses) sz)) (qcNamedForm_changeStepUse D cA ad N firstUses secondUses post (va_A (wdNamedForm_changeStepUse cA ad N firstUses secondUses) sz)) 0 0 (va_A (wdNamedForm_changeStepUse cA ad N firstUses secondUses) sz) := by
  refine Met.ofW (cc := cNamedForm_changeStepUse) (maxL := 6) (ret := none) (by decide) rfl ?_
  intro p e s m args below meth c s₁ B hml hv
  obtain ⟨rfl, hsz, hP, hK, hD0, hN⟩ := hv
  have hx := B.exec
  have hb := B.bytes
  have hr := B.returns
  have hts := atoms_spec (ws := (Cond.code yNamedForm_changeStepUse cNamedForm_changeStepUse 6 none :: xW)) B.pre
  have hown : s.vm.findClass "OnceNamed$NamedForm" = some m.cls := findClass_of_methodNamed B.named
  have hlocks := B.notSynchronized
  subst hsz
  have hD := hD0.self (sz := s.heap.size)
  generalize hAe : va_A (wdNamedForm_changeStepUse cA ad N firstUses secondUses) s.heap.size = A at hD ⊢
  have hA : ∀ q : Nat, s.heap.size ≤ q → A q := fun q h => by rw [← hAe]; exact Or.inr h
  have hS : va_S A s.heap s.heap [] := va_S.rf
  have hend : ∀ (u0 : Nat → Int32) (u1 : Nat → Int32) (H : Heap) (locs : List Loc) (pc : Nat) (ls : Array Slot), decode cNamedForm_changeStepUse pc = .ok (.return_, 1) → va_P D vwCl (wdNamedForm_changeStepUse cA ad N u0 u1) H → va_D A (wdNamedForm_changeStepUse cA ad N u0 u1) → va_S A s.heap H locs → post u0 u1 → W p l e (headSpec (Cond.code yNamedForm_changeStepUse cNamedForm_changeStepUse 6 none :: xW) rmNamedForm_changeStepUse).room s m ([.ref (ad 18), .int v1, .int v2, .int v3, .int v4] : List Value).toArray below meth c H locs 0 0 (MQ below (qcNamedForm_changeStepUse D cA ad N firstUses secondUses post A) ([.ref (ad 18), .int v1, .int v2, .int v3, .int v4] : List Value).toArray s 0 0 A) (F0 m pc ls []) := fun u0 u1 H locs pc ls hd hP hD hS hw => W.vret hx hb hr (fun t ht hW => ⟨⟨(u0, u1), rfl, hw, ⟨by rw [ht]; exact hP, va_K.moved hW.alike hK, hD⟩⟩, hS.F ht⟩) hS.2.2 hd
  generalize hQ : MQ below (qcNamedForm_changeStepUse D cA ad N firstUses secondUses post A) ([.ref (ad 18), .int v1, .int v2, .int v3, .int v4] : List Value).toArray s 0 0 A = Q at hend ⊢
  have hl := lv_entry ([.ref (ad 18), .int v1, .int v2, .int v3, .int v4]) (n := 6) (Nat.le_of_ble_eq_true rfl)
  rw [lg_entry_eq]
  generalize (lg_sl ([.ref (ad 18), .int v1, .int v2, .int v3, .int v4]) ++ List.replicate (6 - (lg_sl ([.ref (ad 18), .int v1, .int v2, .int v3, .int v4])).length) Slot.unset).toArray = ls at hl ⊢
  have hl : lv_has ls 6 [(0, .ref (ad 18)), (1, .int v1), (2, .int v2), (3, .int v3), (4, .int v4)] := hl
  unfold wpNamedForm_changeStepUse at hw
  refine lv_iload_n hx hb dNamedForm_changeStepUse_0 rfl (lv_at hl 1 rfl) ?_
  refine lv_bipush (v := 6) hx hb dNamedForm_changeStepUse_1 (by decide) ?_
  refine lv_imul hx hb dNamedForm_changeStepUse_3 ?_
  refine lv_iload_n hx hb dNamedForm_changeStepUse_4 rfl (lv_at hl 2 rfl) ?_
  refine lv_iadd hx hb dNamedForm_changeStepUse_5 ?_
  refine lv_topi (fun v5_6 e_v5_6 => ?_)
  have hw := hw v5_6 e_v5_6
  refine lv_istore (lv' := [(5, .int v5_6), (0, .ref (ad 18)), (1, .int v1), (2, .int v2), (3, .int v3), (4, .int v4)]) hx hb dNamedForm_changeStepUse_6 hl (by decide) rfl (fun ls hl => ?_)
  refine lv_iload_n hx hb dNamedForm_changeStepUse_8 rfl (lv_at hl 4 rfl) ?_
  refine lv_if_ne (tgt := 24) hx hb dNamedForm_changeStepUse_9 rfl (fun hc => ?_) (fun hc => ?_)
  · have hw := hw.1 hc
    refine lv_aload_n hx hb dNamedForm_changeStepUse_24 rfl (lv_at hl 1 rfl) ?_
    refine va_get (D := D) (ci := 3) (v := .ref (ad 23)) (C := "OnceNamed$NamedForm") (T := TX3) (N := 14) hx hb hts (fun w h => List.mem_cons_of_mem _ (inX3 w h)) hown hK hP 0 rfl rfl 7 (by decide) (hts _ (List.mem_cons_of_mem _ kw_127)) (fun _ h9 => h9) rfl dNamedForm_changeStepUse_25 ?_
    refine lv_iload hx hb dNamedForm_changeStepUse_28 (lv_at hl 0 rfl) ?_
    refine lv_iload hx hb dNamedForm_changeStepUse_30 (lv_at hl 5 rfl) ?_
    have ho := hw.1
    have hw := hw.2
    refine va_iast hx hb hK hP hD hS 2 0 rfl rfl ho dNamedForm_changeStepUse_32 (fun H locs hP hD hS => ?_)
    have hP : va_P D vwCl (wdNamedForm_changeStepUse cA ad N firstUses (upd secondUses (Int32.toNatClampNeg v5_6) v4)) H := hP
    have hD : va_D A (wdNamedForm_changeStepUse cA ad N firstUses (upd secondUses (Int32.toNatClampNeg v5_6) v4)) := hD
    exact hend firstUses (upd secondUses (Int32.toNatClampNeg v5_6) v4) _ _ _ _ dNamedForm_changeStepUse_33 hP hD hS hw
  · have hw := hw.2 hc
    refine lv_aload_n hx hb dNamedForm_changeStepUse_12 rfl (lv_at hl 1 rfl) ?_
    refine va_get (D := D) (ci := 3) (v := .ref (ad 22)) (C := "OnceNamed$NamedForm") (T := TX3) (N := 14) hx hb hts (fun w h => List.mem_cons_of_mem _ (inX3 w h)) hown hK hP 0 rfl rfl 6 (by decide) (hts _ (List.mem_cons_of_mem _ kw_126)) (fun _ h9 => h9) rfl dNamedForm_changeStepUse_13 ?_
    refine lv_iload hx hb dNamedForm_changeStepUse_16 (lv_at hl 0 rfl) ?_
    refine lv_iload hx hb dNamedForm_changeStepUse_18 (lv_at hl 5 rfl) ?_
    have ho := hw.1
    have hw := hw.2
    refine va_iast hx hb hK hP hD hS 1 0 rfl rfl ho dNamedForm_changeStepUse_20 (fun H locs hP hD hS => ?_)
    have hP : va_P D vwCl (wdNamedForm_changeStepUse cA ad N (upd firstUses (Int32.toNatClampNeg v5_6) v4) secondUses) H := hP
    have hD : va_D A (wdNamedForm_changeStepUse cA ad N (upd firstUses (Int32.toNatClampNeg v5_6) v4) secondUses) := hD
    refine lv_goto (tgt := 33) hx hb dNamedForm_changeStepUse_21 rfl ?_
    exact hend (upd firstUses (Int32.toNatClampNeg v5_6) v4) secondUses _ _ _ _ dNamedForm_changeStepUse_33 hP hD hS hw
abbrev wdNamedForm_changeMeetingUse (cA : ClassId) (ad : Nat → Nat) (N : Nat) (meetingUses : Nat → Int32) : va_W := [((ad 18), .inr (3, [.ref (ad 1), .ref (ad 11), .int (nI N), .ref (ad 19), .ref (ad 20), .ref (ad 21), .ref (ad 22), .ref (ad 23), .ref (ad 24), .ref (ad 25), .ref (ad 26), .ref (ad 27), .ref (ad 28), .ref (ad 29)])), ((ad 20), .inl (cA, N * 6 * (N + 1), .inl meetingUses))]
abbrev qcNamedForm_changeMeetingUse (D : va_G) (cA : ClassId) (ad : Nat → Nat) (N : Nat) (meetingUses : Nat → Int32) (post : (Nat → Int32) → Prop) (A : Nat → Prop) : Array Value → State → Outcome → State → Prop := va_Qv (S := (Nat → Int32)) (fun u => post u) (fun u t => xB D [(cA, .int)] A (wdNamedForm_changeMeetingUse cA ad N u) t) A
abbrev rmNamedForm_changeMeetingUse : Room := { frames := 1, cells := 0, slots := 0, locals := 23 }
set_option maxHeartbeats 4000000 in
set_option maxRecDepth 100000 in
theorem ktNamedForm_changeMeetingUse (l : Launch) (D : va_G) (cA : ClassId) (ad : Nat → Nat) (N : Nat) (sz : Nat) (meetingUses : Nat → Int32) (v1 : Int32) (v2 : Int32) (v3 : Int32) (v4 : Int32) (post : (Nat → Int32) → Prop) (hw : wpNamedForm_changeMeetingUse N meetingUses v1 v2 v3 v4 post) : Met l yNamedForm_changeMeetingUse (Cond.code yNamedForm_changeMeetingUse cNamedForm_changeMeetingUse 5 none :: xW) rmNamedForm_changeMeetingUse (va_Pc [.ref (ad 18), .int v1, .int v2, .int v3, .int v4] (xPc D [(cA, .int)] (wdNamedForm_changeMeetingUse cA ad N meetingUses) sz)) (qcNamedForm_changeMeetingUse D cA ad N meetingUses post (va_A (wdNamedForm_changeMeetingUse cA ad N meetingUses) sz)) 0 0 (va_A (wdNamedForm_changeMeetingUse cA ad N meetingUses) sz) := by
  refine Met.ofW (cc := cNamedForm_changeMeetingUse) (maxL := 5) (ret := none) (by decide) rfl ?_
  intro p e s m args below meth c s₁ B hml hv
  obtain ⟨rfl, hsz, hP, hK, hD0, hN⟩ := hv
  have hx := B.exec
  have hb := B.bytes
  have hr := B.returns
  have hts := atoms_spec (ws := (Cond.code yNamedForm_changeMeetingUse cNamedForm_changeMeetingUse 5 none :: xW)) B.pre
  have hown : s.vm.findClass "OnceNamed$NamedForm" = some m.cls := findClass_of_methodNamed B.named
  have hlocks := B.notSynchronized
  subst hsz
  have hD := hD0.self (sz := s.heap.size)
  generalize hAe : va_A (wdNamedForm_changeMeetingUse cA ad N meetingUses) s.heap.size = A at hD ⊢
  have hA : ∀ q : Nat, s.heap.size ≤ q → A q := fun q h => by rw [← hAe]; exact Or.inr h
  have hS : va_S A s.heap s.heap [] := va_S.rf
  have hend : ∀ (u0 : Nat → Int32) (H : Heap) (locs : List Loc) (pc : Nat) (ls : Array Slot), decode cNamedForm_changeMeetingUse pc = .ok (.return_, 1) → va_P D vwCl (wdNamedForm_changeMeetingUse cA ad N u0) H → va_D A (wdNamedForm_changeMeetingUse cA ad N u0) → va_S A s.heap H locs → post u0 → W p l e (headSpec (Cond.code yNamedForm_changeMeetingUse cNamedForm_changeMeetingUse 5 none :: xW) rmNamedForm_changeMeetingUse).room s m ([.ref (ad 18), .int v1, .int v2, .int v3, .int v4] : List Value).toArray below meth c H locs 0 0 (MQ below (qcNamedForm_changeMeetingUse D cA ad N meetingUses post A) ([.ref (ad 18), .int v1, .int v2, .int v3, .int v4] : List Value).toArray s 0 0 A) (F0 m pc ls []) := fun u0 H locs pc ls hd hP hD hS hw => W.vret hx hb hr (fun t ht hW => ⟨⟨u0, rfl, hw, ⟨by rw [ht]; exact hP, va_K.moved hW.alike hK, hD⟩⟩, hS.F ht⟩) hS.2.2 hd
  generalize hQ : MQ below (qcNamedForm_changeMeetingUse D cA ad N meetingUses post A) ([.ref (ad 18), .int v1, .int v2, .int v3, .int v4] : List Value).toArray s 0 0 A = Q at hend ⊢
  have hl := lv_entry ([.ref (ad 18), .int v1, .int v2, .int v3, .int v4]) (n := 5) (Nat.le_of_ble_eq_true rfl)
  rw [lg_entry_eq]
  generalize (lg_sl ([.ref (ad 18), .int v1, .int v2, .int v3, .int v4]) ++ List.replicate (5 - (lg_sl ([.ref (ad 18), .int v1, .int v2, .int v3, .int v4])).length) Slot.unset).toArray = ls at hl ⊢
  have hl : lv_has ls 5 [(0, .ref (ad 18)), (1, .int v1), (2, .int v2), (3, .int v3), (4, .int v4)] := hl
  unfold wpNamedForm_changeMeetingUse at hw
  refine lv_aload_n hx hb dNamedForm_changeMeetingUse_0 rfl (lv_at hl 0 rfl) ?_
  refine va_get (D := D) (ci := 3) (v := .ref (ad 20)) (C := "OnceNamed$NamedForm") (T := TX3) (N := 14) hx hb hts (fun w h => List.mem_cons_of_mem _ (inX3 w h)) hown hK hP 0 rfl rfl 4 (by decide) (hts _ (List.mem_cons_of_mem _ kw_124)) (fun _ h9 => h9) rfl dNamedForm_changeMeetingUse_1 ?_
  refine lv_aload_n hx hb dNamedForm_changeMeetingUse_4 rfl (lv_at hl 0 rfl) ?_
  refine lv_iload_n hx hb dNamedForm_changeMeetingUse_5 rfl (lv_at hl 1 rfl) ?_
  refine lv_iload_n hx hb dNamedForm_changeMeetingUse_6 rfl (lv_at hl 2 rfl) ?_
  refine lv_iload_n hx hb dNamedForm_changeMeetingUse_7 rfl (lv_at hl 3 rfl) ?_
  refine xci (va_runV ⟨hx, hb, hml, hown, hts⟩ (ktNamedForm_useOfMeeting l D cA ad N _ v1 v2 v3 _ hw) (cwV 3 hts (goodV kw_397 kw_399 ks_1_13 kw_6 kw_400) rfl rfl rfl (by decide +kernel) ⟨Nat.le_of_ble_eq_true rfl, Nat.le_of_ble_eq_true rfl⟩) (xpreV hK hP hD hN [0] rfl rfl 0 rfl rfl) rfl rfl hl.1 rfl (lv_room (Nat.le_of_ble_eq_true rfl)) dNamedForm_changeMeetingUse_8 ⟨Nat.le_of_ble_eq_true rfl, Nat.le_of_ble_eq_true rfl⟩) hP hD hS hA [0] [1] rfl rfl rfl rfl [1, 0] rfl (fun _ => rfl) (fun r8 u H locs hw hP hD hS => ?_)
  have hP : va_P D vwCl (wdNamedForm_changeMeetingUse cA ad N meetingUses) H := hP
  have hD : va_D A (wdNamedForm_changeMeetingUse cA ad N meetingUses) := hD
  refine lv_iload hx hb dNamedForm_changeMeetingUse_11 (lv_at hl 4 rfl) ?_
  have ho := hw.1
  have hw := hw.2
  refine va_iast hx hb hK hP hD hS 1 0 rfl rfl ho dNamedForm_changeMeetingUse_13 (fun H locs hP hD hS => ?_)
  have hP : va_P D vwCl (wdNamedForm_changeMeetingUse cA ad N (upd meetingUses (Int32.toNatClampNeg r8) v4)) H := hP
  have hD : va_D A (wdNamedForm_changeMeetingUse cA ad N (upd meetingUses (Int32.toNatClampNeg r8) v4)) := hD
  exact hend (upd meetingUses (Int32.toNatClampNeg r8) v4) _ _ _ _ dNamedForm_changeMeetingUse_14 hP hD hS hw
