abbrev wdProgram_setsVariable (cA : ClassId) (ad : Nat → Nat) (N : Nat)  : va_W := []
abbrev qcProgram_setsVariable (D : va_G) (cA : ClassId) (ad : Nat → Nat) (N : Nat)  (post : Bool → Prop) (A : Nat → Prop) : Array Value → State → Outcome → State → Prop := va_Qi (S := Unit) (fun r u => ∃ z : Bool, r = bI z ∧ post z ) (fun u t => xB D [(cA, .int)] A (wdProgram_setsVariable cA ad N) t) A
abbrev rmProgram_setsVariable : Room := { frames := 0, cells := 0, slots := 0, locals := 0 }
set_option maxHeartbeats 4000000 in
set_option maxRecDepth 100000 in
theorem ktProgram_setsVariable (l : Launch) (D : va_G) (cA : ClassId) (ad : Nat → Nat) (N : Nat) (sz : Nat)  (v0 : Int32) (post : Bool → Prop) (hw : wpProgram_setsVariable v0 post) : Met l yProgram_setsVariable (Cond.code yProgram_setsVariable cProgram_setsVariable 1 (some .boolean) :: xW) rmProgram_setsVariable (va_Pc [.int v0] (xPc D [(cA, .int)] (wdProgram_setsVariable cA ad N) sz)) (qcProgram_setsVariable D cA ad N  post (va_A (wdProgram_setsVariable cA ad N) sz)) 0 0 (va_A (wdProgram_setsVariable cA ad N) sz) := by
  refine Met.ofW (cc := cProgram_setsVariable) (maxL := 1) (ret := (some .boolean)) (by decide) rfl ?_
  intro p e s m args below meth c s₁ B hml hv
  obtain ⟨rfl, hsz, hP, hK, hD0, hN⟩ := hv
  have hx := B.exec
  have hb := B.bytes
  have hr := B.returns
  have hts := atoms_spec (ws := (Cond.code yProgram_setsVariable cProgram_setsVariable 1 (some .boolean) :: xW)) B.pre
  have hown : s.vm.findClass "OnceNamed$Program" = some m.cls := findClass_of_methodNamed B.named
  have hlocks := B.notSynchronized
  subst hsz
  have hD := hD0.self (sz := s.heap.size)
  generalize hAe : va_A (wdProgram_setsVariable cA ad N) s.heap.size = A at hD ⊢
  have hA : ∀ q : Nat, s.heap.size ≤ q → A q := fun q h => by rw [← hAe]; exact Or.inr h
  have hS : va_S A s.heap s.heap [] := va_S.rf
  have hend : ∀ (r : Bool)  (H : Heap) (locs : List Loc) (pc : Nat) (ls : Array Slot), decode cProgram_setsVariable pc = .ok (.ireturn, 1) → va_P D vwCl (wdProgram_setsVariable cA ad N) H → va_D A (wdProgram_setsVariable cA ad N) → va_S A s.heap H locs → post r  → W p l e (headSpec (Cond.code yProgram_setsVariable cProgram_setsVariable 1 (some .boolean) :: xW) rmProgram_setsVariable).room s m ([.int v0] : List Value).toArray below meth c H locs 0 0 (MQ below (qcProgram_setsVariable D cA ad N  post A) ([.int v0] : List Value).toArray s 0 0 A) (F0 m pc ls [.int (bI r)]) := fun r  H locs pc ls hd hP hD hS hw => W.zret (v := bI r) hx hb hr (bI_nar r) (fun t ht hW => ⟨⟨bI r, (), rfl, ⟨r, rfl, hw⟩, ⟨by rw [ht]; exact hP, va_K.moved hW.alike hK, hD⟩⟩, hS.F ht⟩) hS.2.2 hd
  generalize hQ : MQ below (qcProgram_setsVariable D cA ad N  post A) ([.int v0] : List Value).toArray s 0 0 A = Q at hend ⊢
  have hl := lv_entry ([.int v0]) (n := 1) (Nat.le_of_ble_eq_true rfl)
  rw [lg_entry_eq]
  generalize (lg_sl ([.int v0]) ++ List.replicate (1 - (lg_sl ([.int v0])).length) Slot.unset).toArray = ls at hl ⊢
  have hl : lv_has ls 1 [(0, .int v0)] := hl
  unfold wpProgram_setsVariable at hw
  refine lv_iload_n hx hb dProgram_setsVariable_0 rfl (lv_at hl 0 rfl) ?_
  refine lv_bipush (v := 7) hx hb dProgram_setsVariable_1 (by decide) ?_
  refine lv_icmp_eq (tgt := 10) hx hb dProgram_setsVariable_3 rfl (fun hc => ?_) (fun hc => ?_)
  · have hw := hw.1 hc
    refine lv_iconst (v := 0) hx hb dProgram_setsVariable_10 (by decide) ?_
    exact hend false _ _ _ _ dProgram_setsVariable_11 hP hD hS hw
  · have hw := hw.2 hc
    refine lv_iconst (v := 1) hx hb dProgram_setsVariable_6 (by decide) ?_
    refine lv_goto (tgt := 11) hx hb dProgram_setsVariable_7 rfl ?_
    exact hend true _ _ _ _ dProgram_setsVariable_11 hP hD hS hw
abbrev wdProgram_usesFirst (cA : ClassId) (ad : Nat → Nat) (N : Nat)  : va_W := []
abbrev qcProgram_usesFirst (D : va_G) (cA : ClassId) (ad : Nat → Nat) (N : Nat)  (post : Bool → Prop) (A : Nat → Prop) : Array Value → State → Outcome → State → Prop := va_Qi (S := Unit) (fun r u => ∃ z : Bool, r = bI z ∧ post z ) (fun u t => xB D [(cA, .int)] A (wdProgram_usesFirst cA ad N) t) A
abbrev rmProgram_usesFirst : Room := { frames := 0, cells := 0, slots := 0, locals := 0 }
set_option maxHeartbeats 4000000 in
set_option maxRecDepth 100000 in
theorem ktProgram_usesFirst (l : Launch) (D : va_G) (cA : ClassId) (ad : Nat → Nat) (N : Nat) (sz : Nat)  (v0 : Int32) (post : Bool → Prop) (hw : wpProgram_usesFirst v0 post) : Met l yProgram_usesFirst (Cond.code yProgram_usesFirst cProgram_usesFirst 1 (some .boolean) :: xW) rmProgram_usesFirst (va_Pc [.int v0] (xPc D [(cA, .int)] (wdProgram_usesFirst cA ad N) sz)) (qcProgram_usesFirst D cA ad N  post (va_A (wdProgram_usesFirst cA ad N) sz)) 0 0 (va_A (wdProgram_usesFirst cA ad N) sz) := by
  refine Met.ofW (cc := cProgram_usesFirst) (maxL := 1) (ret := (some .boolean)) (by decide) rfl ?_
  intro p e s m args below meth c s₁ B hml hv
  obtain ⟨rfl, hsz, hP, hK, hD0, hN⟩ := hv
  have hx := B.exec
  have hb := B.bytes
  have hr := B.returns
  have hts := atoms_spec (ws := (Cond.code yProgram_usesFirst cProgram_usesFirst 1 (some .boolean) :: xW)) B.pre
  have hown : s.vm.findClass "OnceNamed$Program" = some m.cls := findClass_of_methodNamed B.named
  have hlocks := B.notSynchronized
  subst hsz
  have hD := hD0.self (sz := s.heap.size)
  generalize hAe : va_A (wdProgram_usesFirst cA ad N) s.heap.size = A at hD ⊢
  have hA : ∀ q : Nat, s.heap.size ≤ q → A q := fun q h => by rw [← hAe]; exact Or.inr h
  have hS : va_S A s.heap s.heap [] := va_S.rf
  have hend : ∀ (r : Bool)  (H : Heap) (locs : List Loc) (pc : Nat) (ls : Array Slot), decode cProgram_usesFirst pc = .ok (.ireturn, 1) → va_P D vwCl (wdProgram_usesFirst cA ad N) H → va_D A (wdProgram_usesFirst cA ad N) → va_S A s.heap H locs → post r  → W p l e (headSpec (Cond.code yProgram_usesFirst cProgram_usesFirst 1 (some .boolean) :: xW) rmProgram_usesFirst).room s m ([.int v0] : List Value).toArray below meth c H locs 0 0 (MQ below (qcProgram_usesFirst D cA ad N  post A) ([.int v0] : List Value).toArray s 0 0 A) (F0 m pc ls [.int (bI r)]) := fun r  H locs pc ls hd hP hD hS hw => W.zret (v := bI r) hx hb hr (bI_nar r) (fun t ht hW => ⟨⟨bI r, (), rfl, ⟨r, rfl, hw⟩, ⟨by rw [ht]; exact hP, va_K.moved hW.alike hK, hD⟩⟩, hS.F ht⟩) hS.2.2 hd
  generalize hQ : MQ below (qcProgram_usesFirst D cA ad N  post A) ([.int v0] : List Value).toArray s 0 0 A = Q at hend ⊢
  have hl := lv_entry ([.int v0]) (n := 1) (Nat.le_of_ble_eq_true rfl)
  rw [lg_entry_eq]
  generalize (lg_sl ([.int v0]) ++ List.replicate (1 - (lg_sl ([.int v0])).length) Slot.unset).toArray = ls at hl ⊢
  have hl : lv_has ls 1 [(0, .int v0)] := hl
  unfold wpProgram_usesFirst at hw
  refine lv_iload_n hx hb dProgram_usesFirst_0 rfl (lv_at hl 0 rfl) ?_
  refine lv_if_eq (tgt := 8) hx hb dProgram_usesFirst_1 rfl (fun hc => ?_) (fun hc => ?_)
  · have hw := hw.1 hc
    refine lv_iconst (v := 0) hx hb dProgram_usesFirst_8 (by decide) ?_
    exact hend false _ _ _ _ dProgram_usesFirst_9 hP hD hS hw
  · have hw := hw.2 hc
    refine lv_iconst (v := 1) hx hb dProgram_usesFirst_4 (by decide) ?_
    refine lv_goto (tgt := 9) hx hb dProgram_usesFirst_5 rfl ?_
    exact hend true _ _ _ _ dProgram_usesFirst_9 hP hD hS hw
abbrev wdProgram_usesSecond (cA : ClassId) (ad : Nat → Nat) (N : Nat)  : va_W := []
abbrev qcProgram_usesSecond (D : va_G) (cA : ClassId) (ad : Nat → Nat) (N : Nat)  (post : Bool → Prop) (A : Nat → Prop) : Array Value → State → Outcome → State → Prop := va_Qi (S := Unit) (fun r u => ∃ z : Bool, r = bI z ∧ post z ) (fun u t => xB D [(cA, .int)] A (wdProgram_usesSecond cA ad N) t) A
abbrev rmProgram_usesSecond : Room := { frames := 0, cells := 0, slots := 0, locals := 0 }
set_option maxHeartbeats 4000000 in
set_option maxRecDepth 100000 in
theorem ktProgram_usesSecond (l : Launch) (D : va_G) (cA : ClassId) (ad : Nat → Nat) (N : Nat) (sz : Nat)  (v0 : Int32) (post : Bool → Prop) (hw : wpProgram_usesSecond v0 post) : Met l yProgram_usesSecond (Cond.code yProgram_usesSecond cProgram_usesSecond 1 (some .boolean) :: xW) rmProgram_usesSecond (va_Pc [.int v0] (xPc D [(cA, .int)] (wdProgram_usesSecond cA ad N) sz)) (qcProgram_usesSecond D cA ad N  post (va_A (wdProgram_usesSecond cA ad N) sz)) 0 0 (va_A (wdProgram_usesSecond cA ad N) sz) := by
  refine Met.ofW (cc := cProgram_usesSecond) (maxL := 1) (ret := (some .boolean)) (by decide) rfl ?_
  intro p e s m args below meth c s₁ B hml hv
  obtain ⟨rfl, hsz, hP, hK, hD0, hN⟩ := hv
  have hx := B.exec
  have hb := B.bytes
  have hr := B.returns
  have hts := atoms_spec (ws := (Cond.code yProgram_usesSecond cProgram_usesSecond 1 (some .boolean) :: xW)) B.pre
  have hown : s.vm.findClass "OnceNamed$Program" = some m.cls := findClass_of_methodNamed B.named
  have hlocks := B.notSynchronized
  subst hsz
  have hD := hD0.self (sz := s.heap.size)
  generalize hAe : va_A (wdProgram_usesSecond cA ad N) s.heap.size = A at hD ⊢
  have hA : ∀ q : Nat, s.heap.size ≤ q → A q := fun q h => by rw [← hAe]; exact Or.inr h
  have hS : va_S A s.heap s.heap [] := va_S.rf
  have hend : ∀ (r : Bool)  (H : Heap) (locs : List Loc) (pc : Nat) (ls : Array Slot), decode cProgram_usesSecond pc = .ok (.ireturn, 1) → va_P D vwCl (wdProgram_usesSecond cA ad N) H → va_D A (wdProgram_usesSecond cA ad N) → va_S A s.heap H locs → post r  → W p l e (headSpec (Cond.code yProgram_usesSecond cProgram_usesSecond 1 (some .boolean) :: xW) rmProgram_usesSecond).room s m ([.int v0] : List Value).toArray below meth c H locs 0 0 (MQ below (qcProgram_usesSecond D cA ad N  post A) ([.int v0] : List Value).toArray s 0 0 A) (F0 m pc ls [.int (bI r)]) := fun r  H locs pc ls hd hP hD hS hw => W.zret (v := bI r) hx hb hr (bI_nar r) (fun t ht hW => ⟨⟨bI r, (), rfl, ⟨r, rfl, hw⟩, ⟨by rw [ht]; exact hP, va_K.moved hW.alike hK, hD⟩⟩, hS.F ht⟩) hS.2.2 hd
  generalize hQ : MQ below (qcProgram_usesSecond D cA ad N  post A) ([.int v0] : List Value).toArray s 0 0 A = Q at hend ⊢
  have hl := lv_entry ([.int v0]) (n := 1) (Nat.le_of_ble_eq_true rfl)
  rw [lg_entry_eq]
  generalize (lg_sl ([.int v0]) ++ List.replicate (1 - (lg_sl ([.int v0])).length) Slot.unset).toArray = ls at hl ⊢
  have hl : lv_has ls 1 [(0, .int v0)] := hl
  unfold wpProgram_usesSecond at hw
  refine lv_iload_n hx hb dProgram_usesSecond_0 rfl (lv_at hl 0 rfl) ?_
  refine lv_iconst (v := 2) hx hb dProgram_usesSecond_1 (by decide) ?_
  refine lv_icmp_lt (tgt := 15) hx hb dProgram_usesSecond_2 rfl (fun hc => ?_) (fun hc => ?_)
  · have hw := hw.1 hc
    refine lv_iconst (v := 0) hx hb dProgram_usesSecond_15 (by decide) ?_
    exact hend false _ _ _ _ dProgram_usesSecond_16 hP hD hS hw
  · have hw := hw.2 hc
    refine lv_iload_n hx hb dProgram_usesSecond_5 rfl (lv_at hl 0 rfl) ?_
    refine lv_bipush (v := 6) hx hb dProgram_usesSecond_6 (by decide) ?_
    refine lv_icmp_gt (tgt := 15) hx hb dProgram_usesSecond_8 rfl (fun hc => ?_) (fun hc => ?_)
    · have hw := hw.1 hc
      refine lv_iconst (v := 0) hx hb dProgram_usesSecond_15 (by decide) ?_
      exact hend false _ _ _ _ dProgram_usesSecond_16 hP hD hS hw
    · have hw := hw.2 hc
      refine lv_iconst (v := 1) hx hb dProgram_usesSecond_11 (by decide) ?_
      refine lv_goto (tgt := 16) hx hb dProgram_usesSecond_12 rfl ?_
      exact hend true _ _ _ _ dProgram_usesSecond_16 hP hD hS hw
abbrev wdProgram_blockCount (cA : ClassId) (ad : Nat → Nat) (N : Nat)  : va_W := [((ad 1), .inr (1, [.int (nI N), .ref (ad 2), .ref (ad 3), .ref (ad 4), .ref (ad 5), .ref (ad 6), .ref (ad 7), .ref (ad 8), .ref (ad 9), .ref (ad 10)]))]
abbrev qcProgram_blockCount (D : va_G) (cA : ClassId) (ad : Nat → Nat) (N : Nat)  (post : Int32 → Prop) (A : Nat → Prop) : Array Value → State → Outcome → State → Prop := va_Qi (S := Unit) (fun r u => post r ) (fun u t => xB D [(cA, .int)] A (wdProgram_blockCount cA ad N) t) A
abbrev rmProgram_blockCount : Room := { frames := 0, cells := 0, slots := 0, locals := 0 }
set_option maxHeartbeats 4000000 in
set_option maxRecDepth 100000 in
theorem ktProgram_blockCount (l : Launch) (D : va_G) (cA : ClassId) (ad : Nat → Nat) (N : Nat) (sz : Nat)   (post : Int32 → Prop) (hw : wpProgram_blockCount N post) : Met l yProgram_blockCount (Cond.code yProgram_blockCount cProgram_blockCount 1 (some .int) :: xW) rmProgram_blockCount (va_Pc [.ref (ad 1)] (xPc D [(cA, .int)] (wdProgram_blockCount cA ad N) sz)) (qcProgram_blockCount D cA ad N  post (va_A (wdProgram_blockCount cA ad N) sz)) 0 0 (va_A (wdProgram_blockCount cA ad N) sz) := by
  refine Met.ofW (cc := cProgram_blockCount) (maxL := 1) (ret := (some .int)) (by decide) rfl ?_
  intro p e s m args below meth c s₁ B hml hv
  obtain ⟨rfl, hsz, hP, hK, hD0, hN⟩ := hv
  have hx := B.exec
  have hb := B.bytes
  have hr := B.returns
  have hts := atoms_spec (ws := (Cond.code yProgram_blockCount cProgram_blockCount 1 (some .int) :: xW)) B.pre
  have hown : s.vm.findClass "OnceNamed$Program" = some m.cls := findClass_of_methodNamed B.named
  have hlocks := B.notSynchronized
  subst hsz
  have hD := hD0.self (sz := s.heap.size)
  generalize hAe : va_A (wdProgram_blockCount cA ad N) s.heap.size = A at hD ⊢
  have hA : ∀ q : Nat, s.heap.size ≤ q → A q := fun q h => by rw [← hAe]; exact Or.inr h
  have hS : va_S A s.heap s.heap [] := va_S.rf
  have hend : ∀ (r : Int32)  (H : Heap) (locs : List Loc) (pc : Nat) (ls : Array Slot), decode cProgram_blockCount pc = .ok (.ireturn, 1) → va_P D vwCl (wdProgram_blockCount cA ad N) H → va_D A (wdProgram_blockCount cA ad N) → va_S A s.heap H locs → post r  → W p l e (headSpec (Cond.code yProgram_blockCount cProgram_blockCount 1 (some .int) :: xW) rmProgram_blockCount).room s m ([.ref (ad 1)] : List Value).toArray below meth c H locs 0 0 (MQ below (qcProgram_blockCount D cA ad N  post A) ([.ref (ad 1)] : List Value).toArray s 0 0 A) (F0 m pc ls [.int r]) := fun r  H locs pc ls hd hP hD hS hw => W.iret (v := r) hx hb hr (fun t ht hW => ⟨⟨r, (), rfl, hw, ⟨by rw [ht]; exact hP, va_K.moved hW.alike hK, hD⟩⟩, hS.F ht⟩) hS.2.2 hd
  generalize hQ : MQ below (qcProgram_blockCount D cA ad N  post A) ([.ref (ad 1)] : List Value).toArray s 0 0 A = Q at hend ⊢
  have hl := lv_entry ([.ref (ad 1)]) (n := 1) (Nat.le_of_ble_eq_true rfl)
  rw [lg_entry_eq]
  generalize (lg_sl ([.ref (ad 1)]) ++ List.replicate (1 - (lg_sl ([.ref (ad 1)])).length) Slot.unset).toArray = ls at hl ⊢
  have hl : lv_has ls 1 [(0, .ref (ad 1))] := hl
  unfold wpProgram_blockCount at hw
  refine lv_aload_n hx hb dProgram_blockCount_0 rfl (lv_at hl 0 rfl) ?_
  refine va_get (D := D) (ci := 1) (v := .int (nI N)) (C := "OnceNamed$Program") (T := TX1) (N := 10) hx hb hts (fun w h => List.mem_cons_of_mem _ (inX1 w h)) hown hK hP 0 rfl rfl 0 (by decide) (hts _ (List.mem_cons_of_mem _ kw_44)) (fun _ h9 => h9) rfl dProgram_blockCount_1 ?_
  exact hend (nI N) _ _ _ _ dProgram_blockCount_4 hP hD hS hw
abbrev wdProgram_stepsOf (cA : ClassId) (ad : Nat → Nat) (N : Nat) (stepCount : Nat → Int32) : va_W := [((ad 1), .inr (1, [.int (nI N), .ref (ad 2), .ref (ad 3), .ref (ad 4), .ref (ad 5), .ref (ad 6), .ref (ad 7), .ref (ad 8), .ref (ad 9), .ref (ad 10)])), ((ad 2), .inl (cA, N, .inl stepCount))]
abbrev qcProgram_stepsOf (D : va_G) (cA : ClassId) (ad : Nat → Nat) (N : Nat) (stepCount : Nat → Int32) (post : Int32 → Prop) (A : Nat → Prop) : Array Value → State → Outcome → State → Prop := va_Qi (S := Unit) (fun r u => post r ) (fun u t => xB D [(cA, .int)] A (wdProgram_stepsOf cA ad N stepCount) t) A
abbrev rmProgram_stepsOf : Room := { frames := 0, cells := 0, slots := 0, locals := 0 }
set_option maxHeartbeats 4000000 in
set_option maxRecDepth 100000 in
theorem ktProgram_stepsOf (l : Launch) (D : va_G) (cA : ClassId) (ad : Nat → Nat) (N : Nat) (sz : Nat) (stepCount : Nat → Int32) (v1 : Int32) (post : Int32 → Prop) (hw : wpProgram_stepsOf N stepCount v1 post) : Met l yProgram_stepsOf (Cond.code yProgram_stepsOf cProgram_stepsOf 2 (some .int) :: xW) rmProgram_stepsOf (va_Pc [.ref (ad 1), .int v1] (xPc D [(cA, .int)] (wdProgram_stepsOf cA ad N stepCount) sz)) (qcProgram_stepsOf D cA ad N stepCount post (va_A (wdProgram_stepsOf cA ad N stepCount) sz)) 0 0 (va_A (wdProgram_stepsOf cA ad N stepCount) sz) := by
  refine Met.ofW (cc := cProgram_stepsOf) (maxL := 2) (ret := (some .int)) (by decide) rfl ?_
  intro p e s m args below meth c s₁ B hml hv
  obtain ⟨rfl, hsz, hP, hK, hD0, hN⟩ := hv
  have hx := B.exec
  have hb := B.bytes
  have hr := B.returns
  have hts := atoms_spec (ws := (Cond.code yProgram_stepsOf cProgram_stepsOf 2 (some .int) :: xW)) B.pre
  have hown : s.vm.findClass "OnceNamed$Program" = some m.cls := findClass_of_methodNamed B.named
  have hlocks := B.notSynchronized
  subst hsz
  have hD := hD0.self (sz := s.heap.size)
  generalize hAe : va_A (wdProgram_stepsOf cA ad N stepCount) s.heap.size = A at hD ⊢
  have hA : ∀ q : Nat, s.heap.size ≤ q → A q := fun q h => by rw [← hAe]; exact Or.inr h
  have hS : va_S A s.heap s.heap [] := va_S.rf
  have hend : ∀ (r : Int32)  (H : Heap) (locs : List Loc) (pc : Nat) (ls : Array Slot), decode cProgram_stepsOf pc = .ok (.ireturn, 1) → va_P D vwCl (wdProgram_stepsOf cA ad N stepCount) H → va_D A (wdProgram_stepsOf cA ad N stepCount) → va_S A s.heap H locs → post r  → W p l e (headSpec (Cond.code yProgram_stepsOf cProgram_stepsOf 2 (some .int) :: xW) rmProgram_stepsOf).room s m ([.ref (ad 1), .int v1] : List Value).toArray below meth c H locs 0 0 (MQ below (qcProgram_stepsOf D cA ad N stepCount post A) ([.ref (ad 1), .int v1] : List Value).toArray s 0 0 A) (F0 m pc ls [.int r]) := fun r  H locs pc ls hd hP hD hS hw => W.iret (v := r) hx hb hr (fun t ht hW => ⟨⟨r, (), rfl, hw, ⟨by rw [ht]; exact hP, va_K.moved hW.alike hK, hD⟩⟩, hS.F ht⟩) hS.2.2 hd
  generalize hQ : MQ below (qcProgram_stepsOf D cA ad N stepCount post A) ([.ref (ad 1), .int v1] : List Value).toArray s 0 0 A = Q at hend ⊢
  have hl := lv_entry ([.ref (ad 1), .int v1]) (n := 2) (Nat.le_of_ble_eq_true rfl)
  rw [lg_entry_eq]
  generalize (lg_sl ([.ref (ad 1), .int v1]) ++ List.replicate (2 - (lg_sl ([.ref (ad 1), .int v1])).length) Slot.unset).toArray = ls at hl ⊢
  have hl : lv_has ls 2 [(0, .ref (ad 1)), (1, .int v1)] := hl
  unfold wpProgram_stepsOf at hw
  refine lv_aload_n hx hb dProgram_stepsOf_0 rfl (lv_at hl 0 rfl) ?_
  refine va_get (D := D) (ci := 1) (v := .ref (ad 2)) (C := "OnceNamed$Program") (T := TX1) (N := 10) hx hb hts (fun w h => List.mem_cons_of_mem _ (inX1 w h)) hown hK hP 0 rfl rfl 1 (by decide) (hts _ (List.mem_cons_of_mem _ kw_45)) (fun _ h9 => h9) rfl dProgram_stepsOf_1 ?_
  refine lv_iload_n hx hb dProgram_stepsOf_4 rfl (lv_at hl 1 rfl) ?_
  have ho := hw.1
  have hw := hw.2
  refine va_iald hx hb hK hP 1 0 rfl rfl ho dProgram_stepsOf_5 ?_
  exact hend (stepCount (Int32.toNatClampNeg v1)) _ _ _ _ dProgram_stepsOf_6 hP hD hS hw
abbrev wdProgram_addStep (cA : ClassId) (ad : Nat → Nat) (N : Nat) (stepCount : Nat → Int32) (kind : Nat → Int32) (target : Nat → Int32) (first : Nat → Int32) (second : Nat → Int32) : va_W := [((ad 1), .inr (1, [.int (nI N), .ref (ad 2), .ref (ad 3), .ref (ad 4), .ref (ad 5), .ref (ad 6), .ref (ad 7), .ref (ad 8), .ref (ad 9), .ref (ad 10)])), ((ad 2), .inl (cA, N, .inl stepCount)), ((ad 3), .inl (cA, N * 6, .inl kind)), ((ad 4), .inl (cA, N * 6, .inl target)), ((ad 5), .inl (cA, N * 6, .inl first)), ((ad 6), .inl (cA, N * 6, .inl second))]
abbrev qcProgram_addStep (D : va_G) (cA : ClassId) (ad : Nat → Nat) (N : Nat) (stepCount : Nat → Int32) (kind : Nat → Int32) (target : Nat → Int32) (first : Nat → Int32) (second : Nat → Int32) (post : (Nat → Int32) → (Nat → Int32) → (Nat → Int32) → (Nat → Int32) → (Nat → Int32) → Prop) (A : Nat → Prop) : Array Value → State → Outcome → State → Prop := va_Qv (S := (Nat → Int32) × (Nat → Int32) × (Nat → Int32) × (Nat → Int32) × (Nat → Int32)) (fun u => post u.1 u.2.1 u.2.2.1 u.2.2.2.1 u.2.2.2.2) (fun u t => xB D [(cA, .int)] A (wdProgram_addStep cA ad N u.1 u.2.1 u.2.2.1 u.2.2.2.1 u.2.2.2.2) t) A
abbrev rmProgram_addStep : Room := { frames := 0, cells := 0, slots := 0, locals := 0 }
set_option maxHeartbeats 4000000 in
set_option maxRecDepth 100000 in
theorem ktProgram_addStep (l : Launch) (D : va_G) (cA : ClassId) (ad : Nat → Nat) (N : Nat) (sz : Nat) (stepCount : Nat → Int32) (kind : Nat → Int32) (target : Nat → Int32) (first : Nat → Int32) (second : Nat → Int32) (v1 : Int32) (v2 : Int32) (v3 : Int32) (v4 : Int32) (v5 : Int32) (post : (Nat → Int32) → (Nat → Int32) → (Nat → Int32) → (Nat → Int32) → (Nat → Int32) → Prop) (hw : wpProgram_addStep N stepCount kind target first second v1 v2 v3 v4 v5 post) : Met l yProgram_addStep (Cond.code yProgram_addStep cProgram_addStep 7 none :: xW) rmProgram_addStep (va_Pc [.ref (ad 1), .int v1, .int v2, .int v3, .int v4, .int v5] (xPc D [(cA, .int)] (wdProgram_addStep cA ad N stepCount kind target first second) sz)) (qcProgram_addStep D cA ad N stepCount kind target first second post (va_A (wdProgram_addStep cA ad N stepCount kind target first second) sz)) 0 0 (va_A (wdProgram_addStep cA ad N stepCount kind target first second) sz) := by
  refine Met.ofW (cc := cProgram_addStep) (maxL := 7) (ret := none) (by decide) rfl ?_
  intro p e s m args below meth c s₁ B hml hv
  obtain ⟨rfl, hsz, hP, hK, hD0, hN⟩ := hv
  have hx := B.exec
  have hb := B.bytes
  have hr := B.returns
  have hts := atoms_spec (ws := (Cond.code yProgram_addStep cProgram_addStep 7 none :: xW)) B.pre
  have hown : s.vm.findClass "OnceNamed$Program" = some m.cls := findClass_of_methodNamed B.named
  have hlocks := B.notSynchronized
  subst hsz
  have hD := hD0.self (sz := s.heap.size)
  generalize hAe : va_A (wdProgram_addStep cA ad N stepCount kind target first second) s.heap.size = A at hD ⊢
  have hA : ∀ q : Nat, s.heap.size ≤ q → A q := fun q h => by rw [← hAe]; exact Or.inr h
  have hS : va_S A s.heap s.heap [] := va_S.rf
  have hend : ∀ (u0 : Nat → Int32) (u1 : Nat → Int32) (u2 : Nat → Int32) (u3 : Nat → Int32) (u4 : Nat → Int32) (H : Heap) (locs : List Loc) (pc : Nat) (ls : Array Slot), decode cProgram_addStep pc = .ok (.return_, 1) → va_P D vwCl (wdProgram_addStep cA ad N u0 u1 u2 u3 u4) H → va_D A (wdProgram_addStep cA ad N u0 u1 u2 u3 u4) → va_S A s.heap H locs → post u0 u1 u2 u3 u4 → W p l e (headSpec (Cond.code yProgram_addStep cProgram_addStep 7 none :: xW) rmProgram_addStep).room s m ([.ref (ad 1), .int v1, .int v2, .int v3, .int v4, .int v5] : List Value).toArray below meth c H locs 0 0 (MQ below (qcProgram_addStep D cA ad N stepCount kind target first second post A) ([.ref (ad 1), .int v1, .int v2, .int v3, .int v4, .int v5] : List Value).toArray s 0 0 A) (F0 m pc ls []) := fun u0 u1 u2 u3 u4 H locs pc ls hd hP hD hS hw => W.vret hx hb hr (fun t ht hW => ⟨⟨(u0, u1, u2, u3, u4), rfl, hw, ⟨by rw [ht]; exact hP, va_K.moved hW.alike hK, hD⟩⟩, hS.F ht⟩) hS.2.2 hd
  generalize hQ : MQ below (qcProgram_addStep D cA ad N stepCount kind target first second post A) ([.ref (ad 1), .int v1, .int v2, .int v3, .int v4, .int v5] : List Value).toArray s 0 0 A = Q at hend ⊢
  have hl := lv_entry ([.ref (ad 1), .int v1, .int v2, .int v3, .int v4, .int v5]) (n := 7) (Nat.le_of_ble_eq_true rfl)
  rw [lg_entry_eq]
  generalize (lg_sl ([.ref (ad 1), .int v1, .int v2, .int v3, .int v4, .int v5]) ++ List.replicate (7 - (lg_sl ([.ref (ad 1), .int v1, .int v2, .int v3, .int v4, .int v5])).length) Slot.unset).toArray = ls at hl ⊢
  have hl : lv_has ls 7 [(0, .ref (ad 1)), (1, .int v1), (2, .int v2), (3, .int v3), (4, .int v4), (5, .int v5)] := hl
  unfold wpProgram_addStep at hw
  refine lv_iload_n hx hb dProgram_addStep_0 rfl (lv_at hl 1 rfl) ?_
  refine lv_bipush (v := 6) hx hb dProgram_addStep_1 (by decide) ?_
  refine lv_imul hx hb dProgram_addStep_3 ?_
  refine lv_aload_n hx hb dProgram_addStep_4 rfl (lv_at hl 0 rfl) ?_
  refine va_get (D := D) (ci := 1) (v := .ref (ad 2)) (C := "OnceNamed$Program") (T := TX1) (N := 10) hx hb hts (fun w h => List.mem_cons_of_mem _ (inX1 w h)) hown hK hP 0 rfl rfl 1 (by decide) (hts _ (List.mem_cons_of_mem _ kw_45)) (fun _ h9 => h9) rfl dProgram_addStep_5 ?_
  refine lv_iload_n hx hb dProgram_addStep_8 rfl (lv_at hl 1 rfl) ?_
  have ho := hw.1
  have hw := hw.2
  refine va_iald hx hb hK hP 1 0 rfl rfl ho dProgram_addStep_9 ?_
  refine lv_iadd hx hb dProgram_addStep_10 ?_
  refine lv_topi (fun v6_11 e_v6_11 => ?_)
  have hw := hw v6_11 e_v6_11
  refine lv_istore (lv' := [(6, .int v6_11), (0, .ref (ad 1)), (1, .int v1), (2, .int v2), (3, .int v3), (4, .int v4), (5, .int v5)]) hx hb dProgram_addStep_11 hl (by decide) rfl (fun ls hl => ?_)
  refine lv_aload_n hx hb dProgram_addStep_13 rfl (lv_at hl 1 rfl) ?_
  refine va_get (D := D) (ci := 1) (v := .ref (ad 3)) (C := "OnceNamed$Program") (T := TX1) (N := 10) hx hb hts (fun w h => List.mem_cons_of_mem _ (inX1 w h)) hown hK hP 0 rfl rfl 2 (by decide) (hts _ (List.mem_cons_of_mem _ kw_46)) (fun _ h9 => h9) rfl dProgram_addStep_14 ?_
  refine lv_iload hx hb dProgram_addStep_17 (lv_at hl 0 rfl) ?_
  refine lv_iload_n hx hb dProgram_addStep_19 rfl (lv_at hl 3 rfl) ?_
  have ho := hw.1
  have hw := hw.2
  refine va_iast hx hb hK hP hD hS 2 0 rfl rfl ho dProgram_addStep_20 (fun H locs hP hD hS => ?_)
  have hP : va_P D vwCl (wdProgram_addStep cA ad N stepCount (upd kind (Int32.toNatClampNeg v6_11) v2) target first second) H := hP
  have hD : va_D A (wdProgram_addStep cA ad N stepCount (upd kind (Int32.toNatClampNeg v6_11) v2) target first second) := hD
  refine lv_aload_n hx hb dProgram_addStep_21 rfl (lv_at hl 1 rfl) ?_
  refine va_get (D := D) (ci := 1) (v := .ref (ad 4)) (C := "OnceNamed$Program") (T := TX1) (N := 10) hx hb hts (fun w h => List.mem_cons_of_mem _ (inX1 w h)) hown hK hP 0 rfl rfl 3 (by decide) (hts _ (List.mem_cons_of_mem _ kw_47)) (fun _ h9 => h9) rfl dProgram_addStep_22 ?_
  refine lv_iload hx hb dProgram_addStep_25 (lv_at hl 0 rfl) ?_
  refine lv_iload_n hx hb dProgram_addStep_27 rfl (lv_at hl 4 rfl) ?_
  have ho := hw.1
  have hw := hw.2
  refine va_iast hx hb hK hP hD hS 3 0 rfl rfl ho dProgram_addStep_28 (fun H locs hP hD hS => ?_)
  have hP : va_P D vwCl (wdProgram_addStep cA ad N stepCount (upd kind (Int32.toNatClampNeg v6_11) v2) (upd target (Int32.toNatClampNeg v6_11) v3) first second) H := hP
  have hD : va_D A (wdProgram_addStep cA ad N stepCount (upd kind (Int32.toNatClampNeg v6_11) v2) (upd target (Int32.toNatClampNeg v6_11) v3) first second) := hD
  refine lv_aload_n hx hb dProgram_addStep_29 rfl (lv_at hl 1 rfl) ?_
  refine va_get (D := D) (ci := 1) (v := .ref (ad 5)) (C := "OnceNamed$Program") (T := TX1) (N := 10) hx hb hts (fun w h => List.mem_cons_of_mem _ (inX1 w h)) hown hK hP 0 rfl rfl 4 (by decide) (hts _ (List.mem_cons_of_mem _ kw_48)) (fun _ h9 => h9) rfl dProgram_addStep_30 ?_
  refine lv_iload hx hb dProgram_addStep_33 (lv_at hl 0 rfl) ?_
  refine lv_iload hx hb dProgram_addStep_35 (lv_at hl 5 rfl) ?_
  have ho := hw.1
  have hw := hw.2
  refine va_iast hx hb hK hP hD hS 4 0 rfl rfl ho dProgram_addStep_37 (fun H locs hP hD hS => ?_)
  have hP : va_P D vwCl (wdProgram_addStep cA ad N stepCount (upd kind (Int32.toNatClampNeg v6_11) v2) (upd target (Int32.toNatClampNeg v6_11) v3) (upd first (Int32.toNatClampNeg v6_11) v4) second) H := hP
  have hD : va_D A (wdProgram_addStep cA ad N stepCount (upd kind (Int32.toNatClampNeg v6_11) v2) (upd target (Int32.toNatClampNeg v6_11) v3) (upd first (Int32.toNatClampNeg v6_11) v4) second) := hD
  refine lv_aload_n hx hb dProgram_addStep_38 rfl (lv_at hl 1 rfl) ?_
  refine va_get (D := D) (ci := 1) (v := .ref (ad 6)) (C := "OnceNamed$Program") (T := TX1) (N := 10) hx hb hts (fun w h => List.mem_cons_of_mem _ (inX1 w h)) hown hK hP 0 rfl rfl 5 (by decide) (hts _ (List.mem_cons_of_mem _ kw_49)) (fun _ h9 => h9) rfl dProgram_addStep_39 ?_
  refine lv_iload hx hb dProgram_addStep_42 (lv_at hl 0 rfl) ?_
  refine lv_iload hx hb dProgram_addStep_44 (lv_at hl 6 rfl) ?_
  have ho := hw.1
  have hw := hw.2
  refine va_iast hx hb hK hP hD hS 5 0 rfl rfl ho dProgram_addStep_46 (fun H locs hP hD hS => ?_)
  have hP : va_P D vwCl (wdProgram_addStep cA ad N stepCount (upd kind (Int32.toNatClampNeg v6_11) v2) (upd target (Int32.toNatClampNeg v6_11) v3) (upd first (Int32.toNatClampNeg v6_11) v4) (upd second (Int32.toNatClampNeg v6_11) v5)) H := hP
  have hD : va_D A (wdProgram_addStep cA ad N stepCount (upd kind (Int32.toNatClampNeg v6_11) v2) (upd target (Int32.toNatClampNeg v6_11) v3) (upd first (Int32.toNatClampNeg v6_11) v4) (upd second (Int32.toNatClampNeg v6_11) v5)) := hD
  refine lv_aload_n hx hb dProgram_addStep_47 rfl (lv_at hl 1 rfl) ?_
  refine va_get (D := D) (ci := 1) (v := .ref (ad 2)) (C := "OnceNamed$Program") (T := TX1) (N := 10) hx hb hts (fun w h => List.mem_cons_of_mem _ (inX1 w h)) hown hK hP 0 rfl rfl 1 (by decide) (hts _ (List.mem_cons_of_mem _ kw_45)) (fun _ h9 => h9) rfl dProgram_addStep_48 ?_
  refine lv_iload_n hx hb dProgram_addStep_51 rfl (lv_at hl 2 rfl) ?_
  refine lv_dup2_11 hx hb dProgram_addStep_52 rfl rfl ?_
  have ho := hw.1
  have hw := hw.2
  refine va_iald hx hb hK hP 1 0 rfl rfl ho dProgram_addStep_53 ?_
  refine lv_iconst (v := 1) hx hb dProgram_addStep_54 (by decide) ?_
  refine lv_iadd hx hb dProgram_addStep_55 ?_
  have ho := hw.1
  have hw := hw.2
  refine va_iast hx hb hK hP hD hS 1 0 rfl rfl ho dProgram_addStep_56 (fun H locs hP hD hS => ?_)
  have hP : va_P D vwCl (wdProgram_addStep cA ad N (upd stepCount (Int32.toNatClampNeg v1) ((stepCount (Int32.toNatClampNeg v1)) + 1)) (upd kind (Int32.toNatClampNeg v6_11) v2) (upd target (Int32.toNatClampNeg v6_11) v3) (upd first (Int32.toNatClampNeg v6_11) v4) (upd second (Int32.toNatClampNeg v6_11) v5)) H := hP
  have hD : va_D A (wdProgram_addStep cA ad N (upd stepCount (Int32.toNatClampNeg v1) ((stepCount (Int32.toNatClampNeg v1)) + 1)) (upd kind (Int32.toNatClampNeg v6_11) v2) (upd target (Int32.toNatClampNeg v6_11) v3) (upd first (Int32.toNatClampNeg v6_11) v4) (upd second (Int32.toNatClampNeg v6_11) v5)) := hD
  exact hend (upd stepCount (Int32.toNatClampNeg v1) ((stepCount (Int32.toNatClampNeg v1)) + 1)) (upd kind (Int32.toNatClampNeg v6_11) v2) (upd target (Int32.toNatClampNeg v6_11) v3) (upd first (Int32.toNatClampNeg v6_11) v4) (upd second (Int32.toNatClampNeg v6_11) v5) _ _ _ _ dProgram_addStep_57 hP hD hS hw
abbrev wdProgram_changeEnd (cA : ClassId) (ad : Nat → Nat) (N : Nat) (forkVariable : Nat → Int32) (yes : Nat → Int32) (no : Nat → Int32) : va_W := [((ad 1), .inr (1, [.int (nI N), .ref (ad 2), .ref (ad 3), .ref (ad 4), .ref (ad 5), .ref (ad 6), .ref (ad 7), .ref (ad 8), .ref (ad 9), .ref (ad 10)])), ((ad 7), .inl (cA, N, .inl forkVariable)), ((ad 8), .inl (cA, N, .inl yes)), ((ad 9), .inl (cA, N, .inl no))]
abbrev qcProgram_changeEnd (D : va_G) (cA : ClassId) (ad : Nat → Nat) (N : Nat) (forkVariable : Nat → Int32) (yes : Nat → Int32) (no : Nat → Int32) (post : (Nat → Int32) → (Nat → Int32) → (Nat → Int32) → Prop) (A : Nat → Prop) : Array Value → State → Outcome → State → Prop := va_Qv (S := (Nat → Int32) × (Nat → Int32) × (Nat → Int32)) (fun u => post u.1 u.2.1 u.2.2) (fun u t => xB D [(cA, .int)] A (wdProgram_changeEnd cA ad N u.1 u.2.1 u.2.2) t) A
abbrev rmProgram_changeEnd : Room := { frames := 0, cells := 0, slots := 0, locals := 0 }
set_option maxHeartbeats 4000000 in
set_option maxRecDepth 100000 in
theorem ktProgram_changeEnd (l : Launch) (D : va_G) (cA : ClassId) (ad : Nat → Nat) (N : Nat) (sz : Nat) (forkVariable : Nat → Int32) (yes : Nat → Int32) (no : Nat → Int32) (v1 : Int32) (v2 : Int32) (v3 : Int32) (v4 : Int32) (post : (Nat → Int32) → (Nat → Int32) → (Nat → Int32) → Prop) (hw : wpProgram_changeEnd N forkVariable yes no v1 v2 v3 v4 post) : Met l yProgram_changeEnd (Cond.code yProgram_changeEnd cProgram_changeEnd 5 none :: xW) rmProgram_changeEnd (va_Pc [.ref (ad 1), .int v1, .int v2, .int v3, .int v4] (xPc D [(cA, .int)] (wdProgram_changeEnd cA ad N forkVariable yes no) sz)) (qcProgram_changeEnd D cA ad N forkVariable yes no post (va_A (wdProgram_changeEnd cA ad N forkVariable yes no) sz)) 0 0 (va_A (wdProgram_changeEnd cA ad N forkVariable yes no) sz) := by
  refine Met.ofW (cc := cProgram_changeEnd) (maxL := 5) (ret := none) (by decide) rfl ?_
  intro p e s m args below meth c s₁ B hml hv
  obtain ⟨rfl, hsz, hP, hK, hD0, hN⟩ := hv
  have hx := B.exec
  have hb := B.bytes
  have hr := B.returns
  have hts := atoms_spec (ws := (Cond.code yProgram_changeEnd cProgram_changeEnd 5 none :: xW)) B.pre
  have hown : s.vm.findClass "OnceNamed$Program" = some m.cls := findClass_of_methodNamed B.named
  have hlocks := B.notSynchronized
  subst hsz
  have hD := hD0.self (sz := s.heap.size)
  generalize hAe : va_A (wdProgram_changeEnd cA ad N forkVariable yes no) s.heap.size = A at hD ⊢
  have hA : ∀ q : Nat, s.heap.size ≤ q → A q := fun q h => by rw [← hAe]; exact Or.inr h
  have hS : va_S A s.heap s.heap [] := va_S.rf
  have hend : ∀ (u0 : Nat → Int32) (u1 : Nat → Int32) (u2 : Nat → Int32) (H : Heap) (locs : List Loc) (pc : Nat) (ls : Array Slot), decode cProgram_changeEnd pc = .ok (.return_, 1) → va_P D vwCl (wdProgram_changeEnd cA ad N u0 u1 u2) H → va_D A (wdProgram_changeEnd cA ad N u0 u1 u2) → va_S A s.heap H locs → post u0 u1 u2 → W p l e (headSpec (Cond.code yProgram_changeEnd cProgram_changeEnd 5 none :: xW) rmProgram_changeEnd).room s m ([.ref (ad 1), .int v1, .int v2, .int v3, .int v4] : List Value).toArray below meth c H locs 0 0 (MQ below (qcProgram_changeEnd D cA ad N forkVariable yes no post A) ([.ref (ad 1), .int v1, .int v2, .int v3, .int v4] : List Value).toArray s 0 0 A) (F0 m pc ls []) := fun u0 u1 u2 H locs pc ls hd hP hD hS hw => W.vret hx hb hr (fun t ht hW => ⟨⟨(u0, u1, u2), rfl, hw, ⟨by rw [ht]; exact hP, va_K.moved hW.alike hK, hD⟩⟩, hS.F ht⟩) hS.2.2 hd
  generalize hQ : MQ below (qcProgram_changeEnd D cA ad N forkVariable yes no post A) ([.ref (ad 1), .int v1, .int v2, .int v3, .int v4] : List Value).toArray s 0 0 A = Q at hend ⊢
  have hl := lv_entry ([.ref (ad 1), .int v1, .int v2, .int v3, .int v4]) (n := 5) (Nat.le_of_ble_eq_true rfl)
  rw [lg_entry_eq]
  generalize (lg_sl ([.ref (ad 1), .int v1, .int v2, .int v3, .int v4]) ++ List.replicate (5 - (lg_sl ([.ref (ad 1), .int v1, .int v2, .int v3, .int v4])).length) Slot.unset).toArray = ls at hl ⊢
  have hl : lv_has ls 5 [(0, .ref (ad 1)), (1, .int v1), (2, .int v2), (3, .int v3), (4, .int v4)] := hl
  unfold wpProgram_changeEnd at hw
  refine lv_aload_n hx hb dProgram_changeEnd_0 rfl (lv_at hl 0 rfl) ?_
  refine va_get (D := D) (ci := 1) (v := .ref (ad 7)) (C := "OnceNamed$Program") (T := TX1) (N := 10) hx hb hts (fun w h => List.mem_cons_of_mem _ (inX1 w h)) hown hK hP 0 rfl rfl 6 (by decide) (hts _ (List.mem_cons_of_mem _ kw_50)) (fun _ h9 => h9) rfl dProgram_changeEnd_1 ?_
  refine lv_iload_n hx hb dProgram_changeEnd_4 rfl (lv_at hl 1 rfl) ?_
  refine lv_iload_n hx hb dProgram_changeEnd_5 rfl (lv_at hl 2 rfl) ?_
  have ho := hw.1
  have hw := hw.2
  refine va_iast hx hb hK hP hD hS 1 0 rfl rfl ho dProgram_changeEnd_6 (fun H locs hP hD hS => ?_)
  have hP : va_P D vwCl (wdProgram_changeEnd cA ad N (upd forkVariable (Int32.toNatClampNeg v1) v2) yes no) H := hP
  have hD : va_D A (wdProgram_changeEnd cA ad N (upd forkVariable (Int32.toNatClampNeg v1) v2) yes no) := hD
  refine lv_aload_n hx hb dProgram_changeEnd_7 rfl (lv_at hl 0 rfl) ?_
  refine va_get (D := D) (ci := 1) (v := .ref (ad 8)) (C := "OnceNamed$Program") (T := TX1) (N := 10) hx hb hts (fun w h => List.mem_cons_of_mem _ (inX1 w h)) hown hK hP 0 rfl rfl 7 (by decide) (hts _ (List.mem_cons_of_mem _ kw_51)) (fun _ h9 => h9) rfl dProgram_changeEnd_8 ?_
  refine lv_iload_n hx hb dProgram_changeEnd_11 rfl (lv_at hl 1 rfl) ?_
  refine lv_iload_n hx hb dProgram_changeEnd_12 rfl (lv_at hl 3 rfl) ?_
  have ho := hw.1
  have hw := hw.2
  refine va_iast hx hb hK hP hD hS 2 0 rfl rfl ho dProgram_changeEnd_13 (fun H locs hP hD hS => ?_)
  have hP : va_P D vwCl (wdProgram_changeEnd cA ad N (upd forkVariable (Int32.toNatClampNeg v1) v2) (upd yes (Int32.toNatClampNeg v1) v3) no) H := hP
  have hD : va_D A (wdProgram_changeEnd cA ad N (upd forkVariable (Int32.toNatClampNeg v1) v2) (upd yes (Int32.toNatClampNeg v1) v3) no) := hD
  refine lv_aload_n hx hb dProgram_changeEnd_14 rfl (lv_at hl 0 rfl) ?_
  refine va_get (D := D) (ci := 1) (v := .ref (ad 9)) (C := "OnceNamed$Program") (T := TX1) (N := 10) hx hb hts (fun w h => List.mem_cons_of_mem _ (inX1 w h)) hown hK hP 0 rfl rfl 8 (by decide) (hts _ (List.mem_cons_of_mem _ kw_52)) (fun _ h9 => h9) rfl dProgram_changeEnd_15 ?_
  refine lv_iload_n hx hb dProgram_changeEnd_18 rfl (lv_at hl 1 rfl) ?_
  refine lv_iload hx hb dProgram_changeEnd_19 (lv_at hl 4 rfl) ?_
  have ho := hw.1
  have hw := hw.2
  refine va_iast hx hb hK hP hD hS 3 0 rfl rfl ho dProgram_changeEnd_21 (fun H locs hP hD hS => ?_)
  have hP : va_P D vwCl (wdProgram_changeEnd cA ad N (upd forkVariable (Int32.toNatClampNeg v1) v2) (upd yes (Int32.toNatClampNeg v1) v3) (upd no (Int32.toNatClampNeg v1) v4)) H := hP
  have hD : va_D A (wdProgram_changeEnd cA ad N (upd forkVariable (Int32.toNatClampNeg v1) v2) (upd yes (Int32.toNatClampNeg v1) v3) (upd no (Int32.toNatClampNeg v1) v4)) := hD
  exact hend (upd forkVariable (Int32.toNatClampNeg v1) v2) (upd yes (Int32.toNatClampNeg v1) v3) (upd no (Int32.toNatClampNeg v1) v4) _ _ _ _ dProgram_changeEnd_22 hP hD hS hw
abbrev wdProgram_changeStart (cA : ClassId) (ad : Nat → Nat) (N : Nat) (starts : Nat → Int32) : va_W := [((ad 1), .inr (1, [.int (nI N), .ref (ad 2), .ref (ad 3), .ref (ad 4), .ref (ad 5), .ref (ad 6), .ref (ad 7), .ref (ad 8), .ref (ad 9), .ref (ad 10)])), ((ad 10), .inl (cA, 6, .inl starts))]
abbrev qcProgram_changeStart (D : va_G) (cA : ClassId) (ad : Nat → Nat) (N : Nat) (starts : Nat → Int32) (post : (Nat → Int32) → Prop) (A : Nat → Prop) : Array Value → State → Outcome → State → Prop := va_Qv (S := (Nat → Int32)) (fun u => post u) (fun u t => xB D [(cA, .int)] A (wdProgram_changeStart cA ad N u) t) A
abbrev rmProgram_changeStart : Room := { frames := 0, cells := 0, slots := 0, locals := 0 }
set_option maxHeartbeats 4000000 in
set_option maxRecDepth 100000 in
theorem ktProgram_changeStart (l : Launch) (D : va_G) (cA : ClassId) (ad : Nat → Nat) (N : Nat) (sz : Nat) (starts : Nat → Int32) (v1 : Int32) (v2 : Int32) (post : (Nat → Int32) → Prop) (hw : wpProgram_changeStart starts v1 v2 post) : Met l yProgram_changeStart (Cond.code yProgram_changeStart cProgram_changeStart 3 none :: xW) rmProgram_changeStart (va_Pc [.ref (ad 1), .int v1, .int v2] (xPc D [(cA, .int)] (wdProgram_changeStart cA ad N starts) sz)) (qcProgram_changeStart D cA ad N starts post (va_A (wdProgram_changeStart cA ad N starts) sz)) 0 0 (va_A (wdProgram_changeStart cA ad N starts) sz) := by
  refine Met.ofW (cc := cProgram_changeStart) (maxL := 3) (ret := none) (by decide) rfl ?_
  intro p e s m args below meth c s₁ B hml hv
  obtain ⟨rfl, hsz, hP, hK, hD0, hN⟩ := hv
  have hx := B.exec
  have hb := B.bytes
  have hr := B.returns
  have hts := atoms_spec (ws := (Cond.code yProgram_changeStart cProgram_changeStart 3 none :: xW)) B.pre
  have hown : s.vm.findClass "OnceNamed$Program" = some m.cls := findClass_of_methodNamed B.named
  have hlocks := B.notSynchronized
  subst hsz
  have hD := hD0.self (sz := s.heap.size)
  generalize hAe : va_A (wdProgram_changeStart cA ad N starts) s.heap.size = A at hD ⊢
  have hA : ∀ q : Nat, s.heap.size ≤ q → A q := fun q h => by rw [← hAe]; exact Or.inr h
  have hS : va_S A s.heap s.heap [] := va_S.rf
  have hend : ∀ (u0 : Nat → Int32) (H : Heap) (locs : List Loc) (pc : Nat) (ls : Array Slot), decode cProgram_changeStart pc = .ok (.return_, 1) → va_P D vwCl (wdProgram_changeStart cA ad N u0) H → va_D A (wdProgram_changeStart cA ad N u0) → va_S A s.heap H locs → post u0 → W p l e (headSpec (Cond.code yProgram_changeStart cProgram_changeStart 3 none :: xW) rmProgram_changeStart).room s m ([.ref (ad 1), .int v1, .int v2] : List Value).toArray below meth c H locs 0 0 (MQ below (qcProgram_changeStart D cA ad N starts post A) ([.ref (ad 1), .int v1, .int v2] : List Value).toArray s 0 0 A) (F0 m pc ls []) := fun u0 H locs pc ls hd hP hD hS hw => W.vret hx hb hr (fun t ht hW => ⟨⟨u0, rfl, hw, ⟨by rw [ht]; exact hP, va_K.moved hW.alike hK, hD⟩⟩, hS.F ht⟩) hS.2.2 hd
  generalize hQ : MQ below (qcProgram_changeStart D cA ad N starts post A) ([.ref (ad 1), .int v1, .int v2] : List Value).toArray s 0 0 A = Q at hend ⊢
  have hl := lv_entry ([.ref (ad 1), .int v1, .int v2]) (n := 3) (Nat.le_of_ble_eq_true rfl)
  rw [lg_entry_eq]
  generalize (lg_sl ([.ref (ad 1), .int v1, .int v2]) ++ List.replicate (3 - (lg_sl ([.ref (ad 1), .int v1, .int v2])).length) Slot.unset).toArray = ls at hl ⊢
  have hl : lv_has ls 3 [(0, .ref (ad 1)), (1, .int v1), (2, .int v2)] := hl
  unfold wpProgram_changeStart at hw
  refine lv_aload_n hx hb dProgram_changeStart_0 rfl (lv_at hl 0 rfl) ?_
  refine va_get (D := D) (ci := 1) (v := .ref (ad 10)) (C := "OnceNamed$Program") (T := TX1) (N := 10) hx hb hts (fun w h => List.mem_cons_of_mem _ (inX1 w h)) hown hK hP 0 rfl rfl 9 (by decide) (hts _ (List.mem_cons_of_mem _ kw_53)) (fun _ h9 => h9) rfl dProgram_changeStart_1 ?_
  refine lv_iload_n hx hb dProgram_changeStart_4 rfl (lv_at hl 1 rfl) ?_
  refine lv_iload_n hx hb dProgram_changeStart_5 rfl (lv_at hl 2 rfl) ?_
  have ho := hw.1
  have hw := hw.2
  refine va_iast hx hb hK hP hD hS 1 0 rfl rfl ho dProgram_changeStart_6 (fun H locs hP hD hS => ?_)
  have hP : va_P D vwCl (wdProgram_changeStart cA ad N (upd starts (Int32.toNatClampNeg v1) v2)) H := hP
  have hD : va_D A (wdProgram_changeStart cA ad N (upd starts (Int32.toNatClampNeg v1) v2)) := hD
  exact hend (upd starts (Int32.toNatClampNeg v1) v2) _ _ _ _ dProgram_changeStart_7 hP hD hS hw
abbrev wdProgram_startOf (cA : ClassId) (ad : Nat → Nat) (N : Nat) (starts : Nat → Int32) : va_W := [((ad 1), .inr (1, [.int (nI N), .ref (ad 2), .ref (ad 3), .ref (ad 4), .ref (ad 5), .ref (ad 6), .ref (ad 7), .ref (ad 8), .ref (ad 9), .ref (ad 10)])), ((ad 10), .inl (cA, 6, .inl starts))]
abbrev qcProgram_startOf (D : va_G) (cA : ClassId) (ad : Nat → Nat) (N : Nat) (starts : Nat → Int32) (post : Int32 → Prop) (A : Nat → Prop) : Array Value → State → Outcome → State → Prop := va_Qi (S := Unit) (fun r u => post r ) (fun u t => xB D [(cA, .int)] A (wdProgram_startOf cA ad N starts) t) A
abbrev rmProgram_startOf : Room := { frames := 0, cells := 0, slots := 0, locals := 0 }
set_option maxHeartbeats 4000000 in
set_option maxRecDepth 100000 in
theorem ktProgram_startOf (l : Launch) (D : va_G) (cA : ClassId) (ad : Nat → Nat) (N : Nat) (sz : Nat) (starts : Nat → Int32) (v1 : Int32) (post : Int32 → Prop) (hw : wpProgram_startOf starts v1 post) : Met l yProgram_startOf (Cond.code yProgram_startOf cProgram_startOf 2 (some .int) :: xW) rmProgram_startOf (va_Pc [.ref (ad 1), .int v1] (xPc D [(cA, .int)] (wdProgram_startOf cA ad N starts) sz)) (qcProgram_startOf D cA ad N starts post (va_A (wdProgram_startOf cA ad N starts) sz)) 0 0 (va_A (wdProgram_startOf cA ad N starts) sz) := by
  refine Met.ofW (cc := cProgram_startOf) (maxL := 2) (ret := (some .int)) (by decide) rfl ?_
  intro p e s m args below meth c s₁ B hml hv
  obtain ⟨rfl, hsz, hP, hK, hD0, hN⟩ := hv
  have hx := B.exec
  have hb := B.bytes
  have hr := B.returns
  have hts := atoms_spec (ws := (Cond.code yProgram_startOf cProgram_startOf 2 (some .int) :: xW)) B.pre
  have hown : s.vm.findClass "OnceNamed$Program" = some m.cls := findClass_of_methodNamed B.named
  have hlocks := B.notSynchronized
  subst hsz
  have hD := hD0.self (sz := s.heap.size)
  generalize hAe : va_A (wdProgram_startOf cA ad N starts) s.heap.size = A at hD ⊢
  have hA : ∀ q : Nat, s.heap.size ≤ q → A q := fun q h => by rw [← hAe]; exact Or.inr h
  have hS : va_S A s.heap s.heap [] := va_S.rf
  have hend : ∀ (r : Int32)  (H : Heap) (locs : List Loc) (pc : Nat) (ls : Array Slot), decode cProgram_startOf pc = .ok (.ireturn, 1) → va_P D vwCl (wdProgram_startOf cA ad N starts) H → va_D A (wdProgram_startOf cA ad N starts) → va_S A s.heap H locs → post r  → W p l e (headSpec (Cond.code yProgram_startOf cProgram_startOf 2 (some .int) :: xW) rmProgram_startOf).room s m ([.ref (ad 1), .int v1] : List Value).toArray below meth c H locs 0 0 (MQ below (qcProgram_startOf D cA ad N starts post A) ([.ref (ad 1), .int v1] : List Value).toArray s 0 0 A) (F0 m pc ls [.int r]) := fun r  H locs pc ls hd hP hD hS hw => W.iret (v := r) hx hb hr (fun t ht hW => ⟨⟨r, (), rfl, hw, ⟨by rw [ht]; exact hP, va_K.moved hW.alike hK, hD⟩⟩, hS.F ht⟩) hS.2.2 hd
  generalize hQ : MQ below (qcProgram_startOf D cA ad N starts post A) ([.ref (ad 1), .int v1] : List Value).toArray s 0 0 A = Q at hend ⊢
  have hl := lv_entry ([.ref (ad 1), .int v1]) (n := 2) (Nat.le_of_ble_eq_true rfl)
  rw [lg_entry_eq]
  generalize (lg_sl ([.ref (ad 1), .int v1]) ++ List.replicate (2 - (lg_sl ([.ref (ad 1), .int v1])).length) Slot.unset).toArray = ls at hl ⊢
  have hl : lv_has ls 2 [(0, .ref (ad 1)), (1, .int v1)] := hl
  unfold wpProgram_startOf at hw
  refine lv_aload_n hx hb dProgram_startOf_0 rfl (lv_at hl 0 rfl) ?_
  refine va_get (D := D) (ci := 1) (v := .ref (ad 10)) (C := "OnceNamed$Program") (T := TX1) (N := 10) hx hb hts (fun w h => List.mem_cons_of_mem _ (inX1 w h)) hown hK hP 0 rfl rfl 9 (by decide) (hts _ (List.mem_cons_of_mem _ kw_53)) (fun _ h9 => h9) rfl dProgram_startOf_1 ?_
  refine lv_iload_n hx hb dProgram_startOf_4 rfl (lv_at hl 1 rfl) ?_
  have ho := hw.1
  have hw := hw.2
  refine va_iald hx hb hK hP 1 0 rfl rfl ho dProgram_startOf_5 ?_
  exact hend (starts (Int32.toNatClampNeg v1)) _ _ _ _ dProgram_startOf_6 hP hD hS hw
abbrev wdProgram_kindOf (cA : ClassId) (ad : Nat → Nat) (N : Nat) (kind : Nat → Int32) : va_W := [((ad 1), .inr (1, [.int (nI N), .ref (ad 2), .ref (ad 3), .ref (ad 4), .ref (ad 5), .ref (ad 6), .ref (ad 7), .ref (ad 8), .ref (ad 9), .ref (ad 10)])), ((ad 3), .inl (cA, N * 6, .inl kind))]
abbrev qcProgram_kindOf (D : va_G) (cA : ClassId) (ad : Nat → Nat) (N : Nat) (kind : Nat → Int32) (post : Int32 → Prop) (A : Nat → Prop) : Array Value → State → Outcome → State → Prop := va_Qi (S := Unit) (fun r u => post r ) (fun u t => xB D [(cA, .int)] A (wdProgram_kindOf cA ad N kind) t) A
abbrev rmProgram_kindOf : Room := { frames := 0, cells := 0, slots := 0, locals := 0 }
set_option maxHeartbeats 4000000 in
set_option maxRecDepth 100000 in
theorem ktProgram_kindOf (l : Launch) (D : va_G) (cA : ClassId) (ad : Nat → Nat) (N : Nat) (sz : Nat) (kind : Nat → Int32) (v1 : Int32) (v2 : Int32) (post : Int32 → Prop) (hw : wpProgram_kindOf N kind v1 v2 post) : Met l yProgram_kindOf (Cond.code yProgram_kindOf cProgram_kindOf 3 (some .int) :: xW) rmProgram_kindOf (va_Pc [.ref (ad 1), .int v1, .int v2] (xPc D [(cA, .int)] (wdProgram_kindOf cA ad N kind) sz)) (qcProgram_kindOf D cA ad N kind post (va_A (wdProgram_kindOf cA ad N kind) sz)) 0 0 (va_A (wdProgram_kindOf cA ad N kind) sz) := by
  refine Met.ofW (cc := cProgram_kindOf) (maxL := 3) (ret := (some .int)) (by decide) rfl ?_
  intro p e s m args below meth c s₁ B hml hv
  obtain ⟨rfl, hsz, hP, hK, hD0, hN⟩ := hv
  have hx := B.exec
  have hb := B.bytes
  have hr := B.returns
  have hts := atoms_spec (ws := (Cond.code yProgram_kindOf cProgram_kindOf 3 (some .int) :: xW)) B.pre
  have hown : s.vm.findClass "OnceNamed$Program" = some m.cls := findClass_of_methodNamed B.named
  have hlocks := B.notSynchronized
  subst hsz
  have hD := hD0.self (sz := s.heap.size)
  generalize hAe : va_A (wdProgram_kindOf cA ad N kind) s.heap.size = A at hD ⊢
  have hA : ∀ q : Nat, s.heap.size ≤ q → A q := fun q h => by rw [← hAe]; exact Or.inr h
  have hS : va_S A s.heap s.heap [] := va_S.rf
  have hend : ∀ (r : Int32)  (H : Heap) (locs : List Loc) (pc : Nat) (ls : Array Slot), decode cProgram_kindOf pc = .ok (.ireturn, 1) → va_P D vwCl (wdProgram_kindOf cA ad N kind) H → va_D A (wdProgram_kindOf cA ad N kind) → va_S A s.heap H locs → post r  → W p l e (headSpec (Cond.code yProgram_kindOf cProgram_kindOf 3 (some .int) :: xW) rmProgram_kindOf).room s m ([.ref (ad 1), .int v1, .int v2] : List Value).toArray below meth c H locs 0 0 (MQ below (qcProgram_kindOf D cA ad N kind post A) ([.ref (ad 1), .int v1, .int v2] : List Value).toArray s 0 0 A) (F0 m pc ls [.int r]) := fun r  H locs pc ls hd hP hD hS hw => W.iret (v := r) hx hb hr (fun t ht hW => ⟨⟨r, (), rfl, hw, ⟨by rw [ht]; exact hP, va_K.moved hW.alike hK, hD⟩⟩, hS.F ht⟩) hS.2.2 hd
  generalize hQ : MQ below (qcProgram_kindOf D cA ad N kind post A) ([.ref (ad 1), .int v1, .int v2] : List Value).toArray s 0 0 A = Q at hend ⊢
  have hl := lv_entry ([.ref (ad 1), .int v1, .int v2]) (n := 3) (Nat.le_of_ble_eq_true rfl)
  rw [lg_entry_eq]
  generalize (lg_sl ([.ref (ad 1), .int v1, .int v2]) ++ List.replicate (3 - (lg_sl ([.ref (ad 1), .int v1, .int v2])).length) Slot.unset).toArray = ls at hl ⊢
  have hl : lv_has ls 3 [(0, .ref (ad 1)), (1, .int v1), (2, .int v2)] := hl
  unfold wpProgram_kindOf at hw
  refine lv_aload_n hx hb dProgram_kindOf_0 rfl (lv_at hl 0 rfl) ?_
  refine va_get (D := D) (ci := 1) (v := .ref (ad 3)) (C := "OnceNamed$Program") (T := TX1) (N := 10) hx hb hts (fun w h => List.mem_cons_of_mem _ (inX1 w h)) hown hK hP 0 rfl rfl 2 (by decide) (hts _ (List.mem_cons_of_mem _ kw_46)) (fun _ h9 => h9) rfl dProgram_kindOf_1 ?_
  refine lv_iload_n hx hb dProgram_kindOf_4 rfl (lv_at hl 1 rfl) ?_
  refine lv_bipush (v := 6) hx hb dProgram_kindOf_5 (by decide) ?_
  refine lv_imul hx hb dProgram_kindOf_7 ?_
  refine lv_iload_n hx hb dProgram_kindOf_8 rfl (lv_at hl 2 rfl) ?_
  refine lv_iadd hx hb dProgram_kindOf_9 ?_
  have ho := hw.1
  have hw := hw.2
  refine va_iald hx hb hK hP 1 0 rfl rfl ho dProgram_kindOf_10 ?_
  exact hend (kind (Int32.toNatClampNeg ((v1 * 6) + v2))) _ _ _ _ dProgram_kindOf_11 hP hD hS hw
abbrev wdProgram_numberPut (cA : ClassId) (ad : Nat → Nat) (N : Nat) (first : Nat → Int32) : va_W := [((ad 1), .inr (1, [.int (nI N), .ref (ad 2), .ref (ad 3), .ref (ad 4), .ref (ad 5), .ref (ad 6), .ref (ad 7), .ref (ad 8), .ref (ad 9), .ref (ad 10)])), ((ad 5), .inl (cA, N * 6, .inl first))]
abbrev qcProgram_numberPut (D : va_G) (cA : ClassId) (ad : Nat → Nat) (N : Nat) (first : Nat → Int32) (post : Int32 → Prop) (A : Nat → Prop) : Array Value → State → Outcome → State → Prop := va_Qi (S := Unit) (fun r u => post r ) (fun u t => xB D [(cA, .int)] A (wdProgram_numberPut cA ad N first) t) A
abbrev rmProgram_numberPut : Room := { frames := 0, cells := 0, slots := 0, locals := 0 }
set_option maxHeartbeats 4000000 in
set_option maxRecDepth 100000 in
theorem ktProgram_numberPut (l : Launch) (D : va_G) (cA : ClassId) (ad : Nat → Nat) (N : Nat) (sz : Nat) (first : Nat → Int32) (v1 : Int32) (v2 : Int32) (post : Int32 → Prop) (hw : wpProgram_numberPut N first v1 v2 post) : Met l yProgram_numberPut (Cond.code yProgram_numberPut cProgram_numberPut 3 (some .int) :: xW) rmProgram_numberPut (va_Pc [.ref (ad 1), .int v1, .int v2] (xPc D [(cA, .int)] (wdProgram_numberPut cA ad N first) sz)) (qcProgram_numberPut D cA ad N first post (va_A (wdProgram_numberPut cA ad N first) sz)) 0 0 (va_A (wdProgram_numberPut cA ad N first) sz) := by
  refine Met.ofW (cc := cProgram_numberPut) (maxL := 3) (ret := (some .int)) (by decide) rfl ?_
  intro p e s m args below meth c s₁ B hml hv
  obtain ⟨rfl, hsz, hP, hK, hD0, hN⟩ := hv
  have hx := B.exec
  have hb := B.bytes
  have hr := B.returns
  have hts := atoms_spec (ws := (Cond.code yProgram_numberPut cProgram_numberPut 3 (some .int) :: xW)) B.pre
  have hown : s.vm.findClass "OnceNamed$Program" = some m.cls := findClass_of_methodNamed B.named
  have hlocks := B.notSynchronized
  subst hsz
  have hD := hD0.self (sz := s.heap.size)
  generalize hAe : va_A (wdProgram_numberPut cA ad N first) s.heap.size = A at hD ⊢
  have hA : ∀ q : Nat, s.heap.size ≤ q → A q := fun q h => by rw [← hAe]; exact Or.inr h
  have hS : va_S A s.heap s.heap [] := va_S.rf
  have hend : ∀ (r : Int32)  (H : Heap) (locs : List Loc) (pc : Nat) (ls : Array Slot), decode cProgram_numberPut pc = .ok (.ireturn, 1) → va_P D vwCl (wdProgram_numberPut cA ad N first) H → va_D A (wdProgram_numberPut cA ad N first) → va_S A s.heap H locs → post r  → W p l e (headSpec (Cond.code yProgram_numberPut cProgram_numberPut 3 (some .int) :: xW) rmProgram_numberPut).room s m ([.ref (ad 1), .int v1, .int v2] : List Value).toArray below meth c H locs 0 0 (MQ below (qcProgram_numberPut D cA ad N first post A) ([.ref (ad 1), .int v1, .int v2] : List Value).toArray s 0 0 A) (F0 m pc ls [.int r]) := fun r  H locs pc ls hd hP hD hS hw => W.iret (v := r) hx hb hr (fun t ht hW => ⟨⟨r, (), rfl, hw, ⟨by rw [ht]; exact hP, va_K.moved hW.alike hK, hD⟩⟩, hS.F ht⟩) hS.2.2 hd
  generalize hQ : MQ below (qcProgram_numberPut D cA ad N first post A) ([.ref (ad 1), .int v1, .int v2] : List Value).toArray s 0 0 A = Q at hend ⊢
  have hl := lv_entry ([.ref (ad 1), .int v1, .int v2]) (n := 3) (Nat.le_of_ble_eq_true rfl)
  rw [lg_entry_eq]
  generalize (lg_sl ([.ref (ad 1), .int v1, .int v2]) ++ List.replicate (3 - (lg_sl ([.ref (ad 1), .int v1, .int v2])).length) Slot.unset).toArray = ls at hl ⊢
  have hl : lv_has ls 3 [(0, .ref (ad 1)), (1, .int v1), (2, .int v2)] := hl
  unfold wpProgram_numberPut at hw
  refine lv_aload_n hx hb dProgram_numberPut_0 rfl (lv_at hl 0 rfl) ?_
  refine va_get (D := D) (ci := 1) (v := .ref (ad 5)) (C := "OnceNamed$Program") (T := TX1) (N := 10) hx hb hts (fun w h => List.mem_cons_of_mem _ (inX1 w h)) hown hK hP 0 rfl rfl 4 (by decide) (hts _ (List.mem_cons_of_mem _ kw_48)) (fun _ h9 => h9) rfl dProgram_numberPut_1 ?_
  refine lv_iload_n hx hb dProgram_numberPut_4 rfl (lv_at hl 1 rfl) ?_
  refine lv_bipush (v := 6) hx hb dProgram_numberPut_5 (by decide) ?_
  refine lv_imul hx hb dProgram_numberPut_7 ?_
  refine lv_iload_n hx hb dProgram_numberPut_8 rfl (lv_at hl 2 rfl) ?_
  refine lv_iadd hx hb dProgram_numberPut_9 ?_
  have ho := hw.1
  have hw := hw.2
  refine va_iald hx hb hK hP 1 0 rfl rfl ho dProgram_numberPut_10 ?_
  exact hend (first (Int32.toNatClampNeg ((v1 * 6) + v2))) _ _ _ _ dProgram_numberPut_11 hP hD hS hw
abbrev wdProgram_variableSet (cA : ClassId) (ad : Nat → Nat) (N : Nat) (kind : Nat → Int32) (target : Nat → Int32) : va_W := [((ad 1), .inr (1, [.int (nI N), .ref (ad 2), .ref (ad 3), .ref (ad 4), .ref (ad 5), .ref (ad 6), .ref (ad 7), .ref (ad 8), .ref (ad 9), .ref (ad 10)])), ((ad 3), .inl (cA, N * 6, .inl kind)), ((ad 4), .inl (cA, N * 6, .inl target))]
abbrev qcProgram_variableSet (D : va_G) (cA : ClassId) (ad : Nat → Nat) (N : Nat) (kind : Nat → Int32) (target : Nat → Int32) (post : Int32 → Prop) (A : Nat → Prop) : Array Value → State → Outcome → State → Prop := va_Qi (S := Unit) (fun r u => post r ) (fun u t => xB D [(cA, .int)] A (wdProgram_variableSet cA ad N kind target) t) A
abbrev rmProgram_variableSet : Room := { frames := 1, cells := 0, slots := 0, locals := 20 }
set_option maxHeartbeats 4000000 in
set_option maxRecDepth 100000 in
theorem ktProgram_variableSet (l : Launch) (D : va_G) (cA : ClassId) (ad : Nat → Nat) (N : Nat) (sz : Nat) (kind : Nat → Int32) (target : Nat → Int32) (v1 : Int32) (v2 : Int32) (post : Int32 → Prop) (hw : wpProgram_variableSet N kind target v1 v2 post) : Met l yProgram_variableSet (Cond.code yProgram_variableSet cProgram_variableSet 4 (some .int) :: xW) rmProgram_variableSet (va_Pc [.ref (ad 1), .int v1, .int v2] (xPc D [(cA, .int)] (wdProgram_variableSet cA ad N kind target) sz)) (qcProgram_variableSet D cA ad N kind target post (va_A (wdProgram_variableSet cA ad N kind target) sz)) 0 0 (va_A (wdProgram_variableSet cA ad N kind target) sz) := by
  refine Met.ofW (cc := cProgram_variableSet) (maxL := 4) (ret := (some .int)) (by decide) rfl ?_
  intro p e s m args below meth c s₁ B hml hv
  obtain ⟨rfl, hsz, hP, hK, hD0, hN⟩ := hv
  have hx := B.exec
  have hb := B.bytes
  have hr := B.returns
  have hts := atoms_spec (ws := (Cond.code yProgram_variableSet cProgram_variableSet 4 (some .int) :: xW)) B.pre
  have hown : s.vm.findClass "OnceNamed$Program" = some m.cls := findClass_of_methodNamed B.named
  have hlocks := B.notSynchronized
  subst hsz
  have hD := hD0.self (sz := s.heap.size)
  generalize hAe : va_A (wdProgram_variableSet cA ad N kind target) s.heap.size = A at hD ⊢
  have hA : ∀ q : Nat, s.heap.size ≤ q → A q := fun q h => by rw [← hAe]; exact Or.inr h
  have hS : va_S A s.heap s.heap [] := va_S.rf
  have hend : ∀ (r : Int32)  (H : Heap) (locs : List Loc) (pc : Nat) (ls : Array Slot), decode cProgram_variableSet pc = .ok (.ireturn, 1) → va_P D vwCl (wdProgram_variableSet cA ad N kind target) H → va_D A (wdProgram_variableSet cA ad N kind target) → va_S A s.heap H locs → post r  → W p l e (headSpec (Cond.code yProgram_variableSet cProgram_variableSet 4 (some .int) :: xW) rmProgram_variableSet).room s m ([.ref (ad 1), .int v1, .int v2] : List Value).toArray below meth c H locs 0 0 (MQ below (qcProgram_variableSet D cA ad N kind target post A) ([.ref (ad 1), .int v1, .int v2] : List Value).toArray s 0 0 A) (F0 m pc ls [.int r]) := fun r  H locs pc ls hd hP hD hS hw => W.iret (v := r) hx hb hr (fun t ht hW => ⟨⟨r, (), rfl, hw, ⟨by rw [ht]; exact hP, va_K.moved hW.alike hK, hD⟩⟩, hS.F ht⟩) hS.2.2 hd
  generalize hQ : MQ below (qcProgram_variableSet D cA ad N kind target post A) ([.ref (ad 1), .int v1, .int v2] : List Value).toArray s 0 0 A = Q at hend ⊢
  have hl := lv_entry ([.ref (ad 1), .int v1, .int v2]) (n := 4) (Nat.le_of_ble_eq_true rfl)
  rw [lg_entry_eq]
  generalize (lg_sl ([.ref (ad 1), .int v1, .int v2]) ++ List.replicate (4 - (lg_sl ([.ref (ad 1), .int v1, .int v2])).length) Slot.unset).toArray = ls at hl ⊢
  have hl : lv_has ls 4 [(0, .ref (ad 1)), (1, .int v1), (2, .int v2)] := hl
  unfold wpProgram_variableSet at hw
  refine lv_iload_n hx hb dProgram_variableSet_0 rfl (lv_at hl 1 rfl) ?_
  refine lv_bipush (v := 6) hx hb dProgram_variableSet_1 (by decide) ?_
  refine lv_imul hx hb dProgram_variableSet_3 ?_
  refine lv_iload_n hx hb dProgram_variableSet_4 rfl (lv_at hl 2 rfl) ?_
  refine lv_iadd hx hb dProgram_variableSet_5 ?_
  refine lv_topi (fun v3_6 e_v3_6 => ?_)
  have hw := hw v3_6 e_v3_6
  refine lv_istore_n (lv' := [(3, .int v3_6), (0, .ref (ad 1)), (1, .int v1), (2, .int v2)]) hx hb dProgram_variableSet_6 rfl hl (by decide) rfl (fun ls hl => ?_)
  refine lv_aload_n hx hb dProgram_variableSet_7 rfl (lv_at hl 1 rfl) ?_
  refine va_get (D := D) (ci := 1) (v := .ref (ad 3)) (C := "OnceNamed$Program") (T := TX1) (N := 10) hx hb hts (fun w h => List.mem_cons_of_mem _ (inX1 w h)) hown hK hP 0 rfl rfl 2 (by decide) (hts _ (List.mem_cons_of_mem _ kw_46)) (fun _ h9 => h9) rfl dProgram_variableSet_8 ?_
  refine lv_iload_n hx hb dProgram_variableSet_11 rfl (lv_at hl 0 rfl) ?_
  have ho := hw.1
  have hw := hw.2
  refine va_iald hx hb hK hP 1 0 rfl rfl ho dProgram_variableSet_12 ?_
  refine xci (va_runS ⟨hx, hb, hml, hown, hts⟩ (ktProgram_setsVariable l D cA ad N _ (kind (Int32.toNatClampNeg v3_6)) _ hw) (va_cwS 1 hts (goodS kw_331 kw_332 kw_3 kw_333) rfl rfl rfl (by decide +kernel) ⟨Nat.le_of_ble_eq_true rfl, Nat.le_of_ble_eq_true rfl⟩) (xpreS hK hP hD hN [] rfl rfl) rfl rfl hl.1 rfl (lv_room (Nat.le_of_ble_eq_true rfl)) dProgram_variableSet_13 ⟨Nat.le_of_ble_eq_true rfl, Nat.le_of_ble_eq_true rfl⟩) hP hD hS hA [] [0, 1, 2] rfl rfl rfl rfl [0, 1, 2] rfl (fun _ => rfl) (fun r13 u H locs hw hP hD hS => ?_)
  obtain ⟨r13, rfl, hw⟩ := hw
  have hP : va_P D vwCl (wdProgram_variableSet cA ad N kind target) H := hP
  have hD : va_D A (wdProgram_variableSet cA ad N kind target) := hD
  refine lv_if_eq (tgt := 28) hx hb dProgram_variableSet_16 rfl (fun hc => ?_) (fun hc => ?_)
  · have hw := hw.1 (bI_0 hc)
    refine lv_iconst (v := (-1)) hx hb dProgram_variableSet_28 (by decide) ?_
    exact hend (-1) _ _ _ _ dProgram_variableSet_29 hP hD hS hw
  · have hw := hw.2 (bI_1 hc)
    refine lv_aload_n hx hb dProgram_variableSet_19 rfl (lv_at hl 1 rfl) ?_
    refine va_get (D := D) (ci := 1) (v := .ref (ad 4)) (C := "OnceNamed$Program") (T := TX1) (N := 10) hx hb hts (fun w h => List.mem_cons_of_mem _ (inX1 w h)) hown hK hP 0 rfl rfl 3 (by decide) (hts _ (List.mem_cons_of_mem _ kw_47)) (fun _ h9 => h9) rfl dProgram_variableSet_20 ?_
    refine lv_iload_n hx hb dProgram_variableSet_23 rfl (lv_at hl 0 rfl) ?_
    have ho := hw.1
    have hw := hw.2
    refine va_iald hx hb hK hP 2 0 rfl rfl ho dProgram_variableSet_24 ?_
    refine lv_goto (tgt := 29) hx hb dProgram_variableSet_25 rfl ?_
    exact hend (target (Int32.toNatClampNeg v3_6)) _ _ _ _ dProgram_variableSet_29 hP hD hS hw
abbrev wdProgram_firstVariable (cA : ClassId) (ad : Nat → Nat) (N : Nat) (kind : Nat → Int32) (first : Nat → Int32) : va_W := [((ad 1), .inr (1, [.int (nI N), .ref (ad 2), .ref (ad 3), .ref (ad 4), .ref (ad 5), .ref (ad 6), .ref (ad 7), .ref (ad 8), .ref (ad 9), .ref (ad 10)])), ((ad 3), .inl (cA, N * 6, .inl kind)), ((ad 5), .inl (cA, N * 6, .inl first))]
abbrev qcProgram_firstVariable (D : va_G) (cA : ClassId) (ad : Nat → Nat) (N : Nat) (kind : Nat → Int32) (first : Nat → Int32) (post : Int32 → Prop) (A : Nat → Prop) : Array Value → State → Outcome → State → Prop := va_Qi (S := Unit) (fun r u => post r ) (fun u t => xB D [(cA, .int)] A (wdProgram_firstVariable cA ad N kind first) t) A
abbrev rmProgram_firstVariable : Room := { frames := 1, cells := 0, slots := 0, locals := 20 }
set_option maxHeartbeats 4000000 in
set_option maxRecDepth 100000 in
theorem ktProgram_firstVariable (l : Launch) (D : va_G) (cA : ClassId) (ad : Nat → Nat) (N : Nat) (sz : Nat) (kind : Nat → Int32) (first : Nat → Int32) (v1 : Int32) (v2 : Int32) (post : Int32 → Prop) (hw : wpProgram_firstVariable N kind first v1 v2 post) : Met l yProgram_firstVariable (Cond.code yProgram_firstVariable cProgram_firstVariable 4 (some .int) :: xW) rmProgram_firstVariable (va_Pc [.ref (ad 1), .int v1, .int v2] (xPc D [(cA, .int)] (wdProgram_firstVariable cA ad N kind first) sz)) (qcProgram_firstVariable D cA ad N kind first post (va_A (wdProgram_firstVariable cA ad N kind first) sz)) 0 0 (va_A (wdProgram_firstVariable cA ad N kind first) sz) := by
  refine Met.ofW (cc := cProgram_firstVariable) (maxL := 4) (ret := (some .int)) (by decide) rfl ?_
  intro p e s m args below meth c s₁ B hml hv
  obtain ⟨rfl, hsz, hP, hK, hD0, hN⟩ := hv
  have hx := B.exec
  have hb := B.bytes
  have hr := B.returns
  have hts := atoms_spec (ws := (Cond.code yProgram_firstVariable cProgram_firstVariable 4 (some .int) :: xW)) B.pre
  have hown : s.vm.findClass "OnceNamed$Program" = some m.cls := findClass_of_methodNamed B.named
  have hlocks := B.notSynchronized
  subst hsz
  have hD := hD0.self (sz := s.heap.size)
  generalize hAe : va_A (wdProgram_firstVariable cA ad N kind first) s.heap.size = A at hD ⊢
  have hA : ∀ q : Nat, s.heap.size ≤ q → A q := fun q h => by rw [← hAe]; exact Or.inr h
  have hS : va_S A s.heap s.heap [] := va_S.rf
  have hend : ∀ (r : Int32)  (H : Heap) (locs : List Loc) (pc : Nat) (ls : Array Slot), decode cProgram_firstVariable pc = .ok (.ireturn, 1) → va_P D vwCl (wdProgram_firstVariable cA ad N kind first) H → va_D A (wdProgram_firstVariable cA ad N kind first) → va_S A s.heap H locs → post r  → W p l e (headSpec (Cond.code yProgram_firstVariable cProgram_firstVariable 4 (some .int) :: xW) rmProgram_firstVariable).room s m ([.ref (ad 1), .int v1, .int v2] : List Value).toArray below meth c H locs 0 0 (MQ below (qcProgram_firstVariable D cA ad N kind first post A) ([.ref (ad 1), .int v1, .int v2] : List Value).toArray s 0 0 A) (F0 m pc ls [.int r]) := fun r  H locs pc ls hd hP hD hS hw => W.iret (v := r) hx hb hr (fun t ht hW => ⟨⟨r, (), rfl, hw, ⟨by rw [ht]; exact hP, va_K.moved hW.alike hK, hD⟩⟩, hS.F ht⟩) hS.2.2 hd
  generalize hQ : MQ below (qcProgram_firstVariable D cA ad N kind first post A) ([.ref (ad 1), .int v1, .int v2] : List Value).toArray s 0 0 A = Q at hend ⊢
  have hl := lv_entry ([.ref (ad 1), .int v1, .int v2]) (n := 4) (Nat.le_of_ble_eq_true rfl)
  rw [lg_entry_eq]
  generalize (lg_sl ([.ref (ad 1), .int v1, .int v2]) ++ List.replicate (4 - (lg_sl ([.ref (ad 1), .int v1, .int v2])).length) Slot.unset).toArray = ls at hl ⊢
  have hl : lv_has ls 4 [(0, .ref (ad 1)), (1, .int v1), (2, .int v2)] := hl
  unfold wpProgram_firstVariable at hw
  refine lv_iload_n hx hb dProgram_firstVariable_0 rfl (lv_at hl 1 rfl) ?_
  refine lv_bipush (v := 6) hx hb dProgram_firstVariable_1 (by decide) ?_
  refine lv_imul hx hb dProgram_firstVariable_3 ?_
  refine lv_iload_n hx hb dProgram_firstVariable_4 rfl (lv_at hl 2 rfl) ?_
  refine lv_iadd hx hb dProgram_firstVariable_5 ?_
  refine lv_topi (fun v3_6 e_v3_6 => ?_)
  have hw := hw v3_6 e_v3_6
  refine lv_istore_n (lv' := [(3, .int v3_6), (0, .ref (ad 1)), (1, .int v1), (2, .int v2)]) hx hb dProgram_firstVariable_6 rfl hl (by decide) rfl (fun ls hl => ?_)
  refine lv_aload_n hx hb dProgram_firstVariable_7 rfl (lv_at hl 1 rfl) ?_
  refine va_get (D := D) (ci := 1) (v := .ref (ad 3)) (C := "OnceNamed$Program") (T := TX1) (N := 10) hx hb hts (fun w h => List.mem_cons_of_mem _ (inX1 w h)) hown hK hP 0 rfl rfl 2 (by decide) (hts _ (List.mem_cons_of_mem _ kw_46)) (fun _ h9 => h9) rfl dProgram_firstVariable_8 ?_
  refine lv_iload_n hx hb dProgram_firstVariable_11 rfl (lv_at hl 0 rfl) ?_
  have ho := hw.1
  have hw := hw.2
  refine va_iald hx hb hK hP 1 0 rfl rfl ho dProgram_firstVariable_12 ?_
  refine xci (va_runS ⟨hx, hb, hml, hown, hts⟩ (ktProgram_usesFirst l D cA ad N _ (kind (Int32.toNatClampNeg v3_6)) _ hw) (va_cwS 1 hts (goodS kw_366 kw_367 kw_3 kw_368) rfl rfl rfl (by decide +kernel) ⟨Nat.le_of_ble_eq_true rfl, Nat.le_of_ble_eq_true rfl⟩) (xpreS hK hP hD hN [] rfl rfl) rfl rfl hl.1 rfl (lv_room (Nat.le_of_ble_eq_true rfl)) dProgram_firstVariable_13 ⟨Nat.le_of_ble_eq_true rfl, Nat.le_of_ble_eq_true rfl⟩) hP hD hS hA [] [0, 1, 2] rfl rfl rfl rfl [0, 1, 2] rfl (fun _ => rfl) (fun r13 u H locs hw hP hD hS => ?_)
  obtain ⟨r13, rfl, hw⟩ := hw
  have hP : va_P D vwCl (wdProgram_firstVariable cA ad N kind first) H := hP
  have hD : va_D A (wdProgram_firstVariable cA ad N kind first) := hD
  refine lv_if_eq (tgt := 28) hx hb dProgram_firstVariable_16 rfl (fun hc => ?_) (fun hc => ?_)
  · have hw := hw.1 (bI_0 hc)
    refine lv_iconst (v := (-1)) hx hb dProgram_firstVariable_28 (by decide) ?_
    exact hend (-1) _ _ _ _ dProgram_firstVariable_29 hP hD hS hw
  · have hw := hw.2 (bI_1 hc)
    refine lv_aload_n hx hb dProgram_firstVariable_19 rfl (lv_at hl 1 rfl) ?_
    refine va_get (D := D) (ci := 1) (v := .ref (ad 5)) (C := "OnceNamed$Program") (T := TX1) (N := 10) hx hb hts (fun w h => List.mem_cons_of_mem _ (inX1 w h)) hown hK hP 0 rfl rfl 4 (by decide) (hts _ (List.mem_cons_of_mem _ kw_48)) (fun _ h9 => h9) rfl dProgram_firstVariable_20 ?_
    refine lv_iload_n hx hb dProgram_firstVariable_23 rfl (lv_at hl 0 rfl) ?_
    have ho := hw.1
    have hw := hw.2
    refine va_iald hx hb hK hP 2 0 rfl rfl ho dProgram_firstVariable_24 ?_
    refine lv_goto (tgt := 29) hx hb dProgram_firstVariable_25 rfl ?_
    exact hend (first (Int32.toNatClampNeg v3_6)) _ _ _ _ dProgram_firstVariable_29 hP hD hS hw
abbrev wdProgram_secondVariable (cA : ClassId) (ad : Nat → Nat) (N : Nat) (kind : Nat → Int32) (second : Nat → Int32) : va_W := [((ad 1), .inr (1, [.int (nI N), .ref (ad 2), .ref (ad 3), .ref (ad 4), .ref (ad 5), .ref (ad 6), .ref (ad 7), .ref (ad 8), .ref (ad 9), .ref (ad 10)])), ((ad 3), .inl (cA, N * 6, .inl kind)), ((ad 6), .inl (cA, N * 6, .inl second))]
abbrev qcProgram_secondVariable (D : va_G) (cA : ClassId) (ad : Nat → Nat) (N : Nat) (kind : Nat → Int32) (second : Nat → Int32) (post : Int32 → Prop) (A : Nat → Prop) : Array Value → State → Outcome → State → Prop := va_Qi (S := Unit) (fun r u => post r ) (fun u t => xB D [(cA, .int)] A (wdProgram_secondVariable cA ad N kind second) t) A
abbrev rmProgram_secondVariable : Room := { frames := 1, cells := 0, slots := 0, locals := 20 }
set_option maxHeartbeats 4000000 in
set_option maxRecDepth 100000 in
theorem ktProgram_secondVariable (l : Launch) (D : va_G) (cA : ClassId) (ad : Nat → Nat) (N : Nat) (sz : Nat) (kind : Nat → Int32) (second : Nat → Int32) (v1 : Int32) (v2 : Int32) (post : Int32 → Prop) (hw : wpProgram_secondVariable N kind second v1 v2 post) : Met l yProgram_secondVariable (Cond.code yProgram_secondVariable cProgram_secondVariable 4 (some .int) :: xW) rmProgram_secondVariable (va_Pc [.ref (ad 1), .int v1, .int v2] (xPc D [(cA, .int)] (wdProgram_secondVariable cA ad N kind second) sz)) (qcProgram_secondVariable D cA ad N kind second post (va_A (wdProgram_secondVariable cA ad N kind second) sz)) 0 0 (va_A (wdProgram_secondVariable cA ad N kind second) sz) := by
  refine Met.ofW (cc := cProgram_secondVariable) (maxL := 4) (ret := (some .int)) (by decide) rfl ?_
  intro p e s m args below meth c s₁ B hml hv
  obtain ⟨rfl, hsz, hP, hK, hD0, hN⟩ := hv
  have hx := B.exec
  have hb := B.bytes
  have hr := B.returns
  have hts := atoms_spec (ws := (Cond.code yProgram_secondVariable cProgram_secondVariable 4 (some .int) :: xW)) B.pre
  have hown : s.vm.findClass "OnceNamed$Program" = some m.cls := findClass_of_methodNamed B.named
  have hlocks := B.notSynchronized
  subst hsz
  have hD := hD0.self (sz := s.heap.size)
  generalize hAe : va_A (wdProgram_secondVariable cA ad N kind second) s.heap.size = A at hD ⊢
  have hA : ∀ q : Nat, s.heap.size ≤ q → A q := fun q h => by rw [← hAe]; exact Or.inr h
  have hS : va_S A s.heap s.heap [] := va_S.rf
  have hend : ∀ (r : Int32)  (H : Heap) (locs : List Loc) (pc : Nat) (ls : Array Slot), decode cProgram_secondVariable pc = .ok (.ireturn, 1) → va_P D vwCl (wdProgram_secondVariable cA ad N kind second) H → va_D A (wdProgram_secondVariable cA ad N kind second) → va_S A s.heap H locs → post r  → W p l e (headSpec (Cond.code yProgram_secondVariable cProgram_secondVariable 4 (some .int) :: xW) rmProgram_secondVariable).room s m ([.ref (ad 1), .int v1, .int v2] : List Value).toArray below meth c H locs 0 0 (MQ below (qcProgram_secondVariable D cA ad N kind second post A) ([.ref (ad 1), .int v1, .int v2] : List Value).toArray s 0 0 A) (F0 m pc ls [.int r]) := fun r  H locs pc ls hd hP hD hS hw => W.iret (v := r) hx hb hr (fun t ht hW => ⟨⟨r, (), rfl, hw, ⟨by rw [ht]; exact hP, va_K.moved hW.alike hK, hD⟩⟩, hS.F ht⟩) hS.2.2 hd
  generalize hQ : MQ below (qcProgram_secondVariable D cA ad N kind second post A) ([.ref (ad 1), .int v1, .int v2] : List Value).toArray s 0 0 A = Q at hend ⊢
  have hl := lv_entry ([.ref (ad 1), .int v1, .int v2]) (n := 4) (Nat.le_of_ble_eq_true rfl)
  rw [lg_entry_eq]
  generalize (lg_sl ([.ref (ad 1), .int v1, .int v2]) ++ List.replicate (4 - (lg_sl ([.ref (ad 1), .int v1, .int v2])).length) Slot.unset).toArray = ls at hl ⊢
  have hl : lv_has ls 4 [(0, .ref (ad 1)), (1, .int v1), (2, .int v2)] := hl
  unfold wpProgram_secondVariable at hw
  refine lv_iload_n hx hb dProgram_secondVariable_0 rfl (lv_at hl 1 rfl) ?_
  refine lv_bipush (v := 6) hx hb dProgram_secondVariable_1 (by decide) ?_
  refine lv_imul hx hb dProgram_secondVariable_3 ?_
  refine lv_iload_n hx hb dProgram_secondVariable_4 rfl (lv_at hl 2 rfl) ?_
  refine lv_iadd hx hb dProgram_secondVariable_5 ?_
  refine lv_topi (fun v3_6 e_v3_6 => ?_)
  have hw := hw v3_6 e_v3_6
  refine lv_istore_n (lv' := [(3, .int v3_6), (0, .ref (ad 1)), (1, .int v1), (2, .int v2)]) hx hb dProgram_secondVariable_6 rfl hl (by decide) rfl (fun ls hl => ?_)
  refine lv_aload_n hx hb dProgram_secondVariable_7 rfl (lv_at hl 1 rfl) ?_
  refine va_get (D := D) (ci := 1) (v := .ref (ad 3)) (C := "OnceNamed$Program") (T := TX1) (N := 10) hx hb hts (fun w h => List.mem_cons_of_mem _ (inX1 w h)) hown hK hP 0 rfl rfl 2 (by decide) (hts _ (List.mem_cons_of_mem _ kw_46)) (fun _ h9 => h9) rfl dProgram_secondVariable_8 ?_
  refine lv_iload_n hx hb dProgram_secondVariable_11 rfl (lv_at hl 0 rfl) ?_
  have ho := hw.1
  have hw := hw.2
  refine va_iald hx hb hK hP 1 0 rfl rfl ho dProgram_secondVariable_12 ?_
  refine xci (va_runS ⟨hx, hb, hml, hown, hts⟩ (ktProgram_usesSecond l D cA ad N _ (kind (Int32.toNatClampNeg v3_6)) _ hw) (va_cwS 1 hts (goodS kw_377 kw_378 kw_3 kw_379) rfl rfl rfl (by decide +kernel) ⟨Nat.le_of_ble_eq_true rfl, Nat.le_of_ble_eq_true rfl⟩) (xpreS hK hP hD hN [] rfl rfl) rfl rfl hl.1 rfl (lv_room (Nat.le_of_ble_eq_true rfl)) dProgram_secondVariable_13 ⟨Nat.le_of_ble_eq_true rfl, Nat.le_of_ble_eq_true rfl⟩) hP hD hS hA [] [0, 1, 2] rfl rfl rfl rfl [0, 1, 2] rfl (fun _ => rfl) (fun r13 u H locs hw hP hD hS => ?_)
  obtain ⟨r13, rfl, hw⟩ := hw
  have hP : va_P D vwCl (wdProgram_secondVariable cA ad N kind second) H := hP
  have hD : va_D A (wdProgram_secondVariable cA ad N kind second) := hD
  refine lv_if_eq (tgt := 28) hx hb dProgram_secondVariable_16 rfl (fun hc => ?_) (fun hc => ?_)
  · have hw := hw.1 (bI_0 hc)
    refine lv_iconst (v := (-1)) hx hb dProgram_secondVariable_28 (by decide) ?_
    exact hend (-1) _ _ _ _ dProgram_secondVariable_29 hP hD hS hw
  · have hw := hw.2 (bI_1 hc)
    refine lv_aload_n hx hb dProgram_secondVariable_19 rfl (lv_at hl 1 rfl) ?_
    refine va_get (D := D) (ci := 1) (v := .ref (ad 6)) (C := "OnceNamed$Program") (T := TX1) (N := 10) hx hb hts (fun w h => List.mem_cons_of_mem _ (inX1 w h)) hown hK hP 0 rfl rfl 5 (by decide) (hts _ (List.mem_cons_of_mem _ kw_49)) (fun _ h9 => h9) rfl dProgram_secondVariable_20 ?_
    refine lv_iload_n hx hb dProgram_secondVariable_23 rfl (lv_at hl 0 rfl) ?_
    have ho := hw.1
    have hw := hw.2
    refine va_iald hx hb hK hP 2 0 rfl rfl ho dProgram_secondVariable_24 ?_
    refine lv_goto (tgt := 29) hx hb dProgram_secondVariable_25 rfl ?_
    exact hend (second (Int32.toNatClampNeg v3_6)) _ _ _ _ dProgram_secondVariable_29 hP hD hS hw
abbrev wdProgram_variableOfFork (cA : ClassId) (ad : Nat → Nat) (N : Nat) (forkVariable : Nat → Int32) : va_W := [((ad 1), .inr (1, [.int (nI N), .ref (ad 2), .ref (ad 3), .ref (ad 4), .ref (ad 5), .ref (ad 6), .ref (ad 7), .ref (ad 8), .ref (ad 9), .ref (ad 10)])), ((ad 7), .inl (cA, N, .inl forkVariable))]
abbrev qcProgram_variableOfFork (D : va_G) (cA : ClassId) (ad : Nat → Nat) (N : Nat) (forkVariable : Nat → Int32) (post : Int32 → Prop) (A : Nat → Prop) : Array Value → State → Outcome → State → Prop := va_Qi (S := Unit) (fun r u => post r ) (fun u t => xB D [(cA, .int)] A (wdProgram_variableOfFork cA ad N forkVariable) t) A
abbrev rmProgram_variableOfFork : Room := { frames := 0, cells := 0, slots := 0, locals := 0 }
set_option maxHeartbeats 4000000 in
set_option maxRecDepth 100000 in
theorem ktProgram_variableOfFork (l : Launch) (D : va_G) (cA : ClassId) (ad : Nat → Nat) (N : Nat) (sz : Nat) (forkVariable : Nat → Int32) (v1 : Int32) (post : Int32 → Prop) (hw : wpProgram_variableOfFork N forkVariable v1 post) : Met l yProgram_variableOfFork (Cond.code yProgram_variableOfFork cProgram_variableOfFork 2 (some .int) :: xW) rmProgram_variableOfFork (va_Pc [.ref (ad 1), .int v1] (xPc D [(cA, .int)] (wdProgram_variableOfFork cA ad N forkVariable) sz)) (qcProgram_variableOfFork D cA ad N forkVariable post (va_A (wdProgram_variableOfFork cA ad N forkVariable) sz)) 0 0 (va_A (wdProgram_variableOfFork cA ad N forkVariable) sz) := by
  refine Met.ofW (cc := cProgram_variableOfFork) (maxL := 2) (ret := (some .int)) (by decide) rfl ?_
  intro p e s m args below meth c s₁ B hml hv
  obtain ⟨rfl, hsz, hP, hK, hD0, hN⟩ := hv
  have hx := B.exec
  have hb := B.bytes
  have hr := B.returns
  have hts := atoms_spec (ws := (Cond.code yProgram_variableOfFork cProgram_variableOfFork 2 (some .int) :: xW)) B.pre
  have hown : s.vm.findClass "OnceNamed$Program" = some m.cls := findClass_of_methodNamed B.named
  have hlocks := B.notSynchronized
  subst hsz
  have hD := hD0.self (sz := s.heap.size)
  generalize hAe : va_A (wdProgram_variableOfFork cA ad N forkVariable) s.heap.size = A at hD ⊢
  have hA : ∀ q : Nat, s.heap.size ≤ q → A q := fun q h => by rw [← hAe]; exact Or.inr h
  have hS : va_S A s.heap s.heap [] := va_S.rf
  have hend : ∀ (r : Int32)  (H : Heap) (locs : List Loc) (pc : Nat) (ls : Array Slot), decode cProgram_variableOfFork pc = .ok (.ireturn, 1) → va_P D vwCl (wdProgram_variableOfFork cA ad N forkVariable) H → va_D A (wdProgram_variableOfFork cA ad N forkVariable) → va_S A s.heap H locs → post r  → W p l e (headSpec (Cond.code yProgram_variableOfFork cProgram_variableOfFork 2 (some .int) :: xW) rmProgram_variableOfFork).room s m ([.ref (ad 1), .int v1] : List Value).toArray below meth c H locs 0 0 (MQ below (qcProgram_variableOfFork D cA ad N forkVariable post A) ([.ref (ad 1), .int v1] : List Value).toArray s 0 0 A) (F0 m pc ls [.int r]) := fun r  H locs pc ls hd hP hD hS hw => W.iret (v := r) hx hb hr (fun t ht hW => ⟨⟨r, (), rfl, hw, ⟨by rw [ht]; exact hP, va_K.moved hW.alike hK, hD⟩⟩, hS.F ht⟩) hS.2.2 hd
  generalize hQ : MQ below (qcProgram_variableOfFork D cA ad N forkVariable post A) ([.ref (ad 1), .int v1] : List Value).toArray s 0 0 A = Q at hend ⊢
  have hl := lv_entry ([.ref (ad 1), .int v1]) (n := 2) (Nat.le_of_ble_eq_true rfl)
  rw [lg_entry_eq]
  generalize (lg_sl ([.ref (ad 1), .int v1]) ++ List.replicate (2 - (lg_sl ([.ref (ad 1), .int v1])).length) Slot.unset).toArray = ls at hl ⊢
  have hl : lv_has ls 2 [(0, .ref (ad 1)), (1, .int v1)] := hl
  unfold wpProgram_variableOfFork at hw
  refine lv_aload_n hx hb dProgram_variableOfFork_0 rfl (lv_at hl 0 rfl) ?_
  refine va_get (D := D) (ci := 1) (v := .ref (ad 7)) (C := "OnceNamed$Program") (T := TX1) (N := 10) hx hb hts (fun w h => List.mem_cons_of_mem _ (inX1 w h)) hown hK hP 0 rfl rfl 6 (by decide) (hts _ (List.mem_cons_of_mem _ kw_50)) (fun _ h9 => h9) rfl dProgram_variableOfFork_1 ?_
  refine lv_iload_n hx hb dProgram_variableOfFork_4 rfl (lv_at hl 1 rfl) ?_
  have ho := hw.1
  have hw := hw.2
  refine va_iald hx hb hK hP 1 0 rfl rfl ho dProgram_variableOfFork_5 ?_
  exact hend (forkVariable (Int32.toNatClampNeg v1)) _ _ _ _ dProgram_variableOfFork_6 hP hD hS hw
abbrev wdProgram_blockAfter (cA : ClassId) (ad : Nat → Nat) (N : Nat) (yes : Nat → Int32) (no : Nat → Int32) : va_W := [((ad 1), .inr (1, [.int (nI N), .ref (ad 2), .ref (ad 3), .ref (ad 4), .ref (ad 5), .ref (ad 6), .ref (ad 7), .ref (ad 8), .ref (ad 9), .ref (ad 10)])), ((ad 8), .inl (cA, N, .inl yes)), ((ad 9), .inl (cA, N, .inl no))]
abbrev qcProgram_blockAfter (D : va_G) (cA : ClassId) (ad : Nat → Nat) (N : Nat) (yes : Nat → Int32) (no : Nat → Int32) (post : Int32 → Prop) (A : Nat → Prop) : Array Value → State → Outcome → State → Prop := va_Qi (S := Unit) (fun r u => post r ) (fun u t => xB D [(cA, .int)] A (wdProgram_blockAfter cA ad N yes no) t) A
abbrev rmProgram_blockAfter : Room := { frames := 0, cells := 0, slots := 0, locals := 0 }
set_option maxHeartbeats 4000000 in
set_option maxRecDepth 100000 in
theorem ktProgram_blockAfter (l : Launch) (D : va_G) (cA : ClassId) (ad : Nat → Nat) (N : Nat) (sz : Nat) (yes : Nat → Int32) (no : Nat → Int32) (v1 : Int32) (v2 : Bool) (post : Int32 → Prop) (hw : wpProgram_blockAfter N yes no v1 v2 post) : Met l yProgram_blockAfter (Cond.code yProgram_blockAfter cProgram_blockAfter 3 (some .int) :: xW) rmProgram_blockAfter (va_Pc [.ref (ad 1), .int v1, .int (bI v2)] (xPc D [(cA, .int)] (wdProgram_blockAfter cA ad N yes no) sz)) (qcProgram_blockAfter D cA ad N yes no post (va_A (wdProgram_blockAfter cA ad N yes no) sz)) 0 0 (va_A (wdProgram_blockAfter cA ad N yes no) sz) := by
  refine Met.ofW (cc := cProgram_blockAfter) (maxL := 3) (ret := (some .int)) (by decide) rfl ?_
  intro p e s m args below meth c s₁ B hml hv
  obtain ⟨rfl, hsz, hP, hK, hD0, hN⟩ := hv
  have hx := B.exec
  have hb := B.bytes
  have hr := B.returns
  have hts := atoms_spec (ws := (Cond.code yProgram_blockAfter cProgram_blockAfter 3 (some .int) :: xW)) B.pre
  have hown : s.vm.findClass "OnceNamed$Program" = some m.cls := findClass_of_methodNamed B.named
  have hlocks := B.notSynchronized
  subst hsz
  have hD := hD0.self (sz := s.heap.size)
  generalize hAe : va_A (wdProgram_blockAfter cA ad N yes no) s.heap.size = A at hD ⊢
  have hA : ∀ q : Nat, s.heap.size ≤ q → A q := fun q h => by rw [← hAe]; exact Or.inr h
  have hS : va_S A s.heap s.heap [] := va_S.rf
  have hend : ∀ (r : Int32)  (H : Heap) (locs : List Loc) (pc : Nat) (ls : Array Slot), decode cProgram_blockAfter pc = .ok (.ireturn, 1) → va_P D vwCl (wdProgram_blockAfter cA ad N yes no) H → va_D A (wdProgram_blockAfter cA ad N yes no) → va_S A s.heap H locs → post r  → W p l e (headSpec (Cond.code yProgram_blockAfter cProgram_blockAfter 3 (some .int) :: xW) rmProgram_blockAfter).room s m ([.ref (ad 1), .int v1, .int (bI v2)] : List Value).toArray below meth c H locs 0 0 (MQ below (qcProgram_blockAfter D cA ad N yes no post A) ([.ref (ad 1), .int v1, .int (bI v2)] : List Value).toArray s 0 0 A) (F0 m pc ls [.int r]) := fun r  H locs pc ls hd hP hD hS hw => W.iret (v := r) hx hb hr (fun t ht hW => ⟨⟨r, (), rfl, hw, ⟨by rw [ht]; exact hP, va_K.moved hW.alike hK, hD⟩⟩, hS.F ht⟩) hS.2.2 hd
  generalize hQ : MQ below (qcProgram_blockAfter D cA ad N yes no post A) ([.ref (ad 1), .int v1, .int (bI v2)] : List Value).toArray s 0 0 A = Q at hend ⊢
  have hl := lv_entry ([.ref (ad 1), .int v1, .int (bI v2)]) (n := 3) (Nat.le_of_ble_eq_true rfl)
  rw [lg_entry_eq]
  generalize (lg_sl ([.ref (ad 1), .int v1, .int (bI v2)]) ++ List.replicate (3 - (lg_sl ([.ref (ad 1), .int v1, .int (bI v2)])).length) Slot.unset).toArray = ls at hl ⊢
  have hl : lv_has ls 3 [(0, .ref (ad 1)), (1, .int v1), (2, .int (bI v2))] := hl
  unfold wpProgram_blockAfter at hw
  refine lv_iload_n hx hb dProgram_blockAfter_0 rfl (lv_at hl 2 rfl) ?_
  refine lv_if_eq (tgt := 13) hx hb dProgram_blockAfter_1 rfl (fun hc => ?_) (fun hc => ?_)
  · have hw := hw.1 (bI_0 hc)
    refine lv_aload_n hx hb dProgram_blockAfter_13 rfl (lv_at hl 0 rfl) ?_
    refine va_get (D := D) (ci := 1) (v := .ref (ad 8)) (C := "OnceNamed$Program") (T := TX1) (N := 10) hx hb hts (fun w h => List.mem_cons_of_mem _ (inX1 w h)) hown hK hP 0 rfl rfl 7 (by decide) (hts _ (List.mem_cons_of_mem _ kw_51)) (fun _ h9 => h9) rfl dProgram_blockAfter_14 ?_
    refine lv_iload_n hx hb dProgram_blockAfter_17 rfl (lv_at hl 1 rfl) ?_
    have ho := hw.1
    have hw := hw.2
    refine va_iald hx hb hK hP 1 0 rfl rfl ho dProgram_blockAfter_18 ?_
    exact hend (yes (Int32.toNatClampNeg v1)) _ _ _ _ dProgram_blockAfter_19 hP hD hS hw
  · have hw := hw.2 (bI_1 hc)
    refine lv_aload_n hx hb dProgram_blockAfter_4 rfl (lv_at hl 0 rfl) ?_
    refine va_get (D := D) (ci := 1) (v := .ref (ad 9)) (C := "OnceNamed$Program") (T := TX1) (N := 10) hx hb hts (fun w h => List.mem_cons_of_mem _ (inX1 w h)) hown hK hP 0 rfl rfl 8 (by decide) (hts _ (List.mem_cons_of_mem _ kw_52)) (fun _ h9 => h9) rfl dProgram_blockAfter_5 ?_
    refine lv_iload_n hx hb dProgram_blockAfter_8 rfl (lv_at hl 1 rfl) ?_
    have ho := hw.1
    have hw := hw.2
    refine va_iald hx hb hK hP 2 0 rfl rfl ho dProgram_blockAfter_9 ?_
    refine lv_goto (tgt := 19) hx hb dProgram_blockAfter_10 rfl ?_
    exact hend (no (Int32.toNatClampNeg v1)) _ _ _ _ dProgram_blockAfter_19 hP hD hS hw
abbrev wdProgram_followers (cA : ClassId) (ad : Nat → Nat) (N : Nat) (yes : Nat → Int32) (no : Nat → Int32) : va_W := [((ad 1), .inr (1, [.int (nI N), .ref (ad 2), .ref (ad 3), .ref (ad 4), .ref (ad 5), .ref (ad 6), .ref (ad 7), .ref (ad 8), .ref (ad 9), .ref (ad 10)])), ((ad 8), .inl (cA, N, .inl yes)), ((ad 9), .inl (cA, N, .inl no))]
abbrev qcProgram_followers (D : va_G) (cA : ClassId) (ad : Nat → Nat) (N : Nat) (yes : Nat → Int32) (no : Nat → Int32) (post : Int32 → Prop) (A : Nat → Prop) : Array Value → State → Outcome → State → Prop := va_Qi (S := Unit) (fun r u => post r ) (fun u t => xB D [(cA, .int)] A (wdProgram_followers cA ad N yes no) t) A
abbrev rmProgram_followers : Room := { frames := 0, cells := 0, slots := 0, locals := 0 }
set_option maxHeartbeats 4000000 in
set_option maxRecDepth 100000 in
theorem ktProgram_followers (l : Launch) (D : va_G) (cA : ClassId) (ad : Nat → Nat) (N : Nat) (sz : Nat) (yes : Nat → Int32) (no : Nat → Int32) (v1 : Int32) (post : Int32 → Prop) (hw : wpProgram_followers N yes no v1 post) : Met l yProgram_followers (Cond.code yProgram_followers cProgram_followers 2 (some .int) :: xW) rmProgram_followers (va_Pc [.ref (ad 1), .int v1] (xPc D [(cA, .int)] (wdProgram_followers cA ad N yes no) sz)) (qcProgram_followers D cA ad N yes no post (va_A (wdProgram_followers cA ad N yes no) sz)) 0 0 (va_A (wdProgram_followers cA ad N yes no) sz) := by
  refine Met.ofW (cc := cProgram_followers) (maxL := 2) (ret := (some .int)) (by decide) rfl ?_
  intro p e s m args below meth c s₁ B hml hv
  obtain ⟨rfl, hsz, hP, hK, hD0, hN⟩ := hv
  have hx := B.exec
  have hb := B.bytes
  have hr := B.returns
  have hts := atoms_spec (ws := (Cond.code yProgram_followers cProgram_followers 2 (some .int) :: xW)) B.pre
  have hown : s.vm.findClass "OnceNamed$Program" = some m.cls := findClass_of_methodNamed B.named
  have hlocks := B.notSynchronized
  subst hsz
  have hD := hD0.self (sz := s.heap.size)
  generalize hAe : va_A (wdProgram_followers cA ad N yes no) s.heap.size = A at hD ⊢
  have hA : ∀ q : Nat, s.heap.size ≤ q → A q := fun q h => by rw [← hAe]; exact Or.inr h
  have hS : va_S A s.heap s.heap [] := va_S.rf
  have hend : ∀ (r : Int32)  (H : Heap) (locs : List Loc) (pc : Nat) (ls : Array Slot), decode cProgram_followers pc = .ok (.ireturn, 1) → va_P D vwCl (wdProgram_followers cA ad N yes no) H → va_D A (wdProgram_followers cA ad N yes no) → va_S A s.heap H locs → post r  → W p l e (headSpec (Cond.code yProgram_followers cProgram_followers 2 (some .int) :: xW) rmProgram_followers).room s m ([.ref (ad 1), .int v1] : List Value).toArray below meth c H locs 0 0 (MQ below (qcProgram_followers D cA ad N yes no post A) ([.ref (ad 1), .int v1] : List Value).toArray s 0 0 A) (F0 m pc ls [.int r]) := fun r  H locs pc ls hd hP hD hS hw => W.iret (v := r) hx hb hr (fun t ht hW => ⟨⟨r, (), rfl, hw, ⟨by rw [ht]; exact hP, va_K.moved hW.alike hK, hD⟩⟩, hS.F ht⟩) hS.2.2 hd
  generalize hQ : MQ below (qcProgram_followers D cA ad N yes no post A) ([.ref (ad 1), .int v1] : List Value).toArray s 0 0 A = Q at hend ⊢
  have hl := lv_entry ([.ref (ad 1), .int v1]) (n := 2) (Nat.le_of_ble_eq_true rfl)
  rw [lg_entry_eq]
  generalize (lg_sl ([.ref (ad 1), .int v1]) ++ List.replicate (2 - (lg_sl ([.ref (ad 1), .int v1])).length) Slot.unset).toArray = ls at hl ⊢
  have hl : lv_has ls 2 [(0, .ref (ad 1)), (1, .int v1)] := hl
  unfold wpProgram_followers at hw
  refine lv_aload_n hx hb dProgram_followers_0 rfl (lv_at hl 0 rfl) ?_
  refine va_get (D := D) (ci := 1) (v := .ref (ad 8)) (C := "OnceNamed$Program") (T := TX1) (N := 10) hx hb hts (fun w h => List.mem_cons_of_mem _ (inX1 w h)) hown hK hP 0 rfl rfl 7 (by decide) (hts _ (List.mem_cons_of_mem _ kw_51)) (fun _ h9 => h9) rfl dProgram_followers_1 ?_
  refine lv_iload_n hx hb dProgram_followers_4 rfl (lv_at hl 1 rfl) ?_
  have ho := hw.1
  have hw := hw.2
  refine va_iald hx hb hK hP 1 0 rfl rfl ho dProgram_followers_5 ?_
  refine lv_iconst (v := (-1)) hx hb dProgram_followers_6 (by decide) ?_
  refine lv_icmp_ne (tgt := 14) hx hb dProgram_followers_7 rfl (fun hc => ?_) (fun hc => ?_)
  · have hw := hw.1 hc
    refine lv_iconst (v := 1) hx hb dProgram_followers_14 (by decide) ?_
    refine lv_aload_n hx hb dProgram_followers_15 rfl (lv_at hl 0 rfl) ?_
    refine va_get (D := D) (ci := 1) (v := .ref (ad 8)) (C := "OnceNamed$Program") (T := TX1) (N := 10) hx hb hts (fun w h => List.mem_cons_of_mem _ (inX1 w h)) hown hK hP 0 rfl rfl 7 (by decide) (hts _ (List.mem_cons_of_mem _ kw_51)) (fun _ h9 => h9) rfl dProgram_followers_16 ?_
    refine lv_iload_n hx hb dProgram_followers_19 rfl (lv_at hl 1 rfl) ?_
    have ho := hw.1
    have hw := hw.2
    refine va_iald hx hb hK hP 1 0 rfl rfl ho dProgram_followers_20 ?_
    refine lv_ishl hx hb dProgram_followers_21 ?_
    refine lv_iconst (v := 1) hx hb dProgram_followers_22 (by decide) ?_
    refine lv_aload_n hx hb dProgram_followers_23 rfl (lv_at hl 0 rfl) ?_
    refine va_get (D := D) (ci := 1) (v := .ref (ad 9)) (C := "OnceNamed$Program") (T := TX1) (N := 10) hx hb hts (fun w h => List.mem_cons_of_mem _ (inX1 w h)) hown hK hP 0 rfl rfl 8 (by decide) (hts _ (List.mem_cons_of_mem _ kw_52)) (fun _ h9 => h9) rfl dProgram_followers_24 ?_
    refine lv_iload_n hx hb dProgram_followers_27 rfl (lv_at hl 1 rfl) ?_
    have ho := hw.1
    have hw := hw.2
    refine va_iald hx hb hK hP 2 0 rfl rfl ho dProgram_followers_28 ?_
    refine lv_ishl hx hb dProgram_followers_29 ?_
    refine lv_ior hx hb dProgram_followers_30 ?_
    exact hend (((1 : Int32) <<< ((yes (Int32.toNatClampNeg v1)) &&& 31)) ||| ((1 : Int32) <<< ((no (Int32.toNatClampNeg v1)) &&& 31))) _ _ _ _ dProgram_followers_31 hP hD hS hw
  · have hw := hw.2 hc
    refine lv_iconst (v := 0) hx hb dProgram_followers_10 (by decide) ?_
    refine lv_goto (tgt := 31) hx hb dProgram_followers_11 rfl ?_
    exact hend 0 _ _ _ _ dProgram_followers_31 hP hD hS hw
abbrev wdProgram_setsInBlock (cA : ClassId) (ad : Nat → Nat) (N : Nat) (stepCount : Nat → Int32) (kind : Nat → Int32) (target : Nat → Int32) : va_W := [((ad 1), .inr (1, [.int (nI N), .ref (ad 2), .ref (ad 3), .ref (ad 4), .ref (ad 5), .ref (ad 6), .ref (ad 7), .ref (ad 8), .ref (ad 9), .ref (ad 10)])), ((ad 2), .inl (cA, N, .inl stepCount)), ((ad 3), .inl (cA, N * 6, .inl kind)), ((ad 4), .inl (cA, N * 6, .inl target))]
abbrev qcProgram_setsInBlock (D : va_G) (cA : ClassId) (ad : Nat → Nat) (N : Nat) (stepCount : Nat → Int32) (kind : Nat → Int32) (target : Nat → Int32) (post : Bool → Prop) (A : Nat → Prop) : Array Value → State → Outcome → State → Prop := va_Qi (S := Unit) (fun r u => ∃ z : Bool, r = bI z ∧ post z ) (fun u t => xB D [(cA, .int)] A (wdProgram_setsInBlock cA ad N stepCount kind target) t) A
abbrev rmProgram_setsInBlock : Room := { frames := 2, cells := 0, slots := 0, locals := 43 }
set_option maxHeartbeats 4000000 in
set_option maxRecDepth 100000 in
theorem ktProgram_setsInBlock (l : Launch) (D : va_G) (cA : ClassId) (ad : Nat → Nat) (N : Nat) (sz : Nat) (stepCount : Nat → Int32) (kind : Nat → Int32) (target : Nat → Int32) (v1 : Int32) (v2 : Int32) (post : Bool → Prop) (hw : wpProgram_setsInBlock N stepCount kind target v1 v2 post) : Met l yProgram_setsInBlock (Cond.code yProgram_setsInBlock cProgram_setsInBlock 4 (some .boolean) :: xW) rmProgram_setsInBlock (va_Pc [.ref (ad 1), .int v1, .int v2] (xPc D [(cA, .int)] (wdProgram_setsInBlock cA ad N stepCount kind target) sz)) (qcProgram_setsInBlock D cA ad N stepCount kind target post (va_A (wdProgram_setsInBlock cA ad N stepCount kind target) sz)) 0 0 (va_A (wdProgram_setsInBlock cA ad N stepCount kind target) sz) := by
  refine Met.ofW (cc := cProgram_setsInBlock) (maxL := 4) (ret := (some .boolean)) (by decide) rfl ?_
  intro p e s m args below meth c s₁ B hml hv
  obtain ⟨rfl, hsz, hP, hK, hD0, hN⟩ := hv
  have hx := B.exec
  have hb := B.bytes
  have hr := B.returns
  have hts := atoms_spec (ws := (Cond.code yProgram_setsInBlock cProgram_setsInBlock 4 (some .boolean) :: xW)) B.pre
  have hown : s.vm.findClass "OnceNamed$Program" = some m.cls := findClass_of_methodNamed B.named
  have hlocks := B.notSynchronized
  subst hsz
  have hD := hD0.self (sz := s.heap.size)
  generalize hAe : va_A (wdProgram_setsInBlock cA ad N stepCount kind target) s.heap.size = A at hD ⊢
  have hA : ∀ q : Nat, s.heap.size ≤ q → A q := fun q h => by rw [← hAe]; exact Or.inr h
  have hS : va_S A s.heap s.heap [] := va_S.rf
  have hend : ∀ (r : Bool)  (H : Heap) (locs : List Loc) (pc : Nat) (ls : Array Slot), decode cProgram_setsInBlock pc = .ok (.ireturn, 1) → va_P D vwCl (wdProgram_setsInBlock cA ad N stepCount kind target) H → va_D A (wdProgram_setsInBlock cA ad N stepCount kind target) → va_S A s.heap H locs → post r  → W p l e (headSpec (Cond.code yProgram_setsInBlock cProgram_setsInBlock 4 (some .boolean) :: xW) rmProgram_setsInBlock).room s m ([.ref (ad 1), .int v1, .int v2] : List Value).toArray below meth c H locs 0 0 (MQ below (qcProgram_setsInBlock D cA ad N stepCount kind target post A) ([.ref (ad 1), .int v1, .int v2] : List Value).toArray s 0 0 A) (F0 m pc ls [.int (bI r)]) := fun r  H locs pc ls hd hP hD hS hw => W.zret (v := bI r) hx hb hr (bI_nar r) (fun t ht hW => ⟨⟨bI r, (), rfl, ⟨r, rfl, hw⟩, ⟨by rw [ht]; exact hP, va_K.moved hW.alike hK, hD⟩⟩, hS.F ht⟩) hS.2.2 hd
  generalize hQ : MQ below (qcProgram_setsInBlock D cA ad N stepCount kind target post A) ([.ref (ad 1), .int v1, .int v2] : List Value).toArray s 0 0 A = Q at hend ⊢
  have hl := lv_entry ([.ref (ad 1), .int v1, .int v2]) (n := 4) (Nat.le_of_ble_eq_true rfl)
  rw [lg_entry_eq]
  generalize (lg_sl ([.ref (ad 1), .int v1, .int v2]) ++ List.replicate (4 - (lg_sl ([.ref (ad 1), .int v1, .int v2])).length) Slot.unset).toArray = ls at hl ⊢
  have hl : lv_has ls 4 [(0, .ref (ad 1)), (1, .int v1), (2, .int v2)] := hl
  unfold wpProgram_setsInBlock at hw
  refine lv_iconst (v := 0) hx hb dProgram_setsInBlock_0 (by decide) ?_
  refine lv_istore_n (lv' := [(3, .int 0), (0, .ref (ad 1)), (1, .int v1), (2, .int v2)]) hx hb dProgram_setsInBlock_1 rfl hl (by decide) rfl (fun ls hl => ?_)
  obtain ⟨k2, hw⟩ := hw
  have hlp2 : ∀ (k : Nat), ∀ (v3_L2 : Int32) (ls : Array Slot) (H : Heap) (locs : List Loc), lv_has ls 4 [(0, .ref (ad 1)), (1, .int v1), (2, .int v2), (3, .int v3_L2)] → va_P D vwCl (wdProgram_setsInBlock cA ad N stepCount kind target) H → va_D A (wdProgram_setsInBlock cA ad N stepCount kind target) → va_S A s.heap H locs → lpProgram_setsInBlock_2 N v1 v2 stepCount kind target post k v3_L2 → W p l e (headSpec (Cond.code yProgram_setsInBlock cProgram_setsInBlock 4 (some .boolean) :: xW) rmProgram_setsInBlock).room s m ([.ref (ad 1), .int v1, .int v2] : List Value).toArray below meth c H locs 0 0 Q (F0 m 2 ls []) := by
    intro k
    induction k with
    | zero => intro v3_L2 ls H locs hl hP hD hS hw; exact False.elim hw
    | succ k ih =>
      intro v3_L2 ls H locs hl hP hD hS hw
      refine lv_iload_n hx hb dProgram_setsInBlock_2 rfl (lv_at hl 3 rfl) ?_
      refine lv_aload_n hx hb dProgram_setsInBlock_3 rfl (lv_at hl 0 rfl) ?_
      refine va_get (D := D) (ci := 1) (v := .ref (ad 2)) (C := "OnceNamed$Program") (T := TX1) (N := 10) hx hb hts (fun w h => List.mem_cons_of_mem _ (inX1 w h)) hown hK hP 0 rfl rfl 1 (by decide) (hts _ (List.mem_cons_of_mem _ kw_45)) (fun _ h9 => h9) rfl dProgram_setsInBlock_4 ?_
      refine lv_iload_n hx hb dProgram_setsInBlock_7 rfl (lv_at hl 1 rfl) ?_
      have ho := hw.1
      have hw := hw.2
      refine va_iald hx hb hK hP 1 0 rfl rfl ho dProgram_setsInBlock_8 ?_
      refine lv_icmp_ge (tgt := 30) hx hb dProgram_setsInBlock_9 rfl (fun hc => ?_) (fun hc => ?_)
      · have hw := hw.1 hc
        refine lv_iconst (v := 0) hx hb dProgram_setsInBlock_30 (by decide) ?_
        exact hend false _ _ _ _ dProgram_setsInBlock_31 hP hD hS hw
      · have hw := hw.2 hc
        refine lv_aload_n hx hb dProgram_setsInBlock_12 rfl (lv_at hl 0 rfl) ?_
        refine lv_iload_n hx hb dProgram_setsInBlock_13 rfl (lv_at hl 1 rfl) ?_
        refine lv_iload_n hx hb dProgram_setsInBlock_14 rfl (lv_at hl 3 rfl) ?_
        refine xci (va_runV ⟨hx, hb, hml, hown, hts⟩ (ktProgram_variableSet l D cA ad N _ kind target v1 v3_L2 _ hw) (cwV 2 hts (goodV kw_327 kw_328 kw_329 kw_3 kw_330) rfl rfl rfl (by decide +kernel) ⟨Nat.le_of_ble_eq_true rfl, Nat.le_of_ble_eq_true rfl⟩) (xpreV hK hP hD hN [0, 2, 3] rfl rfl 0 rfl rfl) rfl rfl hl.1 rfl (lv_room (Nat.le_of_ble_eq_true rfl)) dProgram_setsInBlock_15 ⟨Nat.le_of_ble_eq_true rfl, Nat.le_of_ble_eq_true rfl⟩) hP hD hS hA [0, 2, 3] [1] rfl rfl rfl rfl [1, 0, 2, 3] rfl (fun _ => rfl) (fun r15 u H locs hw hP hD hS => ?_)
        have hP : va_P D vwCl (wdProgram_setsInBlock cA ad N stepCount kind target) H := hP
        have hD : va_D A (wdProgram_setsInBlock cA ad N stepCount kind target) := hD
        refine lv_iload_n hx hb dProgram_setsInBlock_18 rfl (lv_at hl 2 rfl) ?_
        refine lv_icmp_ne (tgt := 24) hx hb dProgram_setsInBlock_19 rfl (fun hc => ?_) (fun hc => ?_)
        · have hw := hw.1 hc
          refine lv_iinc (k := 3) (v := (v3_L2 + 1)) (lv' := [(3, .int (v3_L2 + 1)), (0, .ref (ad 1)), (1, .int v1), (2, .int v2)]) hx hb dProgram_setsInBlock_24 hl rfl rfl (by decide) rfl (fun ls hl => ?_)
          refine lv_goto (tgt := 2) hx hb dProgram_setsInBlock_27 rfl ?_
          exact ih (v3_L2 + 1) _ _ _ (lv_sub hl [1, 2, 3, 0] rfl) hP hD hS hw
        · have hw := hw.2 hc
          refine lv_iconst (v := 1) hx hb dProgram_setsInBlock_22 (by decide) ?_
          exact hend true _ _ _ _ dProgram_setsInBlock_23 hP hD hS hw
  refine hlp2 k2 0 _ _ _ (lv_sub hl [1, 2, 3, 0] rfl) hP hD hS hw
