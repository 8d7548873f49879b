abbrev wdMd_thrown (cA : ClassId) (cB : ClassId) (bd : Nat → Nat) (N : Nat) (mThrown : Int32) (mReached : Int32) (mForm : Bool) (mSlot : Int32) (mOver : Bool) : va_W := [((bd 0), .inr (7, [.int mThrown, .int (nI N), .ref (bd 1), .ref (bd 2), .ref (bd 3), .ref (bd 4), .ref (bd 5), .ref (bd 6), .ref (bd 7), .ref (bd 8), .ref (bd 9), .ref (bd 10), .int mReached, .ref (bd 11), .int (bI mForm), .ref (bd 12), .ref (bd 13), .ref (bd 14), .ref (bd 15), .ref (bd 16), .ref (bd 17), .ref (bd 18), .ref (bd 19), .ref (bd 20), .ref (bd 21), .ref (bd 22), .ref (bd 23), .ref (bd 24), .ref (bd 25), .ref (bd 26), .ref (bd 27), .ref (bd 28), .int mSlot, .int (bI mOver)]))]
abbrev qcMd_thrown (D : va_G) (cA : ClassId) (cB : ClassId) (bd : Nat → Nat) (N : Nat) (mThrown : Int32) (mReached : Int32) (mForm : Bool) (mSlot : Int32) (mOver : Bool) (post : Int32 → Prop) (A : Nat → Prop) : Array Value → State → Outcome → State → Prop := va_Qi (S := Unit) (fun r u => post r ) (fun u t => xB D [(cA, .int), (cB, .boolean)] A (wdMd_thrown cA cB bd N mThrown mReached mForm mSlot mOver) t) A
abbrev rmMd_thrown : Room := { frames := 0, cells := 0, slots := 0, locals := 0 }
set_option maxHeartbeats 4000000 in
set_option maxRecDepth 100000 in
theorem ktMd_thrown (l : Launch) (D : va_G) (cA : ClassId) (cB : ClassId) (bd : Nat → Nat) (N : Nat) (sz : Nat) (mThrown : Int32) (mReached : Int32) (mForm : Bool) (mSlot : Int32) (mOver : Bool)  (post : Int32 → Prop) (hw : wpMd_thrown mThrown post) : Met l yMd_thrown (Cond.code yMd_thrown cMd_thrown 1 (some .int) :: xW) rmMd_thrown (va_Pc [.ref (bd 0)] (xPc D [(cA, .int), (cB, .boolean)] (wdMd_thrown cA cB bd N mThrown mReached mForm mSlot mOver) sz)) (qcMd_thrown D cA cB bd N mThrown mReached mForm mSlot mOver post (va_A (wdMd_thrown cA cB bd N mThrown mReached mForm mSlot mOver) sz)) 0 0 (va_A (wdMd_thrown cA cB bd N mThrown mReached mForm mSlot mOver) sz) := by
  refine Met.ofW (cc := cMd_thrown) (maxL := 1) (ret := (some .int)) (by decide) rfl ?_
  intro p e s m args below meth c s₁ B hml hv
  obtain ⟨rfl, hsz, hP, hK, hD0, hN⟩ := hv
  have hx := B.exec
  have hb := B.bytes
  have hr := B.returns
  have hts := atoms_spec (ws := (Cond.code yMd_thrown cMd_thrown 1 (some .int) :: xW)) B.pre
  have hown : s.vm.findClass "OnceNamedModel" = some m.cls := findClass_of_methodNamed B.named
  have hlocks := B.notSynchronized
  subst hsz
  have hD := hD0.self (sz := s.heap.size)
  generalize hAe : va_A (wdMd_thrown cA cB bd N mThrown mReached mForm mSlot mOver) s.heap.size = A at hD ⊢
  have hA : ∀ q : Nat, s.heap.size ≤ q → A q := fun q h => by rw [← hAe]; exact Or.inr h
  have hS : va_S A s.heap s.heap [] := va_S.rf
  have hend : ∀ (r : Int32)  (H : Heap) (locs : List Loc) (pc : Nat) (ls : Array Slot), decode cMd_thrown pc = .ok (.ireturn, 1) → va_P D vwCl (wdMd_thrown cA cB bd N mThrown mReached mForm mSlot mOver) H → va_D A (wdMd_thrown cA cB bd N mThrown mReached mForm mSlot mOver) → va_S A s.heap H locs → post r  → W p l e (headSpec (Cond.code yMd_thrown cMd_thrown 1 (some .int) :: xW) rmMd_thrown).room s m ([.ref (bd 0)] : List Value).toArray below meth c H locs 0 0 (MQ below (qcMd_thrown D cA cB bd N mThrown mReached mForm mSlot mOver post A) ([.ref (bd 0)] : List Value).toArray s 0 0 A) (F0 m pc ls [.int r]) := fun r  H locs pc ls hd hP hD hS hw => W.iret (v := r) hx hb hr (fun t ht hW => ⟨⟨r, (), rfl, hw, ⟨by rw [ht]; exact hP, va_K.moved hW.alike hK, hD⟩⟩, hS.F ht⟩) hS.2.2 hd
  generalize hQ : MQ below (qcMd_thrown D cA cB bd N mThrown mReached mForm mSlot mOver post A) ([.ref (bd 0)] : List Value).toArray s 0 0 A = Q at hend ⊢
  have hl := lv_entry ([.ref (bd 0)]) (n := 1) (Nat.le_of_ble_eq_true rfl)
  rw [lg_entry_eq]
  generalize (lg_sl ([.ref (bd 0)]) ++ List.replicate (1 - (lg_sl ([.ref (bd 0)])).length) Slot.unset).toArray = ls at hl ⊢
  have hl : lv_has ls 1 [(0, .ref (bd 0))] := hl
  unfold wpMd_thrown at hw
  refine lv_aload_n hx hb dMd_thrown_0 rfl (lv_at hl 0 rfl) ?_
  refine va_get (D := D) (ci := 7) (v := .int mThrown) (C := "OnceNamedModel") (T := TX7) (N := 34) hx hb hts (fun w h => List.mem_cons_of_mem _ (inX7 w h)) hown hK hP 0 rfl rfl 0 (by decide) (hts _ (List.mem_cons_of_mem _ kw_985)) (fun _ h9 => h9) rfl dMd_thrown_1 ?_
  exact hend mThrown _ _ _ _ dMd_thrown_4 hP hD hS hw
abbrev wdMd_noBlock (cA : ClassId) (cB : ClassId) (bd : Nat → Nat) (N : Nat) (mThrown : Int32) (mReached : Int32) (mForm : Bool) (mSlot : Int32) (mOver : Bool) : va_W := [((bd 0), .inr (7, [.int mThrown, .int (nI N), .ref (bd 1), .ref (bd 2), .ref (bd 3), .ref (bd 4), .ref (bd 5), .ref (bd 6), .ref (bd 7), .ref (bd 8), .ref (bd 9), .ref (bd 10), .int mReached, .ref (bd 11), .int (bI mForm), .ref (bd 12), .ref (bd 13), .ref (bd 14), .ref (bd 15), .ref (bd 16), .ref (bd 17), .ref (bd 18), .ref (bd 19), .ref (bd 20), .ref (bd 21), .ref (bd 22), .ref (bd 23), .ref (bd 24), .ref (bd 25), .ref (bd 26), .ref (bd 27), .ref (bd 28), .int mSlot, .int (bI mOver)]))]
abbrev qcMd_noBlock (D : va_G) (cA : ClassId) (cB : ClassId) (bd : Nat → Nat) (N : Nat) (mThrown : Int32) (mReached : Int32) (mForm : Bool) (mSlot : Int32) (mOver : Bool) (post : Bool → Prop) (A : Nat → Prop) : Array Value → State → Outcome → State → Prop := va_Qi (S := Unit) (fun r u => ∃ z : Bool, r = bI z ∧ post z ) (fun u t => xB D [(cA, .int), (cB, .boolean)] A (wdMd_noBlock cA cB bd N mThrown mReached mForm mSlot mOver) t) A
abbrev rmMd_noBlock : Room := { frames := 0, cells := 0, slots := 0, locals := 0 }
set_option maxHeartbeats 4000000 in
set_option maxRecDepth 100000 in
theorem ktMd_noBlock (l : Launch) (D : va_G) (cA : ClassId) (cB : ClassId) (bd : Nat → Nat) (N : Nat) (sz : Nat) (mThrown : Int32) (mReached : Int32) (mForm : Bool) (mSlot : Int32) (mOver : Bool) (v1 : Int32) (post : Bool → Prop) (hw : wpMd_noBlock N v1 post) : Met l yMd_noBlock (Cond.code yMd_noBlock cMd_noBlock 2 (some .boolean) :: xW) rmMd_noBlock (va_Pc [.ref (bd 0), .int v1] (xPc D [(cA, .int), (cB, .boolean)] (wdMd_noBlock cA cB bd N mThrown mReached mForm mSlot mOver) sz)) (qcMd_noBlock D cA cB bd N mThrown mReached mForm mSlot mOver post (va_A (wdMd_noBlock cA cB bd N mThrown mReached mForm mSlot mOver) sz)) 0 0 (va_A (wdMd_noBlock cA cB bd N mThrown mReached mForm mSlot mOver) sz) := by
  refine Met.ofW (cc := cMd_noBlock) (maxL := 2) (ret := (some .boolean)) (by decide) rfl ?_
  intro p e s m args below meth c s₁ B hml hv
  obtain ⟨rfl, hsz, hP, hK, hD0, hN⟩ := hv
  have hx := B.exec
  have hb := B.bytes
  have hr := B.returns
  have hts := atoms_spec (ws := (Cond.code yMd_noBlock cMd_noBlock 2 (some .boolean) :: xW)) B.pre
  have hown : s.vm.findClass "OnceNamedModel" = some m.cls := findClass_of_methodNamed B.named
  have hlocks := B.notSynchronized
  subst hsz
  have hD := hD0.self (sz := s.heap.size)
  generalize hAe : va_A (wdMd_noBlock cA cB bd N mThrown mReached mForm mSlot mOver) s.heap.size = A at hD ⊢
  have hA : ∀ q : Nat, s.heap.size ≤ q → A q := fun q h => by rw [← hAe]; exact Or.inr h
  have hS : va_S A s.heap s.heap [] := va_S.rf
  have hend : ∀ (r : Bool)  (H : Heap) (locs : List Loc) (pc : Nat) (ls : Array Slot), decode cMd_noBlock pc = .ok (.ireturn, 1) → va_P D vwCl (wdMd_noBlock cA cB bd N mThrown mReached mForm mSlot mOver) H → va_D A (wdMd_noBlock cA cB bd N mThrown mReached mForm mSlot mOver) → va_S A s.heap H locs → post r  → W p l e (headSpec (Cond.code yMd_noBlock cMd_noBlock 2 (some .boolean) :: xW) rmMd_noBlock).room s m ([.ref (bd 0), .int v1] : List Value).toArray below meth c H locs 0 0 (MQ below (qcMd_noBlock D cA cB bd N mThrown mReached mForm mSlot mOver post A) ([.ref (bd 0), .int v1] : List Value).toArray s 0 0 A) (F0 m pc ls [.int (bI r)]) := fun r  H locs pc ls hd hP hD hS hw => W.zret (v := bI r) hx hb hr (bI_nar r) (fun t ht hW => ⟨⟨bI r, (), rfl, ⟨r, rfl, hw⟩, ⟨by rw [ht]; exact hP, va_K.moved hW.alike hK, hD⟩⟩, hS.F ht⟩) hS.2.2 hd
  generalize hQ : MQ below (qcMd_noBlock D cA cB bd N mThrown mReached mForm mSlot mOver post A) ([.ref (bd 0), .int v1] : List Value).toArray s 0 0 A = Q at hend ⊢
  have hl := lv_entry ([.ref (bd 0), .int v1]) (n := 2) (Nat.le_of_ble_eq_true rfl)
  rw [lg_entry_eq]
  generalize (lg_sl ([.ref (bd 0), .int v1]) ++ List.replicate (2 - (lg_sl ([.ref (bd 0), .int v1])).length) Slot.unset).toArray = ls at hl ⊢
  have hl : lv_has ls 2 [(0, .ref (bd 0)), (1, .int v1)] := hl
  unfold wpMd_noBlock at hw
  refine lv_iload_n hx hb dMd_noBlock_0 rfl (lv_at hl 1 rfl) ?_
  refine lv_if_lt (tgt := 12) hx hb dMd_noBlock_1 rfl (fun hc => ?_) (fun hc => ?_)
  · have hw := hw.1 hc
    refine lv_iconst (v := 1) hx hb dMd_noBlock_12 (by decide) ?_
    refine lv_goto (tgt := 17) hx hb dMd_noBlock_13 rfl ?_
    exact hend true _ _ _ _ dMd_noBlock_17 hP hD hS hw
  · have hw := hw.2 hc
    refine lv_iload_n hx hb dMd_noBlock_4 rfl (lv_at hl 1 rfl) ?_
    refine lv_aload_n hx hb dMd_noBlock_5 rfl (lv_at hl 0 rfl) ?_
    refine va_get (D := D) (ci := 7) (v := .int (nI N)) (C := "OnceNamedModel") (T := TX7) (N := 34) hx hb hts (fun w h => List.mem_cons_of_mem _ (inX7 w h)) hown hK hP 0 rfl rfl 1 (by decide) (hts _ (List.mem_cons_of_mem _ kw_986)) (fun _ h9 => h9) rfl dMd_noBlock_6 ?_
    refine lv_icmp_lt (tgt := 16) hx hb dMd_noBlock_9 rfl (fun hc => ?_) (fun hc => ?_)
    · have hw := hw.1 hc
      refine lv_iconst (v := 0) hx hb dMd_noBlock_16 (by decide) ?_
      exact hend false _ _ _ _ dMd_noBlock_17 hP hD hS hw
    · have hw := hw.2 hc
      refine lv_iconst (v := 1) hx hb dMd_noBlock_12 (by decide) ?_
      refine lv_goto (tgt := 17) hx hb dMd_noBlock_13 rfl ?_
      exact hend true _ _ _ _ dMd_noBlock_17 hP hD hS hw
abbrev wdMd_noVariable (cA : ClassId) (cB : ClassId) (bd : Nat → Nat) (N : Nat)  : va_W := []
abbrev qcMd_noVariable (D : va_G) (cA : ClassId) (cB : ClassId) (bd : Nat → Nat) (N : Nat)  (post : Bool → Prop) (A : Nat → Prop) : Array Value → State → Outcome → State → Prop := va_Qi (S := Unit) (fun r u => ∃ z : Bool, r = bI z ∧ post z ) (fun u t => xB D [(cA, .int), (cB, .boolean)] A (wdMd_noVariable cA cB bd N) t) A
abbrev rmMd_noVariable : Room := { frames := 0, cells := 0, slots := 0, locals := 0 }
set_option maxHeartbeats 4000000 in
set_option maxRecDepth 100000 in
theorem ktMd_noVariable (l : Launch) (D : va_G) (cA : ClassId) (cB : ClassId) (bd : Nat → Nat) (N : Nat) (sz : Nat)  (v1 : Int32) (post : Bool → Prop) (hw : wpMd_noVariable v1 post) : Met l yMd_noVariable (Cond.code yMd_noVariable cMd_noVariable 2 (some .boolean) :: xW) rmMd_noVariable (va_Pc [.ref (bd 0), .int v1] (xPc D [(cA, .int), (cB, .boolean)] (wdMd_noVariable cA cB bd N) sz)) (qcMd_noVariable D cA cB bd N  post (va_A (wdMd_noVariable cA cB bd N) sz)) 0 0 (va_A (wdMd_noVariable cA cB bd N) sz) := by
  refine Met.ofW (cc := cMd_noVariable) (maxL := 2) (ret := (some .boolean)) (by decide) rfl ?_
  intro p e s m args below meth c s₁ B hml hv
  obtain ⟨rfl, hsz, hP, hK, hD0, hN⟩ := hv
  have hx := B.exec
  have hb := B.bytes
  have hr := B.returns
  have hts := atoms_spec (ws := (Cond.code yMd_noVariable cMd_noVariable 2 (some .boolean) :: xW)) B.pre
  have hown : s.vm.findClass "OnceNamedModel" = some m.cls := findClass_of_methodNamed B.named
  have hlocks := B.notSynchronized
  subst hsz
  have hD := hD0.self (sz := s.heap.size)
  generalize hAe : va_A (wdMd_noVariable cA cB bd N) s.heap.size = A at hD ⊢
  have hA : ∀ q : Nat, s.heap.size ≤ q → A q := fun q h => by rw [← hAe]; exact Or.inr h
  have hS : va_S A s.heap s.heap [] := va_S.rf
  have hend : ∀ (r : Bool)  (H : Heap) (locs : List Loc) (pc : Nat) (ls : Array Slot), decode cMd_noVariable pc = .ok (.ireturn, 1) → va_P D vwCl (wdMd_noVariable cA cB bd N) H → va_D A (wdMd_noVariable cA cB bd N) → va_S A s.heap H locs → post r  → W p l e (headSpec (Cond.code yMd_noVariable cMd_noVariable 2 (some .boolean) :: xW) rmMd_noVariable).room s m ([.ref (bd 0), .int v1] : List Value).toArray below meth c H locs 0 0 (MQ below (qcMd_noVariable D cA cB bd N  post A) ([.ref (bd 0), .int v1] : List Value).toArray s 0 0 A) (F0 m pc ls [.int (bI r)]) := fun r  H locs pc ls hd hP hD hS hw => W.zret (v := bI r) hx hb hr (bI_nar r) (fun t ht hW => ⟨⟨bI r, (), rfl, ⟨r, rfl, hw⟩, ⟨by rw [ht]; exact hP, va_K.moved hW.alike hK, hD⟩⟩, hS.F ht⟩) hS.2.2 hd
  generalize hQ : MQ below (qcMd_noVariable D cA cB bd N  post A) ([.ref (bd 0), .int v1] : List Value).toArray s 0 0 A = Q at hend ⊢
  have hl := lv_entry ([.ref (bd 0), .int v1]) (n := 2) (Nat.le_of_ble_eq_true rfl)
  rw [lg_entry_eq]
  generalize (lg_sl ([.ref (bd 0), .int v1]) ++ List.replicate (2 - (lg_sl ([.ref (bd 0), .int v1])).length) Slot.unset).toArray = ls at hl ⊢
  have hl : lv_has ls 2 [(0, .ref (bd 0)), (1, .int v1)] := hl
  unfold wpMd_noVariable at hw
  refine lv_iload_n hx hb dMd_noVariable_0 rfl (lv_at hl 1 rfl) ?_
  refine lv_if_lt (tgt := 9) hx hb dMd_noVariable_1 rfl (fun hc => ?_) (fun hc => ?_)
  · have hw := hw.1 hc
    refine lv_iconst (v := 1) hx hb dMd_noVariable_9 (by decide) ?_
    refine lv_goto (tgt := 14) hx hb dMd_noVariable_10 rfl ?_
    exact hend true _ _ _ _ dMd_noVariable_14 hP hD hS hw
  · have hw := hw.2 hc
    refine lv_iload_n hx hb dMd_noVariable_4 rfl (lv_at hl 1 rfl) ?_
    refine lv_iconst (v := 5) hx hb dMd_noVariable_5 (by decide) ?_
    refine lv_icmp_le (tgt := 13) hx hb dMd_noVariable_6 rfl (fun hc => ?_) (fun hc => ?_)
    · have hw := hw.1 hc
      refine lv_iconst (v := 0) hx hb dMd_noVariable_13 (by decide) ?_
      exact hend false _ _ _ _ dMd_noVariable_14 hP hD hS hw
    · have hw := hw.2 hc
      refine lv_iconst (v := 1) hx hb dMd_noVariable_9 (by decide) ?_
      refine lv_goto (tgt := 14) hx hb dMd_noVariable_10 rfl ?_
      exact hend true _ _ _ _ dMd_noVariable_14 hP hD hS hw
abbrev wdMd_step (cA : ClassId) (cB : ClassId) (bd : Nat → Nat) (N : Nat) (mThrown : Int32) (mReached : Int32) (mForm : Bool) (mSlot : Int32) (mOver : Bool) (mMany : Nat → Int32) (mKinds : Nat → Int32) (mVs : Nat → Int32) (mWs : Nat → Int32) (mXs : Nat → Int32) : va_W := [((bd 0), .inr (7, [.int mThrown, .int (nI N), .ref (bd 1), .ref (bd 2), .ref (bd 3), .ref (bd 4), .ref (bd 5), .ref (bd 6), .ref (bd 7), .ref (bd 8), .ref (bd 9), .ref (bd 10), .int mReached, .ref (bd 11), .int (bI mForm), .ref (bd 12), .ref (bd 13), .ref (bd 14), .ref (bd 15), .ref (bd 16), .ref (bd 17), .ref (bd 18), .ref (bd 19), .ref (bd 20), .ref (bd 21), .ref (bd 22), .ref (bd 23), .ref (bd 24), .ref (bd 25), .ref (bd 26), .ref (bd 27), .ref (bd 28), .int mSlot, .int (bI mOver)])), ((bd 1), .inl (cA, 12, .inl mMany)), ((bd 2), .inl (cA, 72, .inl mKinds)), ((bd 3), .inl (cA, 72, .inl mVs)), ((bd 4), .inl (cA, 72, .inl mWs)), ((bd 5), .inl (cA, 72, .inl mXs))]
abbrev qcMd_step (D : va_G) (cA : ClassId) (cB : ClassId) (bd : Nat → Nat) (N : Nat) (mThrown : Int32) (mReached : Int32) (mForm : Bool) (mSlot : Int32) (mOver : Bool) (mMany : Nat → Int32) (mKinds : Nat → Int32) (mVs : Nat → Int32) (mWs : Nat → Int32) (mXs : Nat → Int32) (post : Int32 → Int32 → Bool → (Nat → Int32) → (Nat → Int32) → (Nat → Int32) → (Nat → Int32) → (Nat → Int32) → Prop) (A : Nat → Prop) : Array Value → State → Outcome → State → Prop := va_Qi (S := (Int32) × (Bool) × (Nat → Int32) × (Nat → Int32) × (Nat → Int32) × (Nat → Int32) × (Nat → Int32)) (fun r u => post r u.1 u.2.1 u.2.2.1 u.2.2.2.1 u.2.2.2.2.1 u.2.2.2.2.2.1 u.2.2.2.2.2.2) (fun u t => xB D [(cA, .int), (cB, .boolean)] A (wdMd_step cA cB bd N u.1 mReached u.2.1 mSlot mOver u.2.2.1 u.2.2.2.1 u.2.2.2.2.1 u.2.2.2.2.2.1 u.2.2.2.2.2.2) t) A
abbrev rmMd_step : Room := { frames := 1, cells := 0, slots := 0, locals := 21 }
set_option maxHeartbeats 4000000 in
set_option maxRecDepth 100000 in
theorem ktMd_step (l : Launch) (D : va_G) (cA : ClassId) (cB : ClassId) (bd : Nat → Nat) (N : Nat) (sz : Nat) (mThrown : Int32) (mReached : Int32) (mForm : Bool) (mSlot : Int32) (mOver : Bool) (mMany : Nat → Int32) (mKinds : Nat → Int32) (mVs : Nat → Int32) (mWs : Nat → Int32) (mXs : Nat → Int32) (v1 : Int32) (v2 : Int32) (v3 : Int32) (v4 : Int32) (v5 : Int32) (post : Int32 → Int32 → Bool → (Nat → Int32) → (Nat → Int32) → (Nat → Int32) → (Nat → Int32) → (Nat → Int32) → Prop) (hw : wpMd_step N mForm mMany mKinds mVs mWs mXs v1 v2 v3 v4 v5 post) : Met l yMd_step (Cond.code yMd_step cMd_step 8 (some .int) :: xW) rmMd_step (va_Pc [.ref (bd 0), .int v1, .int v2, .int v3, .int v4, .int v5] (xPc D [(cA, .int), (cB, .boolean)] (wdMd_step cA cB bd N mThrown mReached mForm mSlot mOver mMany mKinds mVs mWs mXs) sz)) (qcMd_step D cA cB bd N mThrown mReached mForm mSlot mOver mMany mKinds mVs mWs mXs post (va_A (wdMd_step cA cB bd N mThrown mReached mForm mSlot mOver mMany mKinds mVs mWs mXs) sz)) 0 0 (va_A (wdMd_step cA cB bd N mThrown mReached mForm mSlot mOver mMany mKinds mVs mWs mXs) sz) := by
  refine Met.ofW (cc := cMd_step) (maxL := 8) (ret := (some .int)) (by decide) rfl ?_
  intro p e s m args below meth c s₁ B hml hv
  obtain ⟨rfl, hsz, hP, hK, hD0, hN⟩ := hv
  have hx := B.exec
  have hb := B.bytes
  have hr := B.returns
  have hts := atoms_spec (ws := (Cond.code yMd_step cMd_step 8 (some .int) :: xW)) B.pre
  have hown : s.vm.findClass "OnceNamedModel" = some m.cls := findClass_of_methodNamed B.named
  have hlocks := B.notSynchronized
  subst hsz
  have hD := hD0.self (sz := s.heap.size)
  generalize hAe : va_A (wdMd_step cA cB bd N mThrown mReached mForm mSlot mOver mMany mKinds mVs mWs mXs) s.heap.size = A at hD ⊢
  have hA : ∀ q : Nat, s.heap.size ≤ q → A q := fun q h => by rw [← hAe]; exact Or.inr h
  have hS : va_S A s.heap s.heap [] := va_S.rf
  have hend : ∀ (r : Int32) (u0 : Int32) (u1 : Bool) (u2 : Nat → Int32) (u3 : Nat → Int32) (u4 : Nat → Int32) (u5 : Nat → Int32) (u6 : Nat → Int32) (H : Heap) (locs : List Loc) (pc : Nat) (ls : Array Slot), decode cMd_step pc = .ok (.ireturn, 1) → va_P D vwCl (wdMd_step cA cB bd N u0 mReached u1 mSlot mOver u2 u3 u4 u5 u6) H → va_D A (wdMd_step cA cB bd N u0 mReached u1 mSlot mOver u2 u3 u4 u5 u6) → va_S A s.heap H locs → post r u0 u1 u2 u3 u4 u5 u6 → W p l e (headSpec (Cond.code yMd_step cMd_step 8 (some .int) :: xW) rmMd_step).room s m ([.ref (bd 0), .int v1, .int v2, .int v3, .int v4, .int v5] : List Value).toArray below meth c H locs 0 0 (MQ below (qcMd_step D cA cB bd N mThrown mReached mForm mSlot mOver mMany mKinds mVs mWs mXs post A) ([.ref (bd 0), .int v1, .int v2, .int v3, .int v4, .int v5] : List Value).toArray s 0 0 A) (F0 m pc ls [.int r]) := fun r u0 u1 u2 u3 u4 u5 u6 H locs pc ls hd hP hD hS hw => W.iret (v := r) hx hb hr (fun t ht hW => ⟨⟨r, (u0, u1, u2, u3, u4, u5, u6), rfl, hw, ⟨by rw [ht]; exact hP, va_K.moved hW.alike hK, hD⟩⟩, hS.F ht⟩) hS.2.2 hd
  generalize hQ : MQ below (qcMd_step D cA cB bd N mThrown mReached mForm mSlot mOver mMany mKinds mVs mWs mXs post A) ([.ref (bd 0), .int v1, .int v2, .int v3, .int v4, .int v5] : List Value).toArray s 0 0 A = Q at hend ⊢
  have hl := lv_entry ([.ref (bd 0), .int v1, .int v2, .int v3, .int v4, .int v5]) (n := 8) (Nat.le_of_ble_eq_true rfl)
  rw [lg_entry_eq]
  generalize (lg_sl ([.ref (bd 0), .int v1, .int v2, .int v3, .int v4, .int v5]) ++ List.replicate (8 - (lg_sl ([.ref (bd 0), .int v1, .int v2, .int v3, .int v4, .int v5])).length) Slot.unset).toArray = ls at hl ⊢
  have hl : lv_has ls 8 [(0, .ref (bd 0)), (1, .int v1), (2, .int v2), (3, .int v3), (4, .int v4), (5, .int v5)] := hl
  unfold wpMd_step at hw
  refine lv_aload_n hx hb dMd_step_0 rfl (lv_at hl 0 rfl) ?_
  refine lv_iload_n hx hb dMd_step_1 rfl (lv_at hl 1 rfl) ?_
  refine xci (va_runV ⟨hx, hb, hml, hown, hts⟩ (ktMd_noBlock l D cA cB bd N _ mThrown mReached mForm mSlot mOver v1 _ hw) (cwV 1 hts (goodV kw_1097 kw_1099 ks_3_12 kw_11 kw_1100) rfl rfl rfl (by decide +kernel) ⟨Nat.le_of_ble_eq_true rfl, Nat.le_of_ble_eq_true rfl⟩) (xpreV hK hP hD hN [0] rfl rfl 0 rfl rfl) rfl rfl hl.1 rfl (lv_room (Nat.le_of_ble_eq_true rfl)) dMd_step_2 ⟨Nat.le_of_ble_eq_true rfl, Nat.le_of_ble_eq_true rfl⟩) hP hD hS hA [0] [1, 2, 3, 4, 5] rfl rfl rfl rfl [5, 0, 1, 2, 3, 4] rfl (fun _ => rfl) (fun r2 u H locs hw hP hD hS => ?_)
  obtain ⟨r2, rfl, hw⟩ := hw
  have hP : va_P D vwCl (wdMd_step cA cB bd N mThrown mReached mForm mSlot mOver mMany mKinds mVs mWs mXs) H := hP
  have hD : va_D A (wdMd_step cA cB bd N mThrown mReached mForm mSlot mOver mMany mKinds mVs mWs mXs) := hD
  obtain ⟨J90, hJ90, hw⟩ := hw
  have hj90 : ∀ (t90_0 : Bool) (ls : Array Slot) (H : Heap) (locs : List Loc), lv_has ls 8 [(0, .ref (bd 0)), (1, .int v1), (2, .int v2), (3, .int v3), (4, .int v4), (5, .int v5)] → va_P D vwCl (wdMd_step cA cB bd N mThrown mReached mForm mSlot mOver mMany mKinds mVs mWs mXs) H → va_D A (wdMd_step cA cB bd N mThrown mReached mForm mSlot mOver mMany mKinds mVs mWs mXs) → va_S A s.heap H locs → J90 t90_0 → W p l e (headSpec (Cond.code yMd_step cMd_step 8 (some .int) :: xW) rmMd_step).room s m ([.ref (bd 0), .int v1, .int v2, .int v3, .int v4, .int v5] : List Value).toArray below meth c H locs 0 0 Q (F0 m 90 ls [.int (bI t90_0)]) := by
    intro t90_0 ls H locs hl hP hD hS hw
    have hw := hJ90 t90_0 hw
    refine lv_istore (lv' := [(6, .int (bI t90_0)), (0, .ref (bd 0)), (1, .int v1), (2, .int v2), (3, .int v3), (4, .int v4), (5, .int v5)]) hx hb dMd_step_90 hl (by decide) rfl (fun ls hl => ?_)
    refine lv_aload_n hx hb dMd_step_92 rfl (lv_at hl 1 rfl) ?_
    refine lv_iload hx hb dMd_step_93 (lv_at hl 0 rfl) ?_
    obtain ⟨J103, hJ103, hw⟩ := hw
    have hj103 : ∀ (t103_0 : Bool) (ls : Array Slot) (H : Heap) (locs : List Loc), lv_has ls 8 [(0, .ref (bd 0)), (1, .int v1), (2, .int v2), (3, .int v3), (4, .int v4), (5, .int v5), (6, .int (bI t90_0))] → va_P D vwCl (wdMd_step cA cB bd N mThrown mReached mForm mSlot mOver mMany mKinds mVs mWs mXs) H → va_D A (wdMd_step cA cB bd N mThrown mReached mForm mSlot mOver mMany mKinds mVs mWs mXs) → va_S A s.heap H locs → J103 t103_0 → W p l e (headSpec (Cond.code yMd_step cMd_step 8 (some .int) :: xW) rmMd_step).room s m ([.ref (bd 0), .int v1, .int v2, .int v3, .int v4, .int v5] : List Value).toArray below meth c H locs 0 0 Q (F0 m 103 ls [.int (bI t103_0), .ref (bd 0)]) := by
      intro t103_0 ls H locs hl hP hD hS hw
      have hw := hJ103 t103_0 hw
      refine va_put (D := D) (ci := 7) (v := .int (bI t103_0)) (ty := .int) (C := "OnceNamedModel") (T := TX7) (N := 34) hx hb hts (fun w h => List.mem_cons_of_mem _ (inX7 w h)) tyX7 tyX7_ok nmX7 hown hK hP hD hS 0 rfl rfl 0 (by decide) (hts _ (List.mem_cons_of_mem _ kw_985)) (fun _ h9 => h9) rfl (by decide +kernel) rfl rfl (Nat.le_of_ble_eq_true rfl) dMd_step_103 (fun H locs hP hD hS => ?_)
      have hP : va_P D vwCl (wdMd_step cA cB bd N (bI t103_0) mReached mForm mSlot mOver mMany mKinds mVs mWs mXs) H := hP
      have hD : va_D A (wdMd_step cA cB bd N (bI t103_0) mReached mForm mSlot mOver mMany mKinds mVs mWs mXs) := hD
      refine lv_aload_n hx hb dMd_step_106 rfl (lv_at hl 0 rfl) ?_
      refine va_get (D := D) (ci := 7) (v := .int (bI t103_0)) (C := "OnceNamedModel") (T := TX7) (N := 34) hx hb hts (fun w h => List.mem_cons_of_mem _ (inX7 w h)) hown hK hP 0 rfl rfl 0 (by decide) (hts _ (List.mem_cons_of_mem _ kw_985)) (fun _ h9 => h9) rfl dMd_step_107 ?_
      refine lv_if_eq (tgt := 115) hx hb dMd_step_110 rfl (fun hc => ?_) (fun hc => ?_)
      · have hw := hw.1 hc
        refine lv_aload_n hx hb dMd_step_115 rfl (lv_at hl 0 rfl) ?_
        refine lv_aload_n hx hb dMd_step_116 rfl (lv_at hl 0 rfl) ?_
        refine va_get (D := D) (ci := 7) (v := .ref (bd 1)) (C := "OnceNamedModel") (T := TX7) (N := 34) hx hb hts (fun w h => List.mem_cons_of_mem _ (inX7 w h)) hown hK hP 0 rfl rfl 2 (by decide) (hts _ (List.mem_cons_of_mem _ kw_987)) (fun _ h9 => h9) rfl dMd_step_117 ?_
        refine lv_iload_n hx hb dMd_step_120 rfl (lv_at hl 1 rfl) ?_
        have ho := hw.1
        have hw := hw.2
        refine va_iald hx hb hK hP 1 0 rfl rfl ho dMd_step_121 ?_
        refine lv_bipush (v := 6) hx hb dMd_step_122 (by decide) ?_
        obtain ⟨J132, hJ132, hw⟩ := hw
        have hj132 : ∀ (t132_0 : Int32) (ls : Array Slot) (H : Heap) (locs : List Loc), lv_has ls 8 [(0, .ref (bd 0)), (1, .int v1), (2, .int v2), (3, .int v3), (4, .int v4), (5, .int v5), (6, .int (bI t90_0))] → va_P D vwCl (wdMd_step cA cB bd N (bI t103_0) mReached mForm mSlot mOver mMany mKinds mVs mWs mXs) H → va_D A (wdMd_step cA cB bd N (bI t103_0) mReached mForm mSlot mOver mMany mKinds mVs mWs mXs) → va_S A s.heap H locs → J132 t132_0 → W p l e (headSpec (Cond.code yMd_step cMd_step 8 (some .int) :: xW) rmMd_step).room s m ([.ref (bd 0), .int v1, .int v2, .int v3, .int v4, .int v5] : List Value).toArray below meth c H locs 0 0 Q (F0 m 132 ls [.int t132_0, .ref (bd 0)]) := by
          intro t132_0 ls H locs hl hP hD hS hw
          have hw := hJ132 t132_0 hw
          refine va_put (D := D) (ci := 7) (v := .int t132_0) (ty := .int) (C := "OnceNamedModel") (T := TX7) (N := 34) hx hb hts (fun w h => List.mem_cons_of_mem _ (inX7 w h)) tyX7 tyX7_ok nmX7 hown hK hP hD hS 0 rfl rfl 0 (by decide) (hts _ (List.mem_cons_of_mem _ kw_985)) (fun _ h9 => h9) rfl (by decide +kernel) rfl rfl (Nat.le_of_ble_eq_true rfl) dMd_step_132 (fun H locs hP hD hS => ?_)
          have hP : va_P D vwCl (wdMd_step cA cB bd N t132_0 mReached mForm mSlot mOver mMany mKinds mVs mWs mXs) H := hP
          have hD : va_D A (wdMd_step cA cB bd N t132_0 mReached mForm mSlot mOver mMany mKinds mVs mWs mXs) := hD
          refine lv_aload_n hx hb dMd_step_135 rfl (lv_at hl 0 rfl) ?_
          refine va_get (D := D) (ci := 7) (v := .int t132_0) (C := "OnceNamedModel") (T := TX7) (N := 34) hx hb hts (fun w h => List.mem_cons_of_mem _ (inX7 w h)) hown hK hP 0 rfl rfl 0 (by decide) (hts _ (List.mem_cons_of_mem _ kw_985)) (fun _ h9 => h9) rfl dMd_step_136 ?_
          refine lv_if_eq (tgt := 144) hx hb dMd_step_139 rfl (fun hc => ?_) (fun hc => ?_)
          · have hw := hw.1 hc
            refine lv_bipush (v := 6) hx hb dMd_step_144 (by decide) ?_
            refine lv_iload_n hx hb dMd_step_146 rfl (lv_at hl 1 rfl) ?_
            refine lv_imul hx hb dMd_step_147 ?_
            refine lv_aload_n hx hb dMd_step_148 rfl (lv_at hl 0 rfl) ?_
            refine va_get (D := D) (ci := 7) (v := .ref (bd 1)) (C := "OnceNamedModel") (T := TX7) (N := 34) hx hb hts (fun w h => List.mem_cons_of_mem _ (inX7 w h)) hown hK hP 0 rfl rfl 2 (by decide) (hts _ (List.mem_cons_of_mem _ kw_987)) (fun _ h9 => h9) rfl dMd_step_149 ?_
            refine lv_iload_n hx hb dMd_step_152 rfl (lv_at hl 1 rfl) ?_
            have ho := hw.1
            have hw := hw.2
            refine va_iald hx hb hK hP 1 0 rfl rfl ho dMd_step_153 ?_
            refine lv_iadd hx hb dMd_step_154 ?_
            refine lv_topi (fun v7_155 e_v7_155 => ?_)
            have hw := hw v7_155 e_v7_155
            refine lv_istore (lv' := [(7, .int v7_155), (0, .ref (bd 0)), (1, .int v1), (2, .int v2), (3, .int v3), (4, .int v4), (5, .int v5), (6, .int (bI t90_0))]) hx hb dMd_step_155 hl (by decide) rfl (fun ls hl => ?_)
            refine lv_aload_n hx hb dMd_step_157 rfl (lv_at hl 1 rfl) ?_
            refine va_get (D := D) (ci := 7) (v := .ref (bd 2)) (C := "OnceNamedModel") (T := TX7) (N := 34) hx hb hts (fun w h => List.mem_cons_of_mem _ (inX7 w h)) hown hK hP 0 rfl rfl 3 (by decide) (hts _ (List.mem_cons_of_mem _ kw_988)) (fun _ h9 => h9) rfl dMd_step_158 ?_
            refine lv_iload hx hb dMd_step_161 (lv_at hl 0 rfl) ?_
            refine lv_iload_n hx hb dMd_step_163 rfl (lv_at hl 3 rfl) ?_
            have ho := hw.1
            have hw := hw.2
            refine va_iast hx hb hK hP hD hS 2 0 rfl rfl ho dMd_step_164 (fun H locs hP hD hS => ?_)
            have hP : va_P D vwCl (wdMd_step cA cB bd N t132_0 mReached mForm mSlot mOver mMany (upd mKinds (Int32.toNatClampNeg v7_155) v2) mVs mWs mXs) H := hP
            have hD : va_D A (wdMd_step cA cB bd N t132_0 mReached mForm mSlot mOver mMany (upd mKinds (Int32.toNatClampNeg v7_155) v2) mVs mWs mXs) := hD
            refine lv_aload_n hx hb dMd_step_165 rfl (lv_at hl 1 rfl) ?_
            refine va_get (D := D) (ci := 7) (v := .ref (bd 3)) (C := "OnceNamedModel") (T := TX7) (N := 34) hx hb hts (fun w h => List.mem_cons_of_mem _ (inX7 w h)) hown hK hP 0 rfl rfl 4 (by decide) (hts _ (List.mem_cons_of_mem _ kw_989)) (fun _ h9 => h9) rfl dMd_step_166 ?_
            refine lv_iload hx hb dMd_step_169 (lv_at hl 0 rfl) ?_
            refine lv_iload_n hx hb dMd_step_171 rfl (lv_at hl 4 rfl) ?_
            have ho := hw.1
            have hw := hw.2
            refine va_iast hx hb hK hP hD hS 3 0 rfl rfl ho dMd_step_172 (fun H locs hP hD hS => ?_)
            have hP : va_P D vwCl (wdMd_step cA cB bd N t132_0 mReached mForm mSlot mOver mMany (upd mKinds (Int32.toNatClampNeg v7_155) v2) (upd mVs (Int32.toNatClampNeg v7_155) v3) mWs mXs) H := hP
            have hD : va_D A (wdMd_step cA cB bd N t132_0 mReached mForm mSlot mOver mMany (upd mKinds (Int32.toNatClampNeg v7_155) v2) (upd mVs (Int32.toNatClampNeg v7_155) v3) mWs mXs) := hD
            refine lv_aload_n hx hb dMd_step_173 rfl (lv_at hl 1 rfl) ?_
            refine va_get (D := D) (ci := 7) (v := .ref (bd 4)) (C := "OnceNamedModel") (T := TX7) (N := 34) hx hb hts (fun w h => List.mem_cons_of_mem _ (inX7 w h)) hown hK hP 0 rfl rfl 5 (by decide) (hts _ (List.mem_cons_of_mem _ kw_990)) (fun _ h9 => h9) rfl dMd_step_174 ?_
            refine lv_iload hx hb dMd_step_177 (lv_at hl 0 rfl) ?_
            refine lv_iload hx hb dMd_step_179 (lv_at hl 5 rfl) ?_
            have ho := hw.1
            have hw := hw.2
            refine va_iast hx hb hK hP hD hS 4 0 rfl rfl ho dMd_step_181 (fun H locs hP hD hS => ?_)
            have hP : va_P D vwCl (wdMd_step cA cB bd N t132_0 mReached mForm mSlot mOver mMany (upd mKinds (Int32.toNatClampNeg v7_155) v2) (upd mVs (Int32.toNatClampNeg v7_155) v3) (upd mWs (Int32.toNatClampNeg v7_155) v4) mXs) H := hP
            have hD : va_D A (wdMd_step cA cB bd N t132_0 mReached mForm mSlot mOver mMany (upd mKinds (Int32.toNatClampNeg v7_155) v2) (upd mVs (Int32.toNatClampNeg v7_155) v3) (upd mWs (Int32.toNatClampNeg v7_155) v4) mXs) := hD
            refine lv_aload_n hx hb dMd_step_182 rfl (lv_at hl 1 rfl) ?_
            refine va_get (D := D) (ci := 7) (v := .ref (bd 5)) (C := "OnceNamedModel") (T := TX7) (N := 34) hx hb hts (fun w h => List.mem_cons_of_mem _ (inX7 w h)) hown hK hP 0 rfl rfl 6 (by decide) (hts _ (List.mem_cons_of_mem _ kw_991)) (fun _ h9 => h9) rfl dMd_step_183 ?_
            refine lv_iload hx hb dMd_step_186 (lv_at hl 0 rfl) ?_
            refine lv_iload hx hb dMd_step_188 (lv_at hl 6 rfl) ?_
            have ho := hw.1
            have hw := hw.2
            refine va_iast hx hb hK hP hD hS 5 0 rfl rfl ho dMd_step_190 (fun H locs hP hD hS => ?_)
            have hP : va_P D vwCl (wdMd_step cA cB bd N t132_0 mReached mForm mSlot mOver mMany (upd mKinds (Int32.toNatClampNeg v7_155) v2) (upd mVs (Int32.toNatClampNeg v7_155) v3) (upd mWs (Int32.toNatClampNeg v7_155) v4) (upd mXs (Int32.toNatClampNeg v7_155) v5)) H := hP
            have hD : va_D A (wdMd_step cA cB bd N t132_0 mReached mForm mSlot mOver mMany (upd mKinds (Int32.toNatClampNeg v7_155) v2) (upd mVs (Int32.toNatClampNeg v7_155) v3) (upd mWs (Int32.toNatClampNeg v7_155) v4) (upd mXs (Int32.toNatClampNeg v7_155) v5)) := hD
            refine lv_aload_n hx hb dMd_step_191 rfl (lv_at hl 1 rfl) ?_
            refine va_get (D := D) (ci := 7) (v := .ref (bd 1)) (C := "OnceNamedModel") (T := TX7) (N := 34) hx hb hts (fun w h => List.mem_cons_of_mem _ (inX7 w h)) hown hK hP 0 rfl rfl 2 (by decide) (hts _ (List.mem_cons_of_mem _ kw_987)) (fun _ h9 => h9) rfl dMd_step_192 ?_
            refine lv_iload_n hx hb dMd_step_195 rfl (lv_at hl 2 rfl) ?_
            refine lv_dup2_11 hx hb dMd_step_196 rfl rfl ?_
            have ho := hw.1
            have hw := hw.2
            refine va_iald hx hb hK hP 1 0 rfl rfl ho dMd_step_197 ?_
            refine lv_iconst (v := 1) hx hb dMd_step_198 (by decide) ?_
            refine lv_iadd hx hb dMd_step_199 ?_
            have ho := hw.1
            have hw := hw.2
            refine va_iast hx hb hK hP hD hS 1 0 rfl rfl ho dMd_step_200 (fun H locs hP hD hS => ?_)
            have hP : va_P D vwCl (wdMd_step cA cB bd N t132_0 mReached mForm mSlot mOver (upd mMany (Int32.toNatClampNeg v1) ((mMany (Int32.toNatClampNeg v1)) + 1)) (upd mKinds (Int32.toNatClampNeg v7_155) v2) (upd mVs (Int32.toNatClampNeg v7_155) v3) (upd mWs (Int32.toNatClampNeg v7_155) v4) (upd mXs (Int32.toNatClampNeg v7_155) v5)) H := hP
            have hD : va_D A (wdMd_step cA cB bd N t132_0 mReached mForm mSlot mOver (upd mMany (Int32.toNatClampNeg v1) ((mMany (Int32.toNatClampNeg v1)) + 1)) (upd mKinds (Int32.toNatClampNeg v7_155) v2) (upd mVs (Int32.toNatClampNeg v7_155) v3) (upd mWs (Int32.toNatClampNeg v7_155) v4) (upd mXs (Int32.toNatClampNeg v7_155) v5)) := hD
            refine lv_aload_n hx hb dMd_step_201 rfl (lv_at hl 1 rfl) ?_
            refine lv_iconst (v := 0) hx hb dMd_step_202 (by decide) ?_
            refine va_put (D := D) (ci := 7) (v := .int (bI false)) (ty := .boolean) (C := "OnceNamedModel") (T := TX7) (N := 34) hx hb hts (fun w h => List.mem_cons_of_mem _ (inX7 w h)) tyX7 tyX7_ok nmX7 hown hK hP hD hS 0 rfl rfl 14 (by decide) (hts _ (List.mem_cons_of_mem _ kw_999)) (fun _ h9 => h9) rfl (by decide +kernel) (bI_nar _) (bI_fit _) (Nat.le_of_ble_eq_true rfl) dMd_step_203 (fun H locs hP hD hS => ?_)
            have hP : va_P D vwCl (wdMd_step cA cB bd N t132_0 mReached false mSlot mOver (upd mMany (Int32.toNatClampNeg v1) ((mMany (Int32.toNatClampNeg v1)) + 1)) (upd mKinds (Int32.toNatClampNeg v7_155) v2) (upd mVs (Int32.toNatClampNeg v7_155) v3) (upd mWs (Int32.toNatClampNeg v7_155) v4) (upd mXs (Int32.toNatClampNeg v7_155) v5)) H := hP
            have hD : va_D A (wdMd_step cA cB bd N t132_0 mReached false mSlot mOver (upd mMany (Int32.toNatClampNeg v1) ((mMany (Int32.toNatClampNeg v1)) + 1)) (upd mKinds (Int32.toNatClampNeg v7_155) v2) (upd mVs (Int32.toNatClampNeg v7_155) v3) (upd mWs (Int32.toNatClampNeg v7_155) v4) (upd mXs (Int32.toNatClampNeg v7_155) v5)) := hD
            refine lv_aload_n hx hb dMd_step_206 rfl (lv_at hl 1 rfl) ?_
            refine va_get (D := D) (ci := 7) (v := .ref (bd 1)) (C := "OnceNamedModel") (T := TX7) (N := 34) hx hb hts (fun w h => List.mem_cons_of_mem _ (inX7 w h)) hown hK hP 0 rfl rfl 2 (by decide) (hts _ (List.mem_cons_of_mem _ kw_987)) (fun _ h9 => h9) rfl dMd_step_207 ?_
            refine lv_iload_n hx hb dMd_step_210 rfl (lv_at hl 2 rfl) ?_
            have ho := hw.1
            have hw := hw.2
            refine va_iald hx hb hK hP 1 0 rfl rfl ho dMd_step_211 ?_
            exact hend ((upd mMany (Int32.toNatClampNeg v1) ((mMany (Int32.toNatClampNeg v1)) + 1)) (Int32.toNatClampNeg v1)) t132_0 false (upd mMany (Int32.toNatClampNeg v1) ((mMany (Int32.toNatClampNeg v1)) + 1)) (upd mKinds (Int32.toNatClampNeg v7_155) v2) (upd mVs (Int32.toNatClampNeg v7_155) v3) (upd mWs (Int32.toNatClampNeg v7_155) v4) (upd mXs (Int32.toNatClampNeg v7_155) v5) _ _ _ _ dMd_step_212 hP hD hS hw
          · have hw := hw.2 hc
            refine lv_iconst (v := 0) hx hb dMd_step_142 (by decide) ?_
            exact hend 0 t132_0 mForm mMany mKinds mVs mWs mXs _ _ _ _ dMd_step_143 hP hD hS hw
        refine lv_icmp_ne (tgt := 131) hx hb dMd_step_124 rfl (fun hc => ?_) (fun hc => ?_)
        · have hw := hw.1 hc
          refine lv_iconst (v := 0) hx hb dMd_step_131 (by decide) ?_
          exact hj132 0 _ _ _ (lv_sub hl [0, 1, 2, 3, 4, 5, 6] rfl) hP hD hS hw
        · have hw := hw.2 hc
          refine lv_iconst (v := 2) hx hb dMd_step_127 (by decide) ?_
          refine lv_goto (tgt := 132) hx hb dMd_step_128 rfl ?_
          exact hj132 2 _ _ _ (lv_sub hl [0, 1, 2, 3, 4, 5, 6] rfl) hP hD hS hw
      · have hw := hw.2 hc
        refine lv_iconst (v := 0) hx hb dMd_step_113 (by decide) ?_
        exact hend 0 (bI t103_0) mForm mMany mKinds mVs mWs mXs _ _ _ _ dMd_step_114 hP hD hS hw
    refine lv_if_eq (tgt := 102) hx hb dMd_step_95 rfl (fun hc => ?_) (fun hc => ?_)
    · have hw := hw.1 (bI_0 hc)
      refine lv_iconst (v := 0) hx hb dMd_step_102 (by decide) ?_
      exact hj103 false _ _ _ (lv_sub hl [1, 2, 3, 4, 5, 6, 0] rfl) hP hD hS hw
    · have hw := hw.2 (bI_1 hc)
      refine lv_iconst (v := 1) hx hb dMd_step_98 (by decide) ?_
      refine lv_goto (tgt := 103) hx hb dMd_step_99 rfl ?_
      exact hj103 true _ _ _ (lv_sub hl [1, 2, 3, 4, 5, 6, 0] rfl) hP hD hS hw
  obtain ⟨J85, hJ85, hw⟩ := hw
  have hj85 : ∀  (ls : Array Slot) (H : Heap) (locs : List Loc), lv_has ls 8 [(0, .ref (bd 0)), (1, .int v1), (2, .int v2), (3, .int v3), (4, .int v4), (5, .int v5)] → va_P D vwCl (wdMd_step cA cB bd N mThrown mReached mForm mSlot mOver mMany mKinds mVs mWs mXs) H → va_D A (wdMd_step cA cB bd N mThrown mReached mForm mSlot mOver mMany mKinds mVs mWs mXs) → va_S A s.heap H locs → J85 → W p l e (headSpec (Cond.code yMd_step cMd_step 8 (some .int) :: xW) rmMd_step).room s m ([.ref (bd 0), .int v1, .int v2, .int v3, .int v4, .int v5] : List Value).toArray below meth c H locs 0 0 Q (F0 m 85 ls []) := by
    intro  ls H locs hl hP hD hS hw
    have hw := hJ85  hw
    refine lv_iconst (v := 1) hx hb dMd_step_85 (by decide) ?_
    refine lv_goto (tgt := 90) hx hb dMd_step_86 rfl ?_
    exact hj90 true _ _ _ (lv_sub hl [0, 1, 2, 3, 4, 5] rfl) hP hD hS hw
  refine lv_if_ne (tgt := 85) hx hb dMd_step_5 rfl (fun hc => ?_) (fun hc => ?_)
  · have hw := hw.1 (bI_1 hc)
    exact hj85  _ _ _ (lv_sub hl [0, 1, 2, 3, 4, 5] rfl) hP hD hS hw
  · have hw := hw.2 (bI_0 hc)
    refine lv_iload_n hx hb dMd_step_8 rfl (lv_at hl 2 rfl) ?_
    refine lv_if_lt (tgt := 85) hx hb dMd_step_9 rfl (fun hc => ?_) (fun hc => ?_)
    · have hw := hw.1 hc
      exact hj85  _ _ _ (lv_sub hl [0, 1, 2, 3, 4, 5] rfl) hP hD hS hw
    · have hw := hw.2 hc
      refine lv_iload_n hx hb dMd_step_12 rfl (lv_at hl 2 rfl) ?_
      refine lv_bipush (v := 7) hx hb dMd_step_13 (by decide) ?_
      refine lv_icmp_gt (tgt := 85) hx hb dMd_step_15 rfl (fun hc => ?_) (fun hc => ?_)
      · have hw := hw.1 hc
        exact hj85  _ _ _ (lv_sub hl [0, 1, 2, 3, 4, 5] rfl) hP hD hS hw
      · have hw := hw.2 hc
        refine lv_iload_n hx hb dMd_step_18 rfl (lv_at hl 2 rfl) ?_
        refine lv_bipush (v := 7) hx hb dMd_step_19 (by decide) ?_
        obtain ⟨J32, hJ32, hw⟩ := hw
        have hj32 : ∀  (ls : Array Slot) (H : Heap) (locs : List Loc), lv_has ls 8 [(0, .ref (bd 0)), (1, .int v1), (2, .int v2), (3, .int v3), (4, .int v4), (5, .int v5)] → va_P D vwCl (wdMd_step cA cB bd N mThrown mReached mForm mSlot mOver mMany mKinds mVs mWs mXs) H → va_D A (wdMd_step cA cB bd N mThrown mReached mForm mSlot mOver mMany mKinds mVs mWs mXs) → va_S A s.heap H locs → J32 → W p l e (headSpec (Cond.code yMd_step cMd_step 8 (some .int) :: xW) rmMd_step).room s m ([.ref (bd 0), .int v1, .int v2, .int v3, .int v4, .int v5] : List Value).toArray below meth c H locs 0 0 Q (F0 m 32 ls []) := by
          intro  ls H locs hl hP hD hS hw
          have hw := hJ32  hw
          refine lv_iload_n hx hb dMd_step_32 rfl (lv_at hl 2 rfl) ?_
          obtain ⟨J45, hJ45, hw⟩ := hw
          have hj45 : ∀  (ls : Array Slot) (H : Heap) (locs : List Loc), lv_has ls 8 [(0, .ref (bd 0)), (1, .int v1), (2, .int v2), (3, .int v3), (4, .int v4), (5, .int v5)] → va_P D vwCl (wdMd_step cA cB bd N mThrown mReached mForm mSlot mOver mMany mKinds mVs mWs mXs) H → va_D A (wdMd_step cA cB bd N mThrown mReached mForm mSlot mOver mMany mKinds mVs mWs mXs) → va_S A s.heap H locs → J45 → W p l e (headSpec (Cond.code yMd_step cMd_step 8 (some .int) :: xW) rmMd_step).room s m ([.ref (bd 0), .int v1, .int v2, .int v3, .int v4, .int v5] : List Value).toArray below meth c H locs 0 0 Q (F0 m 45 ls []) := by
            intro  ls H locs hl hP hD hS hw
            have hw := hJ45  hw
            refine lv_iload_n hx hb dMd_step_45 rfl (lv_at hl 2 rfl) ?_
            refine lv_iconst (v := 1) hx hb dMd_step_46 (by decide) ?_
            obtain ⟨J65, hJ65, hw⟩ := hw
            have hj65 : ∀  (ls : Array Slot) (H : Heap) (locs : List Loc), lv_has ls 8 [(0, .ref (bd 0)), (1, .int v1), (2, .int v2), (3, .int v3), (4, .int v4), (5, .int v5)] → va_P D vwCl (wdMd_step cA cB bd N mThrown mReached mForm mSlot mOver mMany mKinds mVs mWs mXs) H → va_D A (wdMd_step cA cB bd N mThrown mReached mForm mSlot mOver mMany mKinds mVs mWs mXs) → va_S A s.heap H locs → J65 → W p l e (headSpec (Cond.code yMd_step cMd_step 8 (some .int) :: xW) rmMd_step).room s m ([.ref (bd 0), .int v1, .int v2, .int v3, .int v4, .int v5] : List Value).toArray below meth c H locs 0 0 Q (F0 m 65 ls []) := by
              intro  ls H locs hl hP hD hS hw
              have hw := hJ65  hw
              refine lv_iload_n hx hb dMd_step_65 rfl (lv_at hl 2 rfl) ?_
              refine lv_if_ne (tgt := 89) hx hb dMd_step_66 rfl (fun hc => ?_) (fun hc => ?_)
              · have hw := hw.1 hc
                refine lv_iconst (v := 0) hx hb dMd_step_89 (by decide) ?_
                exact hj90 false _ _ _ (lv_sub hl [0, 1, 2, 3, 4, 5] rfl) hP hD hS hw
              · have hw := hw.2 hc
                refine lv_iload hx hb dMd_step_69 (lv_at hl 4 rfl) ?_
                refine lv_sipush (v := (-999)) hx hb dMd_step_71 (by decide) ?_
                refine lv_icmp_lt (tgt := 85) hx hb dMd_step_74 rfl (fun hc => ?_) (fun hc => ?_)
                · have hw := hw.1 hc
                  exact hj85  _ _ _ (lv_sub hl [0, 1, 2, 3, 4, 5] rfl) hP hD hS hw
                · have hw := hw.2 hc
                  refine lv_iload hx hb dMd_step_77 (lv_at hl 4 rfl) ?_
                  refine lv_sipush (v := 999) hx hb dMd_step_79 (by decide) ?_
                  refine lv_icmp_le (tgt := 89) hx hb dMd_step_82 rfl (fun hc => ?_) (fun hc => ?_)
                  · have hw := hw.1 hc
                    refine lv_iconst (v := 0) hx hb dMd_step_89 (by decide) ?_
                    exact hj90 false _ _ _ (lv_sub hl [0, 1, 2, 3, 4, 5] rfl) hP hD hS hw
                  · have hw := hw.2 hc
                    exact hj85  _ _ _ (lv_sub hl [0, 1, 2, 3, 4, 5] rfl) hP hD hS hw
            refine lv_icmp_le (tgt := 65) hx hb dMd_step_47 rfl (fun hc => ?_) (fun hc => ?_)
            · have hw := hw.1 hc
              exact hj65  _ _ _ (lv_sub hl [0, 1, 2, 3, 4, 5] rfl) hP hD hS hw
            · have hw := hw.2 hc
              refine lv_iload_n hx hb dMd_step_50 rfl (lv_at hl 2 rfl) ?_
              refine lv_bipush (v := 7) hx hb dMd_step_51 (by decide) ?_
              refine lv_icmp_ge (tgt := 65) hx hb dMd_step_53 rfl (fun hc => ?_) (fun hc => ?_)
              · have hw := hw.1 hc
                exact hj65  _ _ _ (lv_sub hl [0, 1, 2, 3, 4, 5] rfl) hP hD hS hw
              · have hw := hw.2 hc
                refine lv_aload_n hx hb dMd_step_56 rfl (lv_at hl 0 rfl) ?_
                refine lv_iload hx hb dMd_step_57 (lv_at hl 5 rfl) ?_
                refine xci (va_runV ⟨hx, hb, hml, hown, hts⟩ (ktMd_noVariable l D cA cB bd N _ v5 _ hw) (cwV 1 hts (goodV kw_1101 kw_1103 ks_3_13 kw_11 kw_1104) rfl rfl rfl (by decide +kernel) ⟨Nat.le_of_ble_eq_true rfl, Nat.le_of_ble_eq_true rfl⟩) (xpreV hK hP hD hN [] rfl rfl 0 rfl rfl) rfl rfl hl.1 rfl (lv_room (Nat.le_of_ble_eq_true rfl)) dMd_step_59 ⟨Nat.le_of_ble_eq_true rfl, Nat.le_of_ble_eq_true rfl⟩) hP hD hS hA [] [0, 1, 2, 3, 4, 5] rfl rfl rfl rfl [0, 1, 2, 3, 4, 5] rfl (fun _ => rfl) (fun r59 u H locs hw hP hD hS => ?_)
                obtain ⟨r59, rfl, hw⟩ := hw
                have hP : va_P D vwCl (wdMd_step cA cB bd N mThrown mReached mForm mSlot mOver mMany mKinds mVs mWs mXs) H := hP
                have hD : va_D A (wdMd_step cA cB bd N mThrown mReached mForm mSlot mOver mMany mKinds mVs mWs mXs) := hD
                refine lv_if_ne (tgt := 85) hx hb dMd_step_62 rfl (fun hc => ?_) (fun hc => ?_)
                · have hw := hw.1 (bI_1 hc)
                  exact hj85  _ _ _ (lv_sub hl [0, 1, 2, 3, 4, 5] rfl) hP hD hS hw
                · have hw := hw.2 (bI_0 hc)
                  exact hj65  _ _ _ (lv_sub hl [0, 1, 2, 3, 4, 5] rfl) hP hD hS hw
          refine lv_if_le (tgt := 45) hx hb dMd_step_33 rfl (fun hc => ?_) (fun hc => ?_)
          · have hw := hw.1 hc
            exact hj45  _ _ _ (lv_sub hl [0, 1, 2, 3, 4, 5] rfl) hP hD hS hw
          · have hw := hw.2 hc
            refine lv_aload_n hx hb dMd_step_36 rfl (lv_at hl 0 rfl) ?_
            refine lv_iload hx hb dMd_step_37 (lv_at hl 4 rfl) ?_
            refine xci (va_runV ⟨hx, hb, hml, hown, hts⟩ (ktMd_noVariable l D cA cB bd N _ v4 _ hw) (cwV 1 hts (goodV kw_1101 kw_1103 ks_3_13 kw_11 kw_1104) rfl rfl rfl (by decide +kernel) ⟨Nat.le_of_ble_eq_true rfl, Nat.le_of_ble_eq_true rfl⟩) (xpreV hK hP hD hN [] rfl rfl 0 rfl rfl) rfl rfl hl.1 rfl (lv_room (Nat.le_of_ble_eq_true rfl)) dMd_step_39 ⟨Nat.le_of_ble_eq_true rfl, Nat.le_of_ble_eq_true rfl⟩) hP hD hS hA [] [0, 1, 2, 3, 4, 5] rfl rfl rfl rfl [0, 1, 2, 3, 4, 5] rfl (fun _ => rfl) (fun r39 u H locs hw hP hD hS => ?_)
            obtain ⟨r39, rfl, hw⟩ := hw
            have hP : va_P D vwCl (wdMd_step cA cB bd N mThrown mReached mForm mSlot mOver mMany mKinds mVs mWs mXs) H := hP
            have hD : va_D A (wdMd_step cA cB bd N mThrown mReached mForm mSlot mOver mMany mKinds mVs mWs mXs) := hD
            refine lv_if_ne (tgt := 85) hx hb dMd_step_42 rfl (fun hc => ?_) (fun hc => ?_)
            · have hw := hw.1 (bI_1 hc)
              exact hj85  _ _ _ (lv_sub hl [0, 1, 2, 3, 4, 5] rfl) hP hD hS hw
            · have hw := hw.2 (bI_0 hc)
              exact hj45  _ _ _ (lv_sub hl [0, 1, 2, 3, 4, 5] rfl) hP hD hS hw
        refine lv_icmp_ge (tgt := 32) hx hb dMd_step_21 rfl (fun hc => ?_) (fun hc => ?_)
        · have hw := hw.1 hc
          exact hj32  _ _ _ (lv_sub hl [0, 1, 2, 3, 4, 5] rfl) hP hD hS hw
        · have hw := hw.2 hc
          refine lv_aload_n hx hb dMd_step_24 rfl (lv_at hl 0 rfl) ?_
          refine lv_iload_n hx hb dMd_step_25 rfl (lv_at hl 3 rfl) ?_
          refine xci (va_runV ⟨hx, hb, hml, hown, hts⟩ (ktMd_noVariable l D cA cB bd N _ v3 _ hw) (cwV 1 hts (goodV kw_1101 kw_1103 ks_3_13 kw_11 kw_1104) rfl rfl rfl (by decide +kernel) ⟨Nat.le_of_ble_eq_true rfl, Nat.le_of_ble_eq_true rfl⟩) (xpreV hK hP hD hN [] rfl rfl 0 rfl rfl) rfl rfl hl.1 rfl (lv_room (Nat.le_of_ble_eq_true rfl)) dMd_step_26 ⟨Nat.le_of_ble_eq_true rfl, Nat.le_of_ble_eq_true rfl⟩) hP hD hS hA [] [0, 1, 2, 3, 4, 5] rfl rfl rfl rfl [0, 1, 2, 3, 4, 5] rfl (fun _ => rfl) (fun r26 u H locs hw hP hD hS => ?_)
          obtain ⟨r26, rfl, hw⟩ := hw
          have hP : va_P D vwCl (wdMd_step cA cB bd N mThrown mReached mForm mSlot mOver mMany mKinds mVs mWs mXs) H := hP
          have hD : va_D A (wdMd_step cA cB bd N mThrown mReached mForm mSlot mOver mMany mKinds mVs mWs mXs) := hD
          refine lv_if_ne (tgt := 85) hx hb dMd_step_29 rfl (fun hc => ?_) (fun hc => ?_)
          · have hw := hw.1 (bI_1 hc)
            exact hj85  _ _ _ (lv_sub hl [0, 1, 2, 3, 4, 5] rfl) hP hD hS hw
          · have hw := hw.2 (bI_0 hc)
            exact hj32  _ _ _ (lv_sub hl [0, 1, 2, 3, 4, 5] rfl) hP hD hS hw
abbrev wdMd_go (cA : ClassId) (cB : ClassId) (bd : Nat → Nat) (N : Nat) (mThrown : Int32) (mReached : Int32) (mForm : Bool) (mSlot : Int32) (mOver : Bool) (mEnds : Nat → Int32) (mYes : Nat → Int32) (mNo : Nat → Int32) : va_W := [((bd 0), .inr (7, [.int mThrown, .int (nI N), .ref (bd 1), .ref (bd 2), .ref (bd 3), .ref (bd 4), .ref (bd 5), .ref (bd 6), .ref (bd 7), .ref (bd 8), .ref (bd 9), .ref (bd 10), .int mReached, .ref (bd 11), .int (bI mForm), .ref (bd 12), .ref (bd 13), .ref (bd 14), .ref (bd 15), .ref (bd 16), .ref (bd 17), .ref (bd 18), .ref (bd 19), .ref (bd 20), .ref (bd 21), .ref (bd 22), .ref (bd 23), .ref (bd 24), .ref (bd 25), .ref (bd 26), .ref (bd 27), .ref (bd 28), .int mSlot, .int (bI mOver)])), ((bd 6), .inl (cA, 12, .inl mEnds)), ((bd 8), .inl (cA, 12, .inl mYes)), ((bd 9), .inl (cA, 12, .inl mNo))]
abbrev qcMd_go (D : va_G) (cA : ClassId) (cB : ClassId) (bd : Nat → Nat) (N : Nat) (mThrown : Int32) (mReached : Int32) (mForm : Bool) (mSlot : Int32) (mOver : Bool) (mEnds : Nat → Int32) (mYes : Nat → Int32) (mNo : Nat → Int32) (post : Int32 → Bool → (Nat → Int32) → (Nat → Int32) → (Nat → Int32) → Prop) (A : Nat → Prop) : Array Value → State → Outcome → State → Prop := va_Qv (S := (Int32) × (Bool) × (Nat → Int32) × (Nat → Int32) × (Nat → Int32)) (fun u => post u.1 u.2.1 u.2.2.1 u.2.2.2.1 u.2.2.2.2) (fun u t => xB D [(cA, .int), (cB, .boolean)] A (wdMd_go cA cB bd N u.1 mReached u.2.1 mSlot mOver u.2.2.1 u.2.2.2.1 u.2.2.2.2) t) A
abbrev rmMd_go : Room := { frames := 1, cells := 0, slots := 0, locals := 21 }
set_option maxHeartbeats 4000000 in
set_option maxRecDepth 100000 in
theorem ktMd_go (l : Launch) (D : va_G) (cA : ClassId) (cB : ClassId) (bd : Nat → Nat) (N : Nat) (sz : Nat) (mThrown : Int32) (mReached : Int32) (mForm : Bool) (mSlot : Int32) (mOver : Bool) (mEnds : Nat → Int32) (mYes : Nat → Int32) (mNo : Nat → Int32) (v1 : Int32) (v2 : Int32) (post : Int32 → Bool → (Nat → Int32) → (Nat → Int32) → (Nat → Int32) → Prop) (hw : wpMd_go N mForm mEnds mYes mNo v1 v2 post) : Met l yMd_go (Cond.code yMd_go cMd_go 3 none :: xW) rmMd_go (va_Pc [.ref (bd 0), .int v1, .int v2] (xPc D [(cA, .int), (cB, .boolean)] (wdMd_go cA cB bd N mThrown mReached mForm mSlot mOver mEnds mYes mNo) sz)) (qcMd_go D cA cB bd N mThrown mReached mForm mSlot mOver mEnds mYes mNo post (va_A (wdMd_go cA cB bd N mThrown mReached mForm mSlot mOver mEnds mYes mNo) sz)) 0 0 (va_A (wdMd_go cA cB bd N mThrown mReached mForm mSlot mOver mEnds mYes mNo) sz) := by
  refine Met.ofW (cc := cMd_go) (maxL := 3) (ret := none) (by decide) rfl ?_
  intro p e s m args below meth c s₁ B hml hv
  obtain ⟨rfl, hsz, hP, hK, hD0, hN⟩ := hv
  have hx := B.exec
  have hb := B.bytes
  have hr := B.returns
  have hts := atoms_spec (ws := (Cond.code yMd_go cMd_go 3 none :: xW)) B.pre
  have hown : s.vm.findClass "OnceNamedModel" = some m.cls := findClass_of_methodNamed B.named
  have hlocks := B.notSynchronized
  subst hsz
  have hD := hD0.self (sz := s.heap.size)
  generalize hAe : va_A (wdMd_go cA cB bd N mThrown mReached mForm mSlot mOver mEnds mYes mNo) s.heap.size = A at hD ⊢
  have hA : ∀ q : Nat, s.heap.size ≤ q → A q := fun q h => by rw [← hAe]; exact Or.inr h
  have hS : va_S A s.heap s.heap [] := va_S.rf
  have hend : ∀ (u0 : Int32) (u1 : Bool) (u2 : Nat → Int32) (u3 : Nat → Int32) (u4 : Nat → Int32) (H : Heap) (locs : List Loc) (pc : Nat) (ls : Array Slot), decode cMd_go pc = .ok (.return_, 1) → va_P D vwCl (wdMd_go cA cB bd N u0 mReached u1 mSlot mOver u2 u3 u4) H → va_D A (wdMd_go cA cB bd N u0 mReached u1 mSlot mOver u2 u3 u4) → va_S A s.heap H locs → post u0 u1 u2 u3 u4 → W p l e (headSpec (Cond.code yMd_go cMd_go 3 none :: xW) rmMd_go).room s m ([.ref (bd 0), .int v1, .int v2] : List Value).toArray below meth c H locs 0 0 (MQ below (qcMd_go D cA cB bd N mThrown mReached mForm mSlot mOver mEnds mYes mNo post A) ([.ref (bd 0), .int v1, .int v2] : List Value).toArray s 0 0 A) (F0 m pc ls []) := fun u0 u1 u2 u3 u4 H locs pc ls hd hP hD hS hw => W.vret hx hb hr (fun t ht hW => ⟨⟨(u0, u1, u2, u3, u4), rfl, hw, ⟨by rw [ht]; exact hP, va_K.moved hW.alike hK, hD⟩⟩, hS.F ht⟩) hS.2.2 hd
  generalize hQ : MQ below (qcMd_go D cA cB bd N mThrown mReached mForm mSlot mOver mEnds mYes mNo post A) ([.ref (bd 0), .int v1, .int v2] : List Value).toArray s 0 0 A = Q at hend ⊢
  have hl := lv_entry ([.ref (bd 0), .int v1, .int v2]) (n := 3) (Nat.le_of_ble_eq_true rfl)
  rw [lg_entry_eq]
  generalize (lg_sl ([.ref (bd 0), .int v1, .int v2]) ++ List.replicate (3 - (lg_sl ([.ref (bd 0), .int v1, .int v2])).length) Slot.unset).toArray = ls at hl ⊢
  have hl : lv_has ls 3 [(0, .ref (bd 0)), (1, .int v1), (2, .int v2)] := hl
  unfold wpMd_go at hw
  refine lv_aload_n hx hb dMd_go_0 rfl (lv_at hl 0 rfl) ?_
  refine lv_aload_n hx hb dMd_go_1 rfl (lv_at hl 0 rfl) ?_
  refine lv_iload_n hx hb dMd_go_2 rfl (lv_at hl 1 rfl) ?_
  refine xci (va_runV ⟨hx, hb, hml, hown, hts⟩ (ktMd_noBlock l D cA cB bd N _ mThrown mReached mForm mSlot mOver v1 _ hw) (cwV 1 hts (goodV kw_1097 kw_1099 ks_3_12 kw_11 kw_1100) rfl rfl rfl (by decide +kernel) ⟨Nat.le_of_ble_eq_true rfl, Nat.le_of_ble_eq_true rfl⟩) (xpreV hK hP hD hN [0] rfl rfl 0 rfl rfl) rfl rfl hl.1 rfl (lv_room (Nat.le_of_ble_eq_true rfl)) dMd_go_3 ⟨Nat.le_of_ble_eq_true rfl, Nat.le_of_ble_eq_true rfl⟩) hP hD hS hA [0] [1, 2, 3] rfl rfl rfl rfl [3, 0, 1, 2] rfl (fun _ => rfl) (fun r3 u H locs hw hP hD hS => ?_)
  obtain ⟨r3, rfl, hw⟩ := hw
  have hP : va_P D vwCl (wdMd_go cA cB bd N mThrown mReached mForm mSlot mOver mEnds mYes mNo) H := hP
  have hD : va_D A (wdMd_go cA cB bd N mThrown mReached mForm mSlot mOver mEnds mYes mNo) := hD
  obtain ⟨J22, hJ22, hw⟩ := hw
  have hj22 : ∀ (t22_0 : Bool) (ls : Array Slot) (H : Heap) (locs : List Loc), lv_has ls 3 [(0, .ref (bd 0)), (1, .int v1), (2, .int v2)] → va_P D vwCl (wdMd_go cA cB bd N mThrown mReached mForm mSlot mOver mEnds mYes mNo) H → va_D A (wdMd_go cA cB bd N mThrown mReached mForm mSlot mOver mEnds mYes mNo) → va_S A s.heap H locs → J22 t22_0 → W p l e (headSpec (Cond.code yMd_go cMd_go 3 none :: xW) rmMd_go).room s m ([.ref (bd 0), .int v1, .int v2] : List Value).toArray below meth c H locs 0 0 Q (F0 m 22 ls [.int (bI t22_0), .ref (bd 0)]) := by
    intro t22_0 ls H locs hl hP hD hS hw
    have hw := hJ22 t22_0 hw
    refine va_put (D := D) (ci := 7) (v := .int (bI t22_0)) (ty := .int) (C := "OnceNamedModel") (T := TX7) (N := 34) hx hb hts (fun w h => List.mem_cons_of_mem _ (inX7 w h)) tyX7 tyX7_ok nmX7 hown hK hP hD hS 0 rfl rfl 0 (by decide) (hts _ (List.mem_cons_of_mem _ kw_985)) (fun _ h9 => h9) rfl (by decide +kernel) rfl rfl (Nat.le_of_ble_eq_true rfl) dMd_go_22 (fun H locs hP hD hS => ?_)
    have hP : va_P D vwCl (wdMd_go cA cB bd N (bI t22_0) mReached mForm mSlot mOver mEnds mYes mNo) H := hP
    have hD : va_D A (wdMd_go cA cB bd N (bI t22_0) mReached mForm mSlot mOver mEnds mYes mNo) := hD
    refine lv_aload_n hx hb dMd_go_25 rfl (lv_at hl 0 rfl) ?_
    refine va_get (D := D) (ci := 7) (v := .int (bI t22_0)) (C := "OnceNamedModel") (T := TX7) (N := 34) hx hb hts (fun w h => List.mem_cons_of_mem _ (inX7 w h)) hown hK hP 0 rfl rfl 0 (by decide) (hts _ (List.mem_cons_of_mem _ kw_985)) (fun _ h9 => h9) rfl dMd_go_26 ?_
    refine lv_if_ne (tgt := 58) hx hb dMd_go_29 rfl (fun hc => ?_) (fun hc => ?_)
    · have hw := hw.1 hc
      exact hend (bI t22_0) mForm mEnds mYes mNo _ _ _ _ dMd_go_58 hP hD hS hw
    · have hw := hw.2 hc
      refine lv_aload_n hx hb dMd_go_32 rfl (lv_at hl 0 rfl) ?_
      refine va_get (D := D) (ci := 7) (v := .ref (bd 6)) (C := "OnceNamedModel") (T := TX7) (N := 34) hx hb hts (fun w h => List.mem_cons_of_mem _ (inX7 w h)) hown hK hP 0 rfl rfl 7 (by decide) (hts _ (List.mem_cons_of_mem _ kw_992)) (fun _ h9 => h9) rfl dMd_go_33 ?_
      refine lv_iload_n hx hb dMd_go_36 rfl (lv_at hl 1 rfl) ?_
      refine lv_iconst (v := 1) hx hb dMd_go_37 (by decide) ?_
      have ho := hw.1
      have hw := hw.2
      refine va_iast hx hb hK hP hD hS 1 0 rfl rfl ho dMd_go_38 (fun H locs hP hD hS => ?_)
      have hP : va_P D vwCl (wdMd_go cA cB bd N (bI t22_0) mReached mForm mSlot mOver (upd mEnds (Int32.toNatClampNeg v1) 1) mYes mNo) H := hP
      have hD : va_D A (wdMd_go cA cB bd N (bI t22_0) mReached mForm mSlot mOver (upd mEnds (Int32.toNatClampNeg v1) 1) mYes mNo) := hD
      refine lv_aload_n hx hb dMd_go_39 rfl (lv_at hl 0 rfl) ?_
      refine va_get (D := D) (ci := 7) (v := .ref (bd 8)) (C := "OnceNamedModel") (T := TX7) (N := 34) hx hb hts (fun w h => List.mem_cons_of_mem _ (inX7 w h)) hown hK hP 0 rfl rfl 9 (by decide) (hts _ (List.mem_cons_of_mem _ kw_994)) (fun _ h9 => h9) rfl dMd_go_40 ?_
      refine lv_iload_n hx hb dMd_go_43 rfl (lv_at hl 1 rfl) ?_
      refine lv_iload_n hx hb dMd_go_44 rfl (lv_at hl 2 rfl) ?_
      have ho := hw.1
      have hw := hw.2
      refine va_iast hx hb hK hP hD hS 2 0 rfl rfl ho dMd_go_45 (fun H locs hP hD hS => ?_)
      have hP : va_P D vwCl (wdMd_go cA cB bd N (bI t22_0) mReached mForm mSlot mOver (upd mEnds (Int32.toNatClampNeg v1) 1) (upd mYes (Int32.toNatClampNeg v1) v2) mNo) H := hP
      have hD : va_D A (wdMd_go cA cB bd N (bI t22_0) mReached mForm mSlot mOver (upd mEnds (Int32.toNatClampNeg v1) 1) (upd mYes (Int32.toNatClampNeg v1) v2) mNo) := hD
      refine lv_aload_n hx hb dMd_go_46 rfl (lv_at hl 0 rfl) ?_
      refine va_get (D := D) (ci := 7) (v := .ref (bd 9)) (C := "OnceNamedModel") (T := TX7) (N := 34) hx hb hts (fun w h => List.mem_cons_of_mem _ (inX7 w h)) hown hK hP 0 rfl rfl 10 (by decide) (hts _ (List.mem_cons_of_mem _ kw_995)) (fun _ h9 => h9) rfl dMd_go_47 ?_
      refine lv_iload_n hx hb dMd_go_50 rfl (lv_at hl 1 rfl) ?_
      refine lv_iload_n hx hb dMd_go_51 rfl (lv_at hl 2 rfl) ?_
      have ho := hw.1
      have hw := hw.2
      refine va_iast hx hb hK hP hD hS 3 0 rfl rfl ho dMd_go_52 (fun H locs hP hD hS => ?_)
      have hP : va_P D vwCl (wdMd_go cA cB bd N (bI t22_0) mReached mForm mSlot mOver (upd mEnds (Int32.toNatClampNeg v1) 1) (upd mYes (Int32.toNatClampNeg v1) v2) (upd mNo (Int32.toNatClampNeg v1) v2)) H := hP
      have hD : va_D A (wdMd_go cA cB bd N (bI t22_0) mReached mForm mSlot mOver (upd mEnds (Int32.toNatClampNeg v1) 1) (upd mYes (Int32.toNatClampNeg v1) v2) (upd mNo (Int32.toNatClampNeg v1) v2)) := hD
      refine lv_aload_n hx hb dMd_go_53 rfl (lv_at hl 0 rfl) ?_
      refine lv_iconst (v := 0) hx hb dMd_go_54 (by decide) ?_
      refine va_put (D := D) (ci := 7) (v := .int (bI false)) (ty := .boolean) (C := "OnceNamedModel") (T := TX7) (N := 34) hx hb hts (fun w h => List.mem_cons_of_mem _ (inX7 w h)) tyX7 tyX7_ok nmX7 hown hK hP hD hS 0 rfl rfl 14 (by decide) (hts _ (List.mem_cons_of_mem _ kw_999)) (fun _ h9 => h9) rfl (by decide +kernel) (bI_nar _) (bI_fit _) (Nat.le_of_ble_eq_true rfl) dMd_go_55 (fun H locs hP hD hS => ?_)
      have hP : va_P D vwCl (wdMd_go cA cB bd N (bI t22_0) mReached false mSlot mOver (upd mEnds (Int32.toNatClampNeg v1) 1) (upd mYes (Int32.toNatClampNeg v1) v2) (upd mNo (Int32.toNatClampNeg v1) v2)) H := hP
      have hD : va_D A (wdMd_go cA cB bd N (bI t22_0) mReached false mSlot mOver (upd mEnds (Int32.toNatClampNeg v1) 1) (upd mYes (Int32.toNatClampNeg v1) v2) (upd mNo (Int32.toNatClampNeg v1) v2)) := hD
      exact hend (bI t22_0) false (upd mEnds (Int32.toNatClampNeg v1) 1) (upd mYes (Int32.toNatClampNeg v1) v2) (upd mNo (Int32.toNatClampNeg v1) v2) _ _ _ _ dMd_go_58 hP hD hS hw
  obtain ⟨J17, hJ17, hw⟩ := hw
  have hj17 : ∀  (ls : Array Slot) (H : Heap) (locs : List Loc), lv_has ls 3 [(0, .ref (bd 0)), (1, .int v1), (2, .int v2)] → va_P D vwCl (wdMd_go cA cB bd N mThrown mReached mForm mSlot mOver mEnds mYes mNo) H → va_D A (wdMd_go cA cB bd N mThrown mReached mForm mSlot mOver mEnds mYes mNo) → va_S A s.heap H locs → J17 → W p l e (headSpec (Cond.code yMd_go cMd_go 3 none :: xW) rmMd_go).room s m ([.ref (bd 0), .int v1, .int v2] : List Value).toArray below meth c H locs 0 0 Q (F0 m 17 ls [.ref (bd 0)]) := by
    intro  ls H locs hl hP hD hS hw
    have hw := hJ17  hw
    refine lv_iconst (v := 1) hx hb dMd_go_17 (by decide) ?_
    refine lv_goto (tgt := 22) hx hb dMd_go_18 rfl ?_
    exact hj22 true _ _ _ (lv_sub hl [0, 1, 2] rfl) hP hD hS hw
  refine lv_if_ne (tgt := 17) hx hb dMd_go_6 rfl (fun hc => ?_) (fun hc => ?_)
  · have hw := hw.1 (bI_1 hc)
    exact hj17  _ _ _ (lv_sub hl [0, 1, 2] rfl) hP hD hS hw
  · have hw := hw.2 (bI_0 hc)
    refine lv_aload_n hx hb dMd_go_9 rfl (lv_at hl 0 rfl) ?_
    refine lv_iload_n hx hb dMd_go_10 rfl (lv_at hl 2 rfl) ?_
    refine xci (va_runV ⟨hx, hb, hml, hown, hts⟩ (ktMd_noBlock l D cA cB bd N _ mThrown mReached mForm mSlot mOver v2 _ hw) (cwV 1 hts (goodV kw_1097 kw_1099 ks_3_12 kw_11 kw_1100) rfl rfl rfl (by decide +kernel) ⟨Nat.le_of_ble_eq_true rfl, Nat.le_of_ble_eq_true rfl⟩) (xpreV hK hP hD hN [0] rfl rfl 0 rfl rfl) rfl rfl hl.1 rfl (lv_room (Nat.le_of_ble_eq_true rfl)) dMd_go_11 ⟨Nat.le_of_ble_eq_true rfl, Nat.le_of_ble_eq_true rfl⟩) hP hD hS hA [0] [1, 2, 3] rfl rfl rfl rfl [3, 0, 1, 2] rfl (fun _ => rfl) (fun r11 u H locs hw hP hD hS => ?_)
    obtain ⟨r11, rfl, hw⟩ := hw
    have hP : va_P D vwCl (wdMd_go cA cB bd N mThrown mReached mForm mSlot mOver mEnds mYes mNo) H := hP
    have hD : va_D A (wdMd_go cA cB bd N mThrown mReached mForm mSlot mOver mEnds mYes mNo) := hD
    refine lv_if_eq (tgt := 21) hx hb dMd_go_14 rfl (fun hc => ?_) (fun hc => ?_)
    · have hw := hw.1 (bI_0 hc)
      refine lv_iconst (v := 0) hx hb dMd_go_21 (by decide) ?_
      exact hj22 false _ _ _ (lv_sub hl [0, 1, 2] rfl) hP hD hS hw
    · have hw := hw.2 (bI_1 hc)
      exact hj17  _ _ _ (lv_sub hl [0, 1, 2] rfl) hP hD hS hw
abbrev wdMd_fork (cA : ClassId) (cB : ClassId) (bd : Nat → Nat) (N : Nat) (mThrown : Int32) (mReached : Int32) (mForm : Bool) (mSlot : Int32) (mOver : Bool) (mEnds : Nat → Int32) (mEndVariable : Nat → Int32) (mYes : Nat → Int32) (mNo : Nat → Int32) : va_W := [((bd 0), .inr (7, [.int mThrown, .int (nI N), .ref (bd 1), .ref (bd 2), .ref (bd 3), .ref (bd 4), .ref (bd 5), .ref (bd 6), .ref (bd 7), .ref (bd 8), .ref (bd 9), .ref (bd 10), .int mReached, .ref (bd 11), .int (bI mForm), .ref (bd 12), .ref (bd 13), .ref (bd 14), .ref (bd 15), .ref (bd 16), .ref (bd 17), .ref (bd 18), .ref (bd 19), .ref (bd 20), .ref (bd 21), .ref (bd 22), .ref (bd 23), .ref (bd 24), .ref (bd 25), .ref (bd 26), .ref (bd 27), .ref (bd 28), .int mSlot, .int (bI mOver)])), ((bd 6), .inl (cA, 12, .inl mEnds)), ((bd 7), .inl (cA, 12, .inl mEndVariable)), ((bd 8), .inl (cA, 12, .inl mYes)), ((bd 9), .inl (cA, 12, .inl mNo))]
abbrev qcMd_fork (D : va_G) (cA : ClassId) (cB : ClassId) (bd : Nat → Nat) (N : Nat) (mThrown : Int32) (mReached : Int32) (mForm : Bool) (mSlot : Int32) (mOver : Bool) (mEnds : Nat → Int32) (mEndVariable : Nat → Int32) (mYes : Nat → Int32) (mNo : Nat → Int32) (post : Int32 → Bool → (Nat → Int32) → (Nat → Int32) → (Nat → Int32) → (Nat → Int32) → Prop) (A : Nat → Prop) : Array Value → State → Outcome → State → Prop := va_Qv (S := (Int32) × (Bool) × (Nat → Int32) × (Nat → Int32) × (Nat → Int32) × (Nat → Int32)) (fun u => post u.1 u.2.1 u.2.2.1 u.2.2.2.1 u.2.2.2.2.1 u.2.2.2.2.2) (fun u t => xB D [(cA, .int), (cB, .boolean)] A (wdMd_fork cA cB bd N u.1 mReached u.2.1 mSlot mOver u.2.2.1 u.2.2.2.1 u.2.2.2.2.1 u.2.2.2.2.2) t) A
abbrev rmMd_fork : Room := { frames := 1, cells := 0, slots := 0, locals := 21 }
set_option maxHeartbeats 4000000 in
set_option maxRecDepth 100000 in
theorem ktMd_fork (l : Launch) (D : va_G) (cA : ClassId) (cB : ClassId) (bd : Nat → Nat) (N : Nat) (sz : Nat) (mThrown : Int32) (mReached : Int32) (mForm : Bool) (mSlot : Int32) (mOver : Bool) (mEnds : Nat → Int32) (mEndVariable : Nat → Int32) (mYes : Nat → Int32) (mNo : Nat → Int32) (v1 : Int32) (v2 : Int32) (v3 : Int32) (v4 : Int32) (post : Int32 → Bool → (Nat → Int32) → (Nat → Int32) → (Nat → Int32) → (Nat → Int32) → Prop) (hw : wpMd_fork N mForm mEnds mEndVariable mYes mNo v1 v2 v3 v4 post) : Met l yMd_fork (Cond.code yMd_fork cMd_fork 5 none :: xW) rmMd_fork (va_Pc [.ref (bd 0), .int v1, .int v2, .int v3, .int v4] (xPc D [(cA, .int), (cB, .boolean)] (wdMd_fork cA cB bd N mThrown mReached mForm mSlot mOver mEnds mEndVariable mYes mNo) sz)) (qcMd_fork D cA cB bd N mThrown mReached mForm mSlot mOver mEnds mEndVariable mYes mNo post (va_A (wdMd_fork cA cB bd N mThrown mReached mForm mSlot mOver mEnds mEndVariable mYes mNo) sz)) 0 0 (va_A (wdMd_fork cA cB bd N mThrown mReached mForm mSlot mOver mEnds mEndVariable mYes mNo) sz) := by
  refine Met.ofW (cc := cMd_fork) (maxL := 5) (ret := none) (by decide) rfl ?_
  intro p e s m args below meth c s₁ B hml hv
  obtain ⟨rfl, hsz, hP, hK, hD0, hN⟩ := hv
  have hx := B.exec
  have hb := B.bytes
  have hr := B.returns
  have hts := atoms_spec (ws := (Cond.code yMd_fork cMd_fork 5 none :: xW)) B.pre
  have hown : s.vm.findClass "OnceNamedModel" = some m.cls := findClass_of_methodNamed B.named
  have hlocks := B.notSynchronized
  subst hsz
  have hD := hD0.self (sz := s.heap.size)
  generalize hAe : va_A (wdMd_fork cA cB bd N mThrown mReached mForm mSlot mOver mEnds mEndVariable mYes mNo) s.heap.size = A at hD ⊢
  have hA : ∀ q : Nat, s.heap.size ≤ q → A q := fun q h => by rw [← hAe]; exact Or.inr h
  have hS : va_S A s.heap s.heap [] := va_S.rf
  have hend : ∀ (u0 : Int32) (u1 : Bool) (u2 : Nat → Int32) (u3 : Nat → Int32) (u4 : Nat → Int32) (u5 : Nat → Int32) (H : Heap) (locs : List Loc) (pc : Nat) (ls : Array Slot), decode cMd_fork pc = .ok (.return_, 1) → va_P D vwCl (wdMd_fork cA cB bd N u0 mReached u1 mSlot mOver u2 u3 u4 u5) H → va_D A (wdMd_fork cA cB bd N u0 mReached u1 mSlot mOver u2 u3 u4 u5) → va_S A s.heap H locs → post u0 u1 u2 u3 u4 u5 → W p l e (headSpec (Cond.code yMd_fork cMd_fork 5 none :: xW) rmMd_fork).room s m ([.ref (bd 0), .int v1, .int v2, .int v3, .int v4] : List Value).toArray below meth c H locs 0 0 (MQ below (qcMd_fork D cA cB bd N mThrown mReached mForm mSlot mOver mEnds mEndVariable mYes mNo post A) ([.ref (bd 0), .int v1, .int v2, .int v3, .int v4] : List Value).toArray s 0 0 A) (F0 m pc ls []) := fun u0 u1 u2 u3 u4 u5 H locs pc ls hd hP hD hS hw => W.vret hx hb hr (fun t ht hW => ⟨⟨(u0, u1, u2, u3, u4, u5), rfl, hw, ⟨by rw [ht]; exact hP, va_K.moved hW.alike hK, hD⟩⟩, hS.F ht⟩) hS.2.2 hd
  generalize hQ : MQ below (qcMd_fork D cA cB bd N mThrown mReached mForm mSlot mOver mEnds mEndVariable mYes mNo post A) ([.ref (bd 0), .int v1, .int v2, .int v3, .int v4] : List Value).toArray s 0 0 A = Q at hend ⊢
  have hl := lv_entry ([.ref (bd 0), .int v1, .int v2, .int v3, .int v4]) (n := 5) (Nat.le_of_ble_eq_true rfl)
  rw [lg_entry_eq]
  generalize (lg_sl ([.ref (bd 0), .int v1, .int v2, .int v3, .int v4]) ++ List.replicate (5 - (lg_sl ([.ref (bd 0), .int v1, .int v2, .int v3, .int v4])).length) Slot.unset).toArray = ls at hl ⊢
  have hl : lv_has ls 5 [(0, .ref (bd 0)), (1, .int v1), (2, .int v2), (3, .int v3), (4, .int v4)] := hl
  unfold wpMd_fork at hw
  refine lv_aload_n hx hb dMd_fork_0 rfl (lv_at hl 0 rfl) ?_
  refine lv_aload_n hx hb dMd_fork_1 rfl (lv_at hl 0 rfl) ?_
  refine lv_iload_n hx hb dMd_fork_2 rfl (lv_at hl 1 rfl) ?_
  refine xci (va_runV ⟨hx, hb, hml, hown, hts⟩ (ktMd_noBlock l D cA cB bd N _ mThrown mReached mForm mSlot mOver v1 _ hw) (cwV 1 hts (goodV kw_1097 kw_1099 ks_3_12 kw_11 kw_1100) rfl rfl rfl (by decide +kernel) ⟨Nat.le_of_ble_eq_true rfl, Nat.le_of_ble_eq_true rfl⟩) (xpreV hK hP hD hN [0] rfl rfl 0 rfl rfl) rfl rfl hl.1 rfl (lv_room (Nat.le_of_ble_eq_true rfl)) dMd_fork_3 ⟨Nat.le_of_ble_eq_true rfl, Nat.le_of_ble_eq_true rfl⟩) hP hD hS hA [0] [1, 2, 3, 4] rfl rfl rfl rfl [4, 0, 1, 2, 3] rfl (fun _ => rfl) (fun r3 u H locs hw hP hD hS => ?_)
  obtain ⟨r3, rfl, hw⟩ := hw
  have hP : va_P D vwCl (wdMd_fork cA cB bd N mThrown mReached mForm mSlot mOver mEnds mEndVariable mYes mNo) H := hP
  have hD : va_D A (wdMd_fork cA cB bd N mThrown mReached mForm mSlot mOver mEnds mEndVariable mYes mNo) := hD
  obtain ⟨J39, hJ39, hw⟩ := hw
  have hj39 : ∀ (t39_0 : Bool) (ls : Array Slot) (H : Heap) (locs : List Loc), lv_has ls 5 [(0, .ref (bd 0)), (1, .int v1), (2, .int v2), (3, .int v3), (4, .int v4)] → va_P D vwCl (wdMd_fork cA cB bd N mThrown mReached mForm mSlot mOver mEnds mEndVariable mYes mNo) H → va_D A (wdMd_fork cA cB bd N mThrown mReached mForm mSlot mOver mEnds mEndVariable mYes mNo) → va_S A s.heap H locs → J39 t39_0 → W p l e (headSpec (Cond.code yMd_fork cMd_fork 5 none :: xW) rmMd_fork).room s m ([.ref (bd 0), .int v1, .int v2, .int v3, .int v4] : List Value).toArray below meth c H locs 0 0 Q (F0 m 39 ls [.int (bI t39_0), .ref (bd 0)]) := by
    intro t39_0 ls H locs hl hP hD hS hw
    have hw := hJ39 t39_0 hw
    refine va_put (D := D) (ci := 7) (v := .int (bI t39_0)) (ty := .int) (C := "OnceNamedModel") (T := TX7) (N := 34) hx hb hts (fun w h => List.mem_cons_of_mem _ (inX7 w h)) tyX7 tyX7_ok nmX7 hown hK hP hD hS 0 rfl rfl 0 (by decide) (hts _ (List.mem_cons_of_mem _ kw_985)) (fun _ h9 => h9) rfl (by decide +kernel) rfl rfl (Nat.le_of_ble_eq_true rfl) dMd_fork_39 (fun H locs hP hD hS => ?_)
    have hP : va_P D vwCl (wdMd_fork cA cB bd N (bI t39_0) mReached mForm mSlot mOver mEnds mEndVariable mYes mNo) H := hP
    have hD : va_D A (wdMd_fork cA cB bd N (bI t39_0) mReached mForm mSlot mOver mEnds mEndVariable mYes mNo) := hD
    refine lv_aload_n hx hb dMd_fork_42 rfl (lv_at hl 0 rfl) ?_
    refine va_get (D := D) (ci := 7) (v := .int (bI t39_0)) (C := "OnceNamedModel") (T := TX7) (N := 34) hx hb hts (fun w h => List.mem_cons_of_mem _ (inX7 w h)) hown hK hP 0 rfl rfl 0 (by decide) (hts _ (List.mem_cons_of_mem _ kw_985)) (fun _ h9 => h9) rfl dMd_fork_43 ?_
    refine lv_if_ne (tgt := 83) hx hb dMd_fork_46 rfl (fun hc => ?_) (fun hc => ?_)
    · have hw := hw.1 hc
      exact hend (bI t39_0) mForm mEnds mEndVariable mYes mNo _ _ _ _ dMd_fork_83 hP hD hS hw
    · have hw := hw.2 hc
      refine lv_aload_n hx hb dMd_fork_49 rfl (lv_at hl 0 rfl) ?_
      refine va_get (D := D) (ci := 7) (v := .ref (bd 6)) (C := "OnceNamedModel") (T := TX7) (N := 34) hx hb hts (fun w h => List.mem_cons_of_mem _ (inX7 w h)) hown hK hP 0 rfl rfl 7 (by decide) (hts _ (List.mem_cons_of_mem _ kw_992)) (fun _ h9 => h9) rfl dMd_fork_50 ?_
      refine lv_iload_n hx hb dMd_fork_53 rfl (lv_at hl 1 rfl) ?_
      refine lv_iconst (v := 2) hx hb dMd_fork_54 (by decide) ?_
      have ho := hw.1
      have hw := hw.2
      refine va_iast hx hb hK hP hD hS 1 0 rfl rfl ho dMd_fork_55 (fun H locs hP hD hS => ?_)
      have hP : va_P D vwCl (wdMd_fork cA cB bd N (bI t39_0) mReached mForm mSlot mOver (upd mEnds (Int32.toNatClampNeg v1) 2) mEndVariable mYes mNo) H := hP
      have hD : va_D A (wdMd_fork cA cB bd N (bI t39_0) mReached mForm mSlot mOver (upd mEnds (Int32.toNatClampNeg v1) 2) mEndVariable mYes mNo) := hD
      refine lv_aload_n hx hb dMd_fork_56 rfl (lv_at hl 0 rfl) ?_
      refine va_get (D := D) (ci := 7) (v := .ref (bd 7)) (C := "OnceNamedModel") (T := TX7) (N := 34) hx hb hts (fun w h => List.mem_cons_of_mem _ (inX7 w h)) hown hK hP 0 rfl rfl 8 (by decide) (hts _ (List.mem_cons_of_mem _ kw_993)) (fun _ h9 => h9) rfl dMd_fork_57 ?_
      refine lv_iload_n hx hb dMd_fork_60 rfl (lv_at hl 1 rfl) ?_
      refine lv_iload_n hx hb dMd_fork_61 rfl (lv_at hl 2 rfl) ?_
      have ho := hw.1
      have hw := hw.2
      refine va_iast hx hb hK hP hD hS 2 0 rfl rfl ho dMd_fork_62 (fun H locs hP hD hS => ?_)
      have hP : va_P D vwCl (wdMd_fork cA cB bd N (bI t39_0) mReached mForm mSlot mOver (upd mEnds (Int32.toNatClampNeg v1) 2) (upd mEndVariable (Int32.toNatClampNeg v1) v2) mYes mNo) H := hP
      have hD : va_D A (wdMd_fork cA cB bd N (bI t39_0) mReached mForm mSlot mOver (upd mEnds (Int32.toNatClampNeg v1) 2) (upd mEndVariable (Int32.toNatClampNeg v1) v2) mYes mNo) := hD
      refine lv_aload_n hx hb dMd_fork_63 rfl (lv_at hl 0 rfl) ?_
      refine va_get (D := D) (ci := 7) (v := .ref (bd 8)) (C := "OnceNamedModel") (T := TX7) (N := 34) hx hb hts (fun w h => List.mem_cons_of_mem _ (inX7 w h)) hown hK hP 0 rfl rfl 9 (by decide) (hts _ (List.mem_cons_of_mem _ kw_994)) (fun _ h9 => h9) rfl dMd_fork_64 ?_
      refine lv_iload_n hx hb dMd_fork_67 rfl (lv_at hl 1 rfl) ?_
      refine lv_iload_n hx hb dMd_fork_68 rfl (lv_at hl 3 rfl) ?_
      have ho := hw.1
      have hw := hw.2
      refine va_iast hx hb hK hP hD hS 3 0 rfl rfl ho dMd_fork_69 (fun H locs hP hD hS => ?_)
      have hP : va_P D vwCl (wdMd_fork cA cB bd N (bI t39_0) mReached mForm mSlot mOver (upd mEnds (Int32.toNatClampNeg v1) 2) (upd mEndVariable (Int32.toNatClampNeg v1) v2) (upd mYes (Int32.toNatClampNeg v1) v3) mNo) H := hP
      have hD : va_D A (wdMd_fork cA cB bd N (bI t39_0) mReached mForm mSlot mOver (upd mEnds (Int32.toNatClampNeg v1) 2) (upd mEndVariable (Int32.toNatClampNeg v1) v2) (upd mYes (Int32.toNatClampNeg v1) v3) mNo) := hD
      refine lv_aload_n hx hb dMd_fork_70 rfl (lv_at hl 0 rfl) ?_
      refine va_get (D := D) (ci := 7) (v := .ref (bd 9)) (C := "OnceNamedModel") (T := TX7) (N := 34) hx hb hts (fun w h => List.mem_cons_of_mem _ (inX7 w h)) hown hK hP 0 rfl rfl 10 (by decide) (hts _ (List.mem_cons_of_mem _ kw_995)) (fun _ h9 => h9) rfl dMd_fork_71 ?_
      refine lv_iload_n hx hb dMd_fork_74 rfl (lv_at hl 1 rfl) ?_
      refine lv_iload hx hb dMd_fork_75 (lv_at hl 4 rfl) ?_
      have ho := hw.1
      have hw := hw.2
      refine va_iast hx hb hK hP hD hS 4 0 rfl rfl ho dMd_fork_77 (fun H locs hP hD hS => ?_)
      have hP : va_P D vwCl (wdMd_fork cA cB bd N (bI t39_0) mReached mForm mSlot mOver (upd mEnds (Int32.toNatClampNeg v1) 2) (upd mEndVariable (Int32.toNatClampNeg v1) v2) (upd mYes (Int32.toNatClampNeg v1) v3) (upd mNo (Int32.toNatClampNeg v1) v4)) H := hP
      have hD : va_D A (wdMd_fork cA cB bd N (bI t39_0) mReached mForm mSlot mOver (upd mEnds (Int32.toNatClampNeg v1) 2) (upd mEndVariable (Int32.toNatClampNeg v1) v2) (upd mYes (Int32.toNatClampNeg v1) v3) (upd mNo (Int32.toNatClampNeg v1) v4)) := hD
      refine lv_aload_n hx hb dMd_fork_78 rfl (lv_at hl 0 rfl) ?_
      refine lv_iconst (v := 0) hx hb dMd_fork_79 (by decide) ?_
      refine va_put (D := D) (ci := 7) (v := .int (bI false)) (ty := .boolean) (C := "OnceNamedModel") (T := TX7) (N := 34) hx hb hts (fun w h => List.mem_cons_of_mem _ (inX7 w h)) tyX7 tyX7_ok nmX7 hown hK hP hD hS 0 rfl rfl 14 (by decide) (hts _ (List.mem_cons_of_mem _ kw_999)) (fun _ h9 => h9) rfl (by decide +kernel) (bI_nar _) (bI_fit _) (Nat.le_of_ble_eq_true rfl) dMd_fork_80 (fun H locs hP hD hS => ?_)
      have hP : va_P D vwCl (wdMd_fork cA cB bd N (bI t39_0) mReached false mSlot mOver (upd mEnds (Int32.toNatClampNeg v1) 2) (upd mEndVariable (Int32.toNatClampNeg v1) v2) (upd mYes (Int32.toNatClampNeg v1) v3) (upd mNo (Int32.toNatClampNeg v1) v4)) H := hP
      have hD : va_D A (wdMd_fork cA cB bd N (bI t39_0) mReached false mSlot mOver (upd mEnds (Int32.toNatClampNeg v1) 2) (upd mEndVariable (Int32.toNatClampNeg v1) v2) (upd mYes (Int32.toNatClampNeg v1) v3) (upd mNo (Int32.toNatClampNeg v1) v4)) := hD
      exact hend (bI t39_0) false (upd mEnds (Int32.toNatClampNeg v1) 2) (upd mEndVariable (Int32.toNatClampNeg v1) v2) (upd mYes (Int32.toNatClampNeg v1) v3) (upd mNo (Int32.toNatClampNeg v1) v4) _ _ _ _ dMd_fork_83 hP hD hS hw
  obtain ⟨J34, hJ34, hw⟩ := hw
  have hj34 : ∀  (ls : Array Slot) (H : Heap) (locs : List Loc), lv_has ls 5 [(0, .ref (bd 0)), (1, .int v1), (2, .int v2), (3, .int v3), (4, .int v4)] → va_P D vwCl (wdMd_fork cA cB bd N mThrown mReached mForm mSlot mOver mEnds mEndVariable mYes mNo) H → va_D A (wdMd_fork cA cB bd N mThrown mReached mForm mSlot mOver mEnds mEndVariable mYes mNo) → va_S A s.heap H locs → J34 → W p l e (headSpec (Cond.code yMd_fork cMd_fork 5 none :: xW) rmMd_fork).room s m ([.ref (bd 0), .int v1, .int v2, .int v3, .int v4] : List Value).toArray below meth c H locs 0 0 Q (F0 m 34 ls [.ref (bd 0)]) := by
    intro  ls H locs hl hP hD hS hw
    have hw := hJ34  hw
    refine lv_iconst (v := 1) hx hb dMd_fork_34 (by decide) ?_
    refine lv_goto (tgt := 39) hx hb dMd_fork_35 rfl ?_
    exact hj39 true _ _ _ (lv_sub hl [0, 1, 2, 3, 4] rfl) hP hD hS hw
  refine lv_if_ne (tgt := 34) hx hb dMd_fork_6 rfl (fun hc => ?_) (fun hc => ?_)
  · have hw := hw.1 (bI_1 hc)
    exact hj34  _ _ _ (lv_sub hl [0, 1, 2, 3, 4] rfl) hP hD hS hw
  · have hw := hw.2 (bI_0 hc)
    refine lv_aload_n hx hb dMd_fork_9 rfl (lv_at hl 0 rfl) ?_
    refine lv_iload_n hx hb dMd_fork_10 rfl (lv_at hl 2 rfl) ?_
    refine xci (va_runV ⟨hx, hb, hml, hown, hts⟩ (ktMd_noVariable l D cA cB bd N _ v2 _ hw) (cwV 1 hts (goodV kw_1101 kw_1103 ks_3_13 kw_11 kw_1104) rfl rfl rfl (by decide +kernel) ⟨Nat.le_of_ble_eq_true rfl, Nat.le_of_ble_eq_true rfl⟩) (xpreV hK hP hD hN [] rfl rfl 0 rfl rfl) rfl rfl hl.1 rfl (lv_room (Nat.le_of_ble_eq_true rfl)) dMd_fork_11 ⟨Nat.le_of_ble_eq_true rfl, Nat.le_of_ble_eq_true rfl⟩) hP hD hS hA [] [0, 1, 2, 3, 4] rfl rfl rfl rfl [0, 1, 2, 3, 4] rfl (fun _ => rfl) (fun r11 u H locs hw hP hD hS => ?_)
    obtain ⟨r11, rfl, hw⟩ := hw
    have hP : va_P D vwCl (wdMd_fork cA cB bd N mThrown mReached mForm mSlot mOver mEnds mEndVariable mYes mNo) H := hP
    have hD : va_D A (wdMd_fork cA cB bd N mThrown mReached mForm mSlot mOver mEnds mEndVariable mYes mNo) := hD
    refine lv_if_ne (tgt := 34) hx hb dMd_fork_14 rfl (fun hc => ?_) (fun hc => ?_)
    · have hw := hw.1 (bI_1 hc)
      exact hj34  _ _ _ (lv_sub hl [0, 1, 2, 3, 4] rfl) hP hD hS hw
    · have hw := hw.2 (bI_0 hc)
      refine lv_aload_n hx hb dMd_fork_17 rfl (lv_at hl 0 rfl) ?_
      refine lv_iload_n hx hb dMd_fork_18 rfl (lv_at hl 3 rfl) ?_
      refine xci (va_runV ⟨hx, hb, hml, hown, hts⟩ (ktMd_noBlock l D cA cB bd N _ mThrown mReached mForm mSlot mOver v3 _ hw) (cwV 1 hts (goodV kw_1097 kw_1099 ks_3_12 kw_11 kw_1100) rfl rfl rfl (by decide +kernel) ⟨Nat.le_of_ble_eq_true rfl, Nat.le_of_ble_eq_true rfl⟩) (xpreV hK hP hD hN [0] rfl rfl 0 rfl rfl) rfl rfl hl.1 rfl (lv_room (Nat.le_of_ble_eq_true rfl)) dMd_fork_19 ⟨Nat.le_of_ble_eq_true rfl, Nat.le_of_ble_eq_true rfl⟩) hP hD hS hA [0] [1, 2, 3, 4] rfl rfl rfl rfl [4, 0, 1, 2, 3] rfl (fun _ => rfl) (fun r19 u H locs hw hP hD hS => ?_)
      obtain ⟨r19, rfl, hw⟩ := hw
      have hP : va_P D vwCl (wdMd_fork cA cB bd N mThrown mReached mForm mSlot mOver mEnds mEndVariable mYes mNo) H := hP
      have hD : va_D A (wdMd_fork cA cB bd N mThrown mReached mForm mSlot mOver mEnds mEndVariable mYes mNo) := hD
      refine lv_if_ne (tgt := 34) hx hb dMd_fork_22 rfl (fun hc => ?_) (fun hc => ?_)
      · have hw := hw.1 (bI_1 hc)
        exact hj34  _ _ _ (lv_sub hl [0, 1, 2, 3, 4] rfl) hP hD hS hw
      · have hw := hw.2 (bI_0 hc)
        refine lv_aload_n hx hb dMd_fork_25 rfl (lv_at hl 0 rfl) ?_
        refine lv_iload hx hb dMd_fork_26 (lv_at hl 4 rfl) ?_
        refine xci (va_runV ⟨hx, hb, hml, hown, hts⟩ (ktMd_noBlock l D cA cB bd N _ mThrown mReached mForm mSlot mOver v4 _ hw) (cwV 1 hts (goodV kw_1097 kw_1099 ks_3_12 kw_11 kw_1100) rfl rfl rfl (by decide +kernel) ⟨Nat.le_of_ble_eq_true rfl, Nat.le_of_ble_eq_true rfl⟩) (xpreV hK hP hD hN [0] rfl rfl 0 rfl rfl) rfl rfl hl.1 rfl (lv_room (Nat.le_of_ble_eq_true rfl)) dMd_fork_28 ⟨Nat.le_of_ble_eq_true rfl, Nat.le_of_ble_eq_true rfl⟩) hP hD hS hA [0] [1, 2, 3, 4] rfl rfl rfl rfl [4, 0, 1, 2, 3] rfl (fun _ => rfl) (fun r28 u H locs hw hP hD hS => ?_)
        obtain ⟨r28, rfl, hw⟩ := hw
        have hP : va_P D vwCl (wdMd_fork cA cB bd N mThrown mReached mForm mSlot mOver mEnds mEndVariable mYes mNo) H := hP
        have hD : va_D A (wdMd_fork cA cB bd N mThrown mReached mForm mSlot mOver mEnds mEndVariable mYes mNo) := hD
        refine lv_if_eq (tgt := 38) hx hb dMd_fork_31 rfl (fun hc => ?_) (fun hc => ?_)
        · have hw := hw.1 (bI_0 hc)
          refine lv_iconst (v := 0) hx hb dMd_fork_38 (by decide) ?_
          exact hj39 false _ _ _ (lv_sub hl [0, 1, 2, 3, 4] rfl) hP hD hS hw
        · have hw := hw.2 (bI_1 hc)
          exact hj34  _ _ _ (lv_sub hl [0, 1, 2, 3, 4] rfl) hP hD hS hw
abbrev wdMd_stop (cA : ClassId) (cB : ClassId) (bd : Nat → Nat) (N : Nat) (mThrown : Int32) (mReached : Int32) (mForm : Bool) (mSlot : Int32) (mOver : Bool) (mEnds : Nat → Int32) : va_W := [((bd 0), .inr (7, [.int mThrown, .int (nI N), .ref (bd 1), .ref (bd 2), .ref (bd 3), .ref (bd 4), .ref (bd 5), .ref (bd 6), .ref (bd 7), .ref (bd 8), .ref (bd 9), .ref (bd 10), .int mReached, .ref (bd 11), .int (bI mForm), .ref (bd 12), .ref (bd 13), .ref (bd 14), .ref (bd 15), .ref (bd 16), .ref (bd 17), .ref (bd 18), .ref (bd 19), .ref (bd 20), .ref (bd 21), .ref (bd 22), .ref (bd 23), .ref (bd 24), .ref (bd 25), .ref (bd 26), .ref (bd 27), .ref (bd 28), .int mSlot, .int (bI mOver)])), ((bd 6), .inl (cA, 12, .inl mEnds))]
abbrev qcMd_stop (D : va_G) (cA : ClassId) (cB : ClassId) (bd : Nat → Nat) (N : Nat) (mThrown : Int32) (mReached : Int32) (mForm : Bool) (mSlot : Int32) (mOver : Bool) (mEnds : Nat → Int32) (post : Int32 → Bool → (Nat → Int32) → Prop) (A : Nat → Prop) : Array Value → State → Outcome → State → Prop := va_Qv (S := (Int32) × (Bool) × (Nat → Int32)) (fun u => post u.1 u.2.1 u.2.2) (fun u t => xB D [(cA, .int), (cB, .boolean)] A (wdMd_stop cA cB bd N u.1 mReached u.2.1 mSlot mOver u.2.2) t) A
abbrev rmMd_stop : Room := { frames := 1, cells := 0, slots := 0, locals := 21 }
set_option maxHeartbeats 4000000 in
set_option maxRecDepth 100000 in
theorem ktMd_stop (l : Launch) (D : va_G) (cA : ClassId) (cB : ClassId) (bd : Nat → Nat) (N : Nat) (sz : Nat) (mThrown : Int32) (mReached : Int32) (mForm : Bool) (mSlot : Int32) (mOver : Bool) (mEnds : Nat → Int32) (v1 : Int32) (post : Int32 → Bool → (Nat → Int32) → Prop) (hw : wpMd_stop N mForm mEnds v1 post) : Met l yMd_stop (Cond.code yMd_stop cMd_stop 2 none :: xW) rmMd_stop (va_Pc [.ref (bd 0), .int v1] (xPc D [(cA, .int), (cB, .boolean)] (wdMd_stop cA cB bd N mThrown mReached mForm mSlot mOver mEnds) sz)) (qcMd_stop D cA cB bd N mThrown mReached mForm mSlot mOver mEnds post (va_A (wdMd_stop cA cB bd N mThrown mReached mForm mSlot mOver mEnds) sz)) 0 0 (va_A (wdMd_stop cA cB bd N mThrown mReached mForm mSlot mOver mEnds) sz) := by
  refine Met.ofW (cc := cMd_stop) (maxL := 2) (ret := none) (by decide) rfl ?_
  intro p e s m args below meth c s₁ B hml hv
  obtain ⟨rfl, hsz, hP, hK, hD0, hN⟩ := hv
  have hx := B.exec
  have hb := B.bytes
  have hr := B.returns
  have hts := atoms_spec (ws := (Cond.code yMd_stop cMd_stop 2 none :: xW)) B.pre
  have hown : s.vm.findClass "OnceNamedModel" = some m.cls := findClass_of_methodNamed B.named
  have hlocks := B.notSynchronized
  subst hsz
  have hD := hD0.self (sz := s.heap.size)
  generalize hAe : va_A (wdMd_stop cA cB bd N mThrown mReached mForm mSlot mOver mEnds) s.heap.size = A at hD ⊢
  have hA : ∀ q : Nat, s.heap.size ≤ q → A q := fun q h => by rw [← hAe]; exact Or.inr h
  have hS : va_S A s.heap s.heap [] := va_S.rf
  have hend : ∀ (u0 : Int32) (u1 : Bool) (u2 : Nat → Int32) (H : Heap) (locs : List Loc) (pc : Nat) (ls : Array Slot), decode cMd_stop pc = .ok (.return_, 1) → va_P D vwCl (wdMd_stop cA cB bd N u0 mReached u1 mSlot mOver u2) H → va_D A (wdMd_stop cA cB bd N u0 mReached u1 mSlot mOver u2) → va_S A s.heap H locs → post u0 u1 u2 → W p l e (headSpec (Cond.code yMd_stop cMd_stop 2 none :: xW) rmMd_stop).room s m ([.ref (bd 0), .int v1] : List Value).toArray below meth c H locs 0 0 (MQ below (qcMd_stop D cA cB bd N mThrown mReached mForm mSlot mOver mEnds post A) ([.ref (bd 0), .int v1] : List Value).toArray s 0 0 A) (F0 m pc ls []) := fun u0 u1 u2 H locs pc ls hd hP hD hS hw => W.vret hx hb hr (fun t ht hW => ⟨⟨(u0, u1, u2), rfl, hw, ⟨by rw [ht]; exact hP, va_K.moved hW.alike hK, hD⟩⟩, hS.F ht⟩) hS.2.2 hd
  generalize hQ : MQ below (qcMd_stop D cA cB bd N mThrown mReached mForm mSlot mOver mEnds post A) ([.ref (bd 0), .int v1] : List Value).toArray s 0 0 A = Q at hend ⊢
  have hl := lv_entry ([.ref (bd 0), .int v1]) (n := 2) (Nat.le_of_ble_eq_true rfl)
  rw [lg_entry_eq]
  generalize (lg_sl ([.ref (bd 0), .int v1]) ++ List.replicate (2 - (lg_sl ([.ref (bd 0), .int v1])).length) Slot.unset).toArray = ls at hl ⊢
  have hl : lv_has ls 2 [(0, .ref (bd 0)), (1, .int v1)] := hl
  unfold wpMd_stop at hw
  refine lv_aload_n hx hb dMd_stop_0 rfl (lv_at hl 0 rfl) ?_
  refine lv_aload_n hx hb dMd_stop_1 rfl (lv_at hl 0 rfl) ?_
  refine lv_iload_n hx hb dMd_stop_2 rfl (lv_at hl 1 rfl) ?_
  refine xci (va_runV ⟨hx, hb, hml, hown, hts⟩ (ktMd_noBlock l D cA cB bd N _ mThrown mReached mForm mSlot mOver v1 _ hw) (cwV 1 hts (goodV kw_1097 kw_1099 ks_3_12 kw_11 kw_1100) rfl rfl rfl (by decide +kernel) ⟨Nat.le_of_ble_eq_true rfl, Nat.le_of_ble_eq_true rfl⟩) (xpreV hK hP hD hN [0] rfl rfl 0 rfl rfl) rfl rfl hl.1 rfl (lv_room (Nat.le_of_ble_eq_true rfl)) dMd_stop_3 ⟨Nat.le_of_ble_eq_true rfl, Nat.le_of_ble_eq_true rfl⟩) hP hD hS hA [0] [1] rfl rfl rfl rfl [1, 0] rfl (fun _ => rfl) (fun r3 u H locs hw hP hD hS => ?_)
  obtain ⟨r3, rfl, hw⟩ := hw
  have hP : va_P D vwCl (wdMd_stop cA cB bd N mThrown mReached mForm mSlot mOver mEnds) H := hP
  have hD : va_D A (wdMd_stop cA cB bd N mThrown mReached mForm mSlot mOver mEnds) := hD
  obtain ⟨J14, hJ14, hw⟩ := hw
  have hj14 : ∀ (t14_0 : Bool) (ls : Array Slot) (H : Heap) (locs : List Loc), lv_has ls 2 [(0, .ref (bd 0)), (1, .int v1)] → va_P D vwCl (wdMd_stop cA cB bd N mThrown mReached mForm mSlot mOver mEnds) H → va_D A (wdMd_stop cA cB bd N mThrown mReached mForm mSlot mOver mEnds) → va_S A s.heap H locs → J14 t14_0 → W p l e (headSpec (Cond.code yMd_stop cMd_stop 2 none :: xW) rmMd_stop).room s m ([.ref (bd 0), .int v1] : List Value).toArray below meth c H locs 0 0 Q (F0 m 14 ls [.int (bI t14_0), .ref (bd 0)]) := by
    intro t14_0 ls H locs hl hP hD hS hw
    have hw := hJ14 t14_0 hw
    refine va_put (D := D) (ci := 7) (v := .int (bI t14_0)) (ty := .int) (C := "OnceNamedModel") (T := TX7) (N := 34) hx hb hts (fun w h => List.mem_cons_of_mem _ (inX7 w h)) tyX7 tyX7_ok nmX7 hown hK hP hD hS 0 rfl rfl 0 (by decide) (hts _ (List.mem_cons_of_mem _ kw_985)) (fun _ h9 => h9) rfl (by decide +kernel) rfl rfl (Nat.le_of_ble_eq_true rfl) dMd_stop_14 (fun H locs hP hD hS => ?_)
    have hP : va_P D vwCl (wdMd_stop cA cB bd N (bI t14_0) mReached mForm mSlot mOver mEnds) H := hP
    have hD : va_D A (wdMd_stop cA cB bd N (bI t14_0) mReached mForm mSlot mOver mEnds) := hD
    refine lv_aload_n hx hb dMd_stop_17 rfl (lv_at hl 0 rfl) ?_
    refine va_get (D := D) (ci := 7) (v := .int (bI t14_0)) (C := "OnceNamedModel") (T := TX7) (N := 34) hx hb hts (fun w h => List.mem_cons_of_mem _ (inX7 w h)) hown hK hP 0 rfl rfl 0 (by decide) (hts _ (List.mem_cons_of_mem _ kw_985)) (fun _ h9 => h9) rfl dMd_stop_18 ?_
    refine lv_if_ne (tgt := 36) hx hb dMd_stop_21 rfl (fun hc => ?_) (fun hc => ?_)
    · have hw := hw.1 hc
      exact hend (bI t14_0) mForm mEnds _ _ _ _ dMd_stop_36 hP hD hS hw
    · have hw := hw.2 hc
      refine lv_aload_n hx hb dMd_stop_24 rfl (lv_at hl 0 rfl) ?_
      refine va_get (D := D) (ci := 7) (v := .ref (bd 6)) (C := "OnceNamedModel") (T := TX7) (N := 34) hx hb hts (fun w h => List.mem_cons_of_mem _ (inX7 w h)) hown hK hP 0 rfl rfl 7 (by decide) (hts _ (List.mem_cons_of_mem _ kw_992)) (fun _ h9 => h9) rfl dMd_stop_25 ?_
      refine lv_iload_n hx hb dMd_stop_28 rfl (lv_at hl 1 rfl) ?_
      refine lv_iconst (v := 0) hx hb dMd_stop_29 (by decide) ?_
      have ho := hw.1
      have hw := hw.2
      refine va_iast hx hb hK hP hD hS 1 0 rfl rfl ho dMd_stop_30 (fun H locs hP hD hS => ?_)
      have hP : va_P D vwCl (wdMd_stop cA cB bd N (bI t14_0) mReached mForm mSlot mOver (upd mEnds (Int32.toNatClampNeg v1) 0)) H := hP
      have hD : va_D A (wdMd_stop cA cB bd N (bI t14_0) mReached mForm mSlot mOver (upd mEnds (Int32.toNatClampNeg v1) 0)) := hD
      refine lv_aload_n hx hb dMd_stop_31 rfl (lv_at hl 0 rfl) ?_
      refine lv_iconst (v := 0) hx hb dMd_stop_32 (by decide) ?_
      refine va_put (D := D) (ci := 7) (v := .int (bI false)) (ty := .boolean) (C := "OnceNamedModel") (T := TX7) (N := 34) hx hb hts (fun w h => List.mem_cons_of_mem _ (inX7 w h)) tyX7 tyX7_ok nmX7 hown hK hP hD hS 0 rfl rfl 14 (by decide) (hts _ (List.mem_cons_of_mem _ kw_999)) (fun _ h9 => h9) rfl (by decide +kernel) (bI_nar _) (bI_fit _) (Nat.le_of_ble_eq_true rfl) dMd_stop_33 (fun H locs hP hD hS => ?_)
      have hP : va_P D vwCl (wdMd_stop cA cB bd N (bI t14_0) mReached false mSlot mOver (upd mEnds (Int32.toNatClampNeg v1) 0)) H := hP
      have hD : va_D A (wdMd_stop cA cB bd N (bI t14_0) mReached false mSlot mOver (upd mEnds (Int32.toNatClampNeg v1) 0)) := hD
      exact hend (bI t14_0) false (upd mEnds (Int32.toNatClampNeg v1) 0) _ _ _ _ dMd_stop_36 hP hD hS hw
  refine lv_if_eq (tgt := 13) hx hb dMd_stop_6 rfl (fun hc => ?_) (fun hc => ?_)
  · have hw := hw.1 (bI_0 hc)
    refine lv_iconst (v := 0) hx hb dMd_stop_13 (by decide) ?_
    exact hj14 false _ _ _ (lv_sub hl [0, 1] rfl) hP hD hS hw
  · have hw := hw.2 (bI_1 hc)
    refine lv_iconst (v := 1) hx hb dMd_stop_9 (by decide) ?_
    refine lv_goto (tgt := 14) hx hb dMd_stop_10 rfl ?_
    exact hj14 true _ _ _ (lv_sub hl [0, 1] rfl) hP hD hS hw
abbrev wdMd_start (cA : ClassId) (cB : ClassId) (bd : Nat → Nat) (N : Nat) (mThrown : Int32) (mReached : Int32) (mForm : Bool) (mSlot : Int32) (mOver : Bool) (mStarts : Nat → Int32) : va_W := [((bd 0), .inr (7, [.int mThrown, .int (nI N), .ref (bd 1), .ref (bd 2), .ref (bd 3), .ref (bd 4), .ref (bd 5), .ref (bd 6), .ref (bd 7), .ref (bd 8), .ref (bd 9), .ref (bd 10), .int mReached, .ref (bd 11), .int (bI mForm), .ref (bd 12), .ref (bd 13), .ref (bd 14), .ref (bd 15), .ref (bd 16), .ref (bd 17), .ref (bd 18), .ref (bd 19), .ref (bd 20), .ref (bd 21), .ref (bd 22), .ref (bd 23), .ref (bd 24), .ref (bd 25), .ref (bd 26), .ref (bd 27), .ref (bd 28), .int mSlot, .int (bI mOver)])), ((bd 10), .inl (cA, 6, .inl mStarts))]
abbrev qcMd_start (D : va_G) (cA : ClassId) (cB : ClassId) (bd : Nat → Nat) (N : Nat) (mThrown : Int32) (mReached : Int32) (mForm : Bool) (mSlot : Int32) (mOver : Bool) (mStarts : Nat → Int32) (post : Int32 → Bool → (Nat → Int32) → Prop) (A : Nat → Prop) : Array Value → State → Outcome → State → Prop := va_Qv (S := (Int32) × (Bool) × (Nat → Int32)) (fun u => post u.1 u.2.1 u.2.2) (fun u t => xB D [(cA, .int), (cB, .boolean)] A (wdMd_start cA cB bd N u.1 mReached u.2.1 mSlot mOver u.2.2) t) A
abbrev rmMd_start : Room := { frames := 1, cells := 0, slots := 0, locals := 21 }
set_option maxHeartbeats 4000000 in
set_option maxRecDepth 100000 in
theorem ktMd_start (l : Launch) (D : va_G) (cA : ClassId) (cB : ClassId) (bd : Nat → Nat) (N : Nat) (sz : Nat) (mThrown : Int32) (mReached : Int32) (mForm : Bool) (mSlot : Int32) (mOver : Bool) (mStarts : Nat → Int32) (v1 : Int32) (v2 : Int32) (post : Int32 → Bool → (Nat → Int32) → Prop) (hw : wpMd_start mForm mStarts v1 v2 post) : Met l yMd_start (Cond.code yMd_start cMd_start 3 none :: xW) rmMd_start (va_Pc [.ref (bd 0), .int v1, .int v2] (xPc D [(cA, .int), (cB, .boolean)] (wdMd_start cA cB bd N mThrown mReached mForm mSlot mOver mStarts) sz)) (qcMd_start D cA cB bd N mThrown mReached mForm mSlot mOver mStarts post (va_A (wdMd_start cA cB bd N mThrown mReached mForm mSlot mOver mStarts) sz)) 0 0 (va_A (wdMd_start cA cB bd N mThrown mReached mForm mSlot mOver mStarts) sz) := by
  refine Met.ofW (cc := cMd_start) (maxL := 3) (ret := none) (by decide) rfl ?_
  intro p e s m args below meth c s₁ B hml hv
  obtain ⟨rfl, hsz, hP, hK, hD0, hN⟩ := hv
  have hx := B.exec
  have hb := B.bytes
  have hr := B.returns
  have hts := atoms_spec (ws := (Cond.code yMd_start cMd_start 3 none :: xW)) B.pre
  have hown : s.vm.findClass "OnceNamedModel" = some m.cls := findClass_of_methodNamed B.named
  have hlocks := B.notSynchronized
  subst hsz
  have hD := hD0.self (sz := s.heap.size)
  generalize hAe : va_A (wdMd_start cA cB bd N mThrown mReached mForm mSlot mOver mStarts) s.heap.size = A at hD ⊢
  have hA : ∀ q : Nat, s.heap.size ≤ q → A q := fun q h => by rw [← hAe]; exact Or.inr h
  have hS : va_S A s.heap s.heap [] := va_S.rf
  have hend : ∀ (u0 : Int32) (u1 : Bool) (u2 : Nat → Int32) (H : Heap) (locs : List Loc) (pc : Nat) (ls : Array Slot), decode cMd_start pc = .ok (.return_, 1) → va_P D vwCl (wdMd_start cA cB bd N u0 mReached u1 mSlot mOver u2) H → va_D A (wdMd_start cA cB bd N u0 mReached u1 mSlot mOver u2) → va_S A s.heap H locs → post u0 u1 u2 → W p l e (headSpec (Cond.code yMd_start cMd_start 3 none :: xW) rmMd_start).room s m ([.ref (bd 0), .int v1, .int v2] : List Value).toArray below meth c H locs 0 0 (MQ below (qcMd_start D cA cB bd N mThrown mReached mForm mSlot mOver mStarts post A) ([.ref (bd 0), .int v1, .int v2] : List Value).toArray s 0 0 A) (F0 m pc ls []) := fun u0 u1 u2 H locs pc ls hd hP hD hS hw => W.vret hx hb hr (fun t ht hW => ⟨⟨(u0, u1, u2), rfl, hw, ⟨by rw [ht]; exact hP, va_K.moved hW.alike hK, hD⟩⟩, hS.F ht⟩) hS.2.2 hd
  generalize hQ : MQ below (qcMd_start D cA cB bd N mThrown mReached mForm mSlot mOver mStarts post A) ([.ref (bd 0), .int v1, .int v2] : List Value).toArray s 0 0 A = Q at hend ⊢
  have hl := lv_entry ([.ref (bd 0), .int v1, .int v2]) (n := 3) (Nat.le_of_ble_eq_true rfl)
  rw [lg_entry_eq]
  generalize (lg_sl ([.ref (bd 0), .int v1, .int v2]) ++ List.replicate (3 - (lg_sl ([.ref (bd 0), .int v1, .int v2])).length) Slot.unset).toArray = ls at hl ⊢
  have hl : lv_has ls 3 [(0, .ref (bd 0)), (1, .int v1), (2, .int v2)] := hl
  unfold wpMd_start at hw
  refine lv_aload_n hx hb dMd_start_0 rfl (lv_at hl 0 rfl) ?_
  refine lv_aload_n hx hb dMd_start_1 rfl (lv_at hl 0 rfl) ?_
  refine lv_iload_n hx hb dMd_start_2 rfl (lv_at hl 1 rfl) ?_
  refine xci (va_runV ⟨hx, hb, hml, hown, hts⟩ (ktMd_noVariable l D cA cB bd N _ v1 _ hw) (cwV 1 hts (goodV kw_1101 kw_1103 ks_3_13 kw_11 kw_1104) rfl rfl rfl (by decide +kernel) ⟨Nat.le_of_ble_eq_true rfl, Nat.le_of_ble_eq_true rfl⟩) (xpreV hK hP hD hN [] rfl rfl 0 rfl rfl) rfl rfl hl.1 rfl (lv_room (Nat.le_of_ble_eq_true rfl)) dMd_start_3 ⟨Nat.le_of_ble_eq_true rfl, Nat.le_of_ble_eq_true rfl⟩) hP hD hS hA [] [0, 1] rfl rfl rfl rfl [0, 1] rfl (fun _ => rfl) (fun r3 u H locs hw hP hD hS => ?_)
  obtain ⟨r3, rfl, hw⟩ := hw
  have hP : va_P D vwCl (wdMd_start cA cB bd N mThrown mReached mForm mSlot mOver mStarts) H := hP
  have hD : va_D A (wdMd_start cA cB bd N mThrown mReached mForm mSlot mOver mStarts) := hD
  obtain ⟨J14, hJ14, hw⟩ := hw
  have hj14 : ∀ (t14_0 : Bool) (ls : Array Slot) (H : Heap) (locs : List Loc), lv_has ls 3 [(0, .ref (bd 0)), (1, .int v1), (2, .int v2)] → va_P D vwCl (wdMd_start cA cB bd N mThrown mReached mForm mSlot mOver mStarts) H → va_D A (wdMd_start cA cB bd N mThrown mReached mForm mSlot mOver mStarts) → va_S A s.heap H locs → J14 t14_0 → W p l e (headSpec (Cond.code yMd_start cMd_start 3 none :: xW) rmMd_start).room s m ([.ref (bd 0), .int v1, .int v2] : List Value).toArray below meth c H locs 0 0 Q (F0 m 14 ls [.int (bI t14_0), .ref (bd 0)]) := by
    intro t14_0 ls H locs hl hP hD hS hw
    have hw := hJ14 t14_0 hw
    refine va_put (D := D) (ci := 7) (v := .int (bI t14_0)) (ty := .int) (C := "OnceNamedModel") (T := TX7) (N := 34) hx hb hts (fun w h => List.mem_cons_of_mem _ (inX7 w h)) tyX7 tyX7_ok nmX7 hown hK hP hD hS 0 rfl rfl 0 (by decide) (hts _ (List.mem_cons_of_mem _ kw_985)) (fun _ h9 => h9) rfl (by decide +kernel) rfl rfl (Nat.le_of_ble_eq_true rfl) dMd_start_14 (fun H locs hP hD hS => ?_)
    have hP : va_P D vwCl (wdMd_start cA cB bd N (bI t14_0) mReached mForm mSlot mOver mStarts) H := hP
    have hD : va_D A (wdMd_start cA cB bd N (bI t14_0) mReached mForm mSlot mOver mStarts) := hD
    refine lv_aload_n hx hb dMd_start_17 rfl (lv_at hl 0 rfl) ?_
    refine va_get (D := D) (ci := 7) (v := .int (bI t14_0)) (C := "OnceNamedModel") (T := TX7) (N := 34) hx hb hts (fun w h => List.mem_cons_of_mem _ (inX7 w h)) hown hK hP 0 rfl rfl 0 (by decide) (hts _ (List.mem_cons_of_mem _ kw_985)) (fun _ h9 => h9) rfl dMd_start_18 ?_
    refine lv_if_ne (tgt := 36) hx hb dMd_start_21 rfl (fun hc => ?_) (fun hc => ?_)
    · have hw := hw.1 hc
      exact hend (bI t14_0) mForm mStarts _ _ _ _ dMd_start_36 hP hD hS hw
    · have hw := hw.2 hc
      refine lv_aload_n hx hb dMd_start_24 rfl (lv_at hl 0 rfl) ?_
      refine va_get (D := D) (ci := 7) (v := .ref (bd 10)) (C := "OnceNamedModel") (T := TX7) (N := 34) hx hb hts (fun w h => List.mem_cons_of_mem _ (inX7 w h)) hown hK hP 0 rfl rfl 11 (by decide) (hts _ (List.mem_cons_of_mem _ kw_996)) (fun _ h9 => h9) rfl dMd_start_25 ?_
      refine lv_iload_n hx hb dMd_start_28 rfl (lv_at hl 1 rfl) ?_
      refine lv_iload_n hx hb dMd_start_29 rfl (lv_at hl 2 rfl) ?_
      have ho := hw.1
      have hw := hw.2
      refine va_iast hx hb hK hP hD hS 1 0 rfl rfl ho dMd_start_30 (fun H locs hP hD hS => ?_)
      have hP : va_P D vwCl (wdMd_start cA cB bd N (bI t14_0) mReached mForm mSlot mOver (upd mStarts (Int32.toNatClampNeg v1) v2)) H := hP
      have hD : va_D A (wdMd_start cA cB bd N (bI t14_0) mReached mForm mSlot mOver (upd mStarts (Int32.toNatClampNeg v1) v2)) := hD
      refine lv_aload_n hx hb dMd_start_31 rfl (lv_at hl 0 rfl) ?_
      refine lv_iconst (v := 0) hx hb dMd_start_32 (by decide) ?_
      refine va_put (D := D) (ci := 7) (v := .int (bI false)) (ty := .boolean) (C := "OnceNamedModel") (T := TX7) (N := 34) hx hb hts (fun w h => List.mem_cons_of_mem _ (inX7 w h)) tyX7 tyX7_ok nmX7 hown hK hP hD hS 0 rfl rfl 14 (by decide) (hts _ (List.mem_cons_of_mem _ kw_999)) (fun _ h9 => h9) rfl (by decide +kernel) (bI_nar _) (bI_fit _) (Nat.le_of_ble_eq_true rfl) dMd_start_33 (fun H locs hP hD hS => ?_)
      have hP : va_P D vwCl (wdMd_start cA cB bd N (bI t14_0) mReached false mSlot mOver (upd mStarts (Int32.toNatClampNeg v1) v2)) H := hP
      have hD : va_D A (wdMd_start cA cB bd N (bI t14_0) mReached false mSlot mOver (upd mStarts (Int32.toNatClampNeg v1) v2)) := hD
      exact hend (bI t14_0) false (upd mStarts (Int32.toNatClampNeg v1) v2) _ _ _ _ dMd_start_36 hP hD hS hw
  refine lv_if_eq (tgt := 13) hx hb dMd_start_6 rfl (fun hc => ?_) (fun hc => ?_)
  · have hw := hw.1 (bI_0 hc)
    refine lv_iconst (v := 0) hx hb dMd_start_13 (by decide) ?_
    exact hj14 false _ _ _ (lv_sub hl [0, 1, 2] rfl) hP hD hS hw
  · have hw := hw.2 (bI_1 hc)
    refine lv_iconst (v := 1) hx hb dMd_start_9 (by decide) ?_
    refine lv_goto (tgt := 14) hx hb dMd_start_10 rfl ?_
    exact hj14 true _ _ _ (lv_sub hl [0, 1, 2] rfl) hP hD hS hw
