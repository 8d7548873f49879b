abbrev wdMd_has (cA : ClassId) (cB : ClassId) (bd : Nat → Nat) (N : Nat)  : va_W := []
abbrev qcMd_has (D : va_G) (cA : ClassId) (cB : ClassId) (bd : Nat → Nat) (N : Nat)  (post : Bool → Prop) (A : Nat → Prop) : Array Value → State → Outcome → State → Prop := va_Qi (S := Unit) (fun r u => ∃ z : Bool, r = bI z ∧ post z ) (fun u t => xB D [(cA, .int), (cB, .boolean)] A (wdMd_has cA cB bd N) t) A
abbrev rmMd_has : Room := { frames := 0, cells := 0, slots := 0, locals := 0 }
set_option maxHeartbeats 4000000 in
set_option maxRecDepth 100000 in
theorem ktMd_has (l : Launch) (D : va_G) (cA : ClassId) (cB : ClassId) (bd : Nat → Nat) (N : Nat) (sz : Nat)  (v1 : Int32) (v2 : Int32) (post : Bool → Prop) (hw : wpMd_has v1 v2 post) : Met l yMd_has (Cond.code yMd_has cMd_has 3 (some .boolean) :: xW) rmMd_has (va_Pc [.ref (bd 0), .int v1, .int v2] (xPc D [(cA, .int), (cB, .boolean)] (wdMd_has cA cB bd N) sz)) (qcMd_has D cA cB bd N  post (va_A (wdMd_has cA cB bd N) sz)) 0 0 (va_A (wdMd_has cA cB bd N) sz) := by
  refine Met.ofW (cc := cMd_has) (maxL := 3) (ret := (some .boolean)) (by decide) rfl ?_
  intro p e s m args below meth c s₁ B hml hv
  obtain ⟨rfl, hsz, hP, hK, hD0, hN⟩ := hv
  have hx := B.exec
  have hb := B.bytes
  have hr := B.returns
  have hts := atoms_spec (ws := (Cond.code yMd_has cMd_has 3 (some .boolean) :: xW)) B.pre
  have hown : s.vm.findClass "OnceNamedModel" = some m.cls := findClass_of_methodNamed B.named
  have hlocks := B.notSynchronized
  subst hsz
  have hD := hD0.self (sz := s.heap.size)
  generalize hAe : va_A (wdMd_has cA cB bd N) s.heap.size = A at hD ⊢
  have hA : ∀ q : Nat, s.heap.size ≤ q → A q := fun q h => by rw [← hAe]; exact Or.inr h
  have hS : va_S A s.heap s.heap [] := va_S.rf
  have hend : ∀ (r : Bool)  (H : Heap) (locs : List Loc) (pc : Nat) (ls : Array Slot), decode cMd_has pc = .ok (.ireturn, 1) → va_P D vwCl (wdMd_has cA cB bd N) H → va_D A (wdMd_has cA cB bd N) → va_S A s.heap H locs → post r  → W p l e (headSpec (Cond.code yMd_has cMd_has 3 (some .boolean) :: xW) rmMd_has).room s m ([.ref (bd 0), .int v1, .int v2] : List Value).toArray below meth c H locs 0 0 (MQ below (qcMd_has D cA cB bd N  post A) ([.ref (bd 0), .int v1, .int v2] : List Value).toArray s 0 0 A) (F0 m pc ls [.int (bI r)]) := fun r  H locs pc ls hd hP hD hS hw => W.zret (v := bI r) hx hb hr (bI_nar r) (fun t ht hW => ⟨⟨bI r, (), rfl, ⟨r, rfl, hw⟩, ⟨by rw [ht]; exact hP, va_K.moved hW.alike hK, hD⟩⟩, hS.F ht⟩) hS.2.2 hd
  generalize hQ : MQ below (qcMd_has D cA cB bd N  post A) ([.ref (bd 0), .int v1, .int v2] : List Value).toArray s 0 0 A = Q at hend ⊢
  have hl := lv_entry ([.ref (bd 0), .int v1, .int v2]) (n := 3) (Nat.le_of_ble_eq_true rfl)
  rw [lg_entry_eq]
  generalize (lg_sl ([.ref (bd 0), .int v1, .int v2]) ++ List.replicate (3 - (lg_sl ([.ref (bd 0), .int v1, .int v2])).length) Slot.unset).toArray = ls at hl ⊢
  have hl : lv_has ls 3 [(0, .ref (bd 0)), (1, .int v1), (2, .int v2)] := hl
  unfold wpMd_has at hw
  refine lv_iload_n hx hb dMd_has_0 rfl (lv_at hl 1 rfl) ?_
  refine lv_iload_n hx hb dMd_has_1 rfl (lv_at hl 2 rfl) ?_
  refine lv_ishr hx hb dMd_has_2 ?_
  refine lv_iconst (v := 1) hx hb dMd_has_3 (by decide) ?_
  refine lv_iand hx hb dMd_has_4 ?_
  refine lv_iconst (v := 1) hx hb dMd_has_5 (by decide) ?_
  refine lv_icmp_ne (tgt := 13) hx hb dMd_has_6 rfl (fun hc => ?_) (fun hc => ?_)
  · have hw := hw.1 hc
    refine lv_iconst (v := 0) hx hb dMd_has_13 (by decide) ?_
    exact hend false _ _ _ _ dMd_has_14 hP hD hS hw
  · have hw := hw.2 hc
    refine lv_iconst (v := 1) hx hb dMd_has_9 (by decide) ?_
    refine lv_goto (tgt := 14) hx hb dMd_has_10 rfl ?_
    exact hend true _ _ _ _ dMd_has_14 hP hD hS hw
abbrev wdMd_follows (cA : ClassId) (cB : ClassId) (bd : Nat → Nat) (N : Nat) (mThrown : Int32) (mReached : Int32) (mForm : Bool) (mSlot : Int32) (mOver : Bool) (mEnds : Nat → Int32) (mYes : Nat → Int32) (mNo : Nat → Int32) : va_W := [((bd 0), .inr (7, [.int mThrown, .int (nI N), .ref (bd 1), .ref (bd 2), .ref (bd 3), .ref (bd 4), .ref (bd 5), .ref (bd 6), .ref (bd 7), .ref (bd 8), .ref (bd 9), .ref (bd 10), .int mReached, .ref (bd 11), .int (bI mForm), .ref (bd 12), .ref (bd 13), .ref (bd 14), .ref (bd 15), .ref (bd 16), .ref (bd 17), .ref (bd 18), .ref (bd 19), .ref (bd 20), .ref (bd 21), .ref (bd 22), .ref (bd 23), .ref (bd 24), .ref (bd 25), .ref (bd 26), .ref (bd 27), .ref (bd 28), .int mSlot, .int (bI mOver)])), ((bd 6), .inl (cA, 12, .inl mEnds)), ((bd 8), .inl (cA, 12, .inl mYes)), ((bd 9), .inl (cA, 12, .inl mNo))]
abbrev qcMd_follows (D : va_G) (cA : ClassId) (cB : ClassId) (bd : Nat → Nat) (N : Nat) (mThrown : Int32) (mReached : Int32) (mForm : Bool) (mSlot : Int32) (mOver : Bool) (mEnds : Nat → Int32) (mYes : Nat → Int32) (mNo : Nat → Int32) (post : Bool → Prop) (A : Nat → Prop) : Array Value → State → Outcome → State → Prop := va_Qi (S := Unit) (fun r u => ∃ z : Bool, r = bI z ∧ post z ) (fun u t => xB D [(cA, .int), (cB, .boolean)] A (wdMd_follows cA cB bd N mThrown mReached mForm mSlot mOver mEnds mYes mNo) t) A
abbrev rmMd_follows : Room := { frames := 0, cells := 0, slots := 0, locals := 0 }
set_option maxHeartbeats 4000000 in
set_option maxRecDepth 100000 in
theorem ktMd_follows (l : Launch) (D : va_G) (cA : ClassId) (cB : ClassId) (bd : Nat → Nat) (N : Nat) (sz : Nat) (mThrown : Int32) (mReached : Int32) (mForm : Bool) (mSlot : Int32) (mOver : Bool) (mEnds : Nat → Int32) (mYes : Nat → Int32) (mNo : Nat → Int32) (v1 : Int32) (v2 : Int32) (post : Bool → Prop) (hw : wpMd_follows N mEnds mYes mNo v1 v2 post) : Met l yMd_follows (Cond.code yMd_follows cMd_follows 3 (some .boolean) :: xW) rmMd_follows (va_Pc [.ref (bd 0), .int v1, .int v2] (xPc D [(cA, .int), (cB, .boolean)] (wdMd_follows cA cB bd N mThrown mReached mForm mSlot mOver mEnds mYes mNo) sz)) (qcMd_follows D cA cB bd N mThrown mReached mForm mSlot mOver mEnds mYes mNo post (va_A (wdMd_follows cA cB bd N mThrown mReached mForm mSlot mOver mEnds mYes mNo) sz)) 0 0 (va_A (wdMd_follows cA cB bd N mThrown mReached mForm mSlot mOver mEnds mYes mNo) sz) := by
  refine Met.ofW (cc := cMd_follows) (maxL := 3) (ret := (some .boolean)) (by decide) rfl ?_
  intro p e s m args below meth c s₁ B hml hv
  obtain ⟨rfl, hsz, hP, hK, hD0, hN⟩ := hv
  have hx := B.exec
  have hb := B.bytes
  have hr := B.returns
  have hts := atoms_spec (ws := (Cond.code yMd_follows cMd_follows 3 (some .boolean) :: xW)) B.pre
  have hown : s.vm.findClass "OnceNamedModel" = some m.cls := findClass_of_methodNamed B.named
  have hlocks := B.notSynchronized
  subst hsz
  have hD := hD0.self (sz := s.heap.size)
  generalize hAe : va_A (wdMd_follows cA cB bd N mThrown mReached mForm mSlot mOver mEnds mYes mNo) s.heap.size = A at hD ⊢
  have hA : ∀ q : Nat, s.heap.size ≤ q → A q := fun q h => by rw [← hAe]; exact Or.inr h
  have hS : va_S A s.heap s.heap [] := va_S.rf
  have hend : ∀ (r : Bool)  (H : Heap) (locs : List Loc) (pc : Nat) (ls : Array Slot), decode cMd_follows pc = .ok (.ireturn, 1) → va_P D vwCl (wdMd_follows cA cB bd N mThrown mReached mForm mSlot mOver mEnds mYes mNo) H → va_D A (wdMd_follows cA cB bd N mThrown mReached mForm mSlot mOver mEnds mYes mNo) → va_S A s.heap H locs → post r  → W p l e (headSpec (Cond.code yMd_follows cMd_follows 3 (some .boolean) :: xW) rmMd_follows).room s m ([.ref (bd 0), .int v1, .int v2] : List Value).toArray below meth c H locs 0 0 (MQ below (qcMd_follows D cA cB bd N mThrown mReached mForm mSlot mOver mEnds mYes mNo post A) ([.ref (bd 0), .int v1, .int v2] : List Value).toArray s 0 0 A) (F0 m pc ls [.int (bI r)]) := fun r  H locs pc ls hd hP hD hS hw => W.zret (v := bI r) hx hb hr (bI_nar r) (fun t ht hW => ⟨⟨bI r, (), rfl, ⟨r, rfl, hw⟩, ⟨by rw [ht]; exact hP, va_K.moved hW.alike hK, hD⟩⟩, hS.F ht⟩) hS.2.2 hd
  generalize hQ : MQ below (qcMd_follows D cA cB bd N mThrown mReached mForm mSlot mOver mEnds mYes mNo post A) ([.ref (bd 0), .int v1, .int v2] : List Value).toArray s 0 0 A = Q at hend ⊢
  have hl := lv_entry ([.ref (bd 0), .int v1, .int v2]) (n := 3) (Nat.le_of_ble_eq_true rfl)
  rw [lg_entry_eq]
  generalize (lg_sl ([.ref (bd 0), .int v1, .int v2]) ++ List.replicate (3 - (lg_sl ([.ref (bd 0), .int v1, .int v2])).length) Slot.unset).toArray = ls at hl ⊢
  have hl : lv_has ls 3 [(0, .ref (bd 0)), (1, .int v1), (2, .int v2)] := hl
  unfold wpMd_follows at hw
  refine lv_iload_n hx hb dMd_follows_0 rfl (lv_at hl 1 rfl) ?_
  refine lv_aload_n hx hb dMd_follows_1 rfl (lv_at hl 0 rfl) ?_
  refine va_get (D := D) (ci := 7) (v := .int (nI N)) (C := "OnceNamedModel") (T := TX7) (N := 34) hx hb hts (fun w h => List.mem_cons_of_mem _ (inX7 w h)) hown hK hP 0 rfl rfl 1 (by decide) (hts _ (List.mem_cons_of_mem _ kw_986)) (fun _ h9 => h9) rfl dMd_follows_2 ?_
  refine lv_icmp_ne (tgt := 20) hx hb dMd_follows_5 rfl (fun hc => ?_) (fun hc => ?_)
  · have hw := hw.1 hc
    refine lv_aload_n hx hb dMd_follows_20 rfl (lv_at hl 0 rfl) ?_
    refine va_get (D := D) (ci := 7) (v := .ref (bd 6)) (C := "OnceNamedModel") (T := TX7) (N := 34) hx hb hts (fun w h => List.mem_cons_of_mem _ (inX7 w h)) hown hK hP 0 rfl rfl 7 (by decide) (hts _ (List.mem_cons_of_mem _ kw_992)) (fun _ h9 => h9) rfl dMd_follows_21 ?_
    refine lv_iload_n hx hb dMd_follows_24 rfl (lv_at hl 1 rfl) ?_
    have ho := hw.1
    have hw := hw.2
    refine va_iald hx hb hK hP 1 0 rfl rfl ho dMd_follows_25 ?_
    refine lv_if_eq (tgt := 53) hx hb dMd_follows_26 rfl (fun hc => ?_) (fun hc => ?_)
    · have hw := hw.1 hc
      refine lv_iconst (v := 0) hx hb dMd_follows_53 (by decide) ?_
      exact hend false _ _ _ _ dMd_follows_54 hP hD hS hw
    · have hw := hw.2 hc
      refine lv_aload_n hx hb dMd_follows_29 rfl (lv_at hl 0 rfl) ?_
      refine va_get (D := D) (ci := 7) (v := .ref (bd 8)) (C := "OnceNamedModel") (T := TX7) (N := 34) hx hb hts (fun w h => List.mem_cons_of_mem _ (inX7 w h)) hown hK hP 0 rfl rfl 9 (by decide) (hts _ (List.mem_cons_of_mem _ kw_994)) (fun _ h9 => h9) rfl dMd_follows_30 ?_
      refine lv_iload_n hx hb dMd_follows_33 rfl (lv_at hl 1 rfl) ?_
      have ho := hw.1
      have hw := hw.2
      refine va_iald hx hb hK hP 2 0 rfl rfl ho dMd_follows_34 ?_
      refine lv_iload_n hx hb dMd_follows_35 rfl (lv_at hl 2 rfl) ?_
      refine lv_icmp_eq (tgt := 49) hx hb dMd_follows_36 rfl (fun hc => ?_) (fun hc => ?_)
      · have hw := hw.1 hc
        refine lv_iconst (v := 1) hx hb dMd_follows_49 (by decide) ?_
        refine lv_goto (tgt := 54) hx hb dMd_follows_50 rfl ?_
        exact hend true _ _ _ _ dMd_follows_54 hP hD hS hw
      · have hw := hw.2 hc
        refine lv_aload_n hx hb dMd_follows_39 rfl (lv_at hl 0 rfl) ?_
        refine va_get (D := D) (ci := 7) (v := .ref (bd 9)) (C := "OnceNamedModel") (T := TX7) (N := 34) hx hb hts (fun w h => List.mem_cons_of_mem _ (inX7 w h)) hown hK hP 0 rfl rfl 10 (by decide) (hts _ (List.mem_cons_of_mem _ kw_995)) (fun _ h9 => h9) rfl dMd_follows_40 ?_
        refine lv_iload_n hx hb dMd_follows_43 rfl (lv_at hl 1 rfl) ?_
        have ho := hw.1
        have hw := hw.2
        refine va_iald hx hb hK hP 3 0 rfl rfl ho dMd_follows_44 ?_
        refine lv_iload_n hx hb dMd_follows_45 rfl (lv_at hl 2 rfl) ?_
        refine lv_icmp_ne (tgt := 53) hx hb dMd_follows_46 rfl (fun hc => ?_) (fun hc => ?_)
        · have hw := hw.1 hc
          refine lv_iconst (v := 0) hx hb dMd_follows_53 (by decide) ?_
          exact hend false _ _ _ _ dMd_follows_54 hP hD hS hw
        · have hw := hw.2 hc
          refine lv_iconst (v := 1) hx hb dMd_follows_49 (by decide) ?_
          refine lv_goto (tgt := 54) hx hb dMd_follows_50 rfl ?_
          exact hend true _ _ _ _ dMd_follows_54 hP hD hS hw
  · have hw := hw.2 hc
    refine lv_iload_n hx hb dMd_follows_8 rfl (lv_at hl 2 rfl) ?_
    refine lv_if_ne (tgt := 16) hx hb dMd_follows_9 rfl (fun hc => ?_) (fun hc => ?_)
    · have hw := hw.1 hc
      refine lv_iconst (v := 0) hx hb dMd_follows_16 (by decide) ?_
      refine lv_goto (tgt := 54) hx hb dMd_follows_17 rfl ?_
      exact hend false _ _ _ _ dMd_follows_54 hP hD hS hw
    · have hw := hw.2 hc
      refine lv_iconst (v := 1) hx hb dMd_follows_12 (by decide) ?_
      refine lv_goto (tgt := 54) hx hb dMd_follows_13 rfl ?_
      exact hend true _ _ _ _ dMd_follows_54 hP hD hS hw
abbrev wdMd_reachedWithout (cA : ClassId) (cB : ClassId) (bd : Nat → Nat) (N : Nat) (mThrown : Int32) (mReached : Int32) (mForm : Bool) (mSlot : Int32) (mOver : Bool) (mEnds : Nat → Int32) (mYes : Nat → Int32) (mNo : Nat → Int32) : va_W := [((bd 0), .inr (7, [.int mThrown, .int (nI N), .ref (bd 1), .ref (bd 2), .ref (bd 3), .ref (bd 4), .ref (bd 5), .ref (bd 6), .ref (bd 7), .ref (bd 8), .ref (bd 9), .ref (bd 10), .int mReached, .ref (bd 11), .int (bI mForm), .ref (bd 12), .ref (bd 13), .ref (bd 14), .ref (bd 15), .ref (bd 16), .ref (bd 17), .ref (bd 18), .ref (bd 19), .ref (bd 20), .ref (bd 21), .ref (bd 22), .ref (bd 23), .ref (bd 24), .ref (bd 25), .ref (bd 26), .ref (bd 27), .ref (bd 28), .int mSlot, .int (bI mOver)])), ((bd 6), .inl (cA, 12, .inl mEnds)), ((bd 8), .inl (cA, 12, .inl mYes)), ((bd 9), .inl (cA, 12, .inl mNo))]
abbrev qcMd_reachedWithout (D : va_G) (cA : ClassId) (cB : ClassId) (bd : Nat → Nat) (N : Nat) (mThrown : Int32) (mReached : Int32) (mForm : Bool) (mSlot : Int32) (mOver : Bool) (mEnds : Nat → Int32) (mYes : Nat → Int32) (mNo : Nat → Int32) (post : Int32 → Prop) (A : Nat → Prop) : Array Value → State → Outcome → State → Prop := va_Qi (S := Unit) (fun r u => post r ) (fun u t => xB D [(cA, .int), (cB, .boolean)] A (wdMd_reachedWithout cA cB bd N mThrown mReached mForm mSlot mOver mEnds mYes mNo) t) A
abbrev rmMd_reachedWithout : Room := { frames := 1, cells := 0, slots := 0, locals := 22 }
set_option maxHeartbeats 4000000 in
set_option maxRecDepth 100000 in
theorem ktMd_reachedWithout (l : Launch) (D : va_G) (cA : ClassId) (cB : ClassId) (bd : Nat → Nat) (N : Nat) (sz : Nat) (mThrown : Int32) (mReached : Int32) (mForm : Bool) (mSlot : Int32) (mOver : Bool) (mEnds : Nat → Int32) (mYes : Nat → Int32) (mNo : Nat → Int32) (v1 : Int32) (post : Int32 → Prop) (hw : wpMd_reachedWithout N mEnds mYes mNo v1 post) : Met l yMd_reachedWithout (Cond.code yMd_reachedWithout cMd_reachedWithout 5 (some .int) :: xW) rmMd_reachedWithout (va_Pc [.ref (bd 0), .int v1] (xPc D [(cA, .int), (cB, .boolean)] (wdMd_reachedWithout cA cB bd N mThrown mReached mForm mSlot mOver mEnds mYes mNo) sz)) (qcMd_reachedWithout D cA cB bd N mThrown mReached mForm mSlot mOver mEnds mYes mNo post (va_A (wdMd_reachedWithout cA cB bd N mThrown mReached mForm mSlot mOver mEnds mYes mNo) sz)) 0 0 (va_A (wdMd_reachedWithout cA cB bd N mThrown mReached mForm mSlot mOver mEnds mYes mNo) sz) := by
  refine Met.ofW (cc := cMd_reachedWithout) (maxL := 5) (ret := (some .int)) (by decide) rfl ?_
  intro p e s m args below meth c s₁ B hml hv
  obtain ⟨rfl, hsz, hP, hK, hD0, hN⟩ := hv
  have hx := B.exec
  have hb := B.bytes
  have hr := B.returns
  have hts := atoms_spec (ws := (Cond.code yMd_reachedWithout cMd_reachedWithout 5 (some .int) :: xW)) B.pre
  have hown : s.vm.findClass "OnceNamedModel" = some m.cls := findClass_of_methodNamed B.named
  have hlocks := B.notSynchronized
  subst hsz
  have hD := hD0.self (sz := s.heap.size)
  generalize hAe : va_A (wdMd_reachedWithout cA cB bd N mThrown mReached mForm mSlot mOver mEnds mYes mNo) s.heap.size = A at hD ⊢
  have hA : ∀ q : Nat, s.heap.size ≤ q → A q := fun q h => by rw [← hAe]; exact Or.inr h
  have hS : va_S A s.heap s.heap [] := va_S.rf
  have hend : ∀ (r : Int32)  (H : Heap) (locs : List Loc) (pc : Nat) (ls : Array Slot), decode cMd_reachedWithout pc = .ok (.ireturn, 1) → va_P D vwCl (wdMd_reachedWithout cA cB bd N mThrown mReached mForm mSlot mOver mEnds mYes mNo) H → va_D A (wdMd_reachedWithout cA cB bd N mThrown mReached mForm mSlot mOver mEnds mYes mNo) → va_S A s.heap H locs → post r  → W p l e (headSpec (Cond.code yMd_reachedWithout cMd_reachedWithout 5 (some .int) :: xW) rmMd_reachedWithout).room s m ([.ref (bd 0), .int v1] : List Value).toArray below meth c H locs 0 0 (MQ below (qcMd_reachedWithout D cA cB bd N mThrown mReached mForm mSlot mOver mEnds mYes mNo post A) ([.ref (bd 0), .int v1] : List Value).toArray s 0 0 A) (F0 m pc ls [.int r]) := fun r  H locs pc ls hd hP hD hS hw => W.iret (v := r) hx hb hr (fun t ht hW => ⟨⟨r, (), rfl, hw, ⟨by rw [ht]; exact hP, va_K.moved hW.alike hK, hD⟩⟩, hS.F ht⟩) hS.2.2 hd
  generalize hQ : MQ below (qcMd_reachedWithout D cA cB bd N mThrown mReached mForm mSlot mOver mEnds mYes mNo post A) ([.ref (bd 0), .int v1] : List Value).toArray s 0 0 A = Q at hend ⊢
  have hl := lv_entry ([.ref (bd 0), .int v1]) (n := 5) (Nat.le_of_ble_eq_true rfl)
  rw [lg_entry_eq]
  generalize (lg_sl ([.ref (bd 0), .int v1]) ++ List.replicate (5 - (lg_sl ([.ref (bd 0), .int v1])).length) Slot.unset).toArray = ls at hl ⊢
  have hl : lv_has ls 5 [(0, .ref (bd 0)), (1, .int v1)] := hl
  unfold wpMd_reachedWithout at hw
  refine lv_iload_n hx hb dMd_reachedWithout_0 rfl (lv_at hl 1 rfl) ?_
  obtain ⟨J9, hJ9, hw⟩ := hw
  have hj9 : ∀ (t9_0 : Bool) (ls : Array Slot) (H : Heap) (locs : List Loc), lv_has ls 5 [(0, .ref (bd 0)), (1, .int v1)] → va_P D vwCl (wdMd_reachedWithout cA cB bd N mThrown mReached mForm mSlot mOver mEnds mYes mNo) H → va_D A (wdMd_reachedWithout cA cB bd N mThrown mReached mForm mSlot mOver mEnds mYes mNo) → va_S A s.heap H locs → J9 t9_0 → W p l e (headSpec (Cond.code yMd_reachedWithout cMd_reachedWithout 5 (some .int) :: xW) rmMd_reachedWithout).room s m ([.ref (bd 0), .int v1] : List Value).toArray below meth c H locs 0 0 Q (F0 m 9 ls [.int (bI t9_0)]) := by
    intro t9_0 ls H locs hl hP hD hS hw
    have hw := hJ9 t9_0 hw
    refine lv_istore_n (lv' := [(2, .int (bI t9_0)), (0, .ref (bd 0)), (1, .int v1)]) hx hb dMd_reachedWithout_9 rfl hl (by decide) rfl (fun ls hl => ?_)
    refine lv_iconst (v := 0) hx hb dMd_reachedWithout_10 (by decide) ?_
    refine lv_istore_n (lv' := [(3, .int 0), (2, .int (bI t9_0)), (0, .ref (bd 0)), (1, .int v1)]) hx hb dMd_reachedWithout_11 rfl hl (by decide) rfl (fun ls hl => ?_)
    obtain ⟨k12, hw⟩ := hw
    have hlp12 : ∀ (k : Nat), ∀ (v2_L12 : Int32) (v3_L12 : Int32) (ls : Array Slot) (H : Heap) (locs : List Loc), lv_has ls 5 [(0, .ref (bd 0)), (1, .int v1), (2, .int v2_L12), (3, .int v3_L12)] → va_P D vwCl (wdMd_reachedWithout cA cB bd N mThrown mReached mForm mSlot mOver mEnds mYes mNo) H → va_D A (wdMd_reachedWithout cA cB bd N mThrown mReached mForm mSlot mOver mEnds mYes mNo) → va_S A s.heap H locs → lpMd_reachedWithout_12 N v1 mEnds mYes mNo post k v2_L12 v3_L12 → W p l e (headSpec (Cond.code yMd_reachedWithout cMd_reachedWithout 5 (some .int) :: xW) rmMd_reachedWithout).room s m ([.ref (bd 0), .int v1] : List Value).toArray below meth c H locs 0 0 Q (F0 m 12 ls []) := by
      intro k
      induction k with
      | zero => intro v2_L12 v3_L12 ls H locs hl hP hD hS hw; exact False.elim hw
      | succ k ih =>
        intro v2_L12 v3_L12 ls H locs hl hP hD hS hw
        refine lv_iload_n hx hb dMd_reachedWithout_12 rfl (lv_at hl 3 rfl) ?_
        refine lv_aload_n hx hb dMd_reachedWithout_13 rfl (lv_at hl 0 rfl) ?_
        refine va_get (D := D) (ci := 7) (v := .int (nI N)) (C := "OnceNamedModel") (T := TX7) (N := 34) hx hb hts (fun w h => List.mem_cons_of_mem _ (inX7 w h)) hown hK hP 0 rfl rfl 1 (by decide) (hts _ (List.mem_cons_of_mem _ kw_986)) (fun _ h9 => h9) rfl dMd_reachedWithout_14 ?_
        refine lv_icmp_ge (tgt := 118) hx hb dMd_reachedWithout_17 rfl (fun hc => ?_) (fun hc => ?_)
        · have hw := hw.1 hc
          refine lv_iload_n hx hb dMd_reachedWithout_118 rfl (lv_at hl 2 rfl) ?_
          exact hend v2_L12 _ _ _ _ dMd_reachedWithout_119 hP hD hS hw
        · have hw := hw.2 hc
          refine lv_iconst (v := 0) hx hb dMd_reachedWithout_20 (by decide) ?_
          refine lv_istore (lv' := [(4, .int 0), (0, .ref (bd 0)), (1, .int v1), (2, .int v2_L12), (3, .int v3_L12)]) hx hb dMd_reachedWithout_21 hl (by decide) rfl (fun ls hl => ?_)
          obtain ⟨k23, hw⟩ := hw
          have hlp23 : ∀ (K112 : Int32 → Int32 → Prop), (∀ (v2_x112 : Int32) (v4_x112 : Int32) (ls : Array Slot) (H : Heap) (locs : List Loc), lv_has ls 5 [(0, .ref (bd 0)), (1, .int v1), (2, .int v2_x112), (3, .int v3_L12), (4, .int v4_x112)] → va_P D vwCl (wdMd_reachedWithout cA cB bd N mThrown mReached mForm mSlot mOver mEnds mYes mNo) H → va_D A (wdMd_reachedWithout cA cB bd N mThrown mReached mForm mSlot mOver mEnds mYes mNo) → va_S A s.heap H locs → K112 v2_x112 v4_x112 → W p l e (headSpec (Cond.code yMd_reachedWithout cMd_reachedWithout 5 (some .int) :: xW) rmMd_reachedWithout).room s m ([.ref (bd 0), .int v1] : List Value).toArray below meth c H locs 0 0 Q (F0 m 112 ls [])) → ∀ (k : Nat), ∀ (v2_L23 : Int32) (v4_L23 : Int32) (ls : Array Slot) (H : Heap) (locs : List Loc), lv_has ls 5 [(0, .ref (bd 0)), (1, .int v1), (2, .int v2_L23), (3, .int v3_L12), (4, .int v4_L23)] → va_P D vwCl (wdMd_reachedWithout cA cB bd N mThrown mReached mForm mSlot mOver mEnds mYes mNo) H → va_D A (wdMd_reachedWithout cA cB bd N mThrown mReached mForm mSlot mOver mEnds mYes mNo) → va_S A s.heap H locs → lpMd_reachedWithout_23 N v1 mEnds mYes mNo K112 k v2_L23 v4_L23 → W p l e (headSpec (Cond.code yMd_reachedWithout cMd_reachedWithout 5 (some .int) :: xW) rmMd_reachedWithout).room s m ([.ref (bd 0), .int v1] : List Value).toArray below meth c H locs 0 0 Q (F0 m 23 ls []) := by
            intro K112 hK112 k
            induction k with
            | zero => intro v2_L23 v4_L23 ls H locs hl hP hD hS hw; exact False.elim hw
            | succ k ih =>
              intro v2_L23 v4_L23 ls H locs hl hP hD hS hw
              refine lv_iload hx hb dMd_reachedWithout_23 (lv_at hl 4 rfl) ?_
              refine lv_aload_n hx hb dMd_reachedWithout_25 rfl (lv_at hl 0 rfl) ?_
              refine va_get (D := D) (ci := 7) (v := .int (nI N)) (C := "OnceNamedModel") (T := TX7) (N := 34) hx hb hts (fun w h => List.mem_cons_of_mem _ (inX7 w h)) hown hK hP 0 rfl rfl 1 (by decide) (hts _ (List.mem_cons_of_mem _ kw_986)) (fun _ h9 => h9) rfl dMd_reachedWithout_26 ?_
              refine lv_icmp_ge (tgt := 112) hx hb dMd_reachedWithout_29 rfl (fun hc => ?_) (fun hc => ?_)
              · have hw := hw.1 hc
                exact hK112 v2_L23 v4_L23 _ _ _ (lv_sub hl [0, 1, 2, 3, 4] rfl) hP hD hS hw
              · have hw := hw.2 hc
                refine lv_aload_n hx hb dMd_reachedWithout_32 rfl (lv_at hl 0 rfl) ?_
                refine lv_iload_n hx hb dMd_reachedWithout_33 rfl (lv_at hl 2 rfl) ?_
                refine lv_iload hx hb dMd_reachedWithout_34 (lv_at hl 4 rfl) ?_
                refine xci (va_runV ⟨hx, hb, hml, hown, hts⟩ (ktMd_has l D cA cB bd N _ v2_L23 v4_L23 _ hw) (cwV 2 hts (goodV kw_1133 kw_1135 ks_4_0 kw_11 kw_1136) rfl rfl rfl (by decide +kernel) ⟨Nat.le_of_ble_eq_true rfl, Nat.le_of_ble_eq_true rfl⟩) (xpreV hK hP hD hN [] rfl rfl 0 rfl rfl) rfl rfl hl.1 rfl (lv_room (Nat.le_of_ble_eq_true rfl)) dMd_reachedWithout_36 ⟨Nat.le_of_ble_eq_true rfl, Nat.le_of_ble_eq_true rfl⟩) hP hD hS hA [] [0, 1, 2, 3] rfl rfl rfl rfl [0, 1, 2, 3] rfl (fun _ => rfl) (fun r36 u H locs hw hP hD hS => ?_)
                obtain ⟨r36, rfl, hw⟩ := hw
                have hP : va_P D vwCl (wdMd_reachedWithout cA cB bd N mThrown mReached mForm mSlot mOver mEnds mYes mNo) H := hP
                have hD : va_D A (wdMd_reachedWithout cA cB bd N mThrown mReached mForm mSlot mOver mEnds mYes mNo) := hD
                refine lv_if_eq (tgt := 106) hx hb dMd_reachedWithout_39 rfl (fun hc => ?_) (fun hc => ?_)
                · have hw := hw.1 (bI_0 hc)
                  refine lv_iinc (k := 4) (v := (v4_L23 + 1)) (lv' := [(4, .int (v4_L23 + 1)), (0, .ref (bd 0)), (1, .int v1), (2, .int v2_L23), (3, .int v3_L12)]) hx hb dMd_reachedWithout_106 hl rfl rfl (by decide) rfl (fun ls hl => ?_)
                  refine lv_goto (tgt := 23) hx hb dMd_reachedWithout_109 rfl ?_
                  exact ih v2_L23 (v4_L23 + 1) _ _ _ (lv_sub hl [1, 2, 3, 4, 0] rfl) hP hD hS hw
                · have hw := hw.2 (bI_1 hc)
                  refine lv_aload_n hx hb dMd_reachedWithout_42 rfl (lv_at hl 0 rfl) ?_
                  refine va_get (D := D) (ci := 7) (v := .ref (bd 6)) (C := "OnceNamedModel") (T := TX7) (N := 34) hx hb hts (fun w h => List.mem_cons_of_mem _ (inX7 w h)) hown hK hP 0 rfl rfl 7 (by decide) (hts _ (List.mem_cons_of_mem _ kw_992)) (fun _ h9 => h9) rfl dMd_reachedWithout_43 ?_
                  refine lv_iload hx hb dMd_reachedWithout_46 (lv_at hl 4 rfl) ?_
                  have ho := hw.1
                  have hw := hw.2
                  refine va_iald hx hb hK hP 1 0 rfl rfl ho dMd_reachedWithout_48 ?_
                  refine lv_if_eq (tgt := 106) hx hb dMd_reachedWithout_49 rfl (fun hc => ?_) (fun hc => ?_)
                  · have hw := hw.1 hc
                    refine lv_iinc (k := 4) (v := (v4_L23 + 1)) (lv' := [(4, .int (v4_L23 + 1)), (0, .ref (bd 0)), (1, .int v1), (2, .int v2_L23), (3, .int v3_L12)]) hx hb dMd_reachedWithout_106 hl rfl rfl (by decide) rfl (fun ls hl => ?_)
                    refine lv_goto (tgt := 23) hx hb dMd_reachedWithout_109 rfl ?_
                    exact ih v2_L23 (v4_L23 + 1) _ _ _ (lv_sub hl [1, 2, 3, 4, 0] rfl) hP hD hS hw
                  · have hw := hw.2 hc
                    refine lv_aload_n hx hb dMd_reachedWithout_52 rfl (lv_at hl 0 rfl) ?_
                    refine va_get (D := D) (ci := 7) (v := .ref (bd 8)) (C := "OnceNamedModel") (T := TX7) (N := 34) hx hb hts (fun w h => List.mem_cons_of_mem _ (inX7 w h)) hown hK hP 0 rfl rfl 9 (by decide) (hts _ (List.mem_cons_of_mem _ kw_994)) (fun _ h9 => h9) rfl dMd_reachedWithout_53 ?_
                    refine lv_iload hx hb dMd_reachedWithout_56 (lv_at hl 4 rfl) ?_
                    have ho := hw.1
                    have hw := hw.2
                    refine va_iald hx hb hK hP 2 0 rfl rfl ho dMd_reachedWithout_58 ?_
                    refine lv_iload_n hx hb dMd_reachedWithout_59 rfl (lv_at hl 1 rfl) ?_
                    obtain ⟨J78, hJ78, hw⟩ := hw
                    have hj78 : ∀ (t78_0 : Int32) (ls : Array Slot) (H : Heap) (locs : List Loc), lv_has ls 5 [(0, .ref (bd 0)), (1, .int v1), (2, .int v2_L23), (3, .int v3_L12), (4, .int v4_L23)] → va_P D vwCl (wdMd_reachedWithout cA cB bd N mThrown mReached mForm mSlot mOver mEnds mYes mNo) H → va_D A (wdMd_reachedWithout cA cB bd N mThrown mReached mForm mSlot mOver mEnds mYes mNo) → va_S A s.heap H locs → J78 t78_0 → W p l e (headSpec (Cond.code yMd_reachedWithout cMd_reachedWithout 5 (some .int) :: xW) rmMd_reachedWithout).room s m ([.ref (bd 0), .int v1] : List Value).toArray below meth c H locs 0 0 Q (F0 m 78 ls [.int t78_0]) := by
                      intro t78_0 ls H locs hl hP hD hS hw
                      have hw := hJ78 t78_0 hw
                      refine lv_istore_n (lv' := [(2, .int t78_0), (0, .ref (bd 0)), (1, .int v1), (3, .int v3_L12), (4, .int v4_L23)]) hx hb dMd_reachedWithout_78 rfl hl (by decide) rfl (fun ls hl => ?_)
                      refine lv_aload_n hx hb dMd_reachedWithout_79 rfl (lv_at hl 1 rfl) ?_
                      refine va_get (D := D) (ci := 7) (v := .ref (bd 9)) (C := "OnceNamedModel") (T := TX7) (N := 34) hx hb hts (fun w h => List.mem_cons_of_mem _ (inX7 w h)) hown hK hP 0 rfl rfl 10 (by decide) (hts _ (List.mem_cons_of_mem _ kw_995)) (fun _ h9 => h9) rfl dMd_reachedWithout_80 ?_
                      refine lv_iload hx hb dMd_reachedWithout_83 (lv_at hl 4 rfl) ?_
                      have ho := hw.1
                      have hw := hw.2
                      refine va_iald hx hb hK hP 3 0 rfl rfl ho dMd_reachedWithout_85 ?_
                      refine lv_iload_n hx hb dMd_reachedWithout_86 rfl (lv_at hl 2 rfl) ?_
                      refine lv_icmp_ne (tgt := 94) hx hb dMd_reachedWithout_87 rfl (fun hc => ?_) (fun hc => ?_)
                      · have hw := hw.1 hc
                        refine lv_iload_n hx hb dMd_reachedWithout_94 rfl (lv_at hl 0 rfl) ?_
                        refine lv_iconst (v := 1) hx hb dMd_reachedWithout_95 (by decide) ?_
                        refine lv_aload_n hx hb dMd_reachedWithout_96 rfl (lv_at hl 1 rfl) ?_
                        refine va_get (D := D) (ci := 7) (v := .ref (bd 9)) (C := "OnceNamedModel") (T := TX7) (N := 34) hx hb hts (fun w h => List.mem_cons_of_mem _ (inX7 w h)) hown hK hP 0 rfl rfl 10 (by decide) (hts _ (List.mem_cons_of_mem _ kw_995)) (fun _ h9 => h9) rfl dMd_reachedWithout_97 ?_
                        refine lv_iload hx hb dMd_reachedWithout_100 (lv_at hl 4 rfl) ?_
                        have ho := hw.1
                        have hw := hw.2
                        refine va_iald hx hb hK hP 3 0 rfl rfl ho dMd_reachedWithout_102 ?_
                        refine lv_ishl hx hb dMd_reachedWithout_103 ?_
                        refine lv_ior hx hb dMd_reachedWithout_104 ?_
                        refine lv_topi (fun v2_105 e_v2_105 => ?_)
                        have hw := hw v2_105 e_v2_105
                        refine lv_istore_n (lv' := [(2, .int v2_105), (0, .ref (bd 0)), (1, .int v1), (3, .int v3_L12), (4, .int v4_L23)]) hx hb dMd_reachedWithout_105 rfl hl (by decide) rfl (fun ls hl => ?_)
                        refine lv_iinc (k := 4) (v := (v4_L23 + 1)) (lv' := [(4, .int (v4_L23 + 1)), (2, .int v2_105), (0, .ref (bd 0)), (1, .int v1), (3, .int v3_L12)]) hx hb dMd_reachedWithout_106 hl rfl rfl (by decide) rfl (fun ls hl => ?_)
                        refine lv_goto (tgt := 23) hx hb dMd_reachedWithout_109 rfl ?_
                        exact ih v2_105 (v4_L23 + 1) _ _ _ (lv_sub hl [2, 3, 1, 4, 0] rfl) hP hD hS hw
                      · have hw := hw.2 hc
                        refine lv_iload_n hx hb dMd_reachedWithout_90 rfl (lv_at hl 0 rfl) ?_
                        refine lv_goto (tgt := 105) hx hb dMd_reachedWithout_91 rfl ?_
                        refine lv_istore_n (lv' := [(2, .int t78_0), (0, .ref (bd 0)), (1, .int v1), (3, .int v3_L12), (4, .int v4_L23)]) hx hb dMd_reachedWithout_105 rfl hl (by decide) rfl (fun ls hl => ?_)
                        refine lv_iinc (k := 4) (v := (v4_L23 + 1)) (lv' := [(4, .int (v4_L23 + 1)), (2, .int t78_0), (0, .ref (bd 0)), (1, .int v1), (3, .int v3_L12)]) hx hb dMd_reachedWithout_106 hl rfl rfl (by decide) rfl (fun ls hl => ?_)
                        refine lv_goto (tgt := 23) hx hb dMd_reachedWithout_109 rfl ?_
                        exact ih t78_0 (v4_L23 + 1) _ _ _ (lv_sub hl [2, 3, 1, 4, 0] rfl) hP hD hS hw
                    refine lv_icmp_ne (tgt := 67) hx hb dMd_reachedWithout_60 rfl (fun hc => ?_) (fun hc => ?_)
                    · have hw := hw.1 hc
                      refine lv_iload_n hx hb dMd_reachedWithout_67 rfl (lv_at hl 2 rfl) ?_
                      refine lv_iconst (v := 1) hx hb dMd_reachedWithout_68 (by decide) ?_
                      refine lv_aload_n hx hb dMd_reachedWithout_69 rfl (lv_at hl 0 rfl) ?_
                      refine va_get (D := D) (ci := 7) (v := .ref (bd 8)) (C := "OnceNamedModel") (T := TX7) (N := 34) hx hb hts (fun w h => List.mem_cons_of_mem _ (inX7 w h)) hown hK hP 0 rfl rfl 9 (by decide) (hts _ (List.mem_cons_of_mem _ kw_994)) (fun _ h9 => h9) rfl dMd_reachedWithout_70 ?_
                      refine lv_iload hx hb dMd_reachedWithout_73 (lv_at hl 4 rfl) ?_
                      have ho := hw.1
                      have hw := hw.2
                      refine va_iald hx hb hK hP 2 0 rfl rfl ho dMd_reachedWithout_75 ?_
                      refine lv_ishl hx hb dMd_reachedWithout_76 ?_
                      refine lv_ior hx hb dMd_reachedWithout_77 ?_
                      exact hj78 (v2_L23 ||| ((1 : Int32) <<< ((mYes (Int32.toNatClampNeg v4_L23)) &&& 31))) _ _ _ (lv_sub hl [0, 1, 2, 3, 4] rfl) hP hD hS hw
                    · have hw := hw.2 hc
                      refine lv_iload_n hx hb dMd_reachedWithout_63 rfl (lv_at hl 2 rfl) ?_
                      refine lv_goto (tgt := 78) hx hb dMd_reachedWithout_64 rfl ?_
                      exact hj78 v2_L23 _ _ _ (lv_sub hl [0, 1, 2, 3, 4] rfl) hP hD hS hw
          refine hlp23 _ ?_ k23 v2_L12 0 _ _ _ (lv_sub hl [1, 2, 3, 4, 0] rfl) hP hD hS hw
          intro v2_x112 v4_x112 ls H locs hl hP hD hS hw
          try dsimp only at hw
          refine lv_iinc (k := 3) (v := (v3_L12 + 1)) (lv' := [(3, .int (v3_L12 + 1)), (0, .ref (bd 0)), (1, .int v1), (2, .int v2_x112), (4, .int v4_x112)]) hx hb dMd_reachedWithout_112 hl rfl rfl (by decide) rfl (fun ls hl => ?_)
          refine lv_goto (tgt := 12) hx hb dMd_reachedWithout_115 rfl ?_
          exact ih v2_x112 (v3_L12 + 1) _ _ _ (lv_sub hl [1, 2, 3, 0] rfl) hP hD hS hw
    refine hlp12 k12 (bI t9_0) 0 _ _ _ (lv_sub hl [2, 3, 1, 0] rfl) hP hD hS hw
  refine lv_if_ne (tgt := 8) hx hb dMd_reachedWithout_1 rfl (fun hc => ?_) (fun hc => ?_)
  · have hw := hw.1 hc
    refine lv_iconst (v := 1) hx hb dMd_reachedWithout_8 (by decide) ?_
    exact hj9 true _ _ _ (lv_sub hl [0, 1] rfl) hP hD hS hw
  · have hw := hw.2 hc
    refine lv_iconst (v := 0) hx hb dMd_reachedWithout_4 (by decide) ?_
    refine lv_goto (tgt := 9) hx hb dMd_reachedWithout_5 rfl ?_
    exact hj9 false _ _ _ (lv_sub hl [0, 1] rfl) hP hD hS hw
abbrev wdMd_look (cA : ClassId) (cB : ClassId) (bd : Nat → Nat) (N : Nat) (mThrown : Int32) (mReached : Int32) (mForm : Bool) (mSlot : Int32) (mOver : Bool) (mEnds : Nat → Int32) (mYes : Nat → Int32) (mNo : Nat → Int32) (mDominators : Nat → Int32) : va_W := [((bd 0), .inr (7, [.int mThrown, .int (nI N), .ref (bd 1), .ref (bd 2), .ref (bd 3), .ref (bd 4), .ref (bd 5), .ref (bd 6), .ref (bd 7), .ref (bd 8), .ref (bd 9), .ref (bd 10), .int mReached, .ref (bd 11), .int (bI mForm), .ref (bd 12), .ref (bd 13), .ref (bd 14), .ref (bd 15), .ref (bd 16), .ref (bd 17), .ref (bd 18), .ref (bd 19), .ref (bd 20), .ref (bd 21), .ref (bd 22), .ref (bd 23), .ref (bd 24), .ref (bd 25), .ref (bd 26), .ref (bd 27), .ref (bd 28), .int mSlot, .int (bI mOver)])), ((bd 6), .inl (cA, 12, .inl mEnds)), ((bd 8), .inl (cA, 12, .inl mYes)), ((bd 9), .inl (cA, 12, .inl mNo)), ((bd 11), .inl (cA, 12, .inl mDominators))]
abbrev qcMd_look (D : va_G) (cA : ClassId) (cB : ClassId) (bd : Nat → Nat) (N : Nat) (mThrown : Int32) (mReached : Int32) (mForm : Bool) (mSlot : Int32) (mOver : Bool) (mEnds : Nat → Int32) (mYes : Nat → Int32) (mNo : Nat → Int32) (mDominators : Nat → Int32) (post : Int32 → (Nat → Int32) → Prop) (A : Nat → Prop) : Array Value → State → Outcome → State → Prop := va_Qv (S := (Int32) × (Nat → Int32)) (fun u => post u.1 u.2) (fun u t => xB D [(cA, .int), (cB, .boolean)] A (wdMd_look cA cB bd N mThrown u.1 mForm mSlot mOver mEnds mYes mNo u.2) t) A
abbrev rmMd_look : Room := { frames := 2, cells := 0, slots := 0, locals := 46 }
set_option maxHeartbeats 4000000 in
set_option maxRecDepth 100000 in
theorem ktMd_look (l : Launch) (D : va_G) (cA : ClassId) (cB : ClassId) (bd : Nat → Nat) (N : Nat) (sz : Nat) (mThrown : Int32) (mReached : Int32) (mForm : Bool) (mSlot : Int32) (mOver : Bool) (mEnds : Nat → Int32) (mYes : Nat → Int32) (mNo : Nat → Int32) (mDominators : Nat → Int32)  (post : Int32 → (Nat → Int32) → Prop) (hw : wpMd_look N mEnds mYes mNo mDominators post) : Met l yMd_look (Cond.code yMd_look cMd_look 4 none :: xW) rmMd_look (va_Pc [.ref (bd 0)] (xPc D [(cA, .int), (cB, .boolean)] (wdMd_look cA cB bd N mThrown mReached mForm mSlot mOver mEnds mYes mNo mDominators) sz)) (qcMd_look D cA cB bd N mThrown mReached mForm mSlot mOver mEnds mYes mNo mDominators post (va_A (wdMd_look cA cB bd N mThrown mReached mForm mSlot mOver mEnds mYes mNo mDominators) sz)) 0 0 (va_A (wdMd_look cA cB bd N mThrown mReached mForm mSlot mOver mEnds mYes mNo mDominators) sz) := by
  refine Met.ofW (cc := cMd_look) (maxL := 4) (ret := none) (by decide) rfl ?_
  intro p e s m args below meth c s₁ B hml hv
  obtain ⟨rfl, hsz, hP, hK, hD0, hN⟩ := hv
  have hx := B.exec
  have hb := B.bytes
  have hr := B.returns
  have hts := atoms_spec (ws := (Cond.code yMd_look cMd_look 4 none :: xW)) B.pre
  have hown : s.vm.findClass "OnceNamedModel" = some m.cls := findClass_of_methodNamed B.named
  have hlocks := B.notSynchronized
  subst hsz
  have hD := hD0.self (sz := s.heap.size)
  generalize hAe : va_A (wdMd_look cA cB bd N mThrown mReached mForm mSlot mOver mEnds mYes mNo mDominators) s.heap.size = A at hD ⊢
  have hA : ∀ q : Nat, s.heap.size ≤ q → A q := fun q h => by rw [← hAe]; exact Or.inr h
  have hS : va_S A s.heap s.heap [] := va_S.rf
  have hend : ∀ (u0 : Int32) (u1 : Nat → Int32) (H : Heap) (locs : List Loc) (pc : Nat) (ls : Array Slot), decode cMd_look pc = .ok (.return_, 1) → va_P D vwCl (wdMd_look cA cB bd N mThrown u0 mForm mSlot mOver mEnds mYes mNo u1) H → va_D A (wdMd_look cA cB bd N mThrown u0 mForm mSlot mOver mEnds mYes mNo u1) → va_S A s.heap H locs → post u0 u1 → W p l e (headSpec (Cond.code yMd_look cMd_look 4 none :: xW) rmMd_look).room s m ([.ref (bd 0)] : List Value).toArray below meth c H locs 0 0 (MQ below (qcMd_look D cA cB bd N mThrown mReached mForm mSlot mOver mEnds mYes mNo mDominators post A) ([.ref (bd 0)] : List Value).toArray s 0 0 A) (F0 m pc ls []) := fun u0 u1 H locs pc ls hd hP hD hS hw => W.vret hx hb hr (fun t ht hW => ⟨⟨(u0, u1), rfl, hw, ⟨by rw [ht]; exact hP, va_K.moved hW.alike hK, hD⟩⟩, hS.F ht⟩) hS.2.2 hd
  generalize hQ : MQ below (qcMd_look D cA cB bd N mThrown mReached mForm mSlot mOver mEnds mYes mNo mDominators post A) ([.ref (bd 0)] : List Value).toArray s 0 0 A = Q at hend ⊢
  have hl := lv_entry ([.ref (bd 0)]) (n := 4) (Nat.le_of_ble_eq_true rfl)
  rw [lg_entry_eq]
  generalize (lg_sl ([.ref (bd 0)]) ++ List.replicate (4 - (lg_sl ([.ref (bd 0)])).length) Slot.unset).toArray = ls at hl ⊢
  have hl : lv_has ls 4 [(0, .ref (bd 0))] := hl
  unfold wpMd_look at hw
  refine lv_aload_n hx hb dMd_look_0 rfl (lv_at hl 0 rfl) ?_
  refine lv_aload_n hx hb dMd_look_1 rfl (lv_at hl 0 rfl) ?_
  refine lv_iconst (v := (-1)) hx hb dMd_look_2 (by decide) ?_
  refine xci (va_runV ⟨hx, hb, hml, hown, hts⟩ (ktMd_reachedWithout l D cA cB bd N _ mThrown mReached mForm mSlot mOver mEnds mYes mNo (-1) _ hw) (cwV 1 hts (goodV kw_1129 kw_1131 ks_3_15 kw_11 kw_1132) rfl rfl rfl (by decide +kernel) ⟨Nat.le_of_ble_eq_true rfl, Nat.le_of_ble_eq_true rfl⟩) (xpreV hK hP hD hN [0, 1, 2, 3] rfl rfl 0 rfl rfl) rfl rfl hl.1 rfl (lv_room (Nat.le_of_ble_eq_true rfl)) dMd_look_3 ⟨Nat.le_of_ble_eq_true rfl, Nat.le_of_ble_eq_true rfl⟩) hP hD hS hA [0, 1, 2, 3] [4] rfl rfl rfl rfl [1, 2, 3, 4, 0] rfl (fun _ => rfl) (fun r3 u H locs hw hP hD hS => ?_)
  have hP : va_P D vwCl (wdMd_look cA cB bd N mThrown mReached mForm mSlot mOver mEnds mYes mNo mDominators) H := hP
  have hD : va_D A (wdMd_look cA cB bd N mThrown mReached mForm mSlot mOver mEnds mYes mNo mDominators) := hD
  refine va_put (D := D) (ci := 7) (v := .int r3) (ty := .int) (C := "OnceNamedModel") (T := TX7) (N := 34) hx hb hts (fun w h => List.mem_cons_of_mem _ (inX7 w h)) tyX7 tyX7_ok nmX7 hown hK hP hD hS 0 rfl rfl 12 (by decide) (hts _ (List.mem_cons_of_mem _ kw_997)) (fun _ h9 => h9) rfl (by decide +kernel) rfl rfl (Nat.le_of_ble_eq_true rfl) dMd_look_6 (fun H locs hP hD hS => ?_)
  have hP : va_P D vwCl (wdMd_look cA cB bd N mThrown r3 mForm mSlot mOver mEnds mYes mNo mDominators) H := hP
  have hD : va_D A (wdMd_look cA cB bd N mThrown r3 mForm mSlot mOver mEnds mYes mNo mDominators) := hD
  refine lv_iconst (v := 0) hx hb dMd_look_9 (by decide) ?_
  refine lv_istore_n (lv' := [(1, .int 0), (0, .ref (bd 0))]) hx hb dMd_look_10 rfl hl (by decide) rfl (fun ls hl => ?_)
  obtain ⟨k11, hw⟩ := hw
  have hlp11 : ∀ (K32 : Int32 → (Nat → Int32) → Prop), (∀ (v1_x32 : Int32) (mDominators_x32 : Nat → Int32) (ls : Array Slot) (H : Heap) (locs : List Loc), lv_has ls 4 [(0, .ref (bd 0)), (1, .int v1_x32)] → va_P D vwCl (wdMd_look cA cB bd N mThrown r3 mForm mSlot mOver mEnds mYes mNo mDominators_x32) H → va_D A (wdMd_look cA cB bd N mThrown r3 mForm mSlot mOver mEnds mYes mNo mDominators_x32) → va_S A s.heap H locs → K32 v1_x32 mDominators_x32 → W p l e (headSpec (Cond.code yMd_look cMd_look 4 none :: xW) rmMd_look).room s m ([.ref (bd 0)] : List Value).toArray below meth c H locs 0 0 Q (F0 m 32 ls [])) → ∀ (k : Nat), ∀ (v1_L11 : Int32) (mDominators_L11 : Nat → Int32) (ls : Array Slot) (H : Heap) (locs : List Loc), lv_has ls 4 [(0, .ref (bd 0)), (1, .int v1_L11)] → va_P D vwCl (wdMd_look cA cB bd N mThrown r3 mForm mSlot mOver mEnds mYes mNo mDominators_L11) H → va_D A (wdMd_look cA cB bd N mThrown r3 mForm mSlot mOver mEnds mYes mNo mDominators_L11) → va_S A s.heap H locs → lpMd_look_11 N K32 k v1_L11 mDominators_L11 → W p l e (headSpec (Cond.code yMd_look cMd_look 4 none :: xW) rmMd_look).room s m ([.ref (bd 0)] : List Value).toArray below meth c H locs 0 0 Q (F0 m 11 ls []) := by
    intro K32 hK32 k
    induction k with
    | zero => intro v1_L11 mDominators_L11 ls H locs hl hP hD hS hw; exact False.elim hw
    | succ k ih =>
      intro v1_L11 mDominators_L11 ls H locs hl hP hD hS hw
      refine lv_iload_n hx hb dMd_look_11 rfl (lv_at hl 1 rfl) ?_
      refine lv_aload_n hx hb dMd_look_12 rfl (lv_at hl 0 rfl) ?_
      refine va_get (D := D) (ci := 7) (v := .int (nI N)) (C := "OnceNamedModel") (T := TX7) (N := 34) hx hb hts (fun w h => List.mem_cons_of_mem _ (inX7 w h)) hown hK hP 0 rfl rfl 1 (by decide) (hts _ (List.mem_cons_of_mem _ kw_986)) (fun _ h9 => h9) rfl dMd_look_13 ?_
      refine lv_icmp_ge (tgt := 32) hx hb dMd_look_16 rfl (fun hc => ?_) (fun hc => ?_)
      · have hw := hw.1 hc
        exact hK32 v1_L11 mDominators_L11 _ _ _ (lv_sub hl [0, 1] rfl) hP hD hS hw
      · have hw := hw.2 hc
        refine lv_aload_n hx hb dMd_look_19 rfl (lv_at hl 0 rfl) ?_
        refine va_get (D := D) (ci := 7) (v := .ref (bd 11)) (C := "OnceNamedModel") (T := TX7) (N := 34) hx hb hts (fun w h => List.mem_cons_of_mem _ (inX7 w h)) hown hK hP 0 rfl rfl 13 (by decide) (hts _ (List.mem_cons_of_mem _ kw_998)) (fun _ h9 => h9) rfl dMd_look_20 ?_
        refine lv_iload_n hx hb dMd_look_23 rfl (lv_at hl 1 rfl) ?_
        refine lv_iconst (v := 0) hx hb dMd_look_24 (by decide) ?_
        have ho := hw.1
        have hw := hw.2
        refine va_iast hx hb hK hP hD hS 4 0 rfl rfl ho dMd_look_25 (fun H locs hP hD hS => ?_)
        have hP : va_P D vwCl (wdMd_look cA cB bd N mThrown r3 mForm mSlot mOver mEnds mYes mNo (upd mDominators_L11 (Int32.toNatClampNeg v1_L11) 0)) H := hP
        have hD : va_D A (wdMd_look cA cB bd N mThrown r3 mForm mSlot mOver mEnds mYes mNo (upd mDominators_L11 (Int32.toNatClampNeg v1_L11) 0)) := hD
        refine lv_iinc (k := 1) (v := (v1_L11 + 1)) (lv' := [(1, .int (v1_L11 + 1)), (0, .ref (bd 0))]) hx hb dMd_look_26 hl rfl rfl (by decide) rfl (fun ls hl => ?_)
        refine lv_goto (tgt := 11) hx hb dMd_look_29 rfl ?_
        exact ih (v1_L11 + 1) (upd mDominators_L11 (Int32.toNatClampNeg v1_L11) 0) _ _ _ (lv_sub hl [1, 0] rfl) hP hD hS hw
  refine hlp11 _ ?_ k11 0 mDominators _ _ _ (lv_sub hl [1, 0] rfl) hP hD hS hw
  intro v1_x32 mDominators_x32 ls H locs hl hP hD hS hw
  try dsimp only at hw
  refine lv_iconst (v := 0) hx hb dMd_look_32 (by decide) ?_
  refine lv_istore_n (lv' := [(1, .int 0), (0, .ref (bd 0))]) hx hb dMd_look_33 rfl hl (by decide) rfl (fun ls hl => ?_)
  obtain ⟨k34, hw⟩ := hw
  have hlp34 : ∀ (k : Nat), ∀ (v1_L34 : Int32) (mDominators_L34 : Nat → Int32) (ls : Array Slot) (H : Heap) (locs : List Loc), lv_has ls 4 [(0, .ref (bd 0)), (1, .int v1_L34)] → va_P D vwCl (wdMd_look cA cB bd N mThrown r3 mForm mSlot mOver mEnds mYes mNo mDominators_L34) H → va_D A (wdMd_look cA cB bd N mThrown r3 mForm mSlot mOver mEnds mYes mNo mDominators_L34) → va_S A s.heap H locs → lpMd_look_34 N r3 mEnds mYes mNo post k v1_L34 mDominators_L34 → W p l e (headSpec (Cond.code yMd_look cMd_look 4 none :: xW) rmMd_look).room s m ([.ref (bd 0)] : List Value).toArray below meth c H locs 0 0 Q (F0 m 34 ls []) := by
    intro k
    induction k with
    | zero => intro v1_L34 mDominators_L34 ls H locs hl hP hD hS hw; exact False.elim hw
    | succ k ih =>
      intro v1_L34 mDominators_L34 ls H locs hl hP hD hS hw
      refine lv_iload_n hx hb dMd_look_34 rfl (lv_at hl 1 rfl) ?_
      refine lv_aload_n hx hb dMd_look_35 rfl (lv_at hl 0 rfl) ?_
      refine va_get (D := D) (ci := 7) (v := .int (nI N)) (C := "OnceNamedModel") (T := TX7) (N := 34) hx hb hts (fun w h => List.mem_cons_of_mem _ (inX7 w h)) hown hK hP 0 rfl rfl 1 (by decide) (hts _ (List.mem_cons_of_mem _ kw_986)) (fun _ h9 => h9) rfl dMd_look_36 ?_
      refine lv_icmp_ge (tgt := 119) hx hb dMd_look_39 rfl (fun hc => ?_) (fun hc => ?_)
      · have hw := hw.1 hc
        exact hend r3 mDominators_L34 _ _ _ _ dMd_look_119 hP hD hS hw
      · have hw := hw.2 hc
        refine lv_aload_n hx hb dMd_look_42 rfl (lv_at hl 0 rfl) ?_
        refine lv_iload_n hx hb dMd_look_43 rfl (lv_at hl 1 rfl) ?_
        refine xci (va_runV ⟨hx, hb, hml, hown, hts⟩ (ktMd_reachedWithout l D cA cB bd N _ mThrown r3 mForm mSlot mOver mEnds mYes mNo v1_L34 _ hw) (cwV 1 hts (goodV kw_1129 kw_1131 ks_3_15 kw_11 kw_1132) rfl rfl rfl (by decide +kernel) ⟨Nat.le_of_ble_eq_true rfl, Nat.le_of_ble_eq_true rfl⟩) (xpreV hK hP hD hN [0, 1, 2, 3] rfl rfl 0 rfl rfl) rfl rfl hl.1 rfl (lv_room (Nat.le_of_ble_eq_true rfl)) dMd_look_44 ⟨Nat.le_of_ble_eq_true rfl, Nat.le_of_ble_eq_true rfl⟩) hP hD hS hA [0, 1, 2, 3] [4] rfl rfl rfl rfl [1, 2, 3, 4, 0] rfl (fun _ => rfl) (fun r44 u H locs hw hP hD hS => ?_)
        have hP : va_P D vwCl (wdMd_look cA cB bd N mThrown r3 mForm mSlot mOver mEnds mYes mNo mDominators_L34) H := hP
        have hD : va_D A (wdMd_look cA cB bd N mThrown r3 mForm mSlot mOver mEnds mYes mNo mDominators_L34) := hD
        refine lv_istore_n (lv' := [(2, .int r44), (0, .ref (bd 0)), (1, .int v1_L34)]) hx hb dMd_look_47 rfl hl (by decide) rfl (fun ls hl => ?_)
        refine lv_iconst (v := 0) hx hb dMd_look_48 (by decide) ?_
        refine lv_istore_n (lv' := [(3, .int 0), (2, .int r44), (0, .ref (bd 0)), (1, .int v1_L34)]) hx hb dMd_look_49 rfl hl (by decide) rfl (fun ls hl => ?_)
        obtain ⟨k50, hw⟩ := hw
        have hlp50 : ∀ (K113 : Int32 → (Nat → Int32) → Prop), (∀ (v3_x113 : Int32) (mDominators_x113 : Nat → Int32) (ls : Array Slot) (H : Heap) (locs : List Loc), lv_has ls 4 [(0, .ref (bd 0)), (1, .int v1_L34), (2, .int r44), (3, .int v3_x113)] → va_P D vwCl (wdMd_look cA cB bd N mThrown r3 mForm mSlot mOver mEnds mYes mNo mDominators_x113) H → va_D A (wdMd_look cA cB bd N mThrown r3 mForm mSlot mOver mEnds mYes mNo mDominators_x113) → va_S A s.heap H locs → K113 v3_x113 mDominators_x113 → W p l e (headSpec (Cond.code yMd_look cMd_look 4 none :: xW) rmMd_look).room s m ([.ref (bd 0)] : List Value).toArray below meth c H locs 0 0 Q (F0 m 113 ls [])) → ∀ (k : Nat), ∀ (v3_L50 : Int32) (mDominators_L50 : Nat → Int32) (ls : Array Slot) (H : Heap) (locs : List Loc), lv_has ls 4 [(0, .ref (bd 0)), (1, .int v1_L34), (2, .int r44), (3, .int v3_L50)] → va_P D vwCl (wdMd_look cA cB bd N mThrown r3 mForm mSlot mOver mEnds mYes mNo mDominators_L50) H → va_D A (wdMd_look cA cB bd N mThrown r3 mForm mSlot mOver mEnds mYes mNo mDominators_L50) → va_S A s.heap H locs → lpMd_look_50 N v1_L34 r44 r3 K113 k v3_L50 mDominators_L50 → W p l e (headSpec (Cond.code yMd_look cMd_look 4 none :: xW) rmMd_look).room s m ([.ref (bd 0)] : List Value).toArray below meth c H locs 0 0 Q (F0 m 50 ls []) := by
          intro K113 hK113 k
          induction k with
          | zero => intro v3_L50 mDominators_L50 ls H locs hl hP hD hS hw; exact False.elim hw
          | succ k ih =>
            intro v3_L50 mDominators_L50 ls H locs hl hP hD hS hw
            refine lv_iload_n hx hb dMd_look_50 rfl (lv_at hl 3 rfl) ?_
            refine lv_aload_n hx hb dMd_look_51 rfl (lv_at hl 0 rfl) ?_
            refine va_get (D := D) (ci := 7) (v := .int (nI N)) (C := "OnceNamedModel") (T := TX7) (N := 34) hx hb hts (fun w h => List.mem_cons_of_mem _ (inX7 w h)) hown hK hP 0 rfl rfl 1 (by decide) (hts _ (List.mem_cons_of_mem _ kw_986)) (fun _ h9 => h9) rfl dMd_look_52 ?_
            refine lv_icmp_ge (tgt := 113) hx hb dMd_look_55 rfl (fun hc => ?_) (fun hc => ?_)
            · have hw := hw.1 hc
              exact hK113 v3_L50 mDominators_L50 _ _ _ (lv_sub hl [0, 1, 2, 3] rfl) hP hD hS hw
            · have hw := hw.2 hc
              refine lv_aload_n hx hb dMd_look_58 rfl (lv_at hl 0 rfl) ?_
              refine lv_aload_n hx hb dMd_look_59 rfl (lv_at hl 0 rfl) ?_
              refine va_get (D := D) (ci := 7) (v := .int r3) (C := "OnceNamedModel") (T := TX7) (N := 34) hx hb hts (fun w h => List.mem_cons_of_mem _ (inX7 w h)) hown hK hP 0 rfl rfl 12 (by decide) (hts _ (List.mem_cons_of_mem _ kw_997)) (fun _ h9 => h9) rfl dMd_look_60 ?_
              refine lv_iload_n hx hb dMd_look_63 rfl (lv_at hl 1 rfl) ?_
              refine xci (va_runV ⟨hx, hb, hml, hown, hts⟩ (ktMd_has l D cA cB bd N _ r3 v1_L34 _ hw) (cwV 2 hts (goodV kw_1133 kw_1135 ks_4_0 kw_11 kw_1136) rfl rfl rfl (by decide +kernel) ⟨Nat.le_of_ble_eq_true rfl, Nat.le_of_ble_eq_true rfl⟩) (xpreV hK hP hD hN [] rfl rfl 0 rfl rfl) rfl rfl hl.1 rfl (lv_room (Nat.le_of_ble_eq_true rfl)) dMd_look_64 ⟨Nat.le_of_ble_eq_true rfl, Nat.le_of_ble_eq_true rfl⟩) hP hD hS hA [] [0, 1, 2, 3, 4] rfl rfl rfl rfl [0, 1, 2, 3, 4] rfl (fun _ => rfl) (fun r64 u H locs hw hP hD hS => ?_)
              obtain ⟨r64, rfl, hw⟩ := hw
              have hP : va_P D vwCl (wdMd_look cA cB bd N mThrown r3 mForm mSlot mOver mEnds mYes mNo mDominators_L50) H := hP
              have hD : va_D A (wdMd_look cA cB bd N mThrown r3 mForm mSlot mOver mEnds mYes mNo mDominators_L50) := hD
              refine lv_if_eq (tgt := 107) hx hb dMd_look_67 rfl (fun hc => ?_) (fun hc => ?_)
              · have hw := hw.1 (bI_0 hc)
                refine lv_iinc (k := 3) (v := (v3_L50 + 1)) (lv' := [(3, .int (v3_L50 + 1)), (0, .ref (bd 0)), (1, .int v1_L34), (2, .int r44)]) hx hb dMd_look_107 hl rfl rfl (by decide) rfl (fun ls hl => ?_)
                refine lv_goto (tgt := 50) hx hb dMd_look_110 rfl ?_
                exact ih (v3_L50 + 1) mDominators_L50 _ _ _ (lv_sub hl [1, 2, 3, 0] rfl) hP hD hS hw
              · have hw := hw.2 (bI_1 hc)
                refine lv_aload_n hx hb dMd_look_70 rfl (lv_at hl 0 rfl) ?_
                refine lv_aload_n hx hb dMd_look_71 rfl (lv_at hl 0 rfl) ?_
                refine va_get (D := D) (ci := 7) (v := .int r3) (C := "OnceNamedModel") (T := TX7) (N := 34) hx hb hts (fun w h => List.mem_cons_of_mem _ (inX7 w h)) hown hK hP 0 rfl rfl 12 (by decide) (hts _ (List.mem_cons_of_mem _ kw_997)) (fun _ h9 => h9) rfl dMd_look_72 ?_
                refine lv_iload_n hx hb dMd_look_75 rfl (lv_at hl 3 rfl) ?_
                refine xci (va_runV ⟨hx, hb, hml, hown, hts⟩ (ktMd_has l D cA cB bd N _ r3 v3_L50 _ hw) (cwV 2 hts (goodV kw_1133 kw_1135 ks_4_0 kw_11 kw_1136) rfl rfl rfl (by decide +kernel) ⟨Nat.le_of_ble_eq_true rfl, Nat.le_of_ble_eq_true rfl⟩) (xpreV hK hP hD hN [] rfl rfl 0 rfl rfl) rfl rfl hl.1 rfl (lv_room (Nat.le_of_ble_eq_true rfl)) dMd_look_76 ⟨Nat.le_of_ble_eq_true rfl, Nat.le_of_ble_eq_true rfl⟩) hP hD hS hA [] [0, 1, 2, 3, 4] rfl rfl rfl rfl [0, 1, 2, 3, 4] rfl (fun _ => rfl) (fun r76 u H locs hw hP hD hS => ?_)
                obtain ⟨r76, rfl, hw⟩ := hw
                have hP : va_P D vwCl (wdMd_look cA cB bd N mThrown r3 mForm mSlot mOver mEnds mYes mNo mDominators_L50) H := hP
                have hD : va_D A (wdMd_look cA cB bd N mThrown r3 mForm mSlot mOver mEnds mYes mNo mDominators_L50) := hD
                refine lv_if_eq (tgt := 107) hx hb dMd_look_79 rfl (fun hc => ?_) (fun hc => ?_)
                · have hw := hw.1 (bI_0 hc)
                  refine lv_iinc (k := 3) (v := (v3_L50 + 1)) (lv' := [(3, .int (v3_L50 + 1)), (0, .ref (bd 0)), (1, .int v1_L34), (2, .int r44)]) hx hb dMd_look_107 hl rfl rfl (by decide) rfl (fun ls hl => ?_)
                  refine lv_goto (tgt := 50) hx hb dMd_look_110 rfl ?_
                  exact ih (v3_L50 + 1) mDominators_L50 _ _ _ (lv_sub hl [1, 2, 3, 0] rfl) hP hD hS hw
                · have hw := hw.2 (bI_1 hc)
                  refine lv_aload_n hx hb dMd_look_82 rfl (lv_at hl 0 rfl) ?_
                  refine lv_iload_n hx hb dMd_look_83 rfl (lv_at hl 2 rfl) ?_
                  refine lv_iload_n hx hb dMd_look_84 rfl (lv_at hl 3 rfl) ?_
                  refine xci (va_runV ⟨hx, hb, hml, hown, hts⟩ (ktMd_has l D cA cB bd N _ r44 v3_L50 _ hw) (cwV 2 hts (goodV kw_1133 kw_1135 ks_4_0 kw_11 kw_1136) rfl rfl rfl (by decide +kernel) ⟨Nat.le_of_ble_eq_true rfl, Nat.le_of_ble_eq_true rfl⟩) (xpreV hK hP hD hN [] rfl rfl 0 rfl rfl) rfl rfl hl.1 rfl (lv_room (Nat.le_of_ble_eq_true rfl)) dMd_look_85 ⟨Nat.le_of_ble_eq_true rfl, Nat.le_of_ble_eq_true rfl⟩) hP hD hS hA [] [0, 1, 2, 3, 4] rfl rfl rfl rfl [0, 1, 2, 3, 4] rfl (fun _ => rfl) (fun r85 u H locs hw hP hD hS => ?_)
                  obtain ⟨r85, rfl, hw⟩ := hw
                  have hP : va_P D vwCl (wdMd_look cA cB bd N mThrown r3 mForm mSlot mOver mEnds mYes mNo mDominators_L50) H := hP
                  have hD : va_D A (wdMd_look cA cB bd N mThrown r3 mForm mSlot mOver mEnds mYes mNo mDominators_L50) := hD
                  refine lv_if_ne (tgt := 107) hx hb dMd_look_88 rfl (fun hc => ?_) (fun hc => ?_)
                  · have hw := hw.1 (bI_1 hc)
                    refine lv_iinc (k := 3) (v := (v3_L50 + 1)) (lv' := [(3, .int (v3_L50 + 1)), (0, .ref (bd 0)), (1, .int v1_L34), (2, .int r44)]) hx hb dMd_look_107 hl rfl rfl (by decide) rfl (fun ls hl => ?_)
                    refine lv_goto (tgt := 50) hx hb dMd_look_110 rfl ?_
                    exact ih (v3_L50 + 1) mDominators_L50 _ _ _ (lv_sub hl [1, 2, 3, 0] rfl) hP hD hS hw
                  · have hw := hw.2 (bI_0 hc)
                    refine lv_aload_n hx hb dMd_look_91 rfl (lv_at hl 0 rfl) ?_
                    refine va_get (D := D) (ci := 7) (v := .ref (bd 11)) (C := "OnceNamedModel") (T := TX7) (N := 34) hx hb hts (fun w h => List.mem_cons_of_mem _ (inX7 w h)) hown hK hP 0 rfl rfl 13 (by decide) (hts _ (List.mem_cons_of_mem _ kw_998)) (fun _ h9 => h9) rfl dMd_look_92 ?_
                    refine lv_iload_n hx hb dMd_look_95 rfl (lv_at hl 3 rfl) ?_
                    refine lv_aload_n hx hb dMd_look_96 rfl (lv_at hl 0 rfl) ?_
                    refine va_get (D := D) (ci := 7) (v := .ref (bd 11)) (C := "OnceNamedModel") (T := TX7) (N := 34) hx hb hts (fun w h => List.mem_cons_of_mem _ (inX7 w h)) hown hK hP 0 rfl rfl 13 (by decide) (hts _ (List.mem_cons_of_mem _ kw_998)) (fun _ h9 => h9) rfl dMd_look_97 ?_
                    refine lv_iload_n hx hb dMd_look_100 rfl (lv_at hl 3 rfl) ?_
                    have ho := hw.1
                    have hw := hw.2
                    refine va_iald hx hb hK hP 4 0 rfl rfl ho dMd_look_101 ?_
                    refine lv_iconst (v := 1) hx hb dMd_look_102 (by decide) ?_
                    refine lv_iload_n hx hb dMd_look_103 rfl (lv_at hl 1 rfl) ?_
                    refine lv_ishl hx hb dMd_look_104 ?_
                    refine lv_ior hx hb dMd_look_105 ?_
                    have ho := hw.1
                    have hw := hw.2
                    refine va_iast hx hb hK hP hD hS 4 0 rfl rfl ho dMd_look_106 (fun H locs hP hD hS => ?_)
                    have hP : va_P D vwCl (wdMd_look cA cB bd N mThrown r3 mForm mSlot mOver mEnds mYes mNo (upd mDominators_L50 (Int32.toNatClampNeg v3_L50) ((mDominators_L50 (Int32.toNatClampNeg v3_L50)) ||| ((1 : Int32) <<< (v1_L34 &&& 31))))) H := hP
                    have hD : va_D A (wdMd_look cA cB bd N mThrown r3 mForm mSlot mOver mEnds mYes mNo (upd mDominators_L50 (Int32.toNatClampNeg v3_L50) ((mDominators_L50 (Int32.toNatClampNeg v3_L50)) ||| ((1 : Int32) <<< (v1_L34 &&& 31))))) := hD
                    refine lv_iinc (k := 3) (v := (v3_L50 + 1)) (lv' := [(3, .int (v3_L50 + 1)), (0, .ref (bd 0)), (1, .int v1_L34), (2, .int r44)]) hx hb dMd_look_107 hl rfl rfl (by decide) rfl (fun ls hl => ?_)
                    refine lv_goto (tgt := 50) hx hb dMd_look_110 rfl ?_
                    exact ih (v3_L50 + 1) (upd mDominators_L50 (Int32.toNatClampNeg v3_L50) ((mDominators_L50 (Int32.toNatClampNeg v3_L50)) ||| ((1 : Int32) <<< (v1_L34 &&& 31)))) _ _ _ (lv_sub hl [1, 2, 3, 0] rfl) hP hD hS hw
        refine hlp50 _ ?_ k50 0 mDominators_L34 _ _ _ (lv_sub hl [2, 3, 1, 0] rfl) hP hD hS hw
        intro v3_x113 mDominators_x113 ls H locs hl hP hD hS hw
        try dsimp only at hw
        refine lv_iinc (k := 1) (v := (v1_L34 + 1)) (lv' := [(1, .int (v1_L34 + 1)), (0, .ref (bd 0)), (2, .int r44), (3, .int v3_x113)]) hx hb dMd_look_113 hl rfl rfl (by decide) rfl (fun ls hl => ?_)
        refine lv_goto (tgt := 34) hx hb dMd_look_116 rfl ?_
        exact ih (v1_L34 + 1) mDominators_x113 _ _ _ (lv_sub hl [1, 0] rfl) hP hD hS hw
  refine hlp34 k34 0 mDominators_x32 _ _ _ (lv_sub hl [1, 0] rfl) hP hD hS hw
abbrev wdMd_countOf (cA : ClassId) (cB : ClassId) (bd : Nat → Nat) (N : Nat) (mThrown : Int32) (mReached : Int32) (mForm : Bool) (mSlot : Int32) (mOver : Bool) : va_W := [((bd 0), .inr (7, [.int mThrown, .int (nI N), .ref (bd 1), .ref (bd 2), .ref (bd 3), .ref (bd 4), .ref (bd 5), .ref (bd 6), .ref (bd 7), .ref (bd 8), .ref (bd 9), .ref (bd 10), .int mReached, .ref (bd 11), .int (bI mForm), .ref (bd 12), .ref (bd 13), .ref (bd 14), .ref (bd 15), .ref (bd 16), .ref (bd 17), .ref (bd 18), .ref (bd 19), .ref (bd 20), .ref (bd 21), .ref (bd 22), .ref (bd 23), .ref (bd 24), .ref (bd 25), .ref (bd 26), .ref (bd 27), .ref (bd 28), .int mSlot, .int (bI mOver)]))]
abbrev qcMd_countOf (D : va_G) (cA : ClassId) (cB : ClassId) (bd : Nat → Nat) (N : Nat) (mThrown : Int32) (mReached : Int32) (mForm : Bool) (mSlot : Int32) (mOver : Bool) (post : Int32 → Prop) (A : Nat → Prop) : Array Value → State → Outcome → State → Prop := va_Qi (S := Unit) (fun r u => post r ) (fun u t => xB D [(cA, .int), (cB, .boolean)] A (wdMd_countOf cA cB bd N mThrown mReached mForm mSlot mOver) t) A
abbrev rmMd_countOf : Room := { frames := 0, cells := 0, slots := 0, locals := 0 }
set_option maxHeartbeats 4000000 in
set_option maxRecDepth 100000 in
theorem ktMd_countOf (l : Launch) (D : va_G) (cA : ClassId) (cB : ClassId) (bd : Nat → Nat) (N : Nat) (sz : Nat) (mThrown : Int32) (mReached : Int32) (mForm : Bool) (mSlot : Int32) (mOver : Bool) (v1 : Int32) (post : Int32 → Prop) (hw : wpMd_countOf N v1 post) : Met l yMd_countOf (Cond.code yMd_countOf cMd_countOf 4 (some .int) :: xW) rmMd_countOf (va_Pc [.ref (bd 0), .int v1] (xPc D [(cA, .int), (cB, .boolean)] (wdMd_countOf cA cB bd N mThrown mReached mForm mSlot mOver) sz)) (qcMd_countOf D cA cB bd N mThrown mReached mForm mSlot mOver post (va_A (wdMd_countOf cA cB bd N mThrown mReached mForm mSlot mOver) sz)) 0 0 (va_A (wdMd_countOf cA cB bd N mThrown mReached mForm mSlot mOver) sz) := by
  refine Met.ofW (cc := cMd_countOf) (maxL := 4) (ret := (some .int)) (by decide) rfl ?_
  intro p e s m args below meth c s₁ B hml hv
  obtain ⟨rfl, hsz, hP, hK, hD0, hN⟩ := hv
  have hx := B.exec
  have hb := B.bytes
  have hr := B.returns
  have hts := atoms_spec (ws := (Cond.code yMd_countOf cMd_countOf 4 (some .int) :: xW)) B.pre
  have hown : s.vm.findClass "OnceNamedModel" = some m.cls := findClass_of_methodNamed B.named
  have hlocks := B.notSynchronized
  subst hsz
  have hD := hD0.self (sz := s.heap.size)
  generalize hAe : va_A (wdMd_countOf cA cB bd N mThrown mReached mForm mSlot mOver) s.heap.size = A at hD ⊢
  have hA : ∀ q : Nat, s.heap.size ≤ q → A q := fun q h => by rw [← hAe]; exact Or.inr h
  have hS : va_S A s.heap s.heap [] := va_S.rf
  have hend : ∀ (r : Int32)  (H : Heap) (locs : List Loc) (pc : Nat) (ls : Array Slot), decode cMd_countOf pc = .ok (.ireturn, 1) → va_P D vwCl (wdMd_countOf cA cB bd N mThrown mReached mForm mSlot mOver) H → va_D A (wdMd_countOf cA cB bd N mThrown mReached mForm mSlot mOver) → va_S A s.heap H locs → post r  → W p l e (headSpec (Cond.code yMd_countOf cMd_countOf 4 (some .int) :: xW) rmMd_countOf).room s m ([.ref (bd 0), .int v1] : List Value).toArray below meth c H locs 0 0 (MQ below (qcMd_countOf D cA cB bd N mThrown mReached mForm mSlot mOver post A) ([.ref (bd 0), .int v1] : List Value).toArray s 0 0 A) (F0 m pc ls [.int r]) := fun r  H locs pc ls hd hP hD hS hw => W.iret (v := r) hx hb hr (fun t ht hW => ⟨⟨r, (), rfl, hw, ⟨by rw [ht]; exact hP, va_K.moved hW.alike hK, hD⟩⟩, hS.F ht⟩) hS.2.2 hd
  generalize hQ : MQ below (qcMd_countOf D cA cB bd N mThrown mReached mForm mSlot mOver post A) ([.ref (bd 0), .int v1] : List Value).toArray s 0 0 A = Q at hend ⊢
  have hl := lv_entry ([.ref (bd 0), .int v1]) (n := 4) (Nat.le_of_ble_eq_true rfl)
  rw [lg_entry_eq]
  generalize (lg_sl ([.ref (bd 0), .int v1]) ++ List.replicate (4 - (lg_sl ([.ref (bd 0), .int v1])).length) Slot.unset).toArray = ls at hl ⊢
  have hl : lv_has ls 4 [(0, .ref (bd 0)), (1, .int v1)] := hl
  unfold wpMd_countOf at hw
  refine lv_iconst (v := 0) hx hb dMd_countOf_0 (by decide) ?_
  refine lv_istore_n (lv' := [(2, .int 0), (0, .ref (bd 0)), (1, .int v1)]) hx hb dMd_countOf_1 rfl hl (by decide) rfl (fun ls hl => ?_)
  refine lv_iconst (v := 0) hx hb dMd_countOf_2 (by decide) ?_
  refine lv_istore_n (lv' := [(3, .int 0), (2, .int 0), (0, .ref (bd 0)), (1, .int v1)]) hx hb dMd_countOf_3 rfl hl (by decide) rfl (fun ls hl => ?_)
  obtain ⟨k4, hw⟩ := hw
  have hlp4 : ∀ (k : Nat), ∀ (v2_L4 : Int32) (v3_L4 : Int32) (ls : Array Slot) (H : Heap) (locs : List Loc), lv_has ls 4 [(0, .ref (bd 0)), (1, .int v1), (2, .int v2_L4), (3, .int v3_L4)] → va_P D vwCl (wdMd_countOf cA cB bd N mThrown mReached mForm mSlot mOver) H → va_D A (wdMd_countOf cA cB bd N mThrown mReached mForm mSlot mOver) → va_S A s.heap H locs → lpMd_countOf_4 N v1 post k v2_L4 v3_L4 → W p l e (headSpec (Cond.code yMd_countOf cMd_countOf 4 (some .int) :: xW) rmMd_countOf).room s m ([.ref (bd 0), .int v1] : List Value).toArray below meth c H locs 0 0 Q (F0 m 4 ls []) := by
    intro k
    induction k with
    | zero => intro v2_L4 v3_L4 ls H locs hl hP hD hS hw; exact False.elim hw
    | succ k ih =>
      intro v2_L4 v3_L4 ls H locs hl hP hD hS hw
      refine lv_iload_n hx hb dMd_countOf_4 rfl (lv_at hl 3 rfl) ?_
      refine lv_aload_n hx hb dMd_countOf_5 rfl (lv_at hl 0 rfl) ?_
      refine va_get (D := D) (ci := 7) (v := .int (nI N)) (C := "OnceNamedModel") (T := TX7) (N := 34) hx hb hts (fun w h => List.mem_cons_of_mem _ (inX7 w h)) hown hK hP 0 rfl rfl 1 (by decide) (hts _ (List.mem_cons_of_mem _ kw_986)) (fun _ h9 => h9) rfl dMd_countOf_6 ?_
      refine lv_icmp_ge (tgt := 26) hx hb dMd_countOf_9 rfl (fun hc => ?_) (fun hc => ?_)
      · have hw := hw.1 hc
        refine lv_iload_n hx hb dMd_countOf_26 rfl (lv_at hl 2 rfl) ?_
        exact hend v2_L4 _ _ _ _ dMd_countOf_27 hP hD hS hw
      · have hw := hw.2 hc
        refine lv_iload_n hx hb dMd_countOf_12 rfl (lv_at hl 2 rfl) ?_
        refine lv_iload_n hx hb dMd_countOf_13 rfl (lv_at hl 1 rfl) ?_
        refine lv_iload_n hx hb dMd_countOf_14 rfl (lv_at hl 3 rfl) ?_
        refine lv_ishr hx hb dMd_countOf_15 ?_
        refine lv_iconst (v := 1) hx hb dMd_countOf_16 (by decide) ?_
        refine lv_iand hx hb dMd_countOf_17 ?_
        refine lv_iadd hx hb dMd_countOf_18 ?_
        refine lv_topi (fun v2_19 e_v2_19 => ?_)
        have hw := hw v2_19 e_v2_19
        refine lv_istore_n (lv' := [(2, .int v2_19), (0, .ref (bd 0)), (1, .int v1), (3, .int v3_L4)]) hx hb dMd_countOf_19 rfl hl (by decide) rfl (fun ls hl => ?_)
        refine lv_iinc (k := 3) (v := (v3_L4 + 1)) (lv' := [(3, .int (v3_L4 + 1)), (2, .int v2_19), (0, .ref (bd 0)), (1, .int v1)]) hx hb dMd_countOf_20 hl rfl rfl (by decide) rfl (fun ls hl => ?_)
        refine lv_goto (tgt := 4) hx hb dMd_countOf_23 rfl ?_
        exact ih v2_19 (v3_L4 + 1) _ _ _ (lv_sub hl [2, 3, 1, 0] rfl) hP hD hS hw
  refine hlp4 k4 0 0 _ _ _ (lv_sub hl [2, 3, 1, 0] rfl) hP hD hS hw
abbrev wdMd_parentOf (cA : ClassId) (cB : ClassId) (bd : Nat → Nat) (N : Nat) (mThrown : Int32) (mReached : Int32) (mForm : Bool) (mSlot : Int32) (mOver : Bool) (mDominators : Nat → Int32) : va_W := [((bd 0), .inr (7, [.int mThrown, .int (nI N), .ref (bd 1), .ref (bd 2), .ref (bd 3), .ref (bd 4), .ref (bd 5), .ref (bd 6), .ref (bd 7), .ref (bd 8), .ref (bd 9), .ref (bd 10), .int mReached, .ref (bd 11), .int (bI mForm), .ref (bd 12), .ref (bd 13), .ref (bd 14), .ref (bd 15), .ref (bd 16), .ref (bd 17), .ref (bd 18), .ref (bd 19), .ref (bd 20), .ref (bd 21), .ref (bd 22), .ref (bd 23), .ref (bd 24), .ref (bd 25), .ref (bd 26), .ref (bd 27), .ref (bd 28), .int mSlot, .int (bI mOver)])), ((bd 11), .inl (cA, 12, .inl mDominators))]
abbrev qcMd_parentOf (D : va_G) (cA : ClassId) (cB : ClassId) (bd : Nat → Nat) (N : Nat) (mThrown : Int32) (mReached : Int32) (mForm : Bool) (mSlot : Int32) (mOver : Bool) (mDominators : Nat → Int32) (post : Int32 → Prop) (A : Nat → Prop) : Array Value → State → Outcome → State → Prop := va_Qi (S := Unit) (fun r u => post r ) (fun u t => xB D [(cA, .int), (cB, .boolean)] A (wdMd_parentOf cA cB bd N mThrown mReached mForm mSlot mOver mDominators) t) A
abbrev rmMd_parentOf : Room := { frames := 1, cells := 0, slots := 0, locals := 23 }
set_option maxHeartbeats 4000000 in
set_option maxRecDepth 100000 in
theorem ktMd_parentOf (l : Launch) (D : va_G) (cA : ClassId) (cB : ClassId) (bd : Nat → Nat) (N : Nat) (sz : Nat) (mThrown : Int32) (mReached : Int32) (mForm : Bool) (mSlot : Int32) (mOver : Bool) (mDominators : Nat → Int32) (v1 : Int32) (post : Int32 → Prop) (hw : wpMd_parentOf N mDominators v1 post) : Met l yMd_parentOf (Cond.code yMd_parentOf cMd_parentOf 5 (some .int) :: xW) rmMd_parentOf (va_Pc [.ref (bd 0), .int v1] (xPc D [(cA, .int), (cB, .boolean)] (wdMd_parentOf cA cB bd N mThrown mReached mForm mSlot mOver mDominators) sz)) (qcMd_parentOf D cA cB bd N mThrown mReached mForm mSlot mOver mDominators post (va_A (wdMd_parentOf cA cB bd N mThrown mReached mForm mSlot mOver mDominators) sz)) 0 0 (va_A (wdMd_parentOf cA cB bd N mThrown mReached mForm mSlot mOver mDominators) sz) := by
  refine Met.ofW (cc := cMd_parentOf) (maxL := 5) (ret := (some .int)) (by decide) rfl ?_
  intro p e s m args below meth c s₁ B hml hv
  obtain ⟨rfl, hsz, hP, hK, hD0, hN⟩ := hv
  have hx := B.exec
  have hb := B.bytes
  have hr := B.returns
  have hts := atoms_spec (ws := (Cond.code yMd_parentOf cMd_parentOf 5 (some .int) :: xW)) B.pre
  have hown : s.vm.findClass "OnceNamedModel" = some m.cls := findClass_of_methodNamed B.named
  have hlocks := B.notSynchronized
  subst hsz
  have hD := hD0.self (sz := s.heap.size)
  generalize hAe : va_A (wdMd_parentOf cA cB bd N mThrown mReached mForm mSlot mOver mDominators) s.heap.size = A at hD ⊢
  have hA : ∀ q : Nat, s.heap.size ≤ q → A q := fun q h => by rw [← hAe]; exact Or.inr h
  have hS : va_S A s.heap s.heap [] := va_S.rf
  have hend : ∀ (r : Int32)  (H : Heap) (locs : List Loc) (pc : Nat) (ls : Array Slot), decode cMd_parentOf pc = .ok (.ireturn, 1) → va_P D vwCl (wdMd_parentOf cA cB bd N mThrown mReached mForm mSlot mOver mDominators) H → va_D A (wdMd_parentOf cA cB bd N mThrown mReached mForm mSlot mOver mDominators) → va_S A s.heap H locs → post r  → W p l e (headSpec (Cond.code yMd_parentOf cMd_parentOf 5 (some .int) :: xW) rmMd_parentOf).room s m ([.ref (bd 0), .int v1] : List Value).toArray below meth c H locs 0 0 (MQ below (qcMd_parentOf D cA cB bd N mThrown mReached mForm mSlot mOver mDominators post A) ([.ref (bd 0), .int v1] : List Value).toArray s 0 0 A) (F0 m pc ls [.int r]) := fun r  H locs pc ls hd hP hD hS hw => W.iret (v := r) hx hb hr (fun t ht hW => ⟨⟨r, (), rfl, hw, ⟨by rw [ht]; exact hP, va_K.moved hW.alike hK, hD⟩⟩, hS.F ht⟩) hS.2.2 hd
  generalize hQ : MQ below (qcMd_parentOf D cA cB bd N mThrown mReached mForm mSlot mOver mDominators post A) ([.ref (bd 0), .int v1] : List Value).toArray s 0 0 A = Q at hend ⊢
  have hl := lv_entry ([.ref (bd 0), .int v1]) (n := 5) (Nat.le_of_ble_eq_true rfl)
  rw [lg_entry_eq]
  generalize (lg_sl ([.ref (bd 0), .int v1]) ++ List.replicate (5 - (lg_sl ([.ref (bd 0), .int v1])).length) Slot.unset).toArray = ls at hl ⊢
  have hl : lv_has ls 5 [(0, .ref (bd 0)), (1, .int v1)] := hl
  unfold wpMd_parentOf at hw
  refine lv_aload_n hx hb dMd_parentOf_0 rfl (lv_at hl 0 rfl) ?_
  refine va_get (D := D) (ci := 7) (v := .int (nI N)) (C := "OnceNamedModel") (T := TX7) (N := 34) hx hb hts (fun w h => List.mem_cons_of_mem _ (inX7 w h)) hown hK hP 0 rfl rfl 1 (by decide) (hts _ (List.mem_cons_of_mem _ kw_986)) (fun _ h9 => h9) rfl dMd_parentOf_1 ?_
  refine lv_topi (fun v2_4 e_v2_4 => ?_)
  have hw := hw v2_4 e_v2_4
  refine lv_istore_n (lv' := [(2, .int v2_4), (0, .ref (bd 0)), (1, .int v1)]) hx hb dMd_parentOf_4 rfl hl (by decide) rfl (fun ls hl => ?_)
  refine lv_iconst (v := 0) hx hb dMd_parentOf_5 (by decide) ?_
  refine lv_istore_n (lv' := [(3, .int 0), (2, .int v2_4), (0, .ref (bd 0)), (1, .int v1)]) hx hb dMd_parentOf_6 rfl hl (by decide) rfl (fun ls hl => ?_)
  refine lv_iconst (v := 0) hx hb dMd_parentOf_7 (by decide) ?_
  refine lv_istore (lv' := [(4, .int 0), (3, .int 0), (2, .int v2_4), (0, .ref (bd 0)), (1, .int v1)]) hx hb dMd_parentOf_8 hl (by decide) rfl (fun ls hl => ?_)
  obtain ⟨k10, hw⟩ := hw
  have hlp10 : ∀ (k : Nat), ∀ (v2_L10 : Int32) (v3_L10 : Int32) (v4_L10 : Int32) (ls : Array Slot) (H : Heap) (locs : List Loc), lv_has ls 5 [(0, .ref (bd 0)), (1, .int v1), (2, .int v2_L10), (3, .int v3_L10), (4, .int v4_L10)] → va_P D vwCl (wdMd_parentOf cA cB bd N mThrown mReached mForm mSlot mOver mDominators) H → va_D A (wdMd_parentOf cA cB bd N mThrown mReached mForm mSlot mOver mDominators) → va_S A s.heap H locs → lpMd_parentOf_10 N v1 mDominators post k v2_L10 v3_L10 v4_L10 → W p l e (headSpec (Cond.code yMd_parentOf cMd_parentOf 5 (some .int) :: xW) rmMd_parentOf).room s m ([.ref (bd 0), .int v1] : List Value).toArray below meth c H locs 0 0 Q (F0 m 10 ls []) := by
    intro k
    induction k with
    | zero => intro v2_L10 v3_L10 v4_L10 ls H locs hl hP hD hS hw; exact False.elim hw
    | succ k ih =>
      intro v2_L10 v3_L10 v4_L10 ls H locs hl hP hD hS hw
      refine lv_iload hx hb dMd_parentOf_10 (lv_at hl 4 rfl) ?_
      refine lv_aload_n hx hb dMd_parentOf_12 rfl (lv_at hl 0 rfl) ?_
      refine va_get (D := D) (ci := 7) (v := .int (nI N)) (C := "OnceNamedModel") (T := TX7) (N := 34) hx hb hts (fun w h => List.mem_cons_of_mem _ (inX7 w h)) hown hK hP 0 rfl rfl 1 (by decide) (hts _ (List.mem_cons_of_mem _ kw_986)) (fun _ h9 => h9) rfl dMd_parentOf_13 ?_
      refine lv_icmp_ge (tgt := 76) hx hb dMd_parentOf_16 rfl (fun hc => ?_) (fun hc => ?_)
      · have hw := hw.1 hc
        refine lv_iload_n hx hb dMd_parentOf_76 rfl (lv_at hl 2 rfl) ?_
        exact hend v2_L10 _ _ _ _ dMd_parentOf_77 hP hD hS hw
      · have hw := hw.2 hc
        refine lv_iload hx hb dMd_parentOf_19 (lv_at hl 4 rfl) ?_
        refine lv_iload_n hx hb dMd_parentOf_21 rfl (lv_at hl 1 rfl) ?_
        refine lv_icmp_eq (tgt := 70) hx hb dMd_parentOf_22 rfl (fun hc => ?_) (fun hc => ?_)
        · have hw := hw.1 hc
          refine lv_iinc (k := 4) (v := (v4_L10 + 1)) (lv' := [(4, .int (v4_L10 + 1)), (0, .ref (bd 0)), (1, .int v1), (2, .int v2_L10), (3, .int v3_L10)]) hx hb dMd_parentOf_70 hl rfl rfl (by decide) rfl (fun ls hl => ?_)
          refine lv_goto (tgt := 10) hx hb dMd_parentOf_73 rfl ?_
          exact ih v2_L10 v3_L10 (v4_L10 + 1) _ _ _ (lv_sub hl [1, 2, 3, 4, 0] rfl) hP hD hS hw
        · have hw := hw.2 hc
          refine lv_aload_n hx hb dMd_parentOf_25 rfl (lv_at hl 0 rfl) ?_
          refine lv_aload_n hx hb dMd_parentOf_26 rfl (lv_at hl 0 rfl) ?_
          refine va_get (D := D) (ci := 7) (v := .ref (bd 11)) (C := "OnceNamedModel") (T := TX7) (N := 34) hx hb hts (fun w h => List.mem_cons_of_mem _ (inX7 w h)) hown hK hP 0 rfl rfl 13 (by decide) (hts _ (List.mem_cons_of_mem _ kw_998)) (fun _ h9 => h9) rfl dMd_parentOf_27 ?_
          refine lv_iload_n hx hb dMd_parentOf_30 rfl (lv_at hl 1 rfl) ?_
          have ho := hw.1
          have hw := hw.2
          refine va_iald hx hb hK hP 1 0 rfl rfl ho dMd_parentOf_31 ?_
          refine lv_iload hx hb dMd_parentOf_32 (lv_at hl 4 rfl) ?_
          refine xci (va_runV ⟨hx, hb, hml, hown, hts⟩ (ktMd_has l D cA cB bd N _ (mDominators (Int32.toNatClampNeg v1)) v4_L10 _ hw) (cwV 2 hts (goodV kw_1133 kw_1135 ks_4_0 kw_11 kw_1136) rfl rfl rfl (by decide +kernel) ⟨Nat.le_of_ble_eq_true rfl, Nat.le_of_ble_eq_true rfl⟩) (xpreV hK hP hD hN [] rfl rfl 0 rfl rfl) rfl rfl hl.1 rfl (lv_room (Nat.le_of_ble_eq_true rfl)) dMd_parentOf_34 ⟨Nat.le_of_ble_eq_true rfl, Nat.le_of_ble_eq_true rfl⟩) hP hD hS hA [] [0, 1] rfl rfl rfl rfl [0, 1] rfl (fun _ => rfl) (fun r34 u H locs hw hP hD hS => ?_)
          obtain ⟨r34, rfl, hw⟩ := hw
          have hP : va_P D vwCl (wdMd_parentOf cA cB bd N mThrown mReached mForm mSlot mOver mDominators) H := hP
          have hD : va_D A (wdMd_parentOf cA cB bd N mThrown mReached mForm mSlot mOver mDominators) := hD
          refine lv_if_eq (tgt := 70) hx hb dMd_parentOf_37 rfl (fun hc => ?_) (fun hc => ?_)
          · have hw := hw.1 (bI_0 hc)
            refine lv_iinc (k := 4) (v := (v4_L10 + 1)) (lv' := [(4, .int (v4_L10 + 1)), (0, .ref (bd 0)), (1, .int v1), (2, .int v2_L10), (3, .int v3_L10)]) hx hb dMd_parentOf_70 hl rfl rfl (by decide) rfl (fun ls hl => ?_)
            refine lv_goto (tgt := 10) hx hb dMd_parentOf_73 rfl ?_
            exact ih v2_L10 v3_L10 (v4_L10 + 1) _ _ _ (lv_sub hl [1, 2, 3, 4, 0] rfl) hP hD hS hw
          · have hw := hw.2 (bI_1 hc)
            refine lv_aload_n hx hb dMd_parentOf_40 rfl (lv_at hl 0 rfl) ?_
            refine lv_aload_n hx hb dMd_parentOf_41 rfl (lv_at hl 0 rfl) ?_
            refine va_get (D := D) (ci := 7) (v := .ref (bd 11)) (C := "OnceNamedModel") (T := TX7) (N := 34) hx hb hts (fun w h => List.mem_cons_of_mem _ (inX7 w h)) hown hK hP 0 rfl rfl 13 (by decide) (hts _ (List.mem_cons_of_mem _ kw_998)) (fun _ h9 => h9) rfl dMd_parentOf_42 ?_
            refine lv_iload hx hb dMd_parentOf_45 (lv_at hl 4 rfl) ?_
            have ho := hw.1
            have hw := hw.2
            refine va_iald hx hb hK hP 1 0 rfl rfl ho dMd_parentOf_47 ?_
            refine xci (va_runV ⟨hx, hb, hml, hown, hts⟩ (ktMd_countOf l D cA cB bd N _ mThrown mReached mForm mSlot mOver (mDominators (Int32.toNatClampNeg v4_L10)) _ hw) (cwV 1 hts (goodV kw_1141 kw_1143 ks_4_2 kw_11 kw_1144) rfl rfl rfl (by decide +kernel) ⟨Nat.le_of_ble_eq_true rfl, Nat.le_of_ble_eq_true rfl⟩) (xpreV hK hP hD hN [0] rfl rfl 0 rfl rfl) rfl rfl hl.1 rfl (lv_room (Nat.le_of_ble_eq_true rfl)) dMd_parentOf_48 ⟨Nat.le_of_ble_eq_true rfl, Nat.le_of_ble_eq_true rfl⟩) hP hD hS hA [0] [1] rfl rfl rfl rfl [1, 0] rfl (fun _ => rfl) (fun r48 u H locs hw hP hD hS => ?_)
            have hP : va_P D vwCl (wdMd_parentOf cA cB bd N mThrown mReached mForm mSlot mOver mDominators) H := hP
            have hD : va_D A (wdMd_parentOf cA cB bd N mThrown mReached mForm mSlot mOver mDominators) := hD
            refine lv_iload_n hx hb dMd_parentOf_51 rfl (lv_at hl 3 rfl) ?_
            refine lv_icmp_le (tgt := 70) hx hb dMd_parentOf_52 rfl (fun hc => ?_) (fun hc => ?_)
            · have hw := hw.1 hc
              refine lv_iinc (k := 4) (v := (v4_L10 + 1)) (lv' := [(4, .int (v4_L10 + 1)), (0, .ref (bd 0)), (1, .int v1), (2, .int v2_L10), (3, .int v3_L10)]) hx hb dMd_parentOf_70 hl rfl rfl (by decide) rfl (fun ls hl => ?_)
              refine lv_goto (tgt := 10) hx hb dMd_parentOf_73 rfl ?_
              exact ih v2_L10 v3_L10 (v4_L10 + 1) _ _ _ (lv_sub hl [1, 2, 3, 4, 0] rfl) hP hD hS hw
            · have hw := hw.2 hc
              refine lv_iload hx hb dMd_parentOf_55 (lv_at hl 4 rfl) ?_
              refine lv_istore_n (lv' := [(2, .int v4_L10), (0, .ref (bd 0)), (1, .int v1), (3, .int v3_L10), (4, .int v4_L10)]) hx hb dMd_parentOf_57 rfl hl (by decide) rfl (fun ls hl => ?_)
              refine lv_aload_n hx hb dMd_parentOf_58 rfl (lv_at hl 1 rfl) ?_
              refine lv_aload_n hx hb dMd_parentOf_59 rfl (lv_at hl 1 rfl) ?_
              refine va_get (D := D) (ci := 7) (v := .ref (bd 11)) (C := "OnceNamedModel") (T := TX7) (N := 34) hx hb hts (fun w h => List.mem_cons_of_mem _ (inX7 w h)) hown hK hP 0 rfl rfl 13 (by decide) (hts _ (List.mem_cons_of_mem _ kw_998)) (fun _ h9 => h9) rfl dMd_parentOf_60 ?_
              refine lv_iload hx hb dMd_parentOf_63 (lv_at hl 4 rfl) ?_
              have ho := hw.1
              have hw := hw.2
              refine va_iald hx hb hK hP 1 0 rfl rfl ho dMd_parentOf_65 ?_
              refine xci (va_runV ⟨hx, hb, hml, hown, hts⟩ (ktMd_countOf l D cA cB bd N _ mThrown mReached mForm mSlot mOver (mDominators (Int32.toNatClampNeg v4_L10)) _ hw) (cwV 1 hts (goodV kw_1141 kw_1143 ks_4_2 kw_11 kw_1144) rfl rfl rfl (by decide +kernel) ⟨Nat.le_of_ble_eq_true rfl, Nat.le_of_ble_eq_true rfl⟩) (xpreV hK hP hD hN [0] rfl rfl 0 rfl rfl) rfl rfl hl.1 rfl (lv_room (Nat.le_of_ble_eq_true rfl)) dMd_parentOf_66 ⟨Nat.le_of_ble_eq_true rfl, Nat.le_of_ble_eq_true rfl⟩) hP hD hS hA [0] [1] rfl rfl rfl rfl [1, 0] rfl (fun _ => rfl) (fun r66 u H locs hw hP hD hS => ?_)
              have hP : va_P D vwCl (wdMd_parentOf cA cB bd N mThrown mReached mForm mSlot mOver mDominators) H := hP
              have hD : va_D A (wdMd_parentOf cA cB bd N mThrown mReached mForm mSlot mOver mDominators) := hD
              refine lv_istore_n (lv' := [(3, .int r66), (2, .int v4_L10), (0, .ref (bd 0)), (1, .int v1), (4, .int v4_L10)]) hx hb dMd_parentOf_69 rfl hl (by decide) rfl (fun ls hl => ?_)
              refine lv_iinc (k := 4) (v := (v4_L10 + 1)) (lv' := [(4, .int (v4_L10 + 1)), (3, .int r66), (2, .int v4_L10), (0, .ref (bd 0)), (1, .int v1)]) hx hb dMd_parentOf_70 hl rfl rfl (by decide) rfl (fun ls hl => ?_)
              refine lv_goto (tgt := 10) hx hb dMd_parentOf_73 rfl ?_
              exact ih v4_L10 r66 (v4_L10 + 1) _ _ _ (lv_sub hl [3, 4, 2, 1, 0] rfl) hP hD hS hw
  refine hlp10 k10 v2_4 0 0 _ _ _ (lv_sub hl [3, 4, 2, 1, 0] rfl) hP hD hS hw
abbrev wdMd_strictly (cA : ClassId) (cB : ClassId) (bd : Nat → Nat) (N : Nat) (mThrown : Int32) (mReached : Int32) (mForm : Bool) (mSlot : Int32) (mOver : Bool) (mDominators : Nat → Int32) : va_W := [((bd 0), .inr (7, [.int mThrown, .int (nI N), .ref (bd 1), .ref (bd 2), .ref (bd 3), .ref (bd 4), .ref (bd 5), .ref (bd 6), .ref (bd 7), .ref (bd 8), .ref (bd 9), .ref (bd 10), .int mReached, .ref (bd 11), .int (bI mForm), .ref (bd 12), .ref (bd 13), .ref (bd 14), .ref (bd 15), .ref (bd 16), .ref (bd 17), .ref (bd 18), .ref (bd 19), .ref (bd 20), .ref (bd 21), .ref (bd 22), .ref (bd 23), .ref (bd 24), .ref (bd 25), .ref (bd 26), .ref (bd 27), .ref (bd 28), .int mSlot, .int (bI mOver)])), ((bd 11), .inl (cA, 12, .inl mDominators))]
abbrev qcMd_strictly (D : va_G) (cA : ClassId) (cB : ClassId) (bd : Nat → Nat) (N : Nat) (mThrown : Int32) (mReached : Int32) (mForm : Bool) (mSlot : Int32) (mOver : Bool) (mDominators : Nat → Int32) (post : Bool → Prop) (A : Nat → Prop) : Array Value → State → Outcome → State → Prop := va_Qi (S := Unit) (fun r u => ∃ z : Bool, r = bI z ∧ post z ) (fun u t => xB D [(cA, .int), (cB, .boolean)] A (wdMd_strictly cA cB bd N mThrown mReached mForm mSlot mOver mDominators) t) A
abbrev rmMd_strictly : Room := { frames := 1, cells := 0, slots := 0, locals := 22 }
set_option maxHeartbeats 4000000 in
set_option maxRecDepth 100000 in
theorem ktMd_strictly (l : Launch) (D : va_G) (cA : ClassId) (cB : ClassId) (bd : Nat → Nat) (N : Nat) (sz : Nat) (mThrown : Int32) (mReached : Int32) (mForm : Bool) (mSlot : Int32) (mOver : Bool) (mDominators : Nat → Int32) (v1 : Int32) (v2 : Int32) (post : Bool → Prop) (hw : wpMd_strictly N mDominators v1 v2 post) : Met l yMd_strictly (Cond.code yMd_strictly cMd_strictly 3 (some .boolean) :: xW) rmMd_strictly (va_Pc [.ref (bd 0), .int v1, .int v2] (xPc D [(cA, .int), (cB, .boolean)] (wdMd_strictly cA cB bd N mThrown mReached mForm mSlot mOver mDominators) sz)) (qcMd_strictly D cA cB bd N mThrown mReached mForm mSlot mOver mDominators post (va_A (wdMd_strictly cA cB bd N mThrown mReached mForm mSlot mOver mDominators) sz)) 0 0 (va_A (wdMd_strictly cA cB bd N mThrown mReached mForm mSlot mOver mDominators) sz) := by
  refine Met.ofW (cc := cMd_strictly) (maxL := 3) (ret := (some .boolean)) (by decide) rfl ?_
  intro p e s m args below meth c s₁ B hml hv
  obtain ⟨rfl, hsz, hP, hK, hD0, hN⟩ := hv
  have hx := B.exec
  have hb := B.bytes
  have hr := B.returns
  have hts := atoms_spec (ws := (Cond.code yMd_strictly cMd_strictly 3 (some .boolean) :: xW)) B.pre
  have hown : s.vm.findClass "OnceNamedModel" = some m.cls := findClass_of_methodNamed B.named
  have hlocks := B.notSynchronized
  subst hsz
  have hD := hD0.self (sz := s.heap.size)
  generalize hAe : va_A (wdMd_strictly cA cB bd N mThrown mReached mForm mSlot mOver mDominators) s.heap.size = A at hD ⊢
  have hA : ∀ q : Nat, s.heap.size ≤ q → A q := fun q h => by rw [← hAe]; exact Or.inr h
  have hS : va_S A s.heap s.heap [] := va_S.rf
  have hend : ∀ (r : Bool)  (H : Heap) (locs : List Loc) (pc : Nat) (ls : Array Slot), decode cMd_strictly pc = .ok (.ireturn, 1) → va_P D vwCl (wdMd_strictly cA cB bd N mThrown mReached mForm mSlot mOver mDominators) H → va_D A (wdMd_strictly cA cB bd N mThrown mReached mForm mSlot mOver mDominators) → va_S A s.heap H locs → post r  → W p l e (headSpec (Cond.code yMd_strictly cMd_strictly 3 (some .boolean) :: xW) rmMd_strictly).room s m ([.ref (bd 0), .int v1, .int v2] : List Value).toArray below meth c H locs 0 0 (MQ below (qcMd_strictly D cA cB bd N mThrown mReached mForm mSlot mOver mDominators post A) ([.ref (bd 0), .int v1, .int v2] : List Value).toArray s 0 0 A) (F0 m pc ls [.int (bI r)]) := fun r  H locs pc ls hd hP hD hS hw => W.zret (v := bI r) hx hb hr (bI_nar r) (fun t ht hW => ⟨⟨bI r, (), rfl, ⟨r, rfl, hw⟩, ⟨by rw [ht]; exact hP, va_K.moved hW.alike hK, hD⟩⟩, hS.F ht⟩) hS.2.2 hd
  generalize hQ : MQ below (qcMd_strictly D cA cB bd N mThrown mReached mForm mSlot mOver mDominators post A) ([.ref (bd 0), .int v1, .int v2] : List Value).toArray s 0 0 A = Q at hend ⊢
  have hl := lv_entry ([.ref (bd 0), .int v1, .int v2]) (n := 3) (Nat.le_of_ble_eq_true rfl)
  rw [lg_entry_eq]
  generalize (lg_sl ([.ref (bd 0), .int v1, .int v2]) ++ List.replicate (3 - (lg_sl ([.ref (bd 0), .int v1, .int v2])).length) Slot.unset).toArray = ls at hl ⊢
  have hl : lv_has ls 3 [(0, .ref (bd 0)), (1, .int v1), (2, .int v2)] := hl
  unfold wpMd_strictly at hw
  refine lv_iload_n hx hb dMd_strictly_0 rfl (lv_at hl 1 rfl) ?_
  refine lv_iload_n hx hb dMd_strictly_1 rfl (lv_at hl 2 rfl) ?_
  refine lv_icmp_eq (tgt := 31) hx hb dMd_strictly_2 rfl (fun hc => ?_) (fun hc => ?_)
  · have hw := hw.1 hc
    refine lv_iconst (v := 0) hx hb dMd_strictly_31 (by decide) ?_
    exact hend false _ _ _ _ dMd_strictly_32 hP hD hS hw
  · have hw := hw.2 hc
    refine lv_iload_n hx hb dMd_strictly_5 rfl (lv_at hl 1 rfl) ?_
    refine lv_aload_n hx hb dMd_strictly_6 rfl (lv_at hl 0 rfl) ?_
    refine va_get (D := D) (ci := 7) (v := .int (nI N)) (C := "OnceNamedModel") (T := TX7) (N := 34) hx hb hts (fun w h => List.mem_cons_of_mem _ (inX7 w h)) hown hK hP 0 rfl rfl 1 (by decide) (hts _ (List.mem_cons_of_mem _ kw_986)) (fun _ h9 => h9) rfl dMd_strictly_7 ?_
    refine lv_icmp_eq (tgt := 27) hx hb dMd_strictly_10 rfl (fun hc => ?_) (fun hc => ?_)
    · have hw := hw.1 hc
      refine lv_iconst (v := 1) hx hb dMd_strictly_27 (by decide) ?_
      refine lv_goto (tgt := 32) hx hb dMd_strictly_28 rfl ?_
      exact hend true _ _ _ _ dMd_strictly_32 hP hD hS hw
    · have hw := hw.2 hc
      refine lv_aload_n hx hb dMd_strictly_13 rfl (lv_at hl 0 rfl) ?_
      refine lv_aload_n hx hb dMd_strictly_14 rfl (lv_at hl 0 rfl) ?_
      refine va_get (D := D) (ci := 7) (v := .ref (bd 11)) (C := "OnceNamedModel") (T := TX7) (N := 34) hx hb hts (fun w h => List.mem_cons_of_mem _ (inX7 w h)) hown hK hP 0 rfl rfl 13 (by decide) (hts _ (List.mem_cons_of_mem _ kw_998)) (fun _ h9 => h9) rfl dMd_strictly_15 ?_
      refine lv_iload_n hx hb dMd_strictly_18 rfl (lv_at hl 2 rfl) ?_
      have ho := hw.1
      have hw := hw.2
      refine va_iald hx hb hK hP 1 0 rfl rfl ho dMd_strictly_19 ?_
      refine lv_iload_n hx hb dMd_strictly_20 rfl (lv_at hl 1 rfl) ?_
      refine xci (va_runV ⟨hx, hb, hml, hown, hts⟩ (ktMd_has l D cA cB bd N _ (mDominators (Int32.toNatClampNeg v2)) v1 _ hw) (cwV 2 hts (goodV kw_1133 kw_1135 ks_4_0 kw_11 kw_1136) rfl rfl rfl (by decide +kernel) ⟨Nat.le_of_ble_eq_true rfl, Nat.le_of_ble_eq_true rfl⟩) (xpreV hK hP hD hN [] rfl rfl 0 rfl rfl) rfl rfl hl.1 rfl (lv_room (Nat.le_of_ble_eq_true rfl)) dMd_strictly_21 ⟨Nat.le_of_ble_eq_true rfl, Nat.le_of_ble_eq_true rfl⟩) hP hD hS hA [] [0, 1] rfl rfl rfl rfl [0, 1] rfl (fun _ => rfl) (fun r21 u H locs hw hP hD hS => ?_)
      obtain ⟨r21, rfl, hw⟩ := hw
      have hP : va_P D vwCl (wdMd_strictly cA cB bd N mThrown mReached mForm mSlot mOver mDominators) H := hP
      have hD : va_D A (wdMd_strictly cA cB bd N mThrown mReached mForm mSlot mOver mDominators) := hD
      refine lv_if_eq (tgt := 31) hx hb dMd_strictly_24 rfl (fun hc => ?_) (fun hc => ?_)
      · have hw := hw.1 (bI_0 hc)
        refine lv_iconst (v := 0) hx hb dMd_strictly_31 (by decide) ?_
        exact hend false _ _ _ _ dMd_strictly_32 hP hD hS hw
      · have hw := hw.2 (bI_1 hc)
        refine lv_iconst (v := 1) hx hb dMd_strictly_27 (by decide) ?_
        refine lv_goto (tgt := 32) hx hb dMd_strictly_28 rfl ?_
        exact hend true _ _ _ _ dMd_strictly_32 hP hD hS hw
abbrev wdMd_inFrontier (cA : ClassId) (cB : ClassId) (bd : Nat → Nat) (N : Nat) (mThrown : Int32) (mReached : Int32) (mForm : Bool) (mSlot : Int32) (mOver : Bool) (mEnds : Nat → Int32) (mYes : Nat → Int32) (mNo : Nat → Int32) (mDominators : Nat → Int32) : va_W := [((bd 0), .inr (7, [.int mThrown, .int (nI N), .ref (bd 1), .ref (bd 2), .ref (bd 3), .ref (bd 4), .ref (bd 5), .ref (bd 6), .ref (bd 7), .ref (bd 8), .ref (bd 9), .ref (bd 10), .int mReached, .ref (bd 11), .int (bI mForm), .ref (bd 12), .ref (bd 13), .ref (bd 14), .ref (bd 15), .ref (bd 16), .ref (bd 17), .ref (bd 18), .ref (bd 19), .ref (bd 20), .ref (bd 21), .ref (bd 22), .ref (bd 23), .ref (bd 24), .ref (bd 25), .ref (bd 26), .ref (bd 27), .ref (bd 28), .int mSlot, .int (bI mOver)])), ((bd 6), .inl (cA, 12, .inl mEnds)), ((bd 8), .inl (cA, 12, .inl mYes)), ((bd 9), .inl (cA, 12, .inl mNo)), ((bd 11), .inl (cA, 12, .inl mDominators))]
abbrev qcMd_inFrontier (D : va_G) (cA : ClassId) (cB : ClassId) (bd : Nat → Nat) (N : Nat) (mThrown : Int32) (mReached : Int32) (mForm : Bool) (mSlot : Int32) (mOver : Bool) (mEnds : Nat → Int32) (mYes : Nat → Int32) (mNo : Nat → Int32) (mDominators : Nat → Int32) (post : Bool → Prop) (A : Nat → Prop) : Array Value → State → Outcome → State → Prop := va_Qi (S := Unit) (fun r u => ∃ z : Bool, r = bI z ∧ post z ) (fun u t => xB D [(cA, .int), (cB, .boolean)] A (wdMd_inFrontier cA cB bd N mThrown mReached mForm mSlot mOver mEnds mYes mNo mDominators) t) A
abbrev rmMd_inFrontier : Room := { frames := 2, cells := 0, slots := 0, locals := 44 }
set_option maxHeartbeats 4000000 in
set_option maxRecDepth 100000 in
theorem ktMd_inFrontier (l : Launch) (D : va_G) (cA : ClassId) (cB : ClassId) (bd : Nat → Nat) (N : Nat) (sz : Nat) (mThrown : Int32) (mReached : Int32) (mForm : Bool) (mSlot : Int32) (mOver : Bool) (mEnds : Nat → Int32) (mYes : Nat → Int32) (mNo : Nat → Int32) (mDominators : Nat → Int32) (v1 : Int32) (v2 : Int32) (post : Bool → Prop) (hw : wpMd_inFrontier N mReached mEnds mYes mNo mDominators v1 v2 post) : Met l yMd_inFrontier (Cond.code yMd_inFrontier cMd_inFrontier 5 (some .boolean) :: xW) rmMd_inFrontier (va_Pc [.ref (bd 0), .int v1, .int v2] (xPc D [(cA, .int), (cB, .boolean)] (wdMd_inFrontier cA cB bd N mThrown mReached mForm mSlot mOver mEnds mYes mNo mDominators) sz)) (qcMd_inFrontier D cA cB bd N mThrown mReached mForm mSlot mOver mEnds mYes mNo mDominators post (va_A (wdMd_inFrontier cA cB bd N mThrown mReached mForm mSlot mOver mEnds mYes mNo mDominators) sz)) 0 0 (va_A (wdMd_inFrontier cA cB bd N mThrown mReached mForm mSlot mOver mEnds mYes mNo mDominators) sz) := by
  refine Met.ofW (cc := cMd_inFrontier) (maxL := 5) (ret := (some .boolean)) (by decide) rfl ?_
  intro p e s m args below meth c s₁ B hml hv
  obtain ⟨rfl, hsz, hP, hK, hD0, hN⟩ := hv
  have hx := B.exec
  have hb := B.bytes
  have hr := B.returns
  have hts := atoms_spec (ws := (Cond.code yMd_inFrontier cMd_inFrontier 5 (some .boolean) :: xW)) B.pre
  have hown : s.vm.findClass "OnceNamedModel" = some m.cls := findClass_of_methodNamed B.named
  have hlocks := B.notSynchronized
  subst hsz
  have hD := hD0.self (sz := s.heap.size)
  generalize hAe : va_A (wdMd_inFrontier cA cB bd N mThrown mReached mForm mSlot mOver mEnds mYes mNo mDominators) s.heap.size = A at hD ⊢
  have hA : ∀ q : Nat, s.heap.size ≤ q → A q := fun q h => by rw [← hAe]; exact Or.inr h
  have hS : va_S A s.heap s.heap [] := va_S.rf
  have hend : ∀ (r : Bool)  (H : Heap) (locs : List Loc) (pc : Nat) (ls : Array Slot), decode cMd_inFrontier pc = .ok (.ireturn, 1) → va_P D vwCl (wdMd_inFrontier cA cB bd N mThrown mReached mForm mSlot mOver mEnds mYes mNo mDominators) H → va_D A (wdMd_inFrontier cA cB bd N mThrown mReached mForm mSlot mOver mEnds mYes mNo mDominators) → va_S A s.heap H locs → post r  → W p l e (headSpec (Cond.code yMd_inFrontier cMd_inFrontier 5 (some .boolean) :: xW) rmMd_inFrontier).room s m ([.ref (bd 0), .int v1, .int v2] : List Value).toArray below meth c H locs 0 0 (MQ below (qcMd_inFrontier D cA cB bd N mThrown mReached mForm mSlot mOver mEnds mYes mNo mDominators post A) ([.ref (bd 0), .int v1, .int v2] : List Value).toArray s 0 0 A) (F0 m pc ls [.int (bI r)]) := fun r  H locs pc ls hd hP hD hS hw => W.zret (v := bI r) hx hb hr (bI_nar r) (fun t ht hW => ⟨⟨bI r, (), rfl, ⟨r, rfl, hw⟩, ⟨by rw [ht]; exact hP, va_K.moved hW.alike hK, hD⟩⟩, hS.F ht⟩) hS.2.2 hd
  generalize hQ : MQ below (qcMd_inFrontier D cA cB bd N mThrown mReached mForm mSlot mOver mEnds mYes mNo mDominators post A) ([.ref (bd 0), .int v1, .int v2] : List Value).toArray s 0 0 A = Q at hend ⊢
  have hl := lv_entry ([.ref (bd 0), .int v1, .int v2]) (n := 5) (Nat.le_of_ble_eq_true rfl)
  rw [lg_entry_eq]
  generalize (lg_sl ([.ref (bd 0), .int v1, .int v2]) ++ List.replicate (5 - (lg_sl ([.ref (bd 0), .int v1, .int v2])).length) Slot.unset).toArray = ls at hl ⊢
  have hl : lv_has ls 5 [(0, .ref (bd 0)), (1, .int v1), (2, .int v2)] := hl
  unfold wpMd_inFrontier at hw
  refine lv_aload_n hx hb dMd_inFrontier_0 rfl (lv_at hl 0 rfl) ?_
  refine lv_aload_n hx hb dMd_inFrontier_1 rfl (lv_at hl 0 rfl) ?_
  refine va_get (D := D) (ci := 7) (v := .int mReached) (C := "OnceNamedModel") (T := TX7) (N := 34) hx hb hts (fun w h => List.mem_cons_of_mem _ (inX7 w h)) hown hK hP 0 rfl rfl 12 (by decide) (hts _ (List.mem_cons_of_mem _ kw_997)) (fun _ h9 => h9) rfl dMd_inFrontier_2 ?_
  refine lv_iload_n hx hb dMd_inFrontier_5 rfl (lv_at hl 1 rfl) ?_
  refine xci (va_runV ⟨hx, hb, hml, hown, hts⟩ (ktMd_has l D cA cB bd N _ mReached v1 _ hw) (cwV 2 hts (goodV kw_1133 kw_1135 ks_4_0 kw_11 kw_1136) rfl rfl rfl (by decide +kernel) ⟨Nat.le_of_ble_eq_true rfl, Nat.le_of_ble_eq_true rfl⟩) (xpreV hK hP hD hN [] rfl rfl 0 rfl rfl) rfl rfl hl.1 rfl (lv_room (Nat.le_of_ble_eq_true rfl)) dMd_inFrontier_6 ⟨Nat.le_of_ble_eq_true rfl, Nat.le_of_ble_eq_true rfl⟩) hP hD hS hA [] [0, 1, 2, 3, 4] rfl rfl rfl rfl [0, 1, 2, 3, 4] rfl (fun _ => rfl) (fun r6 u H locs hw hP hD hS => ?_)
  obtain ⟨r6, rfl, hw⟩ := hw
  have hP : va_P D vwCl (wdMd_inFrontier cA cB bd N mThrown mReached mForm mSlot mOver mEnds mYes mNo mDominators) H := hP
  have hD : va_D A (wdMd_inFrontier cA cB bd N mThrown mReached mForm mSlot mOver mEnds mYes mNo mDominators) := hD
  refine lv_if_eq (tgt := 33) hx hb dMd_inFrontier_9 rfl (fun hc => ?_) (fun hc => ?_)
  · have hw := hw.1 (bI_0 hc)
    refine lv_iconst (v := 0) hx hb dMd_inFrontier_33 (by decide) ?_
    exact hend false _ _ _ _ dMd_inFrontier_34 hP hD hS hw
  · have hw := hw.2 (bI_1 hc)
    refine lv_aload_n hx hb dMd_inFrontier_12 rfl (lv_at hl 0 rfl) ?_
    refine lv_aload_n hx hb dMd_inFrontier_13 rfl (lv_at hl 0 rfl) ?_
    refine va_get (D := D) (ci := 7) (v := .int mReached) (C := "OnceNamedModel") (T := TX7) (N := 34) hx hb hts (fun w h => List.mem_cons_of_mem _ (inX7 w h)) hown hK hP 0 rfl rfl 12 (by decide) (hts _ (List.mem_cons_of_mem _ kw_997)) (fun _ h9 => h9) rfl dMd_inFrontier_14 ?_
    refine lv_iload_n hx hb dMd_inFrontier_17 rfl (lv_at hl 2 rfl) ?_
    refine xci (va_runV ⟨hx, hb, hml, hown, hts⟩ (ktMd_has l D cA cB bd N _ mReached v2 _ hw) (cwV 2 hts (goodV kw_1133 kw_1135 ks_4_0 kw_11 kw_1136) rfl rfl rfl (by decide +kernel) ⟨Nat.le_of_ble_eq_true rfl, Nat.le_of_ble_eq_true rfl⟩) (xpreV hK hP hD hN [] rfl rfl 0 rfl rfl) rfl rfl hl.1 rfl (lv_room (Nat.le_of_ble_eq_true rfl)) dMd_inFrontier_18 ⟨Nat.le_of_ble_eq_true rfl, Nat.le_of_ble_eq_true rfl⟩) hP hD hS hA [] [0, 1, 2, 3, 4] rfl rfl rfl rfl [0, 1, 2, 3, 4] rfl (fun _ => rfl) (fun r18 u H locs hw hP hD hS => ?_)
    obtain ⟨r18, rfl, hw⟩ := hw
    have hP : va_P D vwCl (wdMd_inFrontier cA cB bd N mThrown mReached mForm mSlot mOver mEnds mYes mNo mDominators) H := hP
    have hD : va_D A (wdMd_inFrontier cA cB bd N mThrown mReached mForm mSlot mOver mEnds mYes mNo mDominators) := hD
    refine lv_if_eq (tgt := 33) hx hb dMd_inFrontier_21 rfl (fun hc => ?_) (fun hc => ?_)
    · have hw := hw.1 (bI_0 hc)
      refine lv_iconst (v := 0) hx hb dMd_inFrontier_33 (by decide) ?_
      exact hend false _ _ _ _ dMd_inFrontier_34 hP hD hS hw
    · have hw := hw.2 (bI_1 hc)
      refine lv_aload_n hx hb dMd_inFrontier_24 rfl (lv_at hl 0 rfl) ?_
      refine lv_iload_n hx hb dMd_inFrontier_25 rfl (lv_at hl 1 rfl) ?_
      refine lv_iload_n hx hb dMd_inFrontier_26 rfl (lv_at hl 2 rfl) ?_
      refine xci (va_runV ⟨hx, hb, hml, hown, hts⟩ (ktMd_strictly l D cA cB bd N _ mThrown mReached mForm mSlot mOver mDominators v1 v2 _ hw) (cwV 2 hts (goodV kw_1157 kw_1159 ks_4_4 kw_11 kw_1160) rfl rfl rfl (by decide +kernel) ⟨Nat.le_of_ble_eq_true rfl, Nat.le_of_ble_eq_true rfl⟩) (xpreV hK hP hD hN [0, 4] rfl rfl 0 rfl rfl) rfl rfl hl.1 rfl (lv_room (Nat.le_of_ble_eq_true rfl)) dMd_inFrontier_27 ⟨Nat.le_of_ble_eq_true rfl, Nat.le_of_ble_eq_true rfl⟩) hP hD hS hA [0, 4] [1, 2, 3] rfl rfl rfl rfl [3, 0, 1, 2, 4] rfl (fun _ => rfl) (fun r27 u H locs hw hP hD hS => ?_)
      obtain ⟨r27, rfl, hw⟩ := hw
      have hP : va_P D vwCl (wdMd_inFrontier cA cB bd N mThrown mReached mForm mSlot mOver mEnds mYes mNo mDominators) H := hP
      have hD : va_D A (wdMd_inFrontier cA cB bd N mThrown mReached mForm mSlot mOver mEnds mYes mNo mDominators) := hD
      refine lv_if_eq (tgt := 35) hx hb dMd_inFrontier_30 rfl (fun hc => ?_) (fun hc => ?_)
      · have hw := hw.1 (bI_0 hc)
        refine lv_iconst (v := 0) hx hb dMd_inFrontier_35 (by decide) ?_
        refine lv_istore_n (lv' := [(3, .int 0), (0, .ref (bd 0)), (1, .int v1), (2, .int v2)]) hx hb dMd_inFrontier_36 rfl hl (by decide) rfl (fun ls hl => ?_)
        refine lv_iconst (v := 0) hx hb dMd_inFrontier_37 (by decide) ?_
        refine lv_istore (lv' := [(4, .int 0), (3, .int 0), (0, .ref (bd 0)), (1, .int v1), (2, .int v2)]) hx hb dMd_inFrontier_38 hl (by decide) rfl (fun ls hl => ?_)
        obtain ⟨k40, hw⟩ := hw
        have hlp40 : ∀ (k : Nat), ∀ (v3_L40 : Bool) (v4_L40 : Int32) (ls : Array Slot) (H : Heap) (locs : List Loc), lv_has ls 5 [(0, .ref (bd 0)), (1, .int v1), (2, .int v2), (3, .int (bI v3_L40)), (4, .int v4_L40)] → va_P D vwCl (wdMd_inFrontier cA cB bd N mThrown mReached mForm mSlot mOver mEnds mYes mNo mDominators) H → va_D A (wdMd_inFrontier cA cB bd N mThrown mReached mForm mSlot mOver mEnds mYes mNo mDominators) → va_S A s.heap H locs → lpMd_inFrontier_40 N v1 v2 mReached mEnds mYes mNo mDominators post k v3_L40 v4_L40 → W p l e (headSpec (Cond.code yMd_inFrontier cMd_inFrontier 5 (some .boolean) :: xW) rmMd_inFrontier).room s m ([.ref (bd 0), .int v1, .int v2] : List Value).toArray below meth c H locs 0 0 Q (F0 m 40 ls []) := by
          intro k
          induction k with
          | zero => intro v3_L40 v4_L40 ls H locs hl hP hD hS hw; exact False.elim hw
          | succ k ih =>
            intro v3_L40 v4_L40 ls H locs hl hP hD hS hw
            refine lv_iload hx hb dMd_inFrontier_40 (lv_at hl 4 rfl) ?_
            refine lv_aload_n hx hb dMd_inFrontier_42 rfl (lv_at hl 0 rfl) ?_
            refine va_get (D := D) (ci := 7) (v := .int (nI N)) (C := "OnceNamedModel") (T := TX7) (N := 34) hx hb hts (fun w h => List.mem_cons_of_mem _ (inX7 w h)) hown hK hP 0 rfl rfl 1 (by decide) (hts _ (List.mem_cons_of_mem _ kw_986)) (fun _ h9 => h9) rfl dMd_inFrontier_43 ?_
            refine lv_icmp_ge (tgt := 103) hx hb dMd_inFrontier_46 rfl (fun hc => ?_) (fun hc => ?_)
            · have hw := hw.1 hc
              refine lv_iload_n hx hb dMd_inFrontier_103 rfl (lv_at hl 3 rfl) ?_
              exact hend v3_L40 _ _ _ _ dMd_inFrontier_104 hP hD hS hw
            · have hw := hw.2 hc
              refine lv_iload_n hx hb dMd_inFrontier_49 rfl (lv_at hl 3 rfl) ?_
              refine lv_if_ne (tgt := 91) hx hb dMd_inFrontier_50 rfl (fun hc => ?_) (fun hc => ?_)
              · have hw := hw.1 (bI_1 hc)
                refine lv_iconst (v := 1) hx hb dMd_inFrontier_91 (by decide) ?_
                refine lv_goto (tgt := 96) hx hb dMd_inFrontier_92 rfl ?_
                refine lv_istore_n (lv' := [(3, .int 1), (0, .ref (bd 0)), (1, .int v1), (2, .int v2), (4, .int v4_L40)]) hx hb dMd_inFrontier_96 rfl hl (by decide) rfl (fun ls hl => ?_)
                refine lv_iinc (k := 4) (v := (v4_L40 + 1)) (lv' := [(4, .int (v4_L40 + 1)), (3, .int 1), (0, .ref (bd 0)), (1, .int v1), (2, .int v2)]) hx hb dMd_inFrontier_97 hl rfl rfl (by decide) rfl (fun ls hl => ?_)
                refine lv_goto (tgt := 40) hx hb dMd_inFrontier_100 rfl ?_
                exact ih true (v4_L40 + 1) _ _ _ (lv_sub hl [2, 3, 4, 1, 0] rfl) hP hD hS hw
              · have hw := hw.2 (bI_0 hc)
                refine lv_aload_n hx hb dMd_inFrontier_53 rfl (lv_at hl 0 rfl) ?_
                refine lv_aload_n hx hb dMd_inFrontier_54 rfl (lv_at hl 0 rfl) ?_
                refine va_get (D := D) (ci := 7) (v := .int mReached) (C := "OnceNamedModel") (T := TX7) (N := 34) hx hb hts (fun w h => List.mem_cons_of_mem _ (inX7 w h)) hown hK hP 0 rfl rfl 12 (by decide) (hts _ (List.mem_cons_of_mem _ kw_997)) (fun _ h9 => h9) rfl dMd_inFrontier_55 ?_
                refine lv_iload hx hb dMd_inFrontier_58 (lv_at hl 4 rfl) ?_
                refine xci (va_runV ⟨hx, hb, hml, hown, hts⟩ (ktMd_has l D cA cB bd N _ mReached v4_L40 _ hw) (cwV 2 hts (goodV kw_1133 kw_1135 ks_4_0 kw_11 kw_1136) rfl rfl rfl (by decide +kernel) ⟨Nat.le_of_ble_eq_true rfl, Nat.le_of_ble_eq_true rfl⟩) (xpreV hK hP hD hN [] rfl rfl 0 rfl rfl) rfl rfl hl.1 rfl (lv_room (Nat.le_of_ble_eq_true rfl)) dMd_inFrontier_60 ⟨Nat.le_of_ble_eq_true rfl, Nat.le_of_ble_eq_true rfl⟩) hP hD hS hA [] [0, 1, 2, 3, 4] rfl rfl rfl rfl [0, 1, 2, 3, 4] rfl (fun _ => rfl) (fun r60 u H locs hw hP hD hS => ?_)
                obtain ⟨r60, rfl, hw⟩ := hw
                have hP : va_P D vwCl (wdMd_inFrontier cA cB bd N mThrown mReached mForm mSlot mOver mEnds mYes mNo mDominators) H := hP
                have hD : va_D A (wdMd_inFrontier cA cB bd N mThrown mReached mForm mSlot mOver mEnds mYes mNo mDominators) := hD
                refine lv_if_eq (tgt := 95) hx hb dMd_inFrontier_63 rfl (fun hc => ?_) (fun hc => ?_)
                · have hw := hw.1 (bI_0 hc)
                  refine lv_iconst (v := 0) hx hb dMd_inFrontier_95 (by decide) ?_
                  refine lv_istore_n (lv' := [(3, .int 0), (0, .ref (bd 0)), (1, .int v1), (2, .int v2), (4, .int v4_L40)]) hx hb dMd_inFrontier_96 rfl hl (by decide) rfl (fun ls hl => ?_)
                  refine lv_iinc (k := 4) (v := (v4_L40 + 1)) (lv' := [(4, .int (v4_L40 + 1)), (3, .int 0), (0, .ref (bd 0)), (1, .int v1), (2, .int v2)]) hx hb dMd_inFrontier_97 hl rfl rfl (by decide) rfl (fun ls hl => ?_)
                  refine lv_goto (tgt := 40) hx hb dMd_inFrontier_100 rfl ?_
                  exact ih false (v4_L40 + 1) _ _ _ (lv_sub hl [2, 3, 4, 1, 0] rfl) hP hD hS hw
                · have hw := hw.2 (bI_1 hc)
                  refine lv_aload_n hx hb dMd_inFrontier_66 rfl (lv_at hl 0 rfl) ?_
                  refine lv_aload_n hx hb dMd_inFrontier_67 rfl (lv_at hl 0 rfl) ?_
                  refine va_get (D := D) (ci := 7) (v := .ref (bd 11)) (C := "OnceNamedModel") (T := TX7) (N := 34) hx hb hts (fun w h => List.mem_cons_of_mem _ (inX7 w h)) hown hK hP 0 rfl rfl 13 (by decide) (hts _ (List.mem_cons_of_mem _ kw_998)) (fun _ h9 => h9) rfl dMd_inFrontier_68 ?_
                  refine lv_iload hx hb dMd_inFrontier_71 (lv_at hl 4 rfl) ?_
                  have ho := hw.1
                  have hw := hw.2
                  refine va_iald hx hb hK hP 4 0 rfl rfl ho dMd_inFrontier_73 ?_
                  refine lv_iload_n hx hb dMd_inFrontier_74 rfl (lv_at hl 1 rfl) ?_
                  refine xci (va_runV ⟨hx, hb, hml, hown, hts⟩ (ktMd_has l D cA cB bd N _ (mDominators (Int32.toNatClampNeg v4_L40)) v1 _ hw) (cwV 2 hts (goodV kw_1133 kw_1135 ks_4_0 kw_11 kw_1136) rfl rfl rfl (by decide +kernel) ⟨Nat.le_of_ble_eq_true rfl, Nat.le_of_ble_eq_true rfl⟩) (xpreV hK hP hD hN [] rfl rfl 0 rfl rfl) rfl rfl hl.1 rfl (lv_room (Nat.le_of_ble_eq_true rfl)) dMd_inFrontier_75 ⟨Nat.le_of_ble_eq_true rfl, Nat.le_of_ble_eq_true rfl⟩) hP hD hS hA [] [0, 1, 2, 3, 4] rfl rfl rfl rfl [0, 1, 2, 3, 4] rfl (fun _ => rfl) (fun r75 u H locs hw hP hD hS => ?_)
                  obtain ⟨r75, rfl, hw⟩ := hw
                  have hP : va_P D vwCl (wdMd_inFrontier cA cB bd N mThrown mReached mForm mSlot mOver mEnds mYes mNo mDominators) H := hP
                  have hD : va_D A (wdMd_inFrontier cA cB bd N mThrown mReached mForm mSlot mOver mEnds mYes mNo mDominators) := hD
                  refine lv_if_eq (tgt := 95) hx hb dMd_inFrontier_78 rfl (fun hc => ?_) (fun hc => ?_)
                  · have hw := hw.1 (bI_0 hc)
                    refine lv_iconst (v := 0) hx hb dMd_inFrontier_95 (by decide) ?_
                    refine lv_istore_n (lv' := [(3, .int 0), (0, .ref (bd 0)), (1, .int v1), (2, .int v2), (4, .int v4_L40)]) hx hb dMd_inFrontier_96 rfl hl (by decide) rfl (fun ls hl => ?_)
                    refine lv_iinc (k := 4) (v := (v4_L40 + 1)) (lv' := [(4, .int (v4_L40 + 1)), (3, .int 0), (0, .ref (bd 0)), (1, .int v1), (2, .int v2)]) hx hb dMd_inFrontier_97 hl rfl rfl (by decide) rfl (fun ls hl => ?_)
                    refine lv_goto (tgt := 40) hx hb dMd_inFrontier_100 rfl ?_
                    exact ih false (v4_L40 + 1) _ _ _ (lv_sub hl [2, 3, 4, 1, 0] rfl) hP hD hS hw
                  · have hw := hw.2 (bI_1 hc)
                    refine lv_aload_n hx hb dMd_inFrontier_81 rfl (lv_at hl 0 rfl) ?_
                    refine lv_iload hx hb dMd_inFrontier_82 (lv_at hl 4 rfl) ?_
                    refine lv_iload_n hx hb dMd_inFrontier_84 rfl (lv_at hl 2 rfl) ?_
                    refine xci (va_runV ⟨hx, hb, hml, hown, hts⟩ (ktMd_follows l D cA cB bd N _ mThrown mReached mForm mSlot mOver mEnds mYes mNo v4_L40 v2 _ hw) (cwV 2 hts (goodV kw_1161 kw_1163 ks_4_5 kw_11 kw_1164) rfl rfl rfl (by decide +kernel) ⟨Nat.le_of_ble_eq_true rfl, Nat.le_of_ble_eq_true rfl⟩) (xpreV hK hP hD hN [0, 1, 2, 3] rfl rfl 0 rfl rfl) rfl rfl hl.1 rfl (lv_room (Nat.le_of_ble_eq_true rfl)) dMd_inFrontier_85 ⟨Nat.le_of_ble_eq_true rfl, Nat.le_of_ble_eq_true rfl⟩) hP hD hS hA [0, 1, 2, 3] [4] rfl rfl rfl rfl [1, 2, 3, 4, 0] rfl (fun _ => rfl) (fun r85 u H locs hw hP hD hS => ?_)
                    obtain ⟨r85, rfl, hw⟩ := hw
                    have hP : va_P D vwCl (wdMd_inFrontier cA cB bd N mThrown mReached mForm mSlot mOver mEnds mYes mNo mDominators) H := hP
                    have hD : va_D A (wdMd_inFrontier cA cB bd N mThrown mReached mForm mSlot mOver mEnds mYes mNo mDominators) := hD
                    refine lv_if_eq (tgt := 95) hx hb dMd_inFrontier_88 rfl (fun hc => ?_) (fun hc => ?_)
                    · have hw := hw.1 (bI_0 hc)
                      refine lv_iconst (v := 0) hx hb dMd_inFrontier_95 (by decide) ?_
                      refine lv_istore_n (lv' := [(3, .int 0), (0, .ref (bd 0)), (1, .int v1), (2, .int v2), (4, .int v4_L40)]) hx hb dMd_inFrontier_96 rfl hl (by decide) rfl (fun ls hl => ?_)
                      refine lv_iinc (k := 4) (v := (v4_L40 + 1)) (lv' := [(4, .int (v4_L40 + 1)), (3, .int 0), (0, .ref (bd 0)), (1, .int v1), (2, .int v2)]) hx hb dMd_inFrontier_97 hl rfl rfl (by decide) rfl (fun ls hl => ?_)
                      refine lv_goto (tgt := 40) hx hb dMd_inFrontier_100 rfl ?_
                      exact ih false (v4_L40 + 1) _ _ _ (lv_sub hl [2, 3, 4, 1, 0] rfl) hP hD hS hw
                    · have hw := hw.2 (bI_1 hc)
                      refine lv_iconst (v := 1) hx hb dMd_inFrontier_91 (by decide) ?_
                      refine lv_goto (tgt := 96) hx hb dMd_inFrontier_92 rfl ?_
                      refine lv_istore_n (lv' := [(3, .int 1), (0, .ref (bd 0)), (1, .int v1), (2, .int v2), (4, .int v4_L40)]) hx hb dMd_inFrontier_96 rfl hl (by decide) rfl (fun ls hl => ?_)
                      refine lv_iinc (k := 4) (v := (v4_L40 + 1)) (lv' := [(4, .int (v4_L40 + 1)), (3, .int 1), (0, .ref (bd 0)), (1, .int v1), (2, .int v2)]) hx hb dMd_inFrontier_97 hl rfl rfl (by decide) rfl (fun ls hl => ?_)
                      refine lv_goto (tgt := 40) hx hb dMd_inFrontier_100 rfl ?_
                      exact ih true (v4_L40 + 1) _ _ _ (lv_sub hl [2, 3, 4, 1, 0] rfl) hP hD hS hw
        refine hlp40 k40 false 0 _ _ _ (lv_sub hl [2, 3, 4, 1, 0] rfl) hP hD hS hw
      · have hw := hw.2 (bI_1 hc)
        refine lv_iconst (v := 0) hx hb dMd_inFrontier_33 (by decide) ?_
        exact hend false _ _ _ _ dMd_inFrontier_34 hP hD hS hw
