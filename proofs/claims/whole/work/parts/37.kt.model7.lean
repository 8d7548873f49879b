abbrev wdMd_meeting (cA : ClassId) (cB : ClassId) (bd : Nat → Nat) (N : Nat) (mThrown : Int32) (mReached : Int32) (mForm : Bool) (mSlot : Int32) (mOver : Bool) (mMeets : Nat → Int32) : va_W := [((bd 0), .inr (7, [.int mThrown, .int (nI N), .ref (bd 1), .ref (bd 2), .ref (bd 3), .ref (bd 4), .ref (bd 5), .ref (bd 6), .ref (bd 7), .ref (bd 8), .ref (bd 9), .ref (bd 10), .int mReached, .ref (bd 11), .int (bI mForm), .ref (bd 12), .ref (bd 13), .ref (bd 14), .ref (bd 15), .ref (bd 16), .ref (bd 17), .ref (bd 18), .ref (bd 19), .ref (bd 20), .ref (bd 21), .ref (bd 22), .ref (bd 23), .ref (bd 24), .ref (bd 25), .ref (bd 26), .ref (bd 27), .ref (bd 28), .int mSlot, .int (bI mOver)])), ((bd 12), .inl (cA, 72, .inl mMeets))]
abbrev qcMd_meeting (D : va_G) (cA : ClassId) (cB : ClassId) (bd : Nat → Nat) (N : Nat) (mThrown : Int32) (mReached : Int32) (mForm : Bool) (mSlot : Int32) (mOver : Bool) (mMeets : Nat → Int32) (post : Int32 → Int32 → Prop) (A : Nat → Prop) : Array Value → State → Outcome → State → Prop := va_Qi (S := (Int32)) (fun r u => post r u) (fun u t => xB D [(cA, .int), (cB, .boolean)] A (wdMd_meeting cA cB bd N u mReached mForm mSlot mOver mMeets) t) A
abbrev rmMd_meeting : Room := { frames := 1, cells := 0, slots := 0, locals := 21 }
set_option maxHeartbeats 4000000 in
set_option maxRecDepth 100000 in
theorem ktMd_meeting (l : Launch) (D : va_G) (cA : ClassId) (cB : ClassId) (bd : Nat → Nat) (N : Nat) (sz : Nat) (mThrown : Int32) (mReached : Int32) (mForm : Bool) (mSlot : Int32) (mOver : Bool) (mMeets : Nat → Int32) (v1 : Int32) (v2 : Int32) (post : Int32 → Int32 → Prop) (hw : wpMd_meeting N mForm mMeets v1 v2 post) : Met l yMd_meeting (Cond.code yMd_meeting cMd_meeting 3 (some .int) :: xW) rmMd_meeting (va_Pc [.ref (bd 0), .int v1, .int v2] (xPc D [(cA, .int), (cB, .boolean)] (wdMd_meeting cA cB bd N mThrown mReached mForm mSlot mOver mMeets) sz)) (qcMd_meeting D cA cB bd N mThrown mReached mForm mSlot mOver mMeets post (va_A (wdMd_meeting cA cB bd N mThrown mReached mForm mSlot mOver mMeets) sz)) 0 0 (va_A (wdMd_meeting cA cB bd N mThrown mReached mForm mSlot mOver mMeets) sz) := by
  refine Met.ofW (cc := cMd_meeting) (maxL := 3) (ret := (some .int)) (by decide) rfl ?_
  intro p e s m args below meth c s₁ B hml hv
  obtain ⟨rfl, hsz, hP, hK, hD0, hN⟩ := hv
  have hx := B.exec
  have hb := B.bytes
  have hr := B.returns
  have hts := atoms_spec (ws := (Cond.code yMd_meeting cMd_meeting 3 (some .int) :: xW)) B.pre
  have hown : s.vm.findClass "OnceNamedModel" = some m.cls := findClass_of_methodNamed B.named
  have hlocks := B.notSynchronized
  subst hsz
  have hD := hD0.self (sz := s.heap.size)
  generalize hAe : va_A (wdMd_meeting cA cB bd N mThrown mReached mForm mSlot mOver mMeets) s.heap.size = A at hD ⊢
  have hA : ∀ q : Nat, s.heap.size ≤ q → A q := fun q h => by rw [← hAe]; exact Or.inr h
  have hS : va_S A s.heap s.heap [] := va_S.rf
  have hend : ∀ (r : Int32) (u0 : Int32) (H : Heap) (locs : List Loc) (pc : Nat) (ls : Array Slot), decode cMd_meeting pc = .ok (.ireturn, 1) → va_P D vwCl (wdMd_meeting cA cB bd N u0 mReached mForm mSlot mOver mMeets) H → va_D A (wdMd_meeting cA cB bd N u0 mReached mForm mSlot mOver mMeets) → va_S A s.heap H locs → post r u0 → W p l e (headSpec (Cond.code yMd_meeting cMd_meeting 3 (some .int) :: xW) rmMd_meeting).room s m ([.ref (bd 0), .int v1, .int v2] : List Value).toArray below meth c H locs 0 0 (MQ below (qcMd_meeting D cA cB bd N mThrown mReached mForm mSlot mOver mMeets post A) ([.ref (bd 0), .int v1, .int v2] : List Value).toArray s 0 0 A) (F0 m pc ls [.int r]) := fun r u0 H locs pc ls hd hP hD hS hw => W.iret (v := r) hx hb hr (fun t ht hW => ⟨⟨r, u0, rfl, hw, ⟨by rw [ht]; exact hP, va_K.moved hW.alike hK, hD⟩⟩, hS.F ht⟩) hS.2.2 hd
  generalize hQ : MQ below (qcMd_meeting D cA cB bd N mThrown mReached mForm mSlot mOver mMeets post A) ([.ref (bd 0), .int v1, .int v2] : List Value).toArray s 0 0 A = Q at hend ⊢
  have hl := lv_entry ([.ref (bd 0), .int v1, .int v2]) (n := 3) (Nat.le_of_ble_eq_true rfl)
  rw [lg_entry_eq]
  generalize (lg_sl ([.ref (bd 0), .int v1, .int v2]) ++ List.replicate (3 - (lg_sl ([.ref (bd 0), .int v1, .int v2])).length) Slot.unset).toArray = ls at hl ⊢
  have hl : lv_has ls 3 [(0, .ref (bd 0)), (1, .int v1), (2, .int v2)] := hl
  unfold wpMd_meeting at hw
  refine lv_aload_n hx hb dMd_meeting_0 rfl (lv_at hl 0 rfl) ?_
  refine lv_aload_n hx hb dMd_meeting_1 rfl (lv_at hl 0 rfl) ?_
  refine va_get (D := D) (ci := 7) (v := .int (bI mForm)) (C := "OnceNamedModel") (T := TX7) (N := 34) hx hb hts (fun w h => List.mem_cons_of_mem _ (inX7 w h)) hown hK hP 0 rfl rfl 14 (by decide) (hts _ (List.mem_cons_of_mem _ kw_999)) (fun _ h9 => h9) rfl dMd_meeting_2 ?_
  obtain ⟨J33, hJ33, hw⟩ := hw
  have hj33 : ∀ (t33_0 : Int32) (ls : Array Slot) (H : Heap) (locs : List Loc), lv_has ls 3 [(0, .ref (bd 0)), (1, .int v1), (2, .int v2)] → va_P D vwCl (wdMd_meeting cA cB bd N mThrown mReached mForm mSlot mOver mMeets) H → va_D A (wdMd_meeting cA cB bd N mThrown mReached mForm mSlot mOver mMeets) → va_S A s.heap H locs → J33 t33_0 → W p l e (headSpec (Cond.code yMd_meeting cMd_meeting 3 (some .int) :: xW) rmMd_meeting).room s m ([.ref (bd 0), .int v1, .int v2] : List Value).toArray below meth c H locs 0 0 Q (F0 m 33 ls [.int t33_0, .ref (bd 0)]) := by
    intro t33_0 ls H locs hl hP hD hS hw
    have hw := hJ33 t33_0 hw
    refine va_put (D := D) (ci := 7) (v := .int t33_0) (ty := .int) (C := "OnceNamedModel") (T := TX7) (N := 34) hx hb hts (fun w h => List.mem_cons_of_mem _ (inX7 w h)) tyX7 tyX7_ok nmX7 hown hK hP hD hS 0 rfl rfl 0 (by decide) (hts _ (List.mem_cons_of_mem _ kw_985)) (fun _ h9 => h9) rfl (by decide +kernel) rfl rfl (Nat.le_of_ble_eq_true rfl) dMd_meeting_33 (fun H locs hP hD hS => ?_)
    have hP : va_P D vwCl (wdMd_meeting cA cB bd N t33_0 mReached mForm mSlot mOver mMeets) H := hP
    have hD : va_D A (wdMd_meeting cA cB bd N t33_0 mReached mForm mSlot mOver mMeets) := hD
    refine lv_aload_n hx hb dMd_meeting_36 rfl (lv_at hl 0 rfl) ?_
    refine va_get (D := D) (ci := 7) (v := .int t33_0) (C := "OnceNamedModel") (T := TX7) (N := 34) hx hb hts (fun w h => List.mem_cons_of_mem _ (inX7 w h)) hown hK hP 0 rfl rfl 0 (by decide) (hts _ (List.mem_cons_of_mem _ kw_985)) (fun _ h9 => h9) rfl dMd_meeting_37 ?_
    refine lv_if_ne (tgt := 57) hx hb dMd_meeting_40 rfl (fun hc => ?_) (fun hc => ?_)
    · have hw := hw.1 hc
      refine lv_iconst (v := 0) hx hb dMd_meeting_57 (by decide) ?_
      exact hend 0 t33_0 _ _ _ _ dMd_meeting_58 hP hD hS hw
    · have hw := hw.2 hc
      refine lv_aload_n hx hb dMd_meeting_43 rfl (lv_at hl 0 rfl) ?_
      refine va_get (D := D) (ci := 7) (v := .ref (bd 12)) (C := "OnceNamedModel") (T := TX7) (N := 34) hx hb hts (fun w h => List.mem_cons_of_mem _ (inX7 w h)) hown hK hP 0 rfl rfl 15 (by decide) (hts _ (List.mem_cons_of_mem _ kw_1000)) (fun _ h9 => h9) rfl dMd_meeting_44 ?_
      refine lv_bipush (v := 6) hx hb dMd_meeting_47 (by decide) ?_
      refine lv_iload_n hx hb dMd_meeting_49 rfl (lv_at hl 1 rfl) ?_
      refine lv_imul hx hb dMd_meeting_50 ?_
      refine lv_iload_n hx hb dMd_meeting_51 rfl (lv_at hl 2 rfl) ?_
      refine lv_iadd hx hb dMd_meeting_52 ?_
      have ho := hw.1
      have hw := hw.2
      refine va_iald hx hb hK hP 1 0 rfl rfl ho dMd_meeting_53 ?_
      refine lv_goto (tgt := 58) hx hb dMd_meeting_54 rfl ?_
      exact hend (mMeets (Int32.toNatClampNeg ((6 * v1) + v2))) t33_0 _ _ _ _ dMd_meeting_58 hP hD hS hw
  refine lv_if_ne (tgt := 12) hx hb dMd_meeting_5 rfl (fun hc => ?_) (fun hc => ?_)
  · have hw := hw.1 (bI_1 hc)
    refine lv_aload_n hx hb dMd_meeting_12 rfl (lv_at hl 0 rfl) ?_
    refine lv_iload_n hx hb dMd_meeting_13 rfl (lv_at hl 1 rfl) ?_
    refine xci (va_runV ⟨hx, hb, hml, hown, hts⟩ (ktMd_noBlock l D cA cB bd N _ mThrown mReached mForm mSlot mOver v1 _ hw) (cwV 1 hts (goodV kw_1097 kw_1099 ks_3_12 kw_11 kw_1100) rfl rfl rfl (by decide +kernel) ⟨Nat.le_of_ble_eq_true rfl, Nat.le_of_ble_eq_true rfl⟩) (xpreV hK hP hD hN [0] rfl rfl 0 rfl rfl) rfl rfl hl.1 rfl (lv_room (Nat.le_of_ble_eq_true rfl)) dMd_meeting_14 ⟨Nat.le_of_ble_eq_true rfl, Nat.le_of_ble_eq_true rfl⟩) hP hD hS hA [0] [1] rfl rfl rfl rfl [1, 0] rfl (fun _ => rfl) (fun r14 u H locs hw hP hD hS => ?_)
    obtain ⟨r14, rfl, hw⟩ := hw
    have hP : va_P D vwCl (wdMd_meeting cA cB bd N mThrown mReached mForm mSlot mOver mMeets) H := hP
    have hD : va_D A (wdMd_meeting cA cB bd N mThrown mReached mForm mSlot mOver mMeets) := hD
    refine lv_if_ne (tgt := 28) hx hb dMd_meeting_17 rfl (fun hc => ?_) (fun hc => ?_)
    · have hw := hw.1 (bI_1 hc)
      refine lv_iconst (v := 2) hx hb dMd_meeting_28 (by decide) ?_
      refine lv_goto (tgt := 33) hx hb dMd_meeting_29 rfl ?_
      exact hj33 2 _ _ _ (lv_sub hl [0, 1, 2] rfl) hP hD hS hw
    · have hw := hw.2 (bI_0 hc)
      refine lv_aload_n hx hb dMd_meeting_20 rfl (lv_at hl 0 rfl) ?_
      refine lv_iload_n hx hb dMd_meeting_21 rfl (lv_at hl 2 rfl) ?_
      refine xci (va_runV ⟨hx, hb, hml, hown, hts⟩ (ktMd_noVariable l D cA cB bd N _ v2 _ hw) (cwV 1 hts (goodV kw_1101 kw_1103 ks_3_13 kw_11 kw_1104) rfl rfl rfl (by decide +kernel) ⟨Nat.le_of_ble_eq_true rfl, Nat.le_of_ble_eq_true rfl⟩) (xpreV hK hP hD hN [] rfl rfl 0 rfl rfl) rfl rfl hl.1 rfl (lv_room (Nat.le_of_ble_eq_true rfl)) dMd_meeting_22 ⟨Nat.le_of_ble_eq_true rfl, Nat.le_of_ble_eq_true rfl⟩) hP hD hS hA [] [0, 1] rfl rfl rfl rfl [0, 1] rfl (fun _ => rfl) (fun r22 u H locs hw hP hD hS => ?_)
      obtain ⟨r22, rfl, hw⟩ := hw
      have hP : va_P D vwCl (wdMd_meeting cA cB bd N mThrown mReached mForm mSlot mOver mMeets) H := hP
      have hD : va_D A (wdMd_meeting cA cB bd N mThrown mReached mForm mSlot mOver mMeets) := hD
      refine lv_if_eq (tgt := 32) hx hb dMd_meeting_25 rfl (fun hc => ?_) (fun hc => ?_)
      · have hw := hw.1 (bI_0 hc)
        refine lv_iconst (v := 0) hx hb dMd_meeting_32 (by decide) ?_
        exact hj33 0 _ _ _ (lv_sub hl [0, 1, 2] rfl) hP hD hS hw
      · have hw := hw.2 (bI_1 hc)
        refine lv_iconst (v := 2) hx hb dMd_meeting_28 (by decide) ?_
        refine lv_goto (tgt := 33) hx hb dMd_meeting_29 rfl ?_
        exact hj33 2 _ _ _ (lv_sub hl [0, 1, 2] rfl) hP hD hS hw
  · have hw := hw.2 (bI_0 hc)
    refine lv_iconst (v := 1) hx hb dMd_meeting_8 (by decide) ?_
    refine lv_goto (tgt := 33) hx hb dMd_meeting_9 rfl ?_
    exact hj33 1 _ _ _ (lv_sub hl [0, 1, 2] rfl) hP hD hS hw
abbrev wdMd_sourceOf (cA : ClassId) (cB : ClassId) (bd : Nat → Nat) (N : Nat) (mThrown : Int32) (mReached : Int32) (mForm : Bool) (mSlot : Int32) (mOver : Bool) (mMeets : Nat → Int32) (mSources : Nat → Int32) : va_W := [((bd 0), .inr (7, [.int mThrown, .int (nI N), .ref (bd 1), .ref (bd 2), .ref (bd 3), .ref (bd 4), .ref (bd 5), .ref (bd 6), .ref (bd 7), .ref (bd 8), .ref (bd 9), .ref (bd 10), .int mReached, .ref (bd 11), .int (bI mForm), .ref (bd 12), .ref (bd 13), .ref (bd 14), .ref (bd 15), .ref (bd 16), .ref (bd 17), .ref (bd 18), .ref (bd 19), .ref (bd 20), .ref (bd 21), .ref (bd 22), .ref (bd 23), .ref (bd 24), .ref (bd 25), .ref (bd 26), .ref (bd 27), .ref (bd 28), .int mSlot, .int (bI mOver)])), ((bd 12), .inl (cA, 72, .inl mMeets)), ((bd 13), .inl (cA, 936, .inl mSources))]
abbrev qcMd_sourceOf (D : va_G) (cA : ClassId) (cB : ClassId) (bd : Nat → Nat) (N : Nat) (mThrown : Int32) (mReached : Int32) (mForm : Bool) (mSlot : Int32) (mOver : Bool) (mMeets : Nat → Int32) (mSources : Nat → Int32) (post : Int32 → Prop) (A : Nat → Prop) : Array Value → State → Outcome → State → Prop := va_Qi (S := Unit) (fun r u => post r ) (fun u t => xB D [(cA, .int), (cB, .boolean)] A (wdMd_sourceOf cA cB bd N mThrown mReached mForm mSlot mOver mMeets mSources) t) A
abbrev rmMd_sourceOf : Room := { frames := 0, cells := 0, slots := 0, locals := 0 }
set_option maxHeartbeats 4000000 in
set_option maxRecDepth 100000 in
theorem ktMd_sourceOf (l : Launch) (D : va_G) (cA : ClassId) (cB : ClassId) (bd : Nat → Nat) (N : Nat) (sz : Nat) (mThrown : Int32) (mReached : Int32) (mForm : Bool) (mSlot : Int32) (mOver : Bool) (mMeets : Nat → Int32) (mSources : Nat → Int32) (v1 : Int32) (v2 : Int32) (v3 : Int32) (post : Int32 → Prop) (hw : wpMd_sourceOf mMeets mSources v1 v2 v3 post) : Met l yMd_sourceOf (Cond.code yMd_sourceOf cMd_sourceOf 4 (some .int) :: xW) rmMd_sourceOf (va_Pc [.ref (bd 0), .int v1, .int v2, .int v3] (xPc D [(cA, .int), (cB, .boolean)] (wdMd_sourceOf cA cB bd N mThrown mReached mForm mSlot mOver mMeets mSources) sz)) (qcMd_sourceOf D cA cB bd N mThrown mReached mForm mSlot mOver mMeets mSources post (va_A (wdMd_sourceOf cA cB bd N mThrown mReached mForm mSlot mOver mMeets mSources) sz)) 0 0 (va_A (wdMd_sourceOf cA cB bd N mThrown mReached mForm mSlot mOver mMeets mSources) sz) := by
  refine Met.ofW (cc := cMd_sourceOf) (maxL := 4) (ret := (some .int)) (by decide) rfl ?_
  intro p e s m args below meth c s₁ B hml hv
  obtain ⟨rfl, hsz, hP, hK, hD0, hN⟩ := hv
  have hx := B.exec
  have hb := B.bytes
  have hr := B.returns
  have hts := atoms_spec (ws := (Cond.code yMd_sourceOf cMd_sourceOf 4 (some .int) :: xW)) B.pre
  have hown : s.vm.findClass "OnceNamedModel" = some m.cls := findClass_of_methodNamed B.named
  have hlocks := B.notSynchronized
  subst hsz
  have hD := hD0.self (sz := s.heap.size)
  generalize hAe : va_A (wdMd_sourceOf cA cB bd N mThrown mReached mForm mSlot mOver mMeets mSources) s.heap.size = A at hD ⊢
  have hA : ∀ q : Nat, s.heap.size ≤ q → A q := fun q h => by rw [← hAe]; exact Or.inr h
  have hS : va_S A s.heap s.heap [] := va_S.rf
  have hend : ∀ (r : Int32)  (H : Heap) (locs : List Loc) (pc : Nat) (ls : Array Slot), decode cMd_sourceOf pc = .ok (.ireturn, 1) → va_P D vwCl (wdMd_sourceOf cA cB bd N mThrown mReached mForm mSlot mOver mMeets mSources) H → va_D A (wdMd_sourceOf cA cB bd N mThrown mReached mForm mSlot mOver mMeets mSources) → va_S A s.heap H locs → post r  → W p l e (headSpec (Cond.code yMd_sourceOf cMd_sourceOf 4 (some .int) :: xW) rmMd_sourceOf).room s m ([.ref (bd 0), .int v1, .int v2, .int v3] : List Value).toArray below meth c H locs 0 0 (MQ below (qcMd_sourceOf D cA cB bd N mThrown mReached mForm mSlot mOver mMeets mSources post A) ([.ref (bd 0), .int v1, .int v2, .int v3] : List Value).toArray s 0 0 A) (F0 m pc ls [.int r]) := fun r  H locs pc ls hd hP hD hS hw => W.iret (v := r) hx hb hr (fun t ht hW => ⟨⟨r, (), rfl, hw, ⟨by rw [ht]; exact hP, va_K.moved hW.alike hK, hD⟩⟩, hS.F ht⟩) hS.2.2 hd
  generalize hQ : MQ below (qcMd_sourceOf D cA cB bd N mThrown mReached mForm mSlot mOver mMeets mSources post A) ([.ref (bd 0), .int v1, .int v2, .int v3] : List Value).toArray s 0 0 A = Q at hend ⊢
  have hl := lv_entry ([.ref (bd 0), .int v1, .int v2, .int v3]) (n := 4) (Nat.le_of_ble_eq_true rfl)
  rw [lg_entry_eq]
  generalize (lg_sl ([.ref (bd 0), .int v1, .int v2, .int v3]) ++ List.replicate (4 - (lg_sl ([.ref (bd 0), .int v1, .int v2, .int v3])).length) Slot.unset).toArray = ls at hl ⊢
  have hl : lv_has ls 4 [(0, .ref (bd 0)), (1, .int v1), (2, .int v2), (3, .int v3)] := hl
  unfold wpMd_sourceOf at hw
  refine lv_aload_n hx hb dMd_sourceOf_0 rfl (lv_at hl 0 rfl) ?_
  refine va_get (D := D) (ci := 7) (v := .ref (bd 12)) (C := "OnceNamedModel") (T := TX7) (N := 34) hx hb hts (fun w h => List.mem_cons_of_mem _ (inX7 w h)) hown hK hP 0 rfl rfl 15 (by decide) (hts _ (List.mem_cons_of_mem _ kw_1000)) (fun _ h9 => h9) rfl dMd_sourceOf_1 ?_
  refine lv_bipush (v := 6) hx hb dMd_sourceOf_4 (by decide) ?_
  refine lv_iload_n hx hb dMd_sourceOf_6 rfl (lv_at hl 1 rfl) ?_
  refine lv_imul hx hb dMd_sourceOf_7 ?_
  refine lv_iload_n hx hb dMd_sourceOf_8 rfl (lv_at hl 2 rfl) ?_
  refine lv_iadd hx hb dMd_sourceOf_9 ?_
  have ho := hw.1
  have hw := hw.2
  refine va_iald hx hb hK hP 1 0 rfl rfl ho dMd_sourceOf_10 ?_
  refine lv_if_ge (tgt := 18) hx hb dMd_sourceOf_11 rfl (fun hc => ?_) (fun hc => ?_)
  · have hw := hw.1 hc
    refine lv_aload_n hx hb dMd_sourceOf_18 rfl (lv_at hl 0 rfl) ?_
    refine va_get (D := D) (ci := 7) (v := .ref (bd 13)) (C := "OnceNamedModel") (T := TX7) (N := 34) hx hb hts (fun w h => List.mem_cons_of_mem _ (inX7 w h)) hown hK hP 0 rfl rfl 16 (by decide) (hts _ (List.mem_cons_of_mem _ kw_1001)) (fun _ h9 => h9) rfl dMd_sourceOf_19 ?_
    refine lv_bipush (v := 13) hx hb dMd_sourceOf_22 (by decide) ?_
    refine lv_bipush (v := 6) hx hb dMd_sourceOf_24 (by decide) ?_
    refine lv_iload_n hx hb dMd_sourceOf_26 rfl (lv_at hl 1 rfl) ?_
    refine lv_imul hx hb dMd_sourceOf_27 ?_
    refine lv_iload_n hx hb dMd_sourceOf_28 rfl (lv_at hl 2 rfl) ?_
    refine lv_iadd hx hb dMd_sourceOf_29 ?_
    refine lv_imul hx hb dMd_sourceOf_30 ?_
    refine lv_iload_n hx hb dMd_sourceOf_31 rfl (lv_at hl 3 rfl) ?_
    refine lv_iadd hx hb dMd_sourceOf_32 ?_
    have ho := hw.1
    have hw := hw.2
    refine va_iald hx hb hK hP 2 0 rfl rfl ho dMd_sourceOf_33 ?_
    exact hend (mSources (Int32.toNatClampNeg ((13 * ((6 * v1) + v2)) + v3))) _ _ _ _ dMd_sourceOf_34 hP hD hS hw
  · have hw := hw.2 hc
    refine lv_iconst (v := (-1)) hx hb dMd_sourceOf_14 (by decide) ?_
    refine lv_goto (tgt := 34) hx hb dMd_sourceOf_15 rfl ?_
    exact hend (-1) _ _ _ _ dMd_sourceOf_34 hP hD hS hw
abbrev wdMd_source (cA : ClassId) (cB : ClassId) (bd : Nat → Nat) (N : Nat) (mThrown : Int32) (mReached : Int32) (mForm : Bool) (mSlot : Int32) (mOver : Bool) (mMeets : Nat → Int32) (mSources : Nat → Int32) : va_W := [((bd 0), .inr (7, [.int mThrown, .int (nI N), .ref (bd 1), .ref (bd 2), .ref (bd 3), .ref (bd 4), .ref (bd 5), .ref (bd 6), .ref (bd 7), .ref (bd 8), .ref (bd 9), .ref (bd 10), .int mReached, .ref (bd 11), .int (bI mForm), .ref (bd 12), .ref (bd 13), .ref (bd 14), .ref (bd 15), .ref (bd 16), .ref (bd 17), .ref (bd 18), .ref (bd 19), .ref (bd 20), .ref (bd 21), .ref (bd 22), .ref (bd 23), .ref (bd 24), .ref (bd 25), .ref (bd 26), .ref (bd 27), .ref (bd 28), .int mSlot, .int (bI mOver)])), ((bd 12), .inl (cA, 72, .inl mMeets)), ((bd 13), .inl (cA, 936, .inl mSources))]
abbrev qcMd_source (D : va_G) (cA : ClassId) (cB : ClassId) (bd : Nat → Nat) (N : Nat) (mThrown : Int32) (mReached : Int32) (mForm : Bool) (mSlot : Int32) (mOver : Bool) (mMeets : Nat → Int32) (mSources : Nat → Int32) (post : Int32 → Int32 → Prop) (A : Nat → Prop) : Array Value → State → Outcome → State → Prop := va_Qi (S := (Int32)) (fun r u => post r u) (fun u t => xB D [(cA, .int), (cB, .boolean)] A (wdMd_source cA cB bd N u mReached mForm mSlot mOver mMeets mSources) t) A
abbrev rmMd_source : Room := { frames := 1, cells := 0, slots := 0, locals := 23 }
set_option maxHeartbeats 4000000 in
set_option maxRecDepth 100000 in
theorem ktMd_source (l : Launch) (D : va_G) (cA : ClassId) (cB : ClassId) (bd : Nat → Nat) (N : Nat) (sz : Nat) (mThrown : Int32) (mReached : Int32) (mForm : Bool) (mSlot : Int32) (mOver : Bool) (mMeets : Nat → Int32) (mSources : Nat → Int32) (v1 : Int32) (v2 : Int32) (v3 : Int32) (post : Int32 → Int32 → Prop) (hw : wpMd_source N mForm mMeets mSources v1 v2 v3 post) : Met l yMd_source (Cond.code yMd_source cMd_source 4 (some .int) :: xW) rmMd_source (va_Pc [.ref (bd 0), .int v1, .int v2, .int v3] (xPc D [(cA, .int), (cB, .boolean)] (wdMd_source cA cB bd N mThrown mReached mForm mSlot mOver mMeets mSources) sz)) (qcMd_source D cA cB bd N mThrown mReached mForm mSlot mOver mMeets mSources post (va_A (wdMd_source cA cB bd N mThrown mReached mForm mSlot mOver mMeets mSources) sz)) 0 0 (va_A (wdMd_source cA cB bd N mThrown mReached mForm mSlot mOver mMeets mSources) sz) := by
  refine Met.ofW (cc := cMd_source) (maxL := 4) (ret := (some .int)) (by decide) rfl ?_
  intro p e s m args below meth c s₁ B hml hv
  obtain ⟨rfl, hsz, hP, hK, hD0, hN⟩ := hv
  have hx := B.exec
  have hb := B.bytes
  have hr := B.returns
  have hts := atoms_spec (ws := (Cond.code yMd_source cMd_source 4 (some .int) :: xW)) B.pre
  have hown : s.vm.findClass "OnceNamedModel" = some m.cls := findClass_of_methodNamed B.named
  have hlocks := B.notSynchronized
  subst hsz
  have hD := hD0.self (sz := s.heap.size)
  generalize hAe : va_A (wdMd_source cA cB bd N mThrown mReached mForm mSlot mOver mMeets mSources) s.heap.size = A at hD ⊢
  have hA : ∀ q : Nat, s.heap.size ≤ q → A q := fun q h => by rw [← hAe]; exact Or.inr h
  have hS : va_S A s.heap s.heap [] := va_S.rf
  have hend : ∀ (r : Int32) (u0 : Int32) (H : Heap) (locs : List Loc) (pc : Nat) (ls : Array Slot), decode cMd_source pc = .ok (.ireturn, 1) → va_P D vwCl (wdMd_source cA cB bd N u0 mReached mForm mSlot mOver mMeets mSources) H → va_D A (wdMd_source cA cB bd N u0 mReached mForm mSlot mOver mMeets mSources) → va_S A s.heap H locs → post r u0 → W p l e (headSpec (Cond.code yMd_source cMd_source 4 (some .int) :: xW) rmMd_source).room s m ([.ref (bd 0), .int v1, .int v2, .int v3] : List Value).toArray below meth c H locs 0 0 (MQ below (qcMd_source D cA cB bd N mThrown mReached mForm mSlot mOver mMeets mSources post A) ([.ref (bd 0), .int v1, .int v2, .int v3] : List Value).toArray s 0 0 A) (F0 m pc ls [.int r]) := fun r u0 H locs pc ls hd hP hD hS hw => W.iret (v := r) hx hb hr (fun t ht hW => ⟨⟨r, u0, rfl, hw, ⟨by rw [ht]; exact hP, va_K.moved hW.alike hK, hD⟩⟩, hS.F ht⟩) hS.2.2 hd
  generalize hQ : MQ below (qcMd_source D cA cB bd N mThrown mReached mForm mSlot mOver mMeets mSources post A) ([.ref (bd 0), .int v1, .int v2, .int v3] : List Value).toArray s 0 0 A = Q at hend ⊢
  have hl := lv_entry ([.ref (bd 0), .int v1, .int v2, .int v3]) (n := 4) (Nat.le_of_ble_eq_true rfl)
  rw [lg_entry_eq]
  generalize (lg_sl ([.ref (bd 0), .int v1, .int v2, .int v3]) ++ List.replicate (4 - (lg_sl ([.ref (bd 0), .int v1, .int v2, .int v3])).length) Slot.unset).toArray = ls at hl ⊢
  have hl : lv_has ls 4 [(0, .ref (bd 0)), (1, .int v1), (2, .int v2), (3, .int v3)] := hl
  unfold wpMd_source at hw
  refine lv_aload_n hx hb dMd_source_0 rfl (lv_at hl 0 rfl) ?_
  refine lv_aload_n hx hb dMd_source_1 rfl (lv_at hl 0 rfl) ?_
  refine va_get (D := D) (ci := 7) (v := .int (bI mForm)) (C := "OnceNamedModel") (T := TX7) (N := 34) hx hb hts (fun w h => List.mem_cons_of_mem _ (inX7 w h)) hown hK hP 0 rfl rfl 14 (by decide) (hts _ (List.mem_cons_of_mem _ kw_999)) (fun _ h9 => h9) rfl dMd_source_2 ?_
  obtain ⟨J45, hJ45, hw⟩ := hw
  have hj45 : ∀ (t45_0 : Int32) (ls : Array Slot) (H : Heap) (locs : List Loc), lv_has ls 4 [(0, .ref (bd 0)), (1, .int v1), (2, .int v2), (3, .int v3)] → va_P D vwCl (wdMd_source cA cB bd N mThrown mReached mForm mSlot mOver mMeets mSources) H → va_D A (wdMd_source cA cB bd N mThrown mReached mForm mSlot mOver mMeets mSources) → va_S A s.heap H locs → J45 t45_0 → W p l e (headSpec (Cond.code yMd_source cMd_source 4 (some .int) :: xW) rmMd_source).room s m ([.ref (bd 0), .int v1, .int v2, .int v3] : List Value).toArray below meth c H locs 0 0 Q (F0 m 45 ls [.int t45_0, .ref (bd 0)]) := by
    intro t45_0 ls H locs hl hP hD hS hw
    have hw := hJ45 t45_0 hw
    refine va_put (D := D) (ci := 7) (v := .int t45_0) (ty := .int) (C := "OnceNamedModel") (T := TX7) (N := 34) hx hb hts (fun w h => List.mem_cons_of_mem _ (inX7 w h)) tyX7 tyX7_ok nmX7 hown hK hP hD hS 0 rfl rfl 0 (by decide) (hts _ (List.mem_cons_of_mem _ kw_985)) (fun _ h9 => h9) rfl (by decide +kernel) rfl rfl (Nat.le_of_ble_eq_true rfl) dMd_source_45 (fun H locs hP hD hS => ?_)
    have hP : va_P D vwCl (wdMd_source cA cB bd N t45_0 mReached mForm mSlot mOver mMeets mSources) H := hP
    have hD : va_D A (wdMd_source cA cB bd N t45_0 mReached mForm mSlot mOver mMeets mSources) := hD
    refine lv_aload_n hx hb dMd_source_48 rfl (lv_at hl 0 rfl) ?_
    refine va_get (D := D) (ci := 7) (v := .int t45_0) (C := "OnceNamedModel") (T := TX7) (N := 34) hx hb hts (fun w h => List.mem_cons_of_mem _ (inX7 w h)) hown hK hP 0 rfl rfl 0 (by decide) (hts _ (List.mem_cons_of_mem _ kw_985)) (fun _ h9 => h9) rfl dMd_source_49 ?_
    refine lv_if_ne (tgt := 65) hx hb dMd_source_52 rfl (fun hc => ?_) (fun hc => ?_)
    · have hw := hw.1 hc
      refine lv_iconst (v := 0) hx hb dMd_source_65 (by decide) ?_
      exact hend 0 t45_0 _ _ _ _ dMd_source_66 hP hD hS hw
    · have hw := hw.2 hc
      refine lv_aload_n hx hb dMd_source_55 rfl (lv_at hl 0 rfl) ?_
      refine lv_iload_n hx hb dMd_source_56 rfl (lv_at hl 1 rfl) ?_
      refine lv_iload_n hx hb dMd_source_57 rfl (lv_at hl 2 rfl) ?_
      refine lv_iload_n hx hb dMd_source_58 rfl (lv_at hl 3 rfl) ?_
      refine xci (va_runV ⟨hx, hb, hml, hown, hts⟩ (ktMd_sourceOf l D cA cB bd N _ t45_0 mReached mForm mSlot mOver mMeets mSources v1 v2 v3 _ hw) (cwV 3 hts (goodV kw_1225 kw_1227 ks_5_0 kw_11 kw_1228) rfl rfl rfl (by decide +kernel) ⟨Nat.le_of_ble_eq_true rfl, Nat.le_of_ble_eq_true rfl⟩) (xpreV hK hP hD hN [0, 1, 2] rfl rfl 0 rfl rfl) rfl rfl hl.1 rfl (lv_room (Nat.le_of_ble_eq_true rfl)) dMd_source_59 ⟨Nat.le_of_ble_eq_true rfl, Nat.le_of_ble_eq_true rfl⟩) hP hD hS hA [0, 1, 2] [] rfl rfl rfl rfl [0, 1, 2] rfl (fun _ => rfl) (fun r59 u H locs hw hP hD hS => ?_)
      have hP : va_P D vwCl (wdMd_source cA cB bd N t45_0 mReached mForm mSlot mOver mMeets mSources) H := hP
      have hD : va_D A (wdMd_source cA cB bd N t45_0 mReached mForm mSlot mOver mMeets mSources) := hD
      refine lv_goto (tgt := 66) hx hb dMd_source_62 rfl ?_
      exact hend r59 t45_0 _ _ _ _ dMd_source_66 hP hD hS hw
  refine lv_if_ne (tgt := 12) hx hb dMd_source_5 rfl (fun hc => ?_) (fun hc => ?_)
  · have hw := hw.1 (bI_1 hc)
    refine lv_aload_n hx hb dMd_source_12 rfl (lv_at hl 0 rfl) ?_
    refine lv_iload_n hx hb dMd_source_13 rfl (lv_at hl 1 rfl) ?_
    refine xci (va_runV ⟨hx, hb, hml, hown, hts⟩ (ktMd_noBlock l D cA cB bd N _ mThrown mReached mForm mSlot mOver v1 _ hw) (cwV 1 hts (goodV kw_1097 kw_1099 ks_3_12 kw_11 kw_1100) rfl rfl rfl (by decide +kernel) ⟨Nat.le_of_ble_eq_true rfl, Nat.le_of_ble_eq_true rfl⟩) (xpreV hK hP hD hN [0] rfl rfl 0 rfl rfl) rfl rfl hl.1 rfl (lv_room (Nat.le_of_ble_eq_true rfl)) dMd_source_14 ⟨Nat.le_of_ble_eq_true rfl, Nat.le_of_ble_eq_true rfl⟩) hP hD hS hA [0] [1, 2] rfl rfl rfl rfl [2, 0, 1] rfl (fun _ => rfl) (fun r14 u H locs hw hP hD hS => ?_)
    obtain ⟨r14, rfl, hw⟩ := hw
    have hP : va_P D vwCl (wdMd_source cA cB bd N mThrown mReached mForm mSlot mOver mMeets mSources) H := hP
    have hD : va_D A (wdMd_source cA cB bd N mThrown mReached mForm mSlot mOver mMeets mSources) := hD
    refine lv_if_ne (tgt := 40) hx hb dMd_source_17 rfl (fun hc => ?_) (fun hc => ?_)
    · have hw := hw.1 (bI_1 hc)
      refine lv_iconst (v := 2) hx hb dMd_source_40 (by decide) ?_
      refine lv_goto (tgt := 45) hx hb dMd_source_41 rfl ?_
      exact hj45 2 _ _ _ (lv_sub hl [0, 1, 2, 3] rfl) hP hD hS hw
    · have hw := hw.2 (bI_0 hc)
      refine lv_aload_n hx hb dMd_source_20 rfl (lv_at hl 0 rfl) ?_
      refine lv_iload_n hx hb dMd_source_21 rfl (lv_at hl 2 rfl) ?_
      refine xci (va_runV ⟨hx, hb, hml, hown, hts⟩ (ktMd_noVariable l D cA cB bd N _ v2 _ hw) (cwV 1 hts (goodV kw_1101 kw_1103 ks_3_13 kw_11 kw_1104) rfl rfl rfl (by decide +kernel) ⟨Nat.le_of_ble_eq_true rfl, Nat.le_of_ble_eq_true rfl⟩) (xpreV hK hP hD hN [] rfl rfl 0 rfl rfl) rfl rfl hl.1 rfl (lv_room (Nat.le_of_ble_eq_true rfl)) dMd_source_22 ⟨Nat.le_of_ble_eq_true rfl, Nat.le_of_ble_eq_true rfl⟩) hP hD hS hA [] [0, 1, 2] rfl rfl rfl rfl [0, 1, 2] rfl (fun _ => rfl) (fun r22 u H locs hw hP hD hS => ?_)
      obtain ⟨r22, rfl, hw⟩ := hw
      have hP : va_P D vwCl (wdMd_source cA cB bd N mThrown mReached mForm mSlot mOver mMeets mSources) H := hP
      have hD : va_D A (wdMd_source cA cB bd N mThrown mReached mForm mSlot mOver mMeets mSources) := hD
      refine lv_if_ne (tgt := 40) hx hb dMd_source_25 rfl (fun hc => ?_) (fun hc => ?_)
      · have hw := hw.1 (bI_1 hc)
        refine lv_iconst (v := 2) hx hb dMd_source_40 (by decide) ?_
        refine lv_goto (tgt := 45) hx hb dMd_source_41 rfl ?_
        exact hj45 2 _ _ _ (lv_sub hl [0, 1, 2, 3] rfl) hP hD hS hw
      · have hw := hw.2 (bI_0 hc)
        refine lv_iload_n hx hb dMd_source_28 rfl (lv_at hl 3 rfl) ?_
        refine lv_if_lt (tgt := 40) hx hb dMd_source_29 rfl (fun hc => ?_) (fun hc => ?_)
        · have hw := hw.1 hc
          refine lv_iconst (v := 2) hx hb dMd_source_40 (by decide) ?_
          refine lv_goto (tgt := 45) hx hb dMd_source_41 rfl ?_
          exact hj45 2 _ _ _ (lv_sub hl [0, 1, 2, 3] rfl) hP hD hS hw
        · have hw := hw.2 hc
          refine lv_iload_n hx hb dMd_source_32 rfl (lv_at hl 3 rfl) ?_
          refine lv_aload_n hx hb dMd_source_33 rfl (lv_at hl 0 rfl) ?_
          refine va_get (D := D) (ci := 7) (v := .int (nI N)) (C := "OnceNamedModel") (T := TX7) (N := 34) hx hb hts (fun w h => List.mem_cons_of_mem _ (inX7 w h)) hown hK hP 0 rfl rfl 1 (by decide) (hts _ (List.mem_cons_of_mem _ kw_986)) (fun _ h9 => h9) rfl dMd_source_34 ?_
          refine lv_icmp_le (tgt := 44) hx hb dMd_source_37 rfl (fun hc => ?_) (fun hc => ?_)
          · have hw := hw.1 hc
            refine lv_iconst (v := 0) hx hb dMd_source_44 (by decide) ?_
            exact hj45 0 _ _ _ (lv_sub hl [0, 1, 2, 3] rfl) hP hD hS hw
          · have hw := hw.2 hc
            refine lv_iconst (v := 2) hx hb dMd_source_40 (by decide) ?_
            refine lv_goto (tgt := 45) hx hb dMd_source_41 rfl ?_
            exact hj45 2 _ _ _ (lv_sub hl [0, 1, 2, 3] rfl) hP hD hS hw
  · have hw := hw.2 (bI_0 hc)
    refine lv_iconst (v := 1) hx hb dMd_source_8 (by decide) ?_
    refine lv_goto (tgt := 45) hx hb dMd_source_9 rfl ?_
    exact hj45 1 _ _ _ (lv_sub hl [0, 1, 2, 3] rfl) hP hD hS hw
abbrev wdMd_noStep (cA : ClassId) (cB : ClassId) (bd : Nat → Nat) (N : Nat) (mThrown : Int32) (mReached : Int32) (mForm : Bool) (mSlot : Int32) (mOver : Bool) (mMany : Nat → Int32) : va_W := [((bd 0), .inr (7, [.int mThrown, .int (nI N), .ref (bd 1), .ref (bd 2), .ref (bd 3), .ref (bd 4), .ref (bd 5), .ref (bd 6), .ref (bd 7), .ref (bd 8), .ref (bd 9), .ref (bd 10), .int mReached, .ref (bd 11), .int (bI mForm), .ref (bd 12), .ref (bd 13), .ref (bd 14), .ref (bd 15), .ref (bd 16), .ref (bd 17), .ref (bd 18), .ref (bd 19), .ref (bd 20), .ref (bd 21), .ref (bd 22), .ref (bd 23), .ref (bd 24), .ref (bd 25), .ref (bd 26), .ref (bd 27), .ref (bd 28), .int mSlot, .int (bI mOver)])), ((bd 1), .inl (cA, 12, .inl mMany))]
abbrev qcMd_noStep (D : va_G) (cA : ClassId) (cB : ClassId) (bd : Nat → Nat) (N : Nat) (mThrown : Int32) (mReached : Int32) (mForm : Bool) (mSlot : Int32) (mOver : Bool) (mMany : Nat → Int32) (post : Bool → Prop) (A : Nat → Prop) : Array Value → State → Outcome → State → Prop := va_Qi (S := Unit) (fun r u => ∃ z : Bool, r = bI z ∧ post z ) (fun u t => xB D [(cA, .int), (cB, .boolean)] A (wdMd_noStep cA cB bd N mThrown mReached mForm mSlot mOver mMany) t) A
abbrev rmMd_noStep : Room := { frames := 1, cells := 0, slots := 0, locals := 21 }
set_option maxHeartbeats 4000000 in
set_option maxRecDepth 100000 in
theorem ktMd_noStep (l : Launch) (D : va_G) (cA : ClassId) (cB : ClassId) (bd : Nat → Nat) (N : Nat) (sz : Nat) (mThrown : Int32) (mReached : Int32) (mForm : Bool) (mSlot : Int32) (mOver : Bool) (mMany : Nat → Int32) (v1 : Int32) (v2 : Int32) (post : Bool → Prop) (hw : wpMd_noStep N mMany v1 v2 post) : Met l yMd_noStep (Cond.code yMd_noStep cMd_noStep 3 (some .boolean) :: xW) rmMd_noStep (va_Pc [.ref (bd 0), .int v1, .int v2] (xPc D [(cA, .int), (cB, .boolean)] (wdMd_noStep cA cB bd N mThrown mReached mForm mSlot mOver mMany) sz)) (qcMd_noStep D cA cB bd N mThrown mReached mForm mSlot mOver mMany post (va_A (wdMd_noStep cA cB bd N mThrown mReached mForm mSlot mOver mMany) sz)) 0 0 (va_A (wdMd_noStep cA cB bd N mThrown mReached mForm mSlot mOver mMany) sz) := by
  refine Met.ofW (cc := cMd_noStep) (maxL := 3) (ret := (some .boolean)) (by decide) rfl ?_
  intro p e s m args below meth c s₁ B hml hv
  obtain ⟨rfl, hsz, hP, hK, hD0, hN⟩ := hv
  have hx := B.exec
  have hb := B.bytes
  have hr := B.returns
  have hts := atoms_spec (ws := (Cond.code yMd_noStep cMd_noStep 3 (some .boolean) :: xW)) B.pre
  have hown : s.vm.findClass "OnceNamedModel" = some m.cls := findClass_of_methodNamed B.named
  have hlocks := B.notSynchronized
  subst hsz
  have hD := hD0.self (sz := s.heap.size)
  generalize hAe : va_A (wdMd_noStep cA cB bd N mThrown mReached mForm mSlot mOver mMany) s.heap.size = A at hD ⊢
  have hA : ∀ q : Nat, s.heap.size ≤ q → A q := fun q h => by rw [← hAe]; exact Or.inr h
  have hS : va_S A s.heap s.heap [] := va_S.rf
  have hend : ∀ (r : Bool)  (H : Heap) (locs : List Loc) (pc : Nat) (ls : Array Slot), decode cMd_noStep pc = .ok (.ireturn, 1) → va_P D vwCl (wdMd_noStep cA cB bd N mThrown mReached mForm mSlot mOver mMany) H → va_D A (wdMd_noStep cA cB bd N mThrown mReached mForm mSlot mOver mMany) → va_S A s.heap H locs → post r  → W p l e (headSpec (Cond.code yMd_noStep cMd_noStep 3 (some .boolean) :: xW) rmMd_noStep).room s m ([.ref (bd 0), .int v1, .int v2] : List Value).toArray below meth c H locs 0 0 (MQ below (qcMd_noStep D cA cB bd N mThrown mReached mForm mSlot mOver mMany post A) ([.ref (bd 0), .int v1, .int v2] : List Value).toArray s 0 0 A) (F0 m pc ls [.int (bI r)]) := fun r  H locs pc ls hd hP hD hS hw => W.zret (v := bI r) hx hb hr (bI_nar r) (fun t ht hW => ⟨⟨bI r, (), rfl, ⟨r, rfl, hw⟩, ⟨by rw [ht]; exact hP, va_K.moved hW.alike hK, hD⟩⟩, hS.F ht⟩) hS.2.2 hd
  generalize hQ : MQ below (qcMd_noStep D cA cB bd N mThrown mReached mForm mSlot mOver mMany post A) ([.ref (bd 0), .int v1, .int v2] : List Value).toArray s 0 0 A = Q at hend ⊢
  have hl := lv_entry ([.ref (bd 0), .int v1, .int v2]) (n := 3) (Nat.le_of_ble_eq_true rfl)
  rw [lg_entry_eq]
  generalize (lg_sl ([.ref (bd 0), .int v1, .int v2]) ++ List.replicate (3 - (lg_sl ([.ref (bd 0), .int v1, .int v2])).length) Slot.unset).toArray = ls at hl ⊢
  have hl : lv_has ls 3 [(0, .ref (bd 0)), (1, .int v1), (2, .int v2)] := hl
  unfold wpMd_noStep at hw
  refine lv_aload_n hx hb dMd_noStep_0 rfl (lv_at hl 0 rfl) ?_
  refine lv_iload_n hx hb dMd_noStep_1 rfl (lv_at hl 1 rfl) ?_
  refine xci (va_runV ⟨hx, hb, hml, hown, hts⟩ (ktMd_noBlock l D cA cB bd N _ mThrown mReached mForm mSlot mOver v1 _ hw) (cwV 1 hts (goodV kw_1097 kw_1099 ks_3_12 kw_11 kw_1100) rfl rfl rfl (by decide +kernel) ⟨Nat.le_of_ble_eq_true rfl, Nat.le_of_ble_eq_true rfl⟩) (xpreV hK hP hD hN [0] rfl rfl 0 rfl rfl) rfl rfl hl.1 rfl (lv_room (Nat.le_of_ble_eq_true rfl)) dMd_noStep_2 ⟨Nat.le_of_ble_eq_true rfl, Nat.le_of_ble_eq_true rfl⟩) hP hD hS hA [0] [1] rfl rfl rfl rfl [1, 0] rfl (fun _ => rfl) (fun r2 u H locs hw hP hD hS => ?_)
  obtain ⟨r2, rfl, hw⟩ := hw
  have hP : va_P D vwCl (wdMd_noStep cA cB bd N mThrown mReached mForm mSlot mOver mMany) H := hP
  have hD : va_D A (wdMd_noStep cA cB bd N mThrown mReached mForm mSlot mOver mMany) := hD
  refine lv_if_ne (tgt := 22) hx hb dMd_noStep_5 rfl (fun hc => ?_) (fun hc => ?_)
  · have hw := hw.1 (bI_1 hc)
    refine lv_iconst (v := 1) hx hb dMd_noStep_22 (by decide) ?_
    refine lv_goto (tgt := 27) hx hb dMd_noStep_23 rfl ?_
    exact hend true _ _ _ _ dMd_noStep_27 hP hD hS hw
  · have hw := hw.2 (bI_0 hc)
    refine lv_iload_n hx hb dMd_noStep_8 rfl (lv_at hl 2 rfl) ?_
    refine lv_if_lt (tgt := 22) hx hb dMd_noStep_9 rfl (fun hc => ?_) (fun hc => ?_)
    · have hw := hw.1 hc
      refine lv_iconst (v := 1) hx hb dMd_noStep_22 (by decide) ?_
      refine lv_goto (tgt := 27) hx hb dMd_noStep_23 rfl ?_
      exact hend true _ _ _ _ dMd_noStep_27 hP hD hS hw
    · have hw := hw.2 hc
      refine lv_iload_n hx hb dMd_noStep_12 rfl (lv_at hl 2 rfl) ?_
      refine lv_aload_n hx hb dMd_noStep_13 rfl (lv_at hl 0 rfl) ?_
      refine va_get (D := D) (ci := 7) (v := .ref (bd 1)) (C := "OnceNamedModel") (T := TX7) (N := 34) hx hb hts (fun w h => List.mem_cons_of_mem _ (inX7 w h)) hown hK hP 0 rfl rfl 2 (by decide) (hts _ (List.mem_cons_of_mem _ kw_987)) (fun _ h9 => h9) rfl dMd_noStep_14 ?_
      refine lv_iload_n hx hb dMd_noStep_17 rfl (lv_at hl 1 rfl) ?_
      have ho := hw.1
      have hw := hw.2
      refine va_iald hx hb hK hP 1 0 rfl rfl ho dMd_noStep_18 ?_
      refine lv_icmp_lt (tgt := 26) hx hb dMd_noStep_19 rfl (fun hc => ?_) (fun hc => ?_)
      · have hw := hw.1 hc
        refine lv_iconst (v := 0) hx hb dMd_noStep_26 (by decide) ?_
        exact hend false _ _ _ _ dMd_noStep_27 hP hD hS hw
      · have hw := hw.2 hc
        refine lv_iconst (v := 1) hx hb dMd_noStep_22 (by decide) ?_
        refine lv_goto (tgt := 27) hx hb dMd_noStep_23 rfl ?_
        exact hend true _ _ _ _ dMd_noStep_27 hP hD hS hw
abbrev wdMd_sets (cA : ClassId) (cB : ClassId) (bd : Nat → Nat) (N : Nat) (mThrown : Int32) (mReached : Int32) (mForm : Bool) (mSlot : Int32) (mOver : Bool) (mMany : Nat → Int32) (mSet : Nat → Int32) : va_W := [((bd 0), .inr (7, [.int mThrown, .int (nI N), .ref (bd 1), .ref (bd 2), .ref (bd 3), .ref (bd 4), .ref (bd 5), .ref (bd 6), .ref (bd 7), .ref (bd 8), .ref (bd 9), .ref (bd 10), .int mReached, .ref (bd 11), .int (bI mForm), .ref (bd 12), .ref (bd 13), .ref (bd 14), .ref (bd 15), .ref (bd 16), .ref (bd 17), .ref (bd 18), .ref (bd 19), .ref (bd 20), .ref (bd 21), .ref (bd 22), .ref (bd 23), .ref (bd 24), .ref (bd 25), .ref (bd 26), .ref (bd 27), .ref (bd 28), .int mSlot, .int (bI mOver)])), ((bd 1), .inl (cA, 12, .inl mMany)), ((bd 14), .inl (cA, 72, .inl mSet))]
abbrev qcMd_sets (D : va_G) (cA : ClassId) (cB : ClassId) (bd : Nat → Nat) (N : Nat) (mThrown : Int32) (mReached : Int32) (mForm : Bool) (mSlot : Int32) (mOver : Bool) (mMany : Nat → Int32) (mSet : Nat → Int32) (post : Int32 → Int32 → Prop) (A : Nat → Prop) : Array Value → State → Outcome → State → Prop := va_Qi (S := (Int32)) (fun r u => post r u) (fun u t => xB D [(cA, .int), (cB, .boolean)] A (wdMd_sets cA cB bd N u mReached mForm mSlot mOver mMany mSet) t) A
abbrev rmMd_sets : Room := { frames := 2, cells := 0, slots := 0, locals := 43 }
set_option maxHeartbeats 4000000 in
set_option maxRecDepth 100000 in
theorem ktMd_sets (l : Launch) (D : va_G) (cA : ClassId) (cB : ClassId) (bd : Nat → Nat) (N : Nat) (sz : Nat) (mThrown : Int32) (mReached : Int32) (mForm : Bool) (mSlot : Int32) (mOver : Bool) (mMany : Nat → Int32) (mSet : Nat → Int32) (v1 : Int32) (v2 : Int32) (post : Int32 → Int32 → Prop) (hw : wpMd_sets N mForm mMany mSet v1 v2 post) : Met l yMd_sets (Cond.code yMd_sets cMd_sets 3 (some .int) :: xW) rmMd_sets (va_Pc [.ref (bd 0), .int v1, .int v2] (xPc D [(cA, .int), (cB, .boolean)] (wdMd_sets cA cB bd N mThrown mReached mForm mSlot mOver mMany mSet) sz)) (qcMd_sets D cA cB bd N mThrown mReached mForm mSlot mOver mMany mSet post (va_A (wdMd_sets cA cB bd N mThrown mReached mForm mSlot mOver mMany mSet) sz)) 0 0 (va_A (wdMd_sets cA cB bd N mThrown mReached mForm mSlot mOver mMany mSet) sz) := by
  refine Met.ofW (cc := cMd_sets) (maxL := 3) (ret := (some .int)) (by decide) rfl ?_
  intro p e s m args below meth c s₁ B hml hv
  obtain ⟨rfl, hsz, hP, hK, hD0, hN⟩ := hv
  have hx := B.exec
  have hb := B.bytes
  have hr := B.returns
  have hts := atoms_spec (ws := (Cond.code yMd_sets cMd_sets 3 (some .int) :: xW)) B.pre
  have hown : s.vm.findClass "OnceNamedModel" = some m.cls := findClass_of_methodNamed B.named
  have hlocks := B.notSynchronized
  subst hsz
  have hD := hD0.self (sz := s.heap.size)
  generalize hAe : va_A (wdMd_sets cA cB bd N mThrown mReached mForm mSlot mOver mMany mSet) s.heap.size = A at hD ⊢
  have hA : ∀ q : Nat, s.heap.size ≤ q → A q := fun q h => by rw [← hAe]; exact Or.inr h
  have hS : va_S A s.heap s.heap [] := va_S.rf
  have hend : ∀ (r : Int32) (u0 : Int32) (H : Heap) (locs : List Loc) (pc : Nat) (ls : Array Slot), decode cMd_sets pc = .ok (.ireturn, 1) → va_P D vwCl (wdMd_sets cA cB bd N u0 mReached mForm mSlot mOver mMany mSet) H → va_D A (wdMd_sets cA cB bd N u0 mReached mForm mSlot mOver mMany mSet) → va_S A s.heap H locs → post r u0 → W p l e (headSpec (Cond.code yMd_sets cMd_sets 3 (some .int) :: xW) rmMd_sets).room s m ([.ref (bd 0), .int v1, .int v2] : List Value).toArray below meth c H locs 0 0 (MQ below (qcMd_sets D cA cB bd N mThrown mReached mForm mSlot mOver mMany mSet post A) ([.ref (bd 0), .int v1, .int v2] : List Value).toArray s 0 0 A) (F0 m pc ls [.int r]) := fun r u0 H locs pc ls hd hP hD hS hw => W.iret (v := r) hx hb hr (fun t ht hW => ⟨⟨r, u0, rfl, hw, ⟨by rw [ht]; exact hP, va_K.moved hW.alike hK, hD⟩⟩, hS.F ht⟩) hS.2.2 hd
  generalize hQ : MQ below (qcMd_sets D cA cB bd N mThrown mReached mForm mSlot mOver mMany mSet post A) ([.ref (bd 0), .int v1, .int v2] : List Value).toArray s 0 0 A = Q at hend ⊢
  have hl := lv_entry ([.ref (bd 0), .int v1, .int v2]) (n := 3) (Nat.le_of_ble_eq_true rfl)
  rw [lg_entry_eq]
  generalize (lg_sl ([.ref (bd 0), .int v1, .int v2]) ++ List.replicate (3 - (lg_sl ([.ref (bd 0), .int v1, .int v2])).length) Slot.unset).toArray = ls at hl ⊢
  have hl : lv_has ls 3 [(0, .ref (bd 0)), (1, .int v1), (2, .int v2)] := hl
  unfold wpMd_sets at hw
  refine lv_aload_n hx hb dMd_sets_0 rfl (lv_at hl 0 rfl) ?_
  refine lv_aload_n hx hb dMd_sets_1 rfl (lv_at hl 0 rfl) ?_
  refine va_get (D := D) (ci := 7) (v := .int (bI mForm)) (C := "OnceNamedModel") (T := TX7) (N := 34) hx hb hts (fun w h => List.mem_cons_of_mem _ (inX7 w h)) hown hK hP 0 rfl rfl 14 (by decide) (hts _ (List.mem_cons_of_mem _ kw_999)) (fun _ h9 => h9) rfl dMd_sets_2 ?_
  obtain ⟨J26, hJ26, hw⟩ := hw
  have hj26 : ∀ (t26_0 : Int32) (ls : Array Slot) (H : Heap) (locs : List Loc), lv_has ls 3 [(0, .ref (bd 0)), (1, .int v1), (2, .int v2)] → va_P D vwCl (wdMd_sets cA cB bd N mThrown mReached mForm mSlot mOver mMany mSet) H → va_D A (wdMd_sets cA cB bd N mThrown mReached mForm mSlot mOver mMany mSet) → va_S A s.heap H locs → J26 t26_0 → W p l e (headSpec (Cond.code yMd_sets cMd_sets 3 (some .int) :: xW) rmMd_sets).room s m ([.ref (bd 0), .int v1, .int v2] : List Value).toArray below meth c H locs 0 0 Q (F0 m 26 ls [.int t26_0, .ref (bd 0)]) := by
    intro t26_0 ls H locs hl hP hD hS hw
    have hw := hJ26 t26_0 hw
    refine va_put (D := D) (ci := 7) (v := .int t26_0) (ty := .int) (C := "OnceNamedModel") (T := TX7) (N := 34) hx hb hts (fun w h => List.mem_cons_of_mem _ (inX7 w h)) tyX7 tyX7_ok nmX7 hown hK hP hD hS 0 rfl rfl 0 (by decide) (hts _ (List.mem_cons_of_mem _ kw_985)) (fun _ h9 => h9) rfl (by decide +kernel) rfl rfl (Nat.le_of_ble_eq_true rfl) dMd_sets_26 (fun H locs hP hD hS => ?_)
    have hP : va_P D vwCl (wdMd_sets cA cB bd N t26_0 mReached mForm mSlot mOver mMany mSet) H := hP
    have hD : va_D A (wdMd_sets cA cB bd N t26_0 mReached mForm mSlot mOver mMany mSet) := hD
    refine lv_aload_n hx hb dMd_sets_29 rfl (lv_at hl 0 rfl) ?_
    refine va_get (D := D) (ci := 7) (v := .int t26_0) (C := "OnceNamedModel") (T := TX7) (N := 34) hx hb hts (fun w h => List.mem_cons_of_mem _ (inX7 w h)) hown hK hP 0 rfl rfl 0 (by decide) (hts _ (List.mem_cons_of_mem _ kw_985)) (fun _ h9 => h9) rfl dMd_sets_30 ?_
    refine lv_if_ne (tgt := 50) hx hb dMd_sets_33 rfl (fun hc => ?_) (fun hc => ?_)
    · have hw := hw.1 hc
      refine lv_iconst (v := 0) hx hb dMd_sets_50 (by decide) ?_
      exact hend 0 t26_0 _ _ _ _ dMd_sets_51 hP hD hS hw
    · have hw := hw.2 hc
      refine lv_aload_n hx hb dMd_sets_36 rfl (lv_at hl 0 rfl) ?_
      refine va_get (D := D) (ci := 7) (v := .ref (bd 14)) (C := "OnceNamedModel") (T := TX7) (N := 34) hx hb hts (fun w h => List.mem_cons_of_mem _ (inX7 w h)) hown hK hP 0 rfl rfl 17 (by decide) (hts _ (List.mem_cons_of_mem _ kw_1002)) (fun _ h9 => h9) rfl dMd_sets_37 ?_
      refine lv_bipush (v := 6) hx hb dMd_sets_40 (by decide) ?_
      refine lv_iload_n hx hb dMd_sets_42 rfl (lv_at hl 1 rfl) ?_
      refine lv_imul hx hb dMd_sets_43 ?_
      refine lv_iload_n hx hb dMd_sets_44 rfl (lv_at hl 2 rfl) ?_
      refine lv_iadd hx hb dMd_sets_45 ?_
      have ho := hw.1
      have hw := hw.2
      refine va_iald hx hb hK hP 2 0 rfl rfl ho dMd_sets_46 ?_
      refine lv_goto (tgt := 51) hx hb dMd_sets_47 rfl ?_
      exact hend (mSet (Int32.toNatClampNeg ((6 * v1) + v2))) t26_0 _ _ _ _ dMd_sets_51 hP hD hS hw
  refine lv_if_ne (tgt := 12) hx hb dMd_sets_5 rfl (fun hc => ?_) (fun hc => ?_)
  · have hw := hw.1 (bI_1 hc)
    refine lv_aload_n hx hb dMd_sets_12 rfl (lv_at hl 0 rfl) ?_
    refine lv_iload_n hx hb dMd_sets_13 rfl (lv_at hl 1 rfl) ?_
    refine lv_iload_n hx hb dMd_sets_14 rfl (lv_at hl 2 rfl) ?_
    refine xci (va_runV ⟨hx, hb, hml, hown, hts⟩ (ktMd_noStep l D cA cB bd N _ mThrown mReached mForm mSlot mOver mMany v1 v2 _ hw) (cwV 2 hts (goodV kw_1233 kw_1235 ks_5_1 kw_11 kw_1236) rfl rfl rfl (by decide +kernel) ⟨Nat.le_of_ble_eq_true rfl, Nat.le_of_ble_eq_true rfl⟩) (xpreV hK hP hD hN [0, 1] rfl rfl 0 rfl rfl) rfl rfl hl.1 rfl (lv_room (Nat.le_of_ble_eq_true rfl)) dMd_sets_15 ⟨Nat.le_of_ble_eq_true rfl, Nat.le_of_ble_eq_true rfl⟩) hP hD hS hA [0, 1] [2] rfl rfl rfl rfl [1, 2, 0] rfl (fun _ => rfl) (fun r15 u H locs hw hP hD hS => ?_)
    obtain ⟨r15, rfl, hw⟩ := hw
    have hP : va_P D vwCl (wdMd_sets cA cB bd N mThrown mReached mForm mSlot mOver mMany mSet) H := hP
    have hD : va_D A (wdMd_sets cA cB bd N mThrown mReached mForm mSlot mOver mMany mSet) := hD
    refine lv_if_eq (tgt := 25) hx hb dMd_sets_18 rfl (fun hc => ?_) (fun hc => ?_)
    · have hw := hw.1 (bI_0 hc)
      refine lv_iconst (v := 0) hx hb dMd_sets_25 (by decide) ?_
      exact hj26 0 _ _ _ (lv_sub hl [0, 1, 2] rfl) hP hD hS hw
    · have hw := hw.2 (bI_1 hc)
      refine lv_iconst (v := 2) hx hb dMd_sets_21 (by decide) ?_
      refine lv_goto (tgt := 26) hx hb dMd_sets_22 rfl ?_
      exact hj26 2 _ _ _ (lv_sub hl [0, 1, 2] rfl) hP hD hS hw
  · have hw := hw.2 (bI_0 hc)
    refine lv_iconst (v := 1) hx hb dMd_sets_8 (by decide) ?_
    refine lv_goto (tgt := 26) hx hb dMd_sets_9 rfl ?_
    exact hj26 1 _ _ _ (lv_sub hl [0, 1, 2] rfl) hP hD hS hw
abbrev wdMd_noUse (cA : ClassId) (cB : ClassId) (bd : Nat → Nat) (N : Nat) (mThrown : Int32) (mReached : Int32) (mForm : Bool) (mSlot : Int32) (mOver : Bool) (mMany : Nat → Int32) : va_W := [((bd 0), .inr (7, [.int mThrown, .int (nI N), .ref (bd 1), .ref (bd 2), .ref (bd 3), .ref (bd 4), .ref (bd 5), .ref (bd 6), .ref (bd 7), .ref (bd 8), .ref (bd 9), .ref (bd 10), .int mReached, .ref (bd 11), .int (bI mForm), .ref (bd 12), .ref (bd 13), .ref (bd 14), .ref (bd 15), .ref (bd 16), .ref (bd 17), .ref (bd 18), .ref (bd 19), .ref (bd 20), .ref (bd 21), .ref (bd 22), .ref (bd 23), .ref (bd 24), .ref (bd 25), .ref (bd 26), .ref (bd 27), .ref (bd 28), .int mSlot, .int (bI mOver)])), ((bd 1), .inl (cA, 12, .inl mMany))]
abbrev qcMd_noUse (D : va_G) (cA : ClassId) (cB : ClassId) (bd : Nat → Nat) (N : Nat) (mThrown : Int32) (mReached : Int32) (mForm : Bool) (mSlot : Int32) (mOver : Bool) (mMany : Nat → Int32) (post : Bool → Prop) (A : Nat → Prop) : Array Value → State → Outcome → State → Prop := va_Qi (S := Unit) (fun r u => ∃ z : Bool, r = bI z ∧ post z ) (fun u t => xB D [(cA, .int), (cB, .boolean)] A (wdMd_noUse cA cB bd N mThrown mReached mForm mSlot mOver mMany) t) A
abbrev rmMd_noUse : Room := { frames := 2, cells := 0, slots := 0, locals := 43 }
set_option maxHeartbeats 4000000 in
set_option maxRecDepth 100000 in
theorem ktMd_noUse (l : Launch) (D : va_G) (cA : ClassId) (cB : ClassId) (bd : Nat → Nat) (N : Nat) (sz : Nat) (mThrown : Int32) (mReached : Int32) (mForm : Bool) (mSlot : Int32) (mOver : Bool) (mMany : Nat → Int32) (v1 : Int32) (v2 : Int32) (v3 : Int32) (post : Bool → Prop) (hw : wpMd_noUse N mMany v1 v2 v3 post) : Met l yMd_noUse (Cond.code yMd_noUse cMd_noUse 4 (some .boolean) :: xW) rmMd_noUse (va_Pc [.ref (bd 0), .int v1, .int v2, .int v3] (xPc D [(cA, .int), (cB, .boolean)] (wdMd_noUse cA cB bd N mThrown mReached mForm mSlot mOver mMany) sz)) (qcMd_noUse D cA cB bd N mThrown mReached mForm mSlot mOver mMany post (va_A (wdMd_noUse cA cB bd N mThrown mReached mForm mSlot mOver mMany) sz)) 0 0 (va_A (wdMd_noUse cA cB bd N mThrown mReached mForm mSlot mOver mMany) sz) := by
  refine Met.ofW (cc := cMd_noUse) (maxL := 4) (ret := (some .boolean)) (by decide) rfl ?_
  intro p e s m args below meth c s₁ B hml hv
  obtain ⟨rfl, hsz, hP, hK, hD0, hN⟩ := hv
  have hx := B.exec
  have hb := B.bytes
  have hr := B.returns
  have hts := atoms_spec (ws := (Cond.code yMd_noUse cMd_noUse 4 (some .boolean) :: xW)) B.pre
  have hown : s.vm.findClass "OnceNamedModel" = some m.cls := findClass_of_methodNamed B.named
  have hlocks := B.notSynchronized
  subst hsz
  have hD := hD0.self (sz := s.heap.size)
  generalize hAe : va_A (wdMd_noUse cA cB bd N mThrown mReached mForm mSlot mOver mMany) s.heap.size = A at hD ⊢
  have hA : ∀ q : Nat, s.heap.size ≤ q → A q := fun q h => by rw [← hAe]; exact Or.inr h
  have hS : va_S A s.heap s.heap [] := va_S.rf
  have hend : ∀ (r : Bool)  (H : Heap) (locs : List Loc) (pc : Nat) (ls : Array Slot), decode cMd_noUse pc = .ok (.ireturn, 1) → va_P D vwCl (wdMd_noUse cA cB bd N mThrown mReached mForm mSlot mOver mMany) H → va_D A (wdMd_noUse cA cB bd N mThrown mReached mForm mSlot mOver mMany) → va_S A s.heap H locs → post r  → W p l e (headSpec (Cond.code yMd_noUse cMd_noUse 4 (some .boolean) :: xW) rmMd_noUse).room s m ([.ref (bd 0), .int v1, .int v2, .int v3] : List Value).toArray below meth c H locs 0 0 (MQ below (qcMd_noUse D cA cB bd N mThrown mReached mForm mSlot mOver mMany post A) ([.ref (bd 0), .int v1, .int v2, .int v3] : List Value).toArray s 0 0 A) (F0 m pc ls [.int (bI r)]) := fun r  H locs pc ls hd hP hD hS hw => W.zret (v := bI r) hx hb hr (bI_nar r) (fun t ht hW => ⟨⟨bI r, (), rfl, ⟨r, rfl, hw⟩, ⟨by rw [ht]; exact hP, va_K.moved hW.alike hK, hD⟩⟩, hS.F ht⟩) hS.2.2 hd
  generalize hQ : MQ below (qcMd_noUse D cA cB bd N mThrown mReached mForm mSlot mOver mMany post A) ([.ref (bd 0), .int v1, .int v2, .int v3] : List Value).toArray s 0 0 A = Q at hend ⊢
  have hl := lv_entry ([.ref (bd 0), .int v1, .int v2, .int v3]) (n := 4) (Nat.le_of_ble_eq_true rfl)
  rw [lg_entry_eq]
  generalize (lg_sl ([.ref (bd 0), .int v1, .int v2, .int v3]) ++ List.replicate (4 - (lg_sl ([.ref (bd 0), .int v1, .int v2, .int v3])).length) Slot.unset).toArray = ls at hl ⊢
  have hl : lv_has ls 4 [(0, .ref (bd 0)), (1, .int v1), (2, .int v2), (3, .int v3)] := hl
  unfold wpMd_noUse at hw
  refine lv_aload_n hx hb dMd_noUse_0 rfl (lv_at hl 0 rfl) ?_
  refine lv_iload_n hx hb dMd_noUse_1 rfl (lv_at hl 1 rfl) ?_
  refine xci (va_runV ⟨hx, hb, hml, hown, hts⟩ (ktMd_noBlock l D cA cB bd N _ mThrown mReached mForm mSlot mOver v1 _ hw) (cwV 1 hts (goodV kw_1097 kw_1099 ks_3_12 kw_11 kw_1100) rfl rfl rfl (by decide +kernel) ⟨Nat.le_of_ble_eq_true rfl, Nat.le_of_ble_eq_true rfl⟩) (xpreV hK hP hD hN [0] rfl rfl 0 rfl rfl) rfl rfl hl.1 rfl (lv_room (Nat.le_of_ble_eq_true rfl)) dMd_noUse_2 ⟨Nat.le_of_ble_eq_true rfl, Nat.le_of_ble_eq_true rfl⟩) hP hD hS hA [0] [1] rfl rfl rfl rfl [1, 0] rfl (fun _ => rfl) (fun r2 u H locs hw hP hD hS => ?_)
  obtain ⟨r2, rfl, hw⟩ := hw
  have hP : va_P D vwCl (wdMd_noUse cA cB bd N mThrown mReached mForm mSlot mOver mMany) H := hP
  have hD : va_D A (wdMd_noUse cA cB bd N mThrown mReached mForm mSlot mOver mMany) := hD
  refine lv_if_ne (tgt := 31) hx hb dMd_noUse_5 rfl (fun hc => ?_) (fun hc => ?_)
  · have hw := hw.1 (bI_1 hc)
    refine lv_iconst (v := 1) hx hb dMd_noUse_31 (by decide) ?_
    refine lv_goto (tgt := 36) hx hb dMd_noUse_32 rfl ?_
    exact hend true _ _ _ _ dMd_noUse_36 hP hD hS hw
  · have hw := hw.2 (bI_0 hc)
    refine lv_iload_n hx hb dMd_noUse_8 rfl (lv_at hl 2 rfl) ?_
    refine lv_iconst (v := (-1)) hx hb dMd_noUse_9 (by decide) ?_
    refine lv_icmp_eq (tgt := 35) hx hb dMd_noUse_10 rfl (fun hc => ?_) (fun hc => ?_)
    · have hw := hw.1 hc
      refine lv_iconst (v := 0) hx hb dMd_noUse_35 (by decide) ?_
      exact hend false _ _ _ _ dMd_noUse_36 hP hD hS hw
    · have hw := hw.2 hc
      refine lv_aload_n hx hb dMd_noUse_13 rfl (lv_at hl 0 rfl) ?_
      refine lv_iload_n hx hb dMd_noUse_14 rfl (lv_at hl 1 rfl) ?_
      refine lv_iload_n hx hb dMd_noUse_15 rfl (lv_at hl 2 rfl) ?_
      refine xci (va_runV ⟨hx, hb, hml, hown, hts⟩ (ktMd_noStep l D cA cB bd N _ mThrown mReached mForm mSlot mOver mMany v1 v2 _ hw) (cwV 2 hts (goodV kw_1233 kw_1235 ks_5_1 kw_11 kw_1236) rfl rfl rfl (by decide +kernel) ⟨Nat.le_of_ble_eq_true rfl, Nat.le_of_ble_eq_true rfl⟩) (xpreV hK hP hD hN [0, 1] rfl rfl 0 rfl rfl) rfl rfl hl.1 rfl (lv_room (Nat.le_of_ble_eq_true rfl)) dMd_noUse_16 ⟨Nat.le_of_ble_eq_true rfl, Nat.le_of_ble_eq_true rfl⟩) hP hD hS hA [0, 1] [] rfl rfl rfl rfl [0, 1] rfl (fun _ => rfl) (fun r16 u H locs hw hP hD hS => ?_)
      obtain ⟨r16, rfl, hw⟩ := hw
      have hP : va_P D vwCl (wdMd_noUse cA cB bd N mThrown mReached mForm mSlot mOver mMany) H := hP
      have hD : va_D A (wdMd_noUse cA cB bd N mThrown mReached mForm mSlot mOver mMany) := hD
      refine lv_if_ne (tgt := 31) hx hb dMd_noUse_19 rfl (fun hc => ?_) (fun hc => ?_)
      · have hw := hw.1 (bI_1 hc)
        refine lv_iconst (v := 1) hx hb dMd_noUse_31 (by decide) ?_
        refine lv_goto (tgt := 36) hx hb dMd_noUse_32 rfl ?_
        exact hend true _ _ _ _ dMd_noUse_36 hP hD hS hw
      · have hw := hw.2 (bI_0 hc)
        refine lv_iload_n hx hb dMd_noUse_22 rfl (lv_at hl 3 rfl) ?_
        refine lv_if_lt (tgt := 31) hx hb dMd_noUse_23 rfl (fun hc => ?_) (fun hc => ?_)
        · have hw := hw.1 hc
          refine lv_iconst (v := 1) hx hb dMd_noUse_31 (by decide) ?_
          refine lv_goto (tgt := 36) hx hb dMd_noUse_32 rfl ?_
          exact hend true _ _ _ _ dMd_noUse_36 hP hD hS hw
        · have hw := hw.2 hc
          refine lv_iload_n hx hb dMd_noUse_26 rfl (lv_at hl 3 rfl) ?_
          refine lv_iconst (v := 1) hx hb dMd_noUse_27 (by decide) ?_
          refine lv_icmp_le (tgt := 35) hx hb dMd_noUse_28 rfl (fun hc => ?_) (fun hc => ?_)
          · have hw := hw.1 hc
            refine lv_iconst (v := 0) hx hb dMd_noUse_35 (by decide) ?_
            exact hend false _ _ _ _ dMd_noUse_36 hP hD hS hw
          · have hw := hw.2 hc
            refine lv_iconst (v := 1) hx hb dMd_noUse_31 (by decide) ?_
            refine lv_goto (tgt := 36) hx hb dMd_noUse_32 rfl ?_
            exact hend true _ _ _ _ dMd_noUse_36 hP hD hS hw
abbrev wdMd_useOf (cA : ClassId) (cB : ClassId) (bd : Nat → Nat) (N : Nat) (mThrown : Int32) (mReached : Int32) (mForm : Bool) (mSlot : Int32) (mOver : Bool) (mUseW : Nat → Int32) (mUseX : Nat → Int32) (mEndUse : Nat → Int32) : va_W := [((bd 0), .inr (7, [.int mThrown, .int (nI N), .ref (bd 1), .ref (bd 2), .ref (bd 3), .ref (bd 4), .ref (bd 5), .ref (bd 6), .ref (bd 7), .ref (bd 8), .ref (bd 9), .ref (bd 10), .int mReached, .ref (bd 11), .int (bI mForm), .ref (bd 12), .ref (bd 13), .ref (bd 14), .ref (bd 15), .ref (bd 16), .ref (bd 17), .ref (bd 18), .ref (bd 19), .ref (bd 20), .ref (bd 21), .ref (bd 22), .ref (bd 23), .ref (bd 24), .ref (bd 25), .ref (bd 26), .ref (bd 27), .ref (bd 28), .int mSlot, .int (bI mOver)])), ((bd 15), .inl (cA, 72, .inl mUseW)), ((bd 16), .inl (cA, 72, .inl mUseX)), ((bd 17), .inl (cA, 12, .inl mEndUse))]
abbrev qcMd_useOf (D : va_G) (cA : ClassId) (cB : ClassId) (bd : Nat → Nat) (N : Nat) (mThrown : Int32) (mReached : Int32) (mForm : Bool) (mSlot : Int32) (mOver : Bool) (mUseW : Nat → Int32) (mUseX : Nat → Int32) (mEndUse : Nat → Int32) (post : Int32 → Prop) (A : Nat → Prop) : Array Value → State → Outcome → State → Prop := va_Qi (S := Unit) (fun r u => post r ) (fun u t => xB D [(cA, .int), (cB, .boolean)] A (wdMd_useOf cA cB bd N mThrown mReached mForm mSlot mOver mUseW mUseX mEndUse) t) A
abbrev rmMd_useOf : Room := { frames := 0, cells := 0, slots := 0, locals := 0 }
set_option maxHeartbeats 4000000 in
set_option maxRecDepth 100000 in
theorem ktMd_useOf (l : Launch) (D : va_G) (cA : ClassId) (cB : ClassId) (bd : Nat → Nat) (N : Nat) (sz : Nat) (mThrown : Int32) (mReached : Int32) (mForm : Bool) (mSlot : Int32) (mOver : Bool) (mUseW : Nat → Int32) (mUseX : Nat → Int32) (mEndUse : Nat → Int32) (v1 : Int32) (v2 : Int32) (v3 : Int32) (post : Int32 → Prop) (hw : wpMd_useOf mUseW mUseX mEndUse v1 v2 v3 post) : Met l yMd_useOf (Cond.code yMd_useOf cMd_useOf 4 (some .int) :: xW) rmMd_useOf (va_Pc [.ref (bd 0), .int v1, .int v2, .int v3] (xPc D [(cA, .int), (cB, .boolean)] (wdMd_useOf cA cB bd N mThrown mReached mForm mSlot mOver mUseW mUseX mEndUse) sz)) (qcMd_useOf D cA cB bd N mThrown mReached mForm mSlot mOver mUseW mUseX mEndUse post (va_A (wdMd_useOf cA cB bd N mThrown mReached mForm mSlot mOver mUseW mUseX mEndUse) sz)) 0 0 (va_A (wdMd_useOf cA cB bd N mThrown mReached mForm mSlot mOver mUseW mUseX mEndUse) sz) := by
  refine Met.ofW (cc := cMd_useOf) (maxL := 4) (ret := (some .int)) (by decide) rfl ?_
  intro p e s m args below meth c s₁ B hml hv
  obtain ⟨rfl, hsz, hP, hK, hD0, hN⟩ := hv
  have hx := B.exec
  have hb := B.bytes
  have hr := B.returns
  have hts := atoms_spec (ws := (Cond.code yMd_useOf cMd_useOf 4 (some .int) :: xW)) B.pre
  have hown : s.vm.findClass "OnceNamedModel" = some m.cls := findClass_of_methodNamed B.named
  have hlocks := B.notSynchronized
  subst hsz
  have hD := hD0.self (sz := s.heap.size)
  generalize hAe : va_A (wdMd_useOf cA cB bd N mThrown mReached mForm mSlot mOver mUseW mUseX mEndUse) s.heap.size = A at hD ⊢
  have hA : ∀ q : Nat, s.heap.size ≤ q → A q := fun q h => by rw [← hAe]; exact Or.inr h
  have hS : va_S A s.heap s.heap [] := va_S.rf
  have hend : ∀ (r : Int32)  (H : Heap) (locs : List Loc) (pc : Nat) (ls : Array Slot), decode cMd_useOf pc = .ok (.ireturn, 1) → va_P D vwCl (wdMd_useOf cA cB bd N mThrown mReached mForm mSlot mOver mUseW mUseX mEndUse) H → va_D A (wdMd_useOf cA cB bd N mThrown mReached mForm mSlot mOver mUseW mUseX mEndUse) → va_S A s.heap H locs → post r  → W p l e (headSpec (Cond.code yMd_useOf cMd_useOf 4 (some .int) :: xW) rmMd_useOf).room s m ([.ref (bd 0), .int v1, .int v2, .int v3] : List Value).toArray below meth c H locs 0 0 (MQ below (qcMd_useOf D cA cB bd N mThrown mReached mForm mSlot mOver mUseW mUseX mEndUse post A) ([.ref (bd 0), .int v1, .int v2, .int v3] : List Value).toArray s 0 0 A) (F0 m pc ls [.int r]) := fun r  H locs pc ls hd hP hD hS hw => W.iret (v := r) hx hb hr (fun t ht hW => ⟨⟨r, (), rfl, hw, ⟨by rw [ht]; exact hP, va_K.moved hW.alike hK, hD⟩⟩, hS.F ht⟩) hS.2.2 hd
  generalize hQ : MQ below (qcMd_useOf D cA cB bd N mThrown mReached mForm mSlot mOver mUseW mUseX mEndUse post A) ([.ref (bd 0), .int v1, .int v2, .int v3] : List Value).toArray s 0 0 A = Q at hend ⊢
  have hl := lv_entry ([.ref (bd 0), .int v1, .int v2, .int v3]) (n := 4) (Nat.le_of_ble_eq_true rfl)
  rw [lg_entry_eq]
  generalize (lg_sl ([.ref (bd 0), .int v1, .int v2, .int v3]) ++ List.replicate (4 - (lg_sl ([.ref (bd 0), .int v1, .int v2, .int v3])).length) Slot.unset).toArray = ls at hl ⊢
  have hl : lv_has ls 4 [(0, .ref (bd 0)), (1, .int v1), (2, .int v2), (3, .int v3)] := hl
  unfold wpMd_useOf at hw
  refine lv_iload_n hx hb dMd_useOf_0 rfl (lv_at hl 2 rfl) ?_
  refine lv_iconst (v := (-1)) hx hb dMd_useOf_1 (by decide) ?_
  refine lv_icmp_ne (tgt := 14) hx hb dMd_useOf_2 rfl (fun hc => ?_) (fun hc => ?_)
  · have hw := hw.1 hc
    refine lv_iload_n hx hb dMd_useOf_14 rfl (lv_at hl 3 rfl) ?_
    refine lv_if_ne (tgt := 32) hx hb dMd_useOf_15 rfl (fun hc => ?_) (fun hc => ?_)
    · have hw := hw.1 hc
      refine lv_aload_n hx hb dMd_useOf_32 rfl (lv_at hl 0 rfl) ?_
      refine va_get (D := D) (ci := 7) (v := .ref (bd 16)) (C := "OnceNamedModel") (T := TX7) (N := 34) hx hb hts (fun w h => List.mem_cons_of_mem _ (inX7 w h)) hown hK hP 0 rfl rfl 19 (by decide) (hts _ (List.mem_cons_of_mem _ kw_1004)) (fun _ h9 => h9) rfl dMd_useOf_33 ?_
      refine lv_bipush (v := 6) hx hb dMd_useOf_36 (by decide) ?_
      refine lv_iload_n hx hb dMd_useOf_38 rfl (lv_at hl 1 rfl) ?_
      refine lv_imul hx hb dMd_useOf_39 ?_
      refine lv_iload_n hx hb dMd_useOf_40 rfl (lv_at hl 2 rfl) ?_
      refine lv_iadd hx hb dMd_useOf_41 ?_
      have ho := hw.1
      have hw := hw.2
      refine va_iald hx hb hK hP 2 0 rfl rfl ho dMd_useOf_42 ?_
      exact hend (mUseX (Int32.toNatClampNeg ((6 * v1) + v2))) _ _ _ _ dMd_useOf_43 hP hD hS hw
    · have hw := hw.2 hc
      refine lv_aload_n hx hb dMd_useOf_18 rfl (lv_at hl 0 rfl) ?_
      refine va_get (D := D) (ci := 7) (v := .ref (bd 15)) (C := "OnceNamedModel") (T := TX7) (N := 34) hx hb hts (fun w h => List.mem_cons_of_mem _ (inX7 w h)) hown hK hP 0 rfl rfl 18 (by decide) (hts _ (List.mem_cons_of_mem _ kw_1003)) (fun _ h9 => h9) rfl dMd_useOf_19 ?_
      refine lv_bipush (v := 6) hx hb dMd_useOf_22 (by decide) ?_
      refine lv_iload_n hx hb dMd_useOf_24 rfl (lv_at hl 1 rfl) ?_
      refine lv_imul hx hb dMd_useOf_25 ?_
      refine lv_iload_n hx hb dMd_useOf_26 rfl (lv_at hl 2 rfl) ?_
      refine lv_iadd hx hb dMd_useOf_27 ?_
      have ho := hw.1
      have hw := hw.2
      refine va_iald hx hb hK hP 1 0 rfl rfl ho dMd_useOf_28 ?_
      refine lv_goto (tgt := 43) hx hb dMd_useOf_29 rfl ?_
      exact hend (mUseW (Int32.toNatClampNeg ((6 * v1) + v2))) _ _ _ _ dMd_useOf_43 hP hD hS hw
  · have hw := hw.2 hc
    refine lv_aload_n hx hb dMd_useOf_5 rfl (lv_at hl 0 rfl) ?_
    refine va_get (D := D) (ci := 7) (v := .ref (bd 17)) (C := "OnceNamedModel") (T := TX7) (N := 34) hx hb hts (fun w h => List.mem_cons_of_mem _ (inX7 w h)) hown hK hP 0 rfl rfl 20 (by decide) (hts _ (List.mem_cons_of_mem _ kw_1005)) (fun _ h9 => h9) rfl dMd_useOf_6 ?_
    refine lv_iload_n hx hb dMd_useOf_9 rfl (lv_at hl 1 rfl) ?_
    have ho := hw.1
    have hw := hw.2
    refine va_iald hx hb hK hP 3 0 rfl rfl ho dMd_useOf_10 ?_
    refine lv_goto (tgt := 43) hx hb dMd_useOf_11 rfl ?_
    exact hend (mEndUse (Int32.toNatClampNeg v1)) _ _ _ _ dMd_useOf_43 hP hD hS hw
abbrev wdMd_use (cA : ClassId) (cB : ClassId) (bd : Nat → Nat) (N : Nat) (mThrown : Int32) (mReached : Int32) (mForm : Bool) (mSlot : Int32) (mOver : Bool) (mMany : Nat → Int32) (mUseW : Nat → Int32) (mUseX : Nat → Int32) (mEndUse : Nat → Int32) : va_W := [((bd 0), .inr (7, [.int mThrown, .int (nI N), .ref (bd 1), .ref (bd 2), .ref (bd 3), .ref (bd 4), .ref (bd 5), .ref (bd 6), .ref (bd 7), .ref (bd 8), .ref (bd 9), .ref (bd 10), .int mReached, .ref (bd 11), .int (bI mForm), .ref (bd 12), .ref (bd 13), .ref (bd 14), .ref (bd 15), .ref (bd 16), .ref (bd 17), .ref (bd 18), .ref (bd 19), .ref (bd 20), .ref (bd 21), .ref (bd 22), .ref (bd 23), .ref (bd 24), .ref (bd 25), .ref (bd 26), .ref (bd 27), .ref (bd 28), .int mSlot, .int (bI mOver)])), ((bd 1), .inl (cA, 12, .inl mMany)), ((bd 15), .inl (cA, 72, .inl mUseW)), ((bd 16), .inl (cA, 72, .inl mUseX)), ((bd 17), .inl (cA, 12, .inl mEndUse))]
abbrev qcMd_use (D : va_G) (cA : ClassId) (cB : ClassId) (bd : Nat → Nat) (N : Nat) (mThrown : Int32) (mReached : Int32) (mForm : Bool) (mSlot : Int32) (mOver : Bool) (mMany : Nat → Int32) (mUseW : Nat → Int32) (mUseX : Nat → Int32) (mEndUse : Nat → Int32) (post : Int32 → Int32 → Prop) (A : Nat → Prop) : Array Value → State → Outcome → State → Prop := va_Qi (S := (Int32)) (fun r u => post r u) (fun u t => xB D [(cA, .int), (cB, .boolean)] A (wdMd_use cA cB bd N u mReached mForm mSlot mOver mMany mUseW mUseX mEndUse) t) A
abbrev rmMd_use : Room := { frames := 3, cells := 0, slots := 0, locals := 66 }
set_option maxHeartbeats 4000000 in
set_option maxRecDepth 100000 in
theorem ktMd_use (l : Launch) (D : va_G) (cA : ClassId) (cB : ClassId) (bd : Nat → Nat) (N : Nat) (sz : Nat) (mThrown : Int32) (mReached : Int32) (mForm : Bool) (mSlot : Int32) (mOver : Bool) (mMany : Nat → Int32) (mUseW : Nat → Int32) (mUseX : Nat → Int32) (mEndUse : Nat → Int32) (v1 : Int32) (v2 : Int32) (v3 : Int32) (post : Int32 → Int32 → Prop) (hw : wpMd_use N mForm mMany mUseW mUseX mEndUse v1 v2 v3 post) : Met l yMd_use (Cond.code yMd_use cMd_use 4 (some .int) :: xW) rmMd_use (va_Pc [.ref (bd 0), .int v1, .int v2, .int v3] (xPc D [(cA, .int), (cB, .boolean)] (wdMd_use cA cB bd N mThrown mReached mForm mSlot mOver mMany mUseW mUseX mEndUse) sz)) (qcMd_use D cA cB bd N mThrown mReached mForm mSlot mOver mMany mUseW mUseX mEndUse post (va_A (wdMd_use cA cB bd N mThrown mReached mForm mSlot mOver mMany mUseW mUseX mEndUse) sz)) 0 0 (va_A (wdMd_use cA cB bd N mThrown mReached mForm mSlot mOver mMany mUseW mUseX mEndUse) sz) := by
  refine Met.ofW (cc := cMd_use) (maxL := 4) (ret := (some .int)) (by decide) rfl ?_
  intro p e s m args below meth c s₁ B hml hv
  obtain ⟨rfl, hsz, hP, hK, hD0, hN⟩ := hv
  have hx := B.exec
  have hb := B.bytes
  have hr := B.returns
  have hts := atoms_spec (ws := (Cond.code yMd_use cMd_use 4 (some .int) :: xW)) B.pre
  have hown : s.vm.findClass "OnceNamedModel" = some m.cls := findClass_of_methodNamed B.named
  have hlocks := B.notSynchronized
  subst hsz
  have hD := hD0.self (sz := s.heap.size)
  generalize hAe : va_A (wdMd_use cA cB bd N mThrown mReached mForm mSlot mOver mMany mUseW mUseX mEndUse) s.heap.size = A at hD ⊢
  have hA : ∀ q : Nat, s.heap.size ≤ q → A q := fun q h => by rw [← hAe]; exact Or.inr h
  have hS : va_S A s.heap s.heap [] := va_S.rf
  have hend : ∀ (r : Int32) (u0 : Int32) (H : Heap) (locs : List Loc) (pc : Nat) (ls : Array Slot), decode cMd_use pc = .ok (.ireturn, 1) → va_P D vwCl (wdMd_use cA cB bd N u0 mReached mForm mSlot mOver mMany mUseW mUseX mEndUse) H → va_D A (wdMd_use cA cB bd N u0 mReached mForm mSlot mOver mMany mUseW mUseX mEndUse) → va_S A s.heap H locs → post r u0 → W p l e (headSpec (Cond.code yMd_use cMd_use 4 (some .int) :: xW) rmMd_use).room s m ([.ref (bd 0), .int v1, .int v2, .int v3] : List Value).toArray below meth c H locs 0 0 (MQ below (qcMd_use D cA cB bd N mThrown mReached mForm mSlot mOver mMany mUseW mUseX mEndUse post A) ([.ref (bd 0), .int v1, .int v2, .int v3] : List Value).toArray s 0 0 A) (F0 m pc ls [.int r]) := fun r u0 H locs pc ls hd hP hD hS hw => W.iret (v := r) hx hb hr (fun t ht hW => ⟨⟨r, u0, rfl, hw, ⟨by rw [ht]; exact hP, va_K.moved hW.alike hK, hD⟩⟩, hS.F ht⟩) hS.2.2 hd
  generalize hQ : MQ below (qcMd_use D cA cB bd N mThrown mReached mForm mSlot mOver mMany mUseW mUseX mEndUse post A) ([.ref (bd 0), .int v1, .int v2, .int v3] : List Value).toArray s 0 0 A = Q at hend ⊢
  have hl := lv_entry ([.ref (bd 0), .int v1, .int v2, .int v3]) (n := 4) (Nat.le_of_ble_eq_true rfl)
  rw [lg_entry_eq]
  generalize (lg_sl ([.ref (bd 0), .int v1, .int v2, .int v3]) ++ List.replicate (4 - (lg_sl ([.ref (bd 0), .int v1, .int v2, .int v3])).length) Slot.unset).toArray = ls at hl ⊢
  have hl : lv_has ls 4 [(0, .ref (bd 0)), (1, .int v1), (2, .int v2), (3, .int v3)] := hl
  unfold wpMd_use at hw
  refine lv_aload_n hx hb dMd_use_0 rfl (lv_at hl 0 rfl) ?_
  refine lv_aload_n hx hb dMd_use_1 rfl (lv_at hl 0 rfl) ?_
  refine va_get (D := D) (ci := 7) (v := .int (bI mForm)) (C := "OnceNamedModel") (T := TX7) (N := 34) hx hb hts (fun w h => List.mem_cons_of_mem _ (inX7 w h)) hown hK hP 0 rfl rfl 14 (by decide) (hts _ (List.mem_cons_of_mem _ kw_999)) (fun _ h9 => h9) rfl dMd_use_2 ?_
  obtain ⟨J27, hJ27, hw⟩ := hw
  have hj27 : ∀ (t27_0 : Int32) (ls : Array Slot) (H : Heap) (locs : List Loc), lv_has ls 4 [(0, .ref (bd 0)), (1, .int v1), (2, .int v2), (3, .int v3)] → va_P D vwCl (wdMd_use cA cB bd N mThrown mReached mForm mSlot mOver mMany mUseW mUseX mEndUse) H → va_D A (wdMd_use cA cB bd N mThrown mReached mForm mSlot mOver mMany mUseW mUseX mEndUse) → va_S A s.heap H locs → J27 t27_0 → W p l e (headSpec (Cond.code yMd_use cMd_use 4 (some .int) :: xW) rmMd_use).room s m ([.ref (bd 0), .int v1, .int v2, .int v3] : List Value).toArray below meth c H locs 0 0 Q (F0 m 27 ls [.int t27_0, .ref (bd 0)]) := by
    intro t27_0 ls H locs hl hP hD hS hw
    have hw := hJ27 t27_0 hw
    refine va_put (D := D) (ci := 7) (v := .int t27_0) (ty := .int) (C := "OnceNamedModel") (T := TX7) (N := 34) hx hb hts (fun w h => List.mem_cons_of_mem _ (inX7 w h)) tyX7 tyX7_ok nmX7 hown hK hP hD hS 0 rfl rfl 0 (by decide) (hts _ (List.mem_cons_of_mem _ kw_985)) (fun _ h9 => h9) rfl (by decide +kernel) rfl rfl (Nat.le_of_ble_eq_true rfl) dMd_use_27 (fun H locs hP hD hS => ?_)
    have hP : va_P D vwCl (wdMd_use cA cB bd N t27_0 mReached mForm mSlot mOver mMany mUseW mUseX mEndUse) H := hP
    have hD : va_D A (wdMd_use cA cB bd N t27_0 mReached mForm mSlot mOver mMany mUseW mUseX mEndUse) := hD
    refine lv_aload_n hx hb dMd_use_30 rfl (lv_at hl 0 rfl) ?_
    refine va_get (D := D) (ci := 7) (v := .int t27_0) (C := "OnceNamedModel") (T := TX7) (N := 34) hx hb hts (fun w h => List.mem_cons_of_mem _ (inX7 w h)) hown hK hP 0 rfl rfl 0 (by decide) (hts _ (List.mem_cons_of_mem _ kw_985)) (fun _ h9 => h9) rfl dMd_use_31 ?_
    refine lv_if_ne (tgt := 47) hx hb dMd_use_34 rfl (fun hc => ?_) (fun hc => ?_)
    · have hw := hw.1 hc
      refine lv_iconst (v := 0) hx hb dMd_use_47 (by decide) ?_
      exact hend 0 t27_0 _ _ _ _ dMd_use_48 hP hD hS hw
    · have hw := hw.2 hc
      refine lv_aload_n hx hb dMd_use_37 rfl (lv_at hl 0 rfl) ?_
      refine lv_iload_n hx hb dMd_use_38 rfl (lv_at hl 1 rfl) ?_
      refine lv_iload_n hx hb dMd_use_39 rfl (lv_at hl 2 rfl) ?_
      refine lv_iload_n hx hb dMd_use_40 rfl (lv_at hl 3 rfl) ?_
      refine xci (va_runV ⟨hx, hb, hml, hown, hts⟩ (ktMd_useOf l D cA cB bd N _ t27_0 mReached mForm mSlot mOver mUseW mUseX mEndUse v1 v2 v3 _ hw) (cwV 3 hts (goodV kw_1245 kw_1247 ks_5_3 kw_11 kw_1248) rfl rfl rfl (by decide +kernel) ⟨Nat.le_of_ble_eq_true rfl, Nat.le_of_ble_eq_true rfl⟩) (xpreV hK hP hD hN [0, 2, 3, 4] rfl rfl 0 rfl rfl) rfl rfl hl.1 rfl (lv_room (Nat.le_of_ble_eq_true rfl)) dMd_use_41 ⟨Nat.le_of_ble_eq_true rfl, Nat.le_of_ble_eq_true rfl⟩) hP hD hS hA [0, 2, 3, 4] [1] rfl rfl rfl rfl [1, 0, 2, 3, 4] rfl (fun _ => rfl) (fun r41 u H locs hw hP hD hS => ?_)
      have hP : va_P D vwCl (wdMd_use cA cB bd N t27_0 mReached mForm mSlot mOver mMany mUseW mUseX mEndUse) H := hP
      have hD : va_D A (wdMd_use cA cB bd N t27_0 mReached mForm mSlot mOver mMany mUseW mUseX mEndUse) := hD
      refine lv_goto (tgt := 48) hx hb dMd_use_44 rfl ?_
      exact hend r41 t27_0 _ _ _ _ dMd_use_48 hP hD hS hw
  refine lv_if_ne (tgt := 12) hx hb dMd_use_5 rfl (fun hc => ?_) (fun hc => ?_)
  · have hw := hw.1 (bI_1 hc)
    refine lv_aload_n hx hb dMd_use_12 rfl (lv_at hl 0 rfl) ?_
    refine lv_iload_n hx hb dMd_use_13 rfl (lv_at hl 1 rfl) ?_
    refine lv_iload_n hx hb dMd_use_14 rfl (lv_at hl 2 rfl) ?_
    refine lv_iload_n hx hb dMd_use_15 rfl (lv_at hl 3 rfl) ?_
    refine xci (va_runV ⟨hx, hb, hml, hown, hts⟩ (ktMd_noUse l D cA cB bd N _ mThrown mReached mForm mSlot mOver mMany v1 v2 v3 _ hw) (cwV 3 hts (goodV kw_1241 kw_1243 ks_5_2 kw_11 kw_1244) rfl rfl rfl (by decide +kernel) ⟨Nat.le_of_ble_eq_true rfl, Nat.le_of_ble_eq_true rfl⟩) (xpreV hK hP hD hN [0, 1] rfl rfl 0 rfl rfl) rfl rfl hl.1 rfl (lv_room (Nat.le_of_ble_eq_true rfl)) dMd_use_16 ⟨Nat.le_of_ble_eq_true rfl, Nat.le_of_ble_eq_true rfl⟩) hP hD hS hA [0, 1] [2, 3, 4] rfl rfl rfl rfl [3, 4, 0, 1, 2] rfl (fun _ => rfl) (fun r16 u H locs hw hP hD hS => ?_)
    obtain ⟨r16, rfl, hw⟩ := hw
    have hP : va_P D vwCl (wdMd_use cA cB bd N mThrown mReached mForm mSlot mOver mMany mUseW mUseX mEndUse) H := hP
    have hD : va_D A (wdMd_use cA cB bd N mThrown mReached mForm mSlot mOver mMany mUseW mUseX mEndUse) := hD
    refine lv_if_eq (tgt := 26) hx hb dMd_use_19 rfl (fun hc => ?_) (fun hc => ?_)
    · have hw := hw.1 (bI_0 hc)
      refine lv_iconst (v := 0) hx hb dMd_use_26 (by decide) ?_
      exact hj27 0 _ _ _ (lv_sub hl [0, 1, 2, 3] rfl) hP hD hS hw
    · have hw := hw.2 (bI_1 hc)
      refine lv_iconst (v := 2) hx hb dMd_use_22 (by decide) ?_
      refine lv_goto (tgt := 27) hx hb dMd_use_23 rfl ?_
      exact hj27 2 _ _ _ (lv_sub hl [0, 1, 2, 3] rfl) hP hD hS hw
  · have hw := hw.2 (bI_0 hc)
    refine lv_iconst (v := 1) hx hb dMd_use_8 (by decide) ?_
    refine lv_goto (tgt := 27) hx hb dMd_use_9 rfl ?_
    exact hj27 1 _ _ _ (lv_sub hl [0, 1, 2, 3] rfl) hP hD hS hw
abbrev wdMd_noName (cA : ClassId) (cB : ClassId) (bd : Nat → Nat) (N : Nat) (mThrown : Int32) (mReached : Int32) (mForm : Bool) (mSlot : Int32) (mOver : Bool) (mIsName : Nat → Bool) : va_W := [((bd 0), .inr (7, [.int mThrown, .int (nI N), .ref (bd 1), .ref (bd 2), .ref (bd 3), .ref (bd 4), .ref (bd 5), .ref (bd 6), .ref (bd 7), .ref (bd 8), .ref (bd 9), .ref (bd 10), .int mReached, .ref (bd 11), .int (bI mForm), .ref (bd 12), .ref (bd 13), .ref (bd 14), .ref (bd 15), .ref (bd 16), .ref (bd 17), .ref (bd 18), .ref (bd 19), .ref (bd 20), .ref (bd 21), .ref (bd 22), .ref (bd 23), .ref (bd 24), .ref (bd 25), .ref (bd 26), .ref (bd 27), .ref (bd 28), .int mSlot, .int (bI mOver)])), ((bd 19), .inl (cB, 600, .inl (fun j => bI (mIsName j))))]
abbrev qcMd_noName (D : va_G) (cA : ClassId) (cB : ClassId) (bd : Nat → Nat) (N : Nat) (mThrown : Int32) (mReached : Int32) (mForm : Bool) (mSlot : Int32) (mOver : Bool) (mIsName : Nat → Bool) (post : Bool → Prop) (A : Nat → Prop) : Array Value → State → Outcome → State → Prop := va_Qi (S := Unit) (fun r u => ∃ z : Bool, r = bI z ∧ post z ) (fun u t => xB D [(cA, .int), (cB, .boolean)] A (wdMd_noName cA cB bd N mThrown mReached mForm mSlot mOver mIsName) t) A
abbrev rmMd_noName : Room := { frames := 0, cells := 0, slots := 0, locals := 0 }
set_option maxHeartbeats 4000000 in
set_option maxRecDepth 100000 in
theorem ktMd_noName (l : Launch) (D : va_G) (cA : ClassId) (cB : ClassId) (bd : Nat → Nat) (N : Nat) (sz : Nat) (mThrown : Int32) (mReached : Int32) (mForm : Bool) (mSlot : Int32) (mOver : Bool) (mIsName : Nat → Bool) (v1 : Int32) (post : Bool → Prop) (hw : wpMd_noName mIsName v1 post) : Met l yMd_noName (Cond.code yMd_noName cMd_noName 2 (some .boolean) :: xW) rmMd_noName (va_Pc [.ref (bd 0), .int v1] (xPc D [(cA, .int), (cB, .boolean)] (wdMd_noName cA cB bd N mThrown mReached mForm mSlot mOver mIsName) sz)) (qcMd_noName D cA cB bd N mThrown mReached mForm mSlot mOver mIsName post (va_A (wdMd_noName cA cB bd N mThrown mReached mForm mSlot mOver mIsName) sz)) 0 0 (va_A (wdMd_noName cA cB bd N mThrown mReached mForm mSlot mOver mIsName) sz) := by
  refine Met.ofW (cc := cMd_noName) (maxL := 2) (ret := (some .boolean)) (by decide) rfl ?_
  intro p e s m args below meth c s₁ B hml hv
  obtain ⟨rfl, hsz, hP, hK, hD0, hN⟩ := hv
  have hx := B.exec
  have hb := B.bytes
  have hr := B.returns
  have hts := atoms_spec (ws := (Cond.code yMd_noName cMd_noName 2 (some .boolean) :: xW)) B.pre
  have hown : s.vm.findClass "OnceNamedModel" = some m.cls := findClass_of_methodNamed B.named
  have hlocks := B.notSynchronized
  subst hsz
  have hD := hD0.self (sz := s.heap.size)
  generalize hAe : va_A (wdMd_noName cA cB bd N mThrown mReached mForm mSlot mOver mIsName) s.heap.size = A at hD ⊢
  have hA : ∀ q : Nat, s.heap.size ≤ q → A q := fun q h => by rw [← hAe]; exact Or.inr h
  have hS : va_S A s.heap s.heap [] := va_S.rf
  have hend : ∀ (r : Bool)  (H : Heap) (locs : List Loc) (pc : Nat) (ls : Array Slot), decode cMd_noName pc = .ok (.ireturn, 1) → va_P D vwCl (wdMd_noName cA cB bd N mThrown mReached mForm mSlot mOver mIsName) H → va_D A (wdMd_noName cA cB bd N mThrown mReached mForm mSlot mOver mIsName) → va_S A s.heap H locs → post r  → W p l e (headSpec (Cond.code yMd_noName cMd_noName 2 (some .boolean) :: xW) rmMd_noName).room s m ([.ref (bd 0), .int v1] : List Value).toArray below meth c H locs 0 0 (MQ below (qcMd_noName D cA cB bd N mThrown mReached mForm mSlot mOver mIsName post A) ([.ref (bd 0), .int v1] : List Value).toArray s 0 0 A) (F0 m pc ls [.int (bI r)]) := fun r  H locs pc ls hd hP hD hS hw => W.zret (v := bI r) hx hb hr (bI_nar r) (fun t ht hW => ⟨⟨bI r, (), rfl, ⟨r, rfl, hw⟩, ⟨by rw [ht]; exact hP, va_K.moved hW.alike hK, hD⟩⟩, hS.F ht⟩) hS.2.2 hd
  generalize hQ : MQ below (qcMd_noName D cA cB bd N mThrown mReached mForm mSlot mOver mIsName post A) ([.ref (bd 0), .int v1] : List Value).toArray s 0 0 A = Q at hend ⊢
  have hl := lv_entry ([.ref (bd 0), .int v1]) (n := 2) (Nat.le_of_ble_eq_true rfl)
  rw [lg_entry_eq]
  generalize (lg_sl ([.ref (bd 0), .int v1]) ++ List.replicate (2 - (lg_sl ([.ref (bd 0), .int v1])).length) Slot.unset).toArray = ls at hl ⊢
  have hl : lv_has ls 2 [(0, .ref (bd 0)), (1, .int v1)] := hl
  unfold wpMd_noName at hw
  refine lv_iload_n hx hb dMd_noName_0 rfl (lv_at hl 1 rfl) ?_
  refine lv_if_lt (tgt := 20) hx hb dMd_noName_1 rfl (fun hc => ?_) (fun hc => ?_)
  · have hw := hw.1 hc
    refine lv_iconst (v := 1) hx hb dMd_noName_20 (by decide) ?_
    refine lv_goto (tgt := 25) hx hb dMd_noName_21 rfl ?_
    exact hend true _ _ _ _ dMd_noName_25 hP hD hS hw
  · have hw := hw.2 hc
    refine lv_iload_n hx hb dMd_noName_4 rfl (lv_at hl 1 rfl) ?_
    refine lv_sipush (v := 599) hx hb dMd_noName_5 (by decide) ?_
    refine lv_icmp_gt (tgt := 20) hx hb dMd_noName_8 rfl (fun hc => ?_) (fun hc => ?_)
    · have hw := hw.1 hc
      refine lv_iconst (v := 1) hx hb dMd_noName_20 (by decide) ?_
      refine lv_goto (tgt := 25) hx hb dMd_noName_21 rfl ?_
      exact hend true _ _ _ _ dMd_noName_25 hP hD hS hw
    · have hw := hw.2 hc
      refine lv_aload_n hx hb dMd_noName_11 rfl (lv_at hl 0 rfl) ?_
      refine va_get (D := D) (ci := 7) (v := .ref (bd 19)) (C := "OnceNamedModel") (T := TX7) (N := 34) hx hb hts (fun w h => List.mem_cons_of_mem _ (inX7 w h)) hown hK hP 0 rfl rfl 22 (by decide) (hts _ (List.mem_cons_of_mem _ kw_1007)) (fun _ h9 => h9) rfl dMd_noName_12 ?_
      refine lv_iload_n hx hb dMd_noName_15 rfl (lv_at hl 1 rfl) ?_
      have ho := hw.1
      have hw := hw.2
      refine xzald hx hb hK hP 1 1 rfl rfl ho dMd_noName_16 ?_
      refine lv_if_ne (tgt := 24) hx hb dMd_noName_17 rfl (fun hc => ?_) (fun hc => ?_)
      · have hw := hw.1 (bI_1 hc)
        refine lv_iconst (v := 0) hx hb dMd_noName_24 (by decide) ?_
        exact hend false _ _ _ _ dMd_noName_25 hP hD hS hw
      · have hw := hw.2 (bI_0 hc)
        refine lv_iconst (v := 1) hx hb dMd_noName_20 (by decide) ?_
        refine lv_goto (tgt := 25) hx hb dMd_noName_21 rfl ?_
        exact hend true _ _ _ _ dMd_noName_25 hP hD hS hw
abbrev wdMd_alter (cA : ClassId) (cB : ClassId) (bd : Nat → Nat) (N : Nat) (mThrown : Int32) (mReached : Int32) (mForm : Bool) (mSlot : Int32) (mOver : Bool) (mMany : Nat → Int32) (mUseW : Nat → Int32) (mUseX : Nat → Int32) (mEndUse : Nat → Int32) (mIsName : Nat → Bool) : va_W := [((bd 0), .inr (7, [.int mThrown, .int (nI N), .ref (bd 1), .ref (bd 2), .ref (bd 3), .ref (bd 4), .ref (bd 5), .ref (bd 6), .ref (bd 7), .ref (bd 8), .ref (bd 9), .ref (bd 10), .int mReached, .ref (bd 11), .int (bI mForm), .ref (bd 12), .ref (bd 13), .ref (bd 14), .ref (bd 15), .ref (bd 16), .ref (bd 17), .ref (bd 18), .ref (bd 19), .ref (bd 20), .ref (bd 21), .ref (bd 22), .ref (bd 23), .ref (bd 24), .ref (bd 25), .ref (bd 26), .ref (bd 27), .ref (bd 28), .int mSlot, .int (bI mOver)])), ((bd 1), .inl (cA, 12, .inl mMany)), ((bd 15), .inl (cA, 72, .inl mUseW)), ((bd 16), .inl (cA, 72, .inl mUseX)), ((bd 17), .inl (cA, 12, .inl mEndUse)), ((bd 19), .inl (cB, 600, .inl (fun j => bI (mIsName j))))]
abbrev qcMd_alter (D : va_G) (cA : ClassId) (cB : ClassId) (bd : Nat → Nat) (N : Nat) (mThrown : Int32) (mReached : Int32) (mForm : Bool) (mSlot : Int32) (mOver : Bool) (mMany : Nat → Int32) (mUseW : Nat → Int32) (mUseX : Nat → Int32) (mEndUse : Nat → Int32) (mIsName : Nat → Bool) (post : Int32 → (Nat → Int32) → (Nat → Int32) → (Nat → Int32) → Prop) (A : Nat → Prop) : Array Value → State → Outcome → State → Prop := va_Qv (S := (Int32) × (Nat → Int32) × (Nat → Int32) × (Nat → Int32)) (fun u => post u.1 u.2.1 u.2.2.1 u.2.2.2) (fun u t => xB D [(cA, .int), (cB, .boolean)] A (wdMd_alter cA cB bd N u.1 mReached mForm mSlot mOver mMany u.2.1 u.2.2.1 u.2.2.2 mIsName) t) A
abbrev rmMd_alter : Room := { frames := 3, cells := 0, slots := 0, locals := 66 }
set_option maxHeartbeats 4000000 in
set_option maxRecDepth 100000 in
theorem ktMd_alter (l : Launch) (D : va_G) (cA : ClassId) (cB : ClassId) (bd : Nat → Nat) (N : Nat) (sz : Nat) (mThrown : Int32) (mReached : Int32) (mForm : Bool) (mSlot : Int32) (mOver : Bool) (mMany : Nat → Int32) (mUseW : Nat → Int32) (mUseX : Nat → Int32) (mEndUse : Nat → Int32) (mIsName : Nat → Bool) (v1 : Int32) (v2 : Int32) (v3 : Int32) (v4 : Int32) (post : Int32 → (Nat → Int32) → (Nat → Int32) → (Nat → Int32) → Prop) (hw : wpMd_alter N mForm mMany mUseW mUseX mEndUse mIsName v1 v2 v3 v4 post) : Met l yMd_alter (Cond.code yMd_alter cMd_alter 5 none :: xW) rmMd_alter (va_Pc [.ref (bd 0), .int v1, .int v2, .int v3, .int v4] (xPc D [(cA, .int), (cB, .boolean)] (wdMd_alter cA cB bd N mThrown mReached mForm mSlot mOver mMany mUseW mUseX mEndUse mIsName) sz)) (qcMd_alter D cA cB bd N mThrown mReached mForm mSlot mOver mMany mUseW mUseX mEndUse mIsName post (va_A (wdMd_alter cA cB bd N mThrown mReached mForm mSlot mOver mMany mUseW mUseX mEndUse mIsName) sz)) 0 0 (va_A (wdMd_alter cA cB bd N mThrown mReached mForm mSlot mOver mMany mUseW mUseX mEndUse mIsName) sz) := by
  refine Met.ofW (cc := cMd_alter) (maxL := 5) (ret := none) (by decide) rfl ?_
  intro p e s m args below meth c s₁ B hml hv
  obtain ⟨rfl, hsz, hP, hK, hD0, hN⟩ := hv
  have hx := B.exec
  have hb := B.bytes
  have hr := B.returns
  have hts := atoms_spec (ws := (Cond.code yMd_alter cMd_alter 5 none :: xW)) B.pre
  have hown : s.vm.findClass "OnceNamedModel" = some m.cls := findClass_of_methodNamed B.named
  have hlocks := B.notSynchronized
  subst hsz
  have hD := hD0.self (sz := s.heap.size)
  generalize hAe : va_A (wdMd_alter cA cB bd N mThrown mReached mForm mSlot mOver mMany mUseW mUseX mEndUse mIsName) s.heap.size = A at hD ⊢
  have hA : ∀ q : Nat, s.heap.size ≤ q → A q := fun q h => by rw [← hAe]; exact Or.inr h
  have hS : va_S A s.heap s.heap [] := va_S.rf
  have hend : ∀ (u0 : Int32) (u1 : Nat → Int32) (u2 : Nat → Int32) (u3 : Nat → Int32) (H : Heap) (locs : List Loc) (pc : Nat) (ls : Array Slot), decode cMd_alter pc = .ok (.return_, 1) → va_P D vwCl (wdMd_alter cA cB bd N u0 mReached mForm mSlot mOver mMany u1 u2 u3 mIsName) H → va_D A (wdMd_alter cA cB bd N u0 mReached mForm mSlot mOver mMany u1 u2 u3 mIsName) → va_S A s.heap H locs → post u0 u1 u2 u3 → W p l e (headSpec (Cond.code yMd_alter cMd_alter 5 none :: xW) rmMd_alter).room s m ([.ref (bd 0), .int v1, .int v2, .int v3, .int v4] : List Value).toArray below meth c H locs 0 0 (MQ below (qcMd_alter D cA cB bd N mThrown mReached mForm mSlot mOver mMany mUseW mUseX mEndUse mIsName post A) ([.ref (bd 0), .int v1, .int v2, .int v3, .int v4] : List Value).toArray s 0 0 A) (F0 m pc ls []) := fun u0 u1 u2 u3 H locs pc ls hd hP hD hS hw => W.vret hx hb hr (fun t ht hW => ⟨⟨(u0, u1, u2, u3), rfl, hw, ⟨by rw [ht]; exact hP, va_K.moved hW.alike hK, hD⟩⟩, hS.F ht⟩) hS.2.2 hd
  generalize hQ : MQ below (qcMd_alter D cA cB bd N mThrown mReached mForm mSlot mOver mMany mUseW mUseX mEndUse mIsName post A) ([.ref (bd 0), .int v1, .int v2, .int v3, .int v4] : List Value).toArray s 0 0 A = Q at hend ⊢
  have hl := lv_entry ([.ref (bd 0), .int v1, .int v2, .int v3, .int v4]) (n := 5) (Nat.le_of_ble_eq_true rfl)
  rw [lg_entry_eq]
  generalize (lg_sl ([.ref (bd 0), .int v1, .int v2, .int v3, .int v4]) ++ List.replicate (5 - (lg_sl ([.ref (bd 0), .int v1, .int v2, .int v3, .int v4])).length) Slot.unset).toArray = ls at hl ⊢
  have hl : lv_has ls 5 [(0, .ref (bd 0)), (1, .int v1), (2, .int v2), (3, .int v3), (4, .int v4)] := hl
  unfold wpMd_alter at hw
  refine lv_aload_n hx hb dMd_alter_0 rfl (lv_at hl 0 rfl) ?_
  refine lv_aload_n hx hb dMd_alter_1 rfl (lv_at hl 0 rfl) ?_
  refine va_get (D := D) (ci := 7) (v := .int (bI mForm)) (C := "OnceNamedModel") (T := TX7) (N := 34) hx hb hts (fun w h => List.mem_cons_of_mem _ (inX7 w h)) hown hK hP 0 rfl rfl 14 (by decide) (hts _ (List.mem_cons_of_mem _ kw_999)) (fun _ h9 => h9) rfl dMd_alter_2 ?_
  obtain ⟨J50, hJ50, hw⟩ := hw
  have hj50 : ∀ (t50_0 : Int32) (ls : Array Slot) (H : Heap) (locs : List Loc), lv_has ls 5 [(0, .ref (bd 0)), (1, .int v1), (2, .int v2), (3, .int v3), (4, .int v4)] → va_P D vwCl (wdMd_alter cA cB bd N mThrown mReached mForm mSlot mOver mMany mUseW mUseX mEndUse mIsName) H → va_D A (wdMd_alter cA cB bd N mThrown mReached mForm mSlot mOver mMany mUseW mUseX mEndUse mIsName) → va_S A s.heap H locs → J50 t50_0 → W p l e (headSpec (Cond.code yMd_alter cMd_alter 5 none :: xW) rmMd_alter).room s m ([.ref (bd 0), .int v1, .int v2, .int v3, .int v4] : List Value).toArray below meth c H locs 0 0 Q (F0 m 50 ls [.int t50_0, .ref (bd 0)]) := by
    intro t50_0 ls H locs hl hP hD hS hw
    have hw := hJ50 t50_0 hw
    refine va_put (D := D) (ci := 7) (v := .int t50_0) (ty := .int) (C := "OnceNamedModel") (T := TX7) (N := 34) hx hb hts (fun w h => List.mem_cons_of_mem _ (inX7 w h)) tyX7 tyX7_ok nmX7 hown hK hP hD hS 0 rfl rfl 0 (by decide) (hts _ (List.mem_cons_of_mem _ kw_985)) (fun _ h9 => h9) rfl (by decide +kernel) rfl rfl (Nat.le_of_ble_eq_true rfl) dMd_alter_50 (fun H locs hP hD hS => ?_)
    have hP : va_P D vwCl (wdMd_alter cA cB bd N t50_0 mReached mForm mSlot mOver mMany mUseW mUseX mEndUse mIsName) H := hP
    have hD : va_D A (wdMd_alter cA cB bd N t50_0 mReached mForm mSlot mOver mMany mUseW mUseX mEndUse mIsName) := hD
    refine lv_aload_n hx hb dMd_alter_53 rfl (lv_at hl 0 rfl) ?_
    refine va_get (D := D) (ci := 7) (v := .int t50_0) (C := "OnceNamedModel") (T := TX7) (N := 34) hx hb hts (fun w h => List.mem_cons_of_mem _ (inX7 w h)) hown hK hP 0 rfl rfl 0 (by decide) (hts _ (List.mem_cons_of_mem _ kw_985)) (fun _ h9 => h9) rfl dMd_alter_54 ?_
    refine lv_if_eq (tgt := 61) hx hb dMd_alter_57 rfl (fun hc => ?_) (fun hc => ?_)
    · have hw := hw.1 hc
      refine lv_iload_n hx hb dMd_alter_61 rfl (lv_at hl 2 rfl) ?_
      refine lv_iconst (v := (-1)) hx hb dMd_alter_62 (by decide) ?_
      refine lv_icmp_ne (tgt := 77) hx hb dMd_alter_63 rfl (fun hc => ?_) (fun hc => ?_)
      · have hw := hw.1 hc
        refine lv_iload_n hx hb dMd_alter_77 rfl (lv_at hl 3 rfl) ?_
        refine lv_if_ne (tgt := 97) hx hb dMd_alter_78 rfl (fun hc => ?_) (fun hc => ?_)
        · have hw := hw.1 hc
          refine lv_aload_n hx hb dMd_alter_97 rfl (lv_at hl 0 rfl) ?_
          refine va_get (D := D) (ci := 7) (v := .ref (bd 16)) (C := "OnceNamedModel") (T := TX7) (N := 34) hx hb hts (fun w h => List.mem_cons_of_mem _ (inX7 w h)) hown hK hP 0 rfl rfl 19 (by decide) (hts _ (List.mem_cons_of_mem _ kw_1004)) (fun _ h9 => h9) rfl dMd_alter_98 ?_
          refine lv_bipush (v := 6) hx hb dMd_alter_101 (by decide) ?_
          refine lv_iload_n hx hb dMd_alter_103 rfl (lv_at hl 1 rfl) ?_
          refine lv_imul hx hb dMd_alter_104 ?_
          refine lv_iload_n hx hb dMd_alter_105 rfl (lv_at hl 2 rfl) ?_
          refine lv_iadd hx hb dMd_alter_106 ?_
          refine lv_iload hx hb dMd_alter_107 (lv_at hl 4 rfl) ?_
          have ho := hw.1
          have hw := hw.2
          refine va_iast hx hb hK hP hD hS 3 0 rfl rfl ho dMd_alter_109 (fun H locs hP hD hS => ?_)
          have hP : va_P D vwCl (wdMd_alter cA cB bd N t50_0 mReached mForm mSlot mOver mMany mUseW (upd mUseX (Int32.toNatClampNeg ((6 * v1) + v2)) v4) mEndUse mIsName) H := hP
          have hD : va_D A (wdMd_alter cA cB bd N t50_0 mReached mForm mSlot mOver mMany mUseW (upd mUseX (Int32.toNatClampNeg ((6 * v1) + v2)) v4) mEndUse mIsName) := hD
          exact hend t50_0 mUseW (upd mUseX (Int32.toNatClampNeg ((6 * v1) + v2)) v4) mEndUse _ _ _ _ dMd_alter_110 hP hD hS hw
        · have hw := hw.2 hc
          refine lv_aload_n hx hb dMd_alter_81 rfl (lv_at hl 0 rfl) ?_
          refine va_get (D := D) (ci := 7) (v := .ref (bd 15)) (C := "OnceNamedModel") (T := TX7) (N := 34) hx hb hts (fun w h => List.mem_cons_of_mem _ (inX7 w h)) hown hK hP 0 rfl rfl 18 (by decide) (hts _ (List.mem_cons_of_mem _ kw_1003)) (fun _ h9 => h9) rfl dMd_alter_82 ?_
          refine lv_bipush (v := 6) hx hb dMd_alter_85 (by decide) ?_
          refine lv_iload_n hx hb dMd_alter_87 rfl (lv_at hl 1 rfl) ?_
          refine lv_imul hx hb dMd_alter_88 ?_
          refine lv_iload_n hx hb dMd_alter_89 rfl (lv_at hl 2 rfl) ?_
          refine lv_iadd hx hb dMd_alter_90 ?_
          refine lv_iload hx hb dMd_alter_91 (lv_at hl 4 rfl) ?_
          have ho := hw.1
          have hw := hw.2
          refine va_iast hx hb hK hP hD hS 2 0 rfl rfl ho dMd_alter_93 (fun H locs hP hD hS => ?_)
          have hP : va_P D vwCl (wdMd_alter cA cB bd N t50_0 mReached mForm mSlot mOver mMany (upd mUseW (Int32.toNatClampNeg ((6 * v1) + v2)) v4) mUseX mEndUse mIsName) H := hP
          have hD : va_D A (wdMd_alter cA cB bd N t50_0 mReached mForm mSlot mOver mMany (upd mUseW (Int32.toNatClampNeg ((6 * v1) + v2)) v4) mUseX mEndUse mIsName) := hD
          refine lv_goto (tgt := 110) hx hb dMd_alter_94 rfl ?_
          exact hend t50_0 (upd mUseW (Int32.toNatClampNeg ((6 * v1) + v2)) v4) mUseX mEndUse _ _ _ _ dMd_alter_110 hP hD hS hw
      · have hw := hw.2 hc
        refine lv_aload_n hx hb dMd_alter_66 rfl (lv_at hl 0 rfl) ?_
        refine va_get (D := D) (ci := 7) (v := .ref (bd 17)) (C := "OnceNamedModel") (T := TX7) (N := 34) hx hb hts (fun w h => List.mem_cons_of_mem _ (inX7 w h)) hown hK hP 0 rfl rfl 20 (by decide) (hts _ (List.mem_cons_of_mem _ kw_1005)) (fun _ h9 => h9) rfl dMd_alter_67 ?_
        refine lv_iload_n hx hb dMd_alter_70 rfl (lv_at hl 1 rfl) ?_
        refine lv_iload hx hb dMd_alter_71 (lv_at hl 4 rfl) ?_
        have ho := hw.1
        have hw := hw.2
        refine va_iast hx hb hK hP hD hS 4 0 rfl rfl ho dMd_alter_73 (fun H locs hP hD hS => ?_)
        have hP : va_P D vwCl (wdMd_alter cA cB bd N t50_0 mReached mForm mSlot mOver mMany mUseW mUseX (upd mEndUse (Int32.toNatClampNeg v1) v4) mIsName) H := hP
        have hD : va_D A (wdMd_alter cA cB bd N t50_0 mReached mForm mSlot mOver mMany mUseW mUseX (upd mEndUse (Int32.toNatClampNeg v1) v4) mIsName) := hD
        refine lv_goto (tgt := 110) hx hb dMd_alter_74 rfl ?_
        exact hend t50_0 mUseW mUseX (upd mEndUse (Int32.toNatClampNeg v1) v4) _ _ _ _ dMd_alter_110 hP hD hS hw
    · have hw := hw.2 hc
      exact hend t50_0 mUseW mUseX mEndUse _ _ _ _ dMd_alter_60 hP hD hS hw
  refine lv_if_ne (tgt := 12) hx hb dMd_alter_5 rfl (fun hc => ?_) (fun hc => ?_)
  · have hw := hw.1 (bI_1 hc)
    refine lv_aload_n hx hb dMd_alter_12 rfl (lv_at hl 0 rfl) ?_
    refine lv_iload_n hx hb dMd_alter_13 rfl (lv_at hl 1 rfl) ?_
    refine lv_iload_n hx hb dMd_alter_14 rfl (lv_at hl 2 rfl) ?_
    refine lv_iload_n hx hb dMd_alter_15 rfl (lv_at hl 3 rfl) ?_
    refine xci (va_runV ⟨hx, hb, hml, hown, hts⟩ (ktMd_noUse l D cA cB bd N _ mThrown mReached mForm mSlot mOver mMany v1 v2 v3 _ hw) (cwV 3 hts (goodV kw_1241 kw_1243 ks_5_2 kw_11 kw_1244) rfl rfl rfl (by decide +kernel) ⟨Nat.le_of_ble_eq_true rfl, Nat.le_of_ble_eq_true rfl⟩) (xpreV hK hP hD hN [0, 1] rfl rfl 0 rfl rfl) rfl rfl hl.1 rfl (lv_room (Nat.le_of_ble_eq_true rfl)) dMd_alter_16 ⟨Nat.le_of_ble_eq_true rfl, Nat.le_of_ble_eq_true rfl⟩) hP hD hS hA [0, 1] [2, 3, 4, 5] rfl rfl rfl rfl [4, 5, 0, 1, 2, 3] rfl (fun _ => rfl) (fun r16 u H locs hw hP hD hS => ?_)
    obtain ⟨r16, rfl, hw⟩ := hw
    have hP : va_P D vwCl (wdMd_alter cA cB bd N mThrown mReached mForm mSlot mOver mMany mUseW mUseX mEndUse mIsName) H := hP
    have hD : va_D A (wdMd_alter cA cB bd N mThrown mReached mForm mSlot mOver mMany mUseW mUseX mEndUse mIsName) := hD
    refine lv_if_eq (tgt := 26) hx hb dMd_alter_19 rfl (fun hc => ?_) (fun hc => ?_)
    · have hw := hw.1 (bI_0 hc)
      refine lv_aload_n hx hb dMd_alter_26 rfl (lv_at hl 0 rfl) ?_
      refine lv_iload_n hx hb dMd_alter_27 rfl (lv_at hl 1 rfl) ?_
      refine lv_iload_n hx hb dMd_alter_28 rfl (lv_at hl 2 rfl) ?_
      refine lv_iload_n hx hb dMd_alter_29 rfl (lv_at hl 3 rfl) ?_
      refine xci (va_runV ⟨hx, hb, hml, hown, hts⟩ (ktMd_useOf l D cA cB bd N _ mThrown mReached mForm mSlot mOver mUseW mUseX mEndUse v1 v2 v3 _ hw) (cwV 3 hts (goodV kw_1245 kw_1247 ks_5_3 kw_11 kw_1248) rfl rfl rfl (by decide +kernel) ⟨Nat.le_of_ble_eq_true rfl, Nat.le_of_ble_eq_true rfl⟩) (xpreV hK hP hD hN [0, 2, 3, 4] rfl rfl 0 rfl rfl) rfl rfl hl.1 rfl (lv_room (Nat.le_of_ble_eq_true rfl)) dMd_alter_30 ⟨Nat.le_of_ble_eq_true rfl, Nat.le_of_ble_eq_true rfl⟩) hP hD hS hA [0, 2, 3, 4] [1, 5] rfl rfl rfl rfl [2, 0, 3, 4, 5, 1] rfl (fun _ => rfl) (fun r30 u H locs hw hP hD hS => ?_)
      have hP : va_P D vwCl (wdMd_alter cA cB bd N mThrown mReached mForm mSlot mOver mMany mUseW mUseX mEndUse mIsName) H := hP
      have hD : va_D A (wdMd_alter cA cB bd N mThrown mReached mForm mSlot mOver mMany mUseW mUseX mEndUse mIsName) := hD
      refine lv_if_lt (tgt := 45) hx hb dMd_alter_33 rfl (fun hc => ?_) (fun hc => ?_)
      · have hw := hw.1 hc
        refine lv_iconst (v := 2) hx hb dMd_alter_45 (by decide) ?_
        refine lv_goto (tgt := 50) hx hb dMd_alter_46 rfl ?_
        exact hj50 2 _ _ _ (lv_sub hl [0, 1, 2, 3, 4] rfl) hP hD hS hw
      · have hw := hw.2 hc
        refine lv_aload_n hx hb dMd_alter_36 rfl (lv_at hl 0 rfl) ?_
        refine lv_iload hx hb dMd_alter_37 (lv_at hl 4 rfl) ?_
        refine xci (va_runV ⟨hx, hb, hml, hown, hts⟩ (ktMd_noName l D cA cB bd N _ mThrown mReached mForm mSlot mOver mIsName v4 _ hw) (cwV 1 hts (goodV kw_1253 kw_1255 ks_5_4 kw_11 kw_1256) rfl rfl rfl (by decide +kernel) ⟨Nat.le_of_ble_eq_true rfl, Nat.le_of_ble_eq_true rfl⟩) (xpreV hK hP hD hN [0, 5] rfl rfl 0 rfl rfl) rfl rfl hl.1 rfl (lv_room (Nat.le_of_ble_eq_true rfl)) dMd_alter_39 ⟨Nat.le_of_ble_eq_true rfl, Nat.le_of_ble_eq_true rfl⟩) hP hD hS hA [0, 5] [1, 2, 3, 4] rfl rfl rfl rfl [4, 0, 1, 2, 3, 5] rfl (fun _ => rfl) (fun r39 u H locs hw hP hD hS => ?_)
        obtain ⟨r39, rfl, hw⟩ := hw
        have hP : va_P D vwCl (wdMd_alter cA cB bd N mThrown mReached mForm mSlot mOver mMany mUseW mUseX mEndUse mIsName) H := hP
        have hD : va_D A (wdMd_alter cA cB bd N mThrown mReached mForm mSlot mOver mMany mUseW mUseX mEndUse mIsName) := hD
        refine lv_if_eq (tgt := 49) hx hb dMd_alter_42 rfl (fun hc => ?_) (fun hc => ?_)
        · have hw := hw.1 (bI_0 hc)
          refine lv_iconst (v := 0) hx hb dMd_alter_49 (by decide) ?_
          exact hj50 0 _ _ _ (lv_sub hl [0, 1, 2, 3, 4] rfl) hP hD hS hw
        · have hw := hw.2 (bI_1 hc)
          refine lv_iconst (v := 2) hx hb dMd_alter_45 (by decide) ?_
          refine lv_goto (tgt := 50) hx hb dMd_alter_46 rfl ?_
          exact hj50 2 _ _ _ (lv_sub hl [0, 1, 2, 3, 4] rfl) hP hD hS hw
    · have hw := hw.2 (bI_1 hc)
      refine lv_iconst (v := 2) hx hb dMd_alter_22 (by decide) ?_
      refine lv_goto (tgt := 50) hx hb dMd_alter_23 rfl ?_
      exact hj50 2 _ _ _ (lv_sub hl [0, 1, 2, 3, 4] rfl) hP hD hS hw
  · have hw := hw.2 (bI_0 hc)
    refine lv_iconst (v := 1) hx hb dMd_alter_8 (by decide) ?_
    refine lv_goto (tgt := 50) hx hb dMd_alter_9 rfl ?_
    exact hj50 1 _ _ _ (lv_sub hl [0, 1, 2, 3, 4] rfl) hP hD hS hw
