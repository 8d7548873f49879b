abbrev wdMd_valid (cA : ClassId) (cB : ClassId) (bd : Nat → Nat) (N : Nat) (mThrown : Int32) (mReached : Int32) (mForm : Bool) (mSlot : Int32) (mOver : Bool) (mMany : Nat → Int32) (mEnds : Nat → Int32) (mYes : Nat → Int32) (mNo : Nat → Int32) (mDominators : Nat → Int32) (mMeets : Nat → Int32) (mSources : Nat → Int32) (mUseW : Nat → Int32) (mUseX : Nat → Int32) (mEndUse : Nat → Int32) (mNameBlock : Nat → Int32) (mNameStep : Nat → Int32) : va_W := [((bd 0), .inr (7, [.int mThrown, .int (nI N), .ref (bd 1), .ref (bd 2), .ref (bd 3), .ref (bd 4), .ref (bd 5), .ref (bd 6), .ref (bd 7), .ref (bd 8), .ref (bd 9), .ref (bd 10), .int mReached, .ref (bd 11), .int (bI mForm), .ref (bd 12), .ref (bd 13), .ref (bd 14), .ref (bd 15), .ref (bd 16), .ref (bd 17), .ref (bd 18), .ref (bd 19), .ref (bd 20), .ref (bd 21), .ref (bd 22), .ref (bd 23), .ref (bd 24), .ref (bd 25), .ref (bd 26), .ref (bd 27), .ref (bd 28), .int mSlot, .int (bI mOver)])), ((bd 1), .inl (cA, 12, .inl mMany)), ((bd 6), .inl (cA, 12, .inl mEnds)), ((bd 8), .inl (cA, 12, .inl mYes)), ((bd 9), .inl (cA, 12, .inl mNo)), ((bd 11), .inl (cA, 12, .inl mDominators)), ((bd 12), .inl (cA, 72, .inl mMeets)), ((bd 13), .inl (cA, 936, .inl mSources)), ((bd 15), .inl (cA, 72, .inl mUseW)), ((bd 16), .inl (cA, 72, .inl mUseX)), ((bd 17), .inl (cA, 12, .inl mEndUse)), ((bd 20), .inl (cA, 600, .inl mNameBlock)), ((bd 21), .inl (cA, 600, .inl mNameStep))]
abbrev qcMd_valid (D : va_G) (cA : ClassId) (cB : ClassId) (bd : Nat → Nat) (N : Nat) (mThrown : Int32) (mReached : Int32) (mForm : Bool) (mSlot : Int32) (mOver : Bool) (mMany : Nat → Int32) (mEnds : Nat → Int32) (mYes : Nat → Int32) (mNo : Nat → Int32) (mDominators : Nat → Int32) (mMeets : Nat → Int32) (mSources : Nat → Int32) (mUseW : Nat → Int32) (mUseX : Nat → Int32) (mEndUse : Nat → Int32) (mNameBlock : Nat → Int32) (mNameStep : Nat → Int32) (post : Bool → Int32 → Int32 → (Nat → Int32) → Prop) (A : Nat → Prop) : Array Value → State → Outcome → State → Prop := va_Qi (S := (Int32) × (Int32) × (Nat → Int32)) (fun r u => ∃ z : Bool, r = bI z ∧ post z u.1 u.2.1 u.2.2) (fun u t => xB D [(cA, .int), (cB, .boolean)] A (wdMd_valid cA cB bd N u.1 u.2.1 mForm mSlot mOver mMany mEnds mYes mNo u.2.2 mMeets mSources mUseW mUseX mEndUse mNameBlock mNameStep) t) A
abbrev rmMd_valid : Room := { frames := 4, cells := 0, slots := 0, locals := 94 }
set_option maxHeartbeats 4000000 in
set_option maxRecDepth 100000 in
theorem ktMd_valid (l : Launch) (D : va_G) (cA : ClassId) (cB : ClassId) (bd : Nat → Nat) (N : Nat) (sz : Nat) (mThrown : Int32) (mReached : Int32) (mForm : Bool) (mSlot : Int32) (mOver : Bool) (mMany : Nat → Int32) (mEnds : Nat → Int32) (mYes : Nat → Int32) (mNo : Nat → Int32) (mDominators : Nat → Int32) (mMeets : Nat → Int32) (mSources : Nat → Int32) (mUseW : Nat → Int32) (mUseX : Nat → Int32) (mEndUse : Nat → Int32) (mNameBlock : Nat → Int32) (mNameStep : Nat → Int32)  (post : Bool → Int32 → Int32 → (Nat → Int32) → Prop) (hw : wpMd_valid N mReached mForm mMany mEnds mYes mNo mDominators mMeets mSources mUseW mUseX mEndUse mNameBlock mNameStep post) : Met l yMd_valid (Cond.code yMd_valid cMd_valid 1 (some .boolean) :: xW) rmMd_valid (va_Pc [.ref (bd 0)] (xPc D [(cA, .int), (cB, .boolean)] (wdMd_valid cA cB bd N mThrown mReached mForm mSlot mOver mMany mEnds mYes mNo mDominators mMeets mSources mUseW mUseX mEndUse mNameBlock mNameStep) sz)) (qcMd_valid D cA cB bd N mThrown mReached mForm mSlot mOver mMany mEnds mYes mNo mDominators mMeets mSources mUseW mUseX mEndUse mNameBlock mNameStep post (va_A (wdMd_valid cA cB bd N mThrown mReached mForm mSlot mOver mMany mEnds mYes mNo mDominators mMeets mSources mUseW mUseX mEndUse mNameBlock mNameStep) sz)) 0 0 (va_A (wdMd_valid cA cB bd N mThrown mReached mForm mSlot mOver mMany mEnds mYes mNo mDominators mMeets mSources mUseW mUseX mEndUse mNameBlock mNameStep) sz) := by
  refine Met.ofW (cc := cMd_valid) (maxL := 1) (ret := (some .boolean)) (by decide) rfl ?_
  intro p e s m args below meth c s₁ B hml hv
  obtain ⟨rfl, hsz, hP, hK, hD0, hN⟩ := hv
  have hx := B.exec
  have hb := B.bytes
  have hr := B.returns
  have hts := atoms_spec (ws := (Cond.code yMd_valid cMd_valid 1 (some .boolean) :: xW)) B.pre
  have hown : s.vm.findClass "OnceNamedModel" = some m.cls := findClass_of_methodNamed B.named
  have hlocks := B.notSynchronized
  subst hsz
  have hD := hD0.self (sz := s.heap.size)
  generalize hAe : va_A (wdMd_valid cA cB bd N mThrown mReached mForm mSlot mOver mMany mEnds mYes mNo mDominators mMeets mSources mUseW mUseX mEndUse mNameBlock mNameStep) s.heap.size = A at hD ⊢
  have hA : ∀ q : Nat, s.heap.size ≤ q → A q := fun q h => by rw [← hAe]; exact Or.inr h
  have hS : va_S A s.heap s.heap [] := va_S.rf
  have hend : ∀ (r : Bool) (u0 : Int32) (u1 : Int32) (u2 : Nat → Int32) (H : Heap) (locs : List Loc) (pc : Nat) (ls : Array Slot), decode cMd_valid pc = .ok (.ireturn, 1) → va_P D vwCl (wdMd_valid cA cB bd N u0 u1 mForm mSlot mOver mMany mEnds mYes mNo u2 mMeets mSources mUseW mUseX mEndUse mNameBlock mNameStep) H → va_D A (wdMd_valid cA cB bd N u0 u1 mForm mSlot mOver mMany mEnds mYes mNo u2 mMeets mSources mUseW mUseX mEndUse mNameBlock mNameStep) → va_S A s.heap H locs → post r u0 u1 u2 → W p l e (headSpec (Cond.code yMd_valid cMd_valid 1 (some .boolean) :: xW) rmMd_valid).room s m ([.ref (bd 0)] : List Value).toArray below meth c H locs 0 0 (MQ below (qcMd_valid D cA cB bd N mThrown mReached mForm mSlot mOver mMany mEnds mYes mNo mDominators mMeets mSources mUseW mUseX mEndUse mNameBlock mNameStep post A) ([.ref (bd 0)] : List Value).toArray s 0 0 A) (F0 m pc ls [.int (bI r)]) := fun r u0 u1 u2 H locs pc ls hd hP hD hS hw => W.zret (v := bI r) hx hb hr (bI_nar r) (fun t ht hW => ⟨⟨bI r, (u0, u1, u2), rfl, ⟨r, rfl, hw⟩, ⟨by rw [ht]; exact hP, va_K.moved hW.alike hK, hD⟩⟩, hS.F ht⟩) hS.2.2 hd
  generalize hQ : MQ below (qcMd_valid D cA cB bd N mThrown mReached mForm mSlot mOver mMany mEnds mYes mNo mDominators mMeets mSources mUseW mUseX mEndUse mNameBlock mNameStep post A) ([.ref (bd 0)] : List Value).toArray s 0 0 A = Q at hend ⊢
  have hl := lv_entry ([.ref (bd 0)]) (n := 1) (Nat.le_of_ble_eq_true rfl)
  rw [lg_entry_eq]
  generalize (lg_sl ([.ref (bd 0)]) ++ List.replicate (1 - (lg_sl ([.ref (bd 0)])).length) Slot.unset).toArray = ls at hl ⊢
  have hl : lv_has ls 1 [(0, .ref (bd 0))] := hl
  unfold wpMd_valid at hw
  refine lv_aload_n hx hb dMd_valid_0 rfl (lv_at hl 0 rfl) ?_
  refine lv_aload_n hx hb dMd_valid_1 rfl (lv_at hl 0 rfl) ?_
  refine va_get (D := D) (ci := 7) (v := .int (bI mForm)) (C := "OnceNamedModel") (T := TX7) (N := 34) hx hb hts (fun w h => List.mem_cons_of_mem _ (inX7 w h)) hown hK hP 0 rfl rfl 14 (by decide) (hts _ (List.mem_cons_of_mem _ kw_999)) (fun _ h9 => h9) rfl dMd_valid_2 ?_
  obtain ⟨J13, hJ13, hw⟩ := hw
  have hj13 : ∀ (t13_0 : Bool) (ls : Array Slot) (H : Heap) (locs : List Loc), lv_has ls 1 [(0, .ref (bd 0))] → va_P D vwCl (wdMd_valid cA cB bd N mThrown mReached mForm mSlot mOver mMany mEnds mYes mNo mDominators mMeets mSources mUseW mUseX mEndUse mNameBlock mNameStep) H → va_D A (wdMd_valid cA cB bd N mThrown mReached mForm mSlot mOver mMany mEnds mYes mNo mDominators mMeets mSources mUseW mUseX mEndUse mNameBlock mNameStep) → va_S A s.heap H locs → J13 t13_0 → W p l e (headSpec (Cond.code yMd_valid cMd_valid 1 (some .boolean) :: xW) rmMd_valid).room s m ([.ref (bd 0)] : List Value).toArray below meth c H locs 0 0 Q (F0 m 13 ls [.int (bI t13_0), .ref (bd 0)]) := by
    intro t13_0 ls H locs hl hP hD hS hw
    have hw := hJ13 t13_0 hw
    refine va_put (D := D) (ci := 7) (v := .int (bI t13_0)) (ty := .int) (C := "OnceNamedModel") (T := TX7) (N := 34) hx hb hts (fun w h => List.mem_cons_of_mem _ (inX7 w h)) tyX7 tyX7_ok nmX7 hown hK hP hD hS 0 rfl rfl 0 (by decide) (hts _ (List.mem_cons_of_mem _ kw_985)) (fun _ h9 => h9) rfl (by decide +kernel) rfl rfl (Nat.le_of_ble_eq_true rfl) dMd_valid_13 (fun H locs hP hD hS => ?_)
    have hP : va_P D vwCl (wdMd_valid cA cB bd N (bI t13_0) mReached mForm mSlot mOver mMany mEnds mYes mNo mDominators mMeets mSources mUseW mUseX mEndUse mNameBlock mNameStep) H := hP
    have hD : va_D A (wdMd_valid cA cB bd N (bI t13_0) mReached mForm mSlot mOver mMany mEnds mYes mNo mDominators mMeets mSources mUseW mUseX mEndUse mNameBlock mNameStep) := hD
    refine lv_aload_n hx hb dMd_valid_16 rfl (lv_at hl 0 rfl) ?_
    refine va_get (D := D) (ci := 7) (v := .int (bI mForm)) (C := "OnceNamedModel") (T := TX7) (N := 34) hx hb hts (fun w h => List.mem_cons_of_mem _ (inX7 w h)) hown hK hP 0 rfl rfl 14 (by decide) (hts _ (List.mem_cons_of_mem _ kw_999)) (fun _ h9 => h9) rfl dMd_valid_17 ?_
    refine lv_if_eq (tgt := 34) hx hb dMd_valid_20 rfl (fun hc => ?_) (fun hc => ?_)
    · have hw := hw.1 (bI_0 hc)
      refine lv_iconst (v := 0) hx hb dMd_valid_34 (by decide) ?_
      exact hend false (bI t13_0) mReached mDominators _ _ _ _ dMd_valid_35 hP hD hS hw
    · have hw := hw.2 (bI_1 hc)
      refine lv_aload_n hx hb dMd_valid_23 rfl (lv_at hl 0 rfl) ?_
      refine xci (va_runV ⟨hx, hb, hml, hown, hts⟩ (ktMd_isValid l D cA cB bd N _ (bI t13_0) mReached mForm mSlot mOver mMany mEnds mYes mNo mDominators mMeets mSources mUseW mUseX mEndUse mNameBlock mNameStep _ hw) (cwV 0 hts (goodV kw_1201 kw_1203 ks_4_13 kw_11 kw_1204) rfl rfl rfl (by decide +kernel) ⟨Nat.le_of_ble_eq_true rfl, Nat.le_of_ble_eq_true rfl⟩) (xpreV hK hP hD hN [0, 1, 2, 3, 4, 5, 6, 7, 8, 9, 10, 11, 12] rfl rfl 0 rfl rfl) rfl rfl hl.1 rfl (lv_room (Nat.le_of_ble_eq_true rfl)) dMd_valid_24 ⟨Nat.le_of_ble_eq_true rfl, Nat.le_of_ble_eq_true rfl⟩) hP hD hS hA [0, 1, 2, 3, 4, 5, 6, 7, 8, 9, 10, 11, 12] [] rfl rfl rfl rfl [0, 1, 2, 3, 4, 5, 6, 7, 8, 9, 10, 11, 12] rfl (fun _ => rfl) (fun r24 u H locs hw hP hD hS => ?_)
      obtain ⟨r24, rfl, hw⟩ := hw
      obtain ⟨mReached_24, mDominators_24⟩ := u
      try dsimp only at hw
      have hP : va_P D vwCl (wdMd_valid cA cB bd N (bI t13_0) mReached_24 mForm mSlot mOver mMany mEnds mYes mNo mDominators_24 mMeets mSources mUseW mUseX mEndUse mNameBlock mNameStep) H := hP
      have hD : va_D A (wdMd_valid cA cB bd N (bI t13_0) mReached_24 mForm mSlot mOver mMany mEnds mYes mNo mDominators_24 mMeets mSources mUseW mUseX mEndUse mNameBlock mNameStep) := hD
      refine lv_if_eq (tgt := 34) hx hb dMd_valid_27 rfl (fun hc => ?_) (fun hc => ?_)
      · have hw := hw.1 (bI_0 hc)
        refine lv_iconst (v := 0) hx hb dMd_valid_34 (by decide) ?_
        exact hend false (bI t13_0) mReached_24 mDominators_24 _ _ _ _ dMd_valid_35 hP hD hS hw
      · have hw := hw.2 (bI_1 hc)
        refine lv_iconst (v := 1) hx hb dMd_valid_30 (by decide) ?_
        refine lv_goto (tgt := 35) hx hb dMd_valid_31 rfl ?_
        exact hend true (bI t13_0) mReached_24 mDominators_24 _ _ _ _ dMd_valid_35 hP hD hS hw
  refine lv_if_eq (tgt := 12) hx hb dMd_valid_5 rfl (fun hc => ?_) (fun hc => ?_)
  · have hw := hw.1 (bI_0 hc)
    refine lv_iconst (v := 1) hx hb dMd_valid_12 (by decide) ?_
    exact hj13 true _ _ _ (lv_sub hl [0] rfl) hP hD hS hw
  · have hw := hw.2 (bI_1 hc)
    refine lv_iconst (v := 0) hx hb dMd_valid_8 (by decide) ?_
    refine lv_goto (tgt := 13) hx hb dMd_valid_9 rfl ?_
    exact hj13 false _ _ _ (lv_sub hl [0] rfl) hP hD hS hw
abbrev wdMd_behind (cA : ClassId) (cB : ClassId) (bd : Nat → Nat) (N : Nat) (mThrown : Int32) (mReached : Int32) (mForm : Bool) (mSlot : Int32) (mOver : Bool) (mKinds : Nat → Int32) (mUseW : Nat → Int32) (mNameBlock : Nat → Int32) (mNameStep : Nat → Int32) : va_W := [((bd 0), .inr (7, [.int mThrown, .int (nI N), .ref (bd 1), .ref (bd 2), .ref (bd 3), .ref (bd 4), .ref (bd 5), .ref (bd 6), .ref (bd 7), .ref (bd 8), .ref (bd 9), .ref (bd 10), .int mReached, .ref (bd 11), .int (bI mForm), .ref (bd 12), .ref (bd 13), .ref (bd 14), .ref (bd 15), .ref (bd 16), .ref (bd 17), .ref (bd 18), .ref (bd 19), .ref (bd 20), .ref (bd 21), .ref (bd 22), .ref (bd 23), .ref (bd 24), .ref (bd 25), .ref (bd 26), .ref (bd 27), .ref (bd 28), .int mSlot, .int (bI mOver)])), ((bd 2), .inl (cA, 72, .inl mKinds)), ((bd 15), .inl (cA, 72, .inl mUseW)), ((bd 20), .inl (cA, 600, .inl mNameBlock)), ((bd 21), .inl (cA, 600, .inl mNameStep))]
abbrev qcMd_behind (D : va_G) (cA : ClassId) (cB : ClassId) (bd : Nat → Nat) (N : Nat) (mThrown : Int32) (mReached : Int32) (mForm : Bool) (mSlot : Int32) (mOver : Bool) (mKinds : Nat → Int32) (mUseW : Nat → Int32) (mNameBlock : Nat → Int32) (mNameStep : Nat → Int32) (post : Int32 → Prop) (A : Nat → Prop) : Array Value → State → Outcome → State → Prop := va_Qi (S := Unit) (fun r u => post r ) (fun u t => xB D [(cA, .int), (cB, .boolean)] A (wdMd_behind cA cB bd N mThrown mReached mForm mSlot mOver mKinds mUseW mNameBlock mNameStep) t) A
abbrev rmMd_behind : Room := { frames := 0, cells := 0, slots := 0, locals := 0 }
set_option maxHeartbeats 4000000 in
set_option maxRecDepth 100000 in
theorem ktMd_behind (l : Launch) (D : va_G) (cA : ClassId) (cB : ClassId) (bd : Nat → Nat) (N : Nat) (sz : Nat) (mThrown : Int32) (mReached : Int32) (mForm : Bool) (mSlot : Int32) (mOver : Bool) (mKinds : Nat → Int32) (mUseW : Nat → Int32) (mNameBlock : Nat → Int32) (mNameStep : Nat → Int32) (v1 : Int32) (post : Int32 → Prop) (hw : wpMd_behind N mKinds mUseW mNameBlock mNameStep v1 post) : Met l yMd_behind (Cond.code yMd_behind cMd_behind 3 (some .int) :: xW) rmMd_behind (va_Pc [.ref (bd 0), .int v1] (xPc D [(cA, .int), (cB, .boolean)] (wdMd_behind cA cB bd N mThrown mReached mForm mSlot mOver mKinds mUseW mNameBlock mNameStep) sz)) (qcMd_behind D cA cB bd N mThrown mReached mForm mSlot mOver mKinds mUseW mNameBlock mNameStep post (va_A (wdMd_behind cA cB bd N mThrown mReached mForm mSlot mOver mKinds mUseW mNameBlock mNameStep) sz)) 0 0 (va_A (wdMd_behind cA cB bd N mThrown mReached mForm mSlot mOver mKinds mUseW mNameBlock mNameStep) sz) := by
  refine Met.ofW (cc := cMd_behind) (maxL := 3) (ret := (some .int)) (by decide) rfl ?_
  intro p e s m args below meth c s₁ B hml hv
  obtain ⟨rfl, hsz, hP, hK, hD0, hN⟩ := hv
  have hx := B.exec
  have hb := B.bytes
  have hr := B.returns
  have hts := atoms_spec (ws := (Cond.code yMd_behind cMd_behind 3 (some .int) :: xW)) B.pre
  have hown : s.vm.findClass "OnceNamedModel" = some m.cls := findClass_of_methodNamed B.named
  have hlocks := B.notSynchronized
  subst hsz
  have hD := hD0.self (sz := s.heap.size)
  generalize hAe : va_A (wdMd_behind cA cB bd N mThrown mReached mForm mSlot mOver mKinds mUseW mNameBlock mNameStep) s.heap.size = A at hD ⊢
  have hA : ∀ q : Nat, s.heap.size ≤ q → A q := fun q h => by rw [← hAe]; exact Or.inr h
  have hS : va_S A s.heap s.heap [] := va_S.rf
  have hend : ∀ (r : Int32)  (H : Heap) (locs : List Loc) (pc : Nat) (ls : Array Slot), decode cMd_behind pc = .ok (.ireturn, 1) → va_P D vwCl (wdMd_behind cA cB bd N mThrown mReached mForm mSlot mOver mKinds mUseW mNameBlock mNameStep) H → va_D A (wdMd_behind cA cB bd N mThrown mReached mForm mSlot mOver mKinds mUseW mNameBlock mNameStep) → va_S A s.heap H locs → post r  → W p l e (headSpec (Cond.code yMd_behind cMd_behind 3 (some .int) :: xW) rmMd_behind).room s m ([.ref (bd 0), .int v1] : List Value).toArray below meth c H locs 0 0 (MQ below (qcMd_behind D cA cB bd N mThrown mReached mForm mSlot mOver mKinds mUseW mNameBlock mNameStep post A) ([.ref (bd 0), .int v1] : List Value).toArray s 0 0 A) (F0 m pc ls [.int r]) := fun r  H locs pc ls hd hP hD hS hw => W.iret (v := r) hx hb hr (fun t ht hW => ⟨⟨r, (), rfl, hw, ⟨by rw [ht]; exact hP, va_K.moved hW.alike hK, hD⟩⟩, hS.F ht⟩) hS.2.2 hd
  generalize hQ : MQ below (qcMd_behind D cA cB bd N mThrown mReached mForm mSlot mOver mKinds mUseW mNameBlock mNameStep post A) ([.ref (bd 0), .int v1] : List Value).toArray s 0 0 A = Q at hend ⊢
  have hl := lv_entry ([.ref (bd 0), .int v1]) (n := 3) (Nat.le_of_ble_eq_true rfl)
  rw [lg_entry_eq]
  generalize (lg_sl ([.ref (bd 0), .int v1]) ++ List.replicate (3 - (lg_sl ([.ref (bd 0), .int v1])).length) Slot.unset).toArray = ls at hl ⊢
  have hl : lv_has ls 3 [(0, .ref (bd 0)), (1, .int v1)] := hl
  unfold wpMd_behind at hw
  refine lv_iload_n hx hb dMd_behind_0 rfl (lv_at hl 1 rfl) ?_
  refine lv_istore_n (lv' := [(2, .int v1), (0, .ref (bd 0)), (1, .int v1)]) hx hb dMd_behind_1 rfl hl (by decide) rfl (fun ls hl => ?_)
  obtain ⟨k2, hw⟩ := hw
  have hlp2 : ∀ (k : Nat), ∀ (v2_L2 : Int32) (ls : Array Slot) (H : Heap) (locs : List Loc), lv_has ls 3 [(0, .ref (bd 0)), (1, .int v1), (2, .int v2_L2)] → va_P D vwCl (wdMd_behind cA cB bd N mThrown mReached mForm mSlot mOver mKinds mUseW mNameBlock mNameStep) H → va_D A (wdMd_behind cA cB bd N mThrown mReached mForm mSlot mOver mKinds mUseW mNameBlock mNameStep) → va_S A s.heap H locs → lpMd_behind_2 N mKinds mUseW mNameBlock mNameStep post k v2_L2 → W p l e (headSpec (Cond.code yMd_behind cMd_behind 3 (some .int) :: xW) rmMd_behind).room s m ([.ref (bd 0), .int v1] : List Value).toArray below meth c H locs 0 0 Q (F0 m 2 ls []) := by
    intro k
    induction k with
    | zero => intro v2_L2 ls H locs hl hP hD hS hw; exact False.elim hw
    | succ k ih =>
      intro v2_L2 ls H locs hl hP hD hS hw
      refine lv_aload_n hx hb dMd_behind_2 rfl (lv_at hl 0 rfl) ?_
      refine va_get (D := D) (ci := 7) (v := .ref (bd 20)) (C := "OnceNamedModel") (T := TX7) (N := 34) hx hb hts (fun w h => List.mem_cons_of_mem _ (inX7 w h)) hown hK hP 0 rfl rfl 23 (by decide) (hts _ (List.mem_cons_of_mem _ kw_1008)) (fun _ h9 => h9) rfl dMd_behind_3 ?_
      refine lv_iload_n hx hb dMd_behind_6 rfl (lv_at hl 2 rfl) ?_
      have ho := hw.1
      have hw := hw.2
      refine va_iald hx hb hK hP 3 0 rfl rfl ho dMd_behind_7 ?_
      refine lv_aload_n hx hb dMd_behind_8 rfl (lv_at hl 0 rfl) ?_
      refine va_get (D := D) (ci := 7) (v := .int (nI N)) (C := "OnceNamedModel") (T := TX7) (N := 34) hx hb hts (fun w h => List.mem_cons_of_mem _ (inX7 w h)) hown hK hP 0 rfl rfl 1 (by decide) (hts _ (List.mem_cons_of_mem _ kw_986)) (fun _ h9 => h9) rfl dMd_behind_9 ?_
      refine lv_icmp_ge (tgt := 74) hx hb dMd_behind_12 rfl (fun hc => ?_) (fun hc => ?_)
      · have hw := hw.1 hc
        refine lv_iload_n hx hb dMd_behind_74 rfl (lv_at hl 2 rfl) ?_
        exact hend v2_L2 _ _ _ _ dMd_behind_75 hP hD hS hw
      · have hw := hw.2 hc
        refine lv_aload_n hx hb dMd_behind_15 rfl (lv_at hl 0 rfl) ?_
        refine va_get (D := D) (ci := 7) (v := .ref (bd 21)) (C := "OnceNamedModel") (T := TX7) (N := 34) hx hb hts (fun w h => List.mem_cons_of_mem _ (inX7 w h)) hown hK hP 0 rfl rfl 24 (by decide) (hts _ (List.mem_cons_of_mem _ kw_1009)) (fun _ h9 => h9) rfl dMd_behind_16 ?_
        refine lv_iload_n hx hb dMd_behind_19 rfl (lv_at hl 2 rfl) ?_
        have ho := hw.1
        have hw := hw.2
        refine va_iald hx hb hK hP 4 0 rfl rfl ho dMd_behind_20 ?_
        refine lv_if_lt (tgt := 74) hx hb dMd_behind_21 rfl (fun hc => ?_) (fun hc => ?_)
        · have hw := hw.1 hc
          refine lv_iload_n hx hb dMd_behind_74 rfl (lv_at hl 2 rfl) ?_
          exact hend v2_L2 _ _ _ _ dMd_behind_75 hP hD hS hw
        · have hw := hw.2 hc
          refine lv_aload_n hx hb dMd_behind_24 rfl (lv_at hl 0 rfl) ?_
          refine va_get (D := D) (ci := 7) (v := .ref (bd 2)) (C := "OnceNamedModel") (T := TX7) (N := 34) hx hb hts (fun w h => List.mem_cons_of_mem _ (inX7 w h)) hown hK hP 0 rfl rfl 3 (by decide) (hts _ (List.mem_cons_of_mem _ kw_988)) (fun _ h9 => h9) rfl dMd_behind_25 ?_
          refine lv_bipush (v := 6) hx hb dMd_behind_28 (by decide) ?_
          refine lv_aload_n hx hb dMd_behind_30 rfl (lv_at hl 0 rfl) ?_
          refine va_get (D := D) (ci := 7) (v := .ref (bd 20)) (C := "OnceNamedModel") (T := TX7) (N := 34) hx hb hts (fun w h => List.mem_cons_of_mem _ (inX7 w h)) hown hK hP 0 rfl rfl 23 (by decide) (hts _ (List.mem_cons_of_mem _ kw_1008)) (fun _ h9 => h9) rfl dMd_behind_31 ?_
          refine lv_iload_n hx hb dMd_behind_34 rfl (lv_at hl 2 rfl) ?_
          have ho := hw.1
          have hw := hw.2
          refine va_iald hx hb hK hP 3 0 rfl rfl ho dMd_behind_35 ?_
          refine lv_imul hx hb dMd_behind_36 ?_
          refine lv_aload_n hx hb dMd_behind_37 rfl (lv_at hl 0 rfl) ?_
          refine va_get (D := D) (ci := 7) (v := .ref (bd 21)) (C := "OnceNamedModel") (T := TX7) (N := 34) hx hb hts (fun w h => List.mem_cons_of_mem _ (inX7 w h)) hown hK hP 0 rfl rfl 24 (by decide) (hts _ (List.mem_cons_of_mem _ kw_1009)) (fun _ h9 => h9) rfl dMd_behind_38 ?_
          refine lv_iload_n hx hb dMd_behind_41 rfl (lv_at hl 2 rfl) ?_
          have ho := hw.1
          have hw := hw.2
          refine va_iald hx hb hK hP 4 0 rfl rfl ho dMd_behind_42 ?_
          refine lv_iadd hx hb dMd_behind_43 ?_
          have ho := hw.1
          have hw := hw.2
          refine va_iald hx hb hK hP 1 0 rfl rfl ho dMd_behind_44 ?_
          refine lv_iconst (v := 1) hx hb dMd_behind_45 (by decide) ?_
          refine lv_icmp_ne (tgt := 74) hx hb dMd_behind_46 rfl (fun hc => ?_) (fun hc => ?_)
          · have hw := hw.1 hc
            refine lv_iload_n hx hb dMd_behind_74 rfl (lv_at hl 2 rfl) ?_
            exact hend v2_L2 _ _ _ _ dMd_behind_75 hP hD hS hw
          · have hw := hw.2 hc
            refine lv_aload_n hx hb dMd_behind_49 rfl (lv_at hl 0 rfl) ?_
            refine va_get (D := D) (ci := 7) (v := .ref (bd 15)) (C := "OnceNamedModel") (T := TX7) (N := 34) hx hb hts (fun w h => List.mem_cons_of_mem _ (inX7 w h)) hown hK hP 0 rfl rfl 18 (by decide) (hts _ (List.mem_cons_of_mem _ kw_1003)) (fun _ h9 => h9) rfl dMd_behind_50 ?_
            refine lv_bipush (v := 6) hx hb dMd_behind_53 (by decide) ?_
            refine lv_aload_n hx hb dMd_behind_55 rfl (lv_at hl 0 rfl) ?_
            refine va_get (D := D) (ci := 7) (v := .ref (bd 20)) (C := "OnceNamedModel") (T := TX7) (N := 34) hx hb hts (fun w h => List.mem_cons_of_mem _ (inX7 w h)) hown hK hP 0 rfl rfl 23 (by decide) (hts _ (List.mem_cons_of_mem _ kw_1008)) (fun _ h9 => h9) rfl dMd_behind_56 ?_
            refine lv_iload_n hx hb dMd_behind_59 rfl (lv_at hl 2 rfl) ?_
            have ho := hw.1
            have hw := hw.2
            refine va_iald hx hb hK hP 3 0 rfl rfl ho dMd_behind_60 ?_
            refine lv_imul hx hb dMd_behind_61 ?_
            refine lv_aload_n hx hb dMd_behind_62 rfl (lv_at hl 0 rfl) ?_
            refine va_get (D := D) (ci := 7) (v := .ref (bd 21)) (C := "OnceNamedModel") (T := TX7) (N := 34) hx hb hts (fun w h => List.mem_cons_of_mem _ (inX7 w h)) hown hK hP 0 rfl rfl 24 (by decide) (hts _ (List.mem_cons_of_mem _ kw_1009)) (fun _ h9 => h9) rfl dMd_behind_63 ?_
            refine lv_iload_n hx hb dMd_behind_66 rfl (lv_at hl 2 rfl) ?_
            have ho := hw.1
            have hw := hw.2
            refine va_iald hx hb hK hP 4 0 rfl rfl ho dMd_behind_67 ?_
            refine lv_iadd hx hb dMd_behind_68 ?_
            have ho := hw.1
            have hw := hw.2
            refine va_iald hx hb hK hP 2 0 rfl rfl ho dMd_behind_69 ?_
            refine lv_topi (fun v2_70 e_v2_70 => ?_)
            have hw := hw v2_70 e_v2_70
            refine lv_istore_n (lv' := [(2, .int v2_70), (0, .ref (bd 0)), (1, .int v1)]) hx hb dMd_behind_70 rfl hl (by decide) rfl (fun ls hl => ?_)
            refine lv_goto (tgt := 2) hx hb dMd_behind_71 rfl ?_
            exact ih v2_70 _ _ _ (lv_sub hl [1, 2, 0] rfl) hP hD hS hw
  refine hlp2 k2 v1 _ _ _ (lv_sub hl [1, 2, 0] rfl) hP hD hS hw
abbrev wdMd_propagate (cA : ClassId) (cB : ClassId) (bd : Nat → Nat) (N : Nat) (mThrown : Int32) (mReached : Int32) (mForm : Bool) (mSlot : Int32) (mOver : Bool) (mMany : Nat → Int32) (mKinds : Nat → Int32) (mEnds : Nat → Int32) (mYes : Nat → Int32) (mNo : Nat → Int32) (mDominators : Nat → Int32) (mMeets : Nat → Int32) (mSources : Nat → Int32) (mSet : Nat → Int32) (mUseW : Nat → Int32) (mUseX : Nat → Int32) (mEndUse : Nat → Int32) (mGone : Nat → Bool) (mIsName : Nat → Bool) (mNameBlock : Nat → Int32) (mNameStep : Nat → Int32) : va_W := [((bd 0), .inr (7, [.int mThrown, .int (nI N), .ref (bd 1), .ref (bd 2), .ref (bd 3), .ref (bd 4), .ref (bd 5), .ref (bd 6), .ref (bd 7), .ref (bd 8), .ref (bd 9), .ref (bd 10), .int mReached, .ref (bd 11), .int (bI mForm), .ref (bd 12), .ref (bd 13), .ref (bd 14), .ref (bd 15), .ref (bd 16), .ref (bd 17), .ref (bd 18), .ref (bd 19), .ref (bd 20), .ref (bd 21), .ref (bd 22), .ref (bd 23), .ref (bd 24), .ref (bd 25), .ref (bd 26), .ref (bd 27), .ref (bd 28), .int mSlot, .int (bI mOver)])), ((bd 1), .inl (cA, 12, .inl mMany)), ((bd 2), .inl (cA, 72, .inl mKinds)), ((bd 6), .inl (cA, 12, .inl mEnds)), ((bd 8), .inl (cA, 12, .inl mYes)), ((bd 9), .inl (cA, 12, .inl mNo)), ((bd 11), .inl (cA, 12, .inl mDominators)), ((bd 12), .inl (cA, 72, .inl mMeets)), ((bd 13), .inl (cA, 936, .inl mSources)), ((bd 14), .inl (cA, 72, .inl mSet)), ((bd 15), .inl (cA, 72, .inl mUseW)), ((bd 16), .inl (cA, 72, .inl mUseX)), ((bd 17), .inl (cA, 12, .inl mEndUse)), ((bd 18), .inl (cB, 72, .inl (fun j => bI (mGone j)))), ((bd 19), .inl (cB, 600, .inl (fun j => bI (mIsName j)))), ((bd 20), .inl (cA, 600, .inl mNameBlock)), ((bd 21), .inl (cA, 600, .inl mNameStep))]
abbrev qcMd_propagate (D : va_G) (cA : ClassId) (cB : ClassId) (bd : Nat → Nat) (N : Nat) (mThrown : Int32) (mReached : Int32) (mForm : Bool) (mSlot : Int32) (mOver : Bool) (mMany : Nat → Int32) (mKinds : Nat → Int32) (mEnds : Nat → Int32) (mYes : Nat → Int32) (mNo : Nat → Int32) (mDominators : Nat → Int32) (mMeets : Nat → Int32) (mSources : Nat → Int32) (mSet : Nat → Int32) (mUseW : Nat → Int32) (mUseX : Nat → Int32) (mEndUse : Nat → Int32) (mGone : Nat → Bool) (mIsName : Nat → Bool) (mNameBlock : Nat → Int32) (mNameStep : Nat → Int32) (post : Int32 → Int32 → Int32 → (Nat → Int32) → (Nat → Int32) → (Nat → Int32) → (Nat → Int32) → (Nat → Int32) → (Nat → Int32) → (Nat → Bool) → (Nat → Bool) → Prop) (A : Nat → Prop) : Array Value → State → Outcome → State → Prop := va_Qi (S := (Int32) × (Int32) × (Nat → Int32) × (Nat → Int32) × (Nat → Int32) × (Nat → Int32) × (Nat → Int32) × (Nat → Int32) × (Nat → Bool) × (Nat → Bool)) (fun r u => post r u.1 u.2.1 u.2.2.1 u.2.2.2.1 u.2.2.2.2.1 u.2.2.2.2.2.1 u.2.2.2.2.2.2.1 u.2.2.2.2.2.2.2.1 u.2.2.2.2.2.2.2.2.1 u.2.2.2.2.2.2.2.2.2) (fun u t => xB D [(cA, .int), (cB, .boolean)] A (wdMd_propagate cA cB bd N u.1 u.2.1 mForm mSlot mOver mMany mKinds mEnds mYes mNo u.2.2.1 mMeets u.2.2.2.1 u.2.2.2.2.1 u.2.2.2.2.2.1 u.2.2.2.2.2.2.1 u.2.2.2.2.2.2.2.1 u.2.2.2.2.2.2.2.2.1 u.2.2.2.2.2.2.2.2.2 mNameBlock mNameStep) t) A
abbrev rmMd_propagate : Room := { frames := 4, cells := 0, slots := 0, locals := 94 }
set_option maxHeartbeats 4000000 in
set_option maxRecDepth 100000 in
theorem ktMd_propagate (l : Launch) (D : va_G) (cA : ClassId) (cB : ClassId) (bd : Nat → Nat) (N : Nat) (sz : Nat) (mThrown : Int32) (mReached : Int32) (mForm : Bool) (mSlot : Int32) (mOver : Bool) (mMany : Nat → Int32) (mKinds : Nat → Int32) (mEnds : Nat → Int32) (mYes : Nat → Int32) (mNo : Nat → Int32) (mDominators : Nat → Int32) (mMeets : Nat → Int32) (mSources : Nat → Int32) (mSet : Nat → Int32) (mUseW : Nat → Int32) (mUseX : Nat → Int32) (mEndUse : Nat → Int32) (mGone : Nat → Bool) (mIsName : Nat → Bool) (mNameBlock : Nat → Int32) (mNameStep : Nat → Int32)  (post : Int32 → Int32 → Int32 → (Nat → Int32) → (Nat → Int32) → (Nat → Int32) → (Nat → Int32) → (Nat → Int32) → (Nat → Int32) → (Nat → Bool) → (Nat → Bool) → Prop) (hw : wpMd_propagate N mReached mForm mMany mKinds mEnds mYes mNo mDominators mMeets mSources mSet mUseW mUseX mEndUse mGone mIsName mNameBlock mNameStep post) : Met l yMd_propagate (Cond.code yMd_propagate cMd_propagate 5 (some .int) :: xW) rmMd_propagate (va_Pc [.ref (bd 0)] (xPc D [(cA, .int), (cB, .boolean)] (wdMd_propagate cA cB bd N mThrown mReached mForm mSlot mOver mMany mKinds mEnds mYes mNo mDominators mMeets mSources mSet mUseW mUseX mEndUse mGone mIsName mNameBlock mNameStep) sz)) (qcMd_propagate D cA cB bd N mThrown mReached mForm mSlot mOver mMany mKinds mEnds mYes mNo mDominators mMeets mSources mSet mUseW mUseX mEndUse mGone mIsName mNameBlock mNameStep post (va_A (wdMd_propagate cA cB bd N mThrown mReached mForm mSlot mOver mMany mKinds mEnds mYes mNo mDominators mMeets mSources mSet mUseW mUseX mEndUse mGone mIsName mNameBlock mNameStep) sz)) 0 0 (va_A (wdMd_propagate cA cB bd N mThrown mReached mForm mSlot mOver mMany mKinds mEnds mYes mNo mDominators mMeets mSources mSet mUseW mUseX mEndUse mGone mIsName mNameBlock mNameStep) sz) := by
  refine Met.ofW (cc := cMd_propagate) (maxL := 5) (ret := (some .int)) (by decide) rfl ?_
  intro p e s m args below meth c s₁ B hml hv
  obtain ⟨rfl, hsz, hP, hK, hD0, hN⟩ := hv
  have hx := B.exec
  have hb := B.bytes
  have hr := B.returns
  have hts := atoms_spec (ws := (Cond.code yMd_propagate cMd_propagate 5 (some .int) :: xW)) B.pre
  have hown : s.vm.findClass "OnceNamedModel" = some m.cls := findClass_of_methodNamed B.named
  have hlocks := B.notSynchronized
  subst hsz
  have hD := hD0.self (sz := s.heap.size)
  generalize hAe : va_A (wdMd_propagate cA cB bd N mThrown mReached mForm mSlot mOver mMany mKinds mEnds mYes mNo mDominators mMeets mSources mSet mUseW mUseX mEndUse mGone mIsName mNameBlock mNameStep) s.heap.size = A at hD ⊢
  have hA : ∀ q : Nat, s.heap.size ≤ q → A q := fun q h => by rw [← hAe]; exact Or.inr h
  have hS : va_S A s.heap s.heap [] := va_S.rf
  have hend : ∀ (r : Int32) (u0 : Int32) (u1 : Int32) (u2 : Nat → Int32) (u3 : Nat → Int32) (u4 : Nat → Int32) (u5 : Nat → Int32) (u6 : Nat → Int32) (u7 : Nat → Int32) (u8 : Nat → Bool) (u9 : Nat → Bool) (H : Heap) (locs : List Loc) (pc : Nat) (ls : Array Slot), decode cMd_propagate pc = .ok (.ireturn, 1) → va_P D vwCl (wdMd_propagate cA cB bd N u0 u1 mForm mSlot mOver mMany mKinds mEnds mYes mNo u2 mMeets u3 u4 u5 u6 u7 u8 u9 mNameBlock mNameStep) H → va_D A (wdMd_propagate cA cB bd N u0 u1 mForm mSlot mOver mMany mKinds mEnds mYes mNo u2 mMeets u3 u4 u5 u6 u7 u8 u9 mNameBlock mNameStep) → va_S A s.heap H locs → post r u0 u1 u2 u3 u4 u5 u6 u7 u8 u9 → W p l e (headSpec (Cond.code yMd_propagate cMd_propagate 5 (some .int) :: xW) rmMd_propagate).room s m ([.ref (bd 0)] : List Value).toArray below meth c H locs 0 0 (MQ below (qcMd_propagate D cA cB bd N mThrown mReached mForm mSlot mOver mMany mKinds mEnds mYes mNo mDominators mMeets mSources mSet mUseW mUseX mEndUse mGone mIsName mNameBlock mNameStep post A) ([.ref (bd 0)] : List Value).toArray s 0 0 A) (F0 m pc ls [.int r]) := fun r u0 u1 u2 u3 u4 u5 u6 u7 u8 u9 H locs pc ls hd hP hD hS hw => W.iret (v := r) hx hb hr (fun t ht hW => ⟨⟨r, (u0, u1, u2, u3, u4, u5, u6, u7, u8, u9), rfl, hw, ⟨by rw [ht]; exact hP, va_K.moved hW.alike hK, hD⟩⟩, hS.F ht⟩) hS.2.2 hd
  generalize hQ : MQ below (qcMd_propagate D cA cB bd N mThrown mReached mForm mSlot mOver mMany mKinds mEnds mYes mNo mDominators mMeets mSources mSet mUseW mUseX mEndUse mGone mIsName mNameBlock mNameStep post A) ([.ref (bd 0)] : List Value).toArray s 0 0 A = Q at hend ⊢
  have hl := lv_entry ([.ref (bd 0)]) (n := 5) (Nat.le_of_ble_eq_true rfl)
  rw [lg_entry_eq]
  generalize (lg_sl ([.ref (bd 0)]) ++ List.replicate (5 - (lg_sl ([.ref (bd 0)])).length) Slot.unset).toArray = ls at hl ⊢
  have hl : lv_has ls 5 [(0, .ref (bd 0))] := hl
  unfold wpMd_propagate at hw
  refine lv_aload_n hx hb dMd_propagate_0 rfl (lv_at hl 0 rfl) ?_
  refine lv_aload_n hx hb dMd_propagate_1 rfl (lv_at hl 0 rfl) ?_
  refine va_get (D := D) (ci := 7) (v := .int (bI mForm)) (C := "OnceNamedModel") (T := TX7) (N := 34) hx hb hts (fun w h => List.mem_cons_of_mem _ (inX7 w h)) hown hK hP 0 rfl rfl 14 (by decide) (hts _ (List.mem_cons_of_mem _ kw_999)) (fun _ h9 => h9) rfl dMd_propagate_2 ?_
  obtain ⟨J24, hJ24, hw⟩ := hw
  have hj24 : ∀ (t24_0 : Int32) (mReached_j24 : Int32) (mDominators_j24 : Nat → Int32) (ls : Array Slot) (H : Heap) (locs : List Loc), lv_has ls 5 [(0, .ref (bd 0))] → va_P D vwCl (wdMd_propagate cA cB bd N mThrown mReached_j24 mForm mSlot mOver mMany mKinds mEnds mYes mNo mDominators_j24 mMeets mSources mSet mUseW mUseX mEndUse mGone mIsName mNameBlock mNameStep) H → va_D A (wdMd_propagate cA cB bd N mThrown mReached_j24 mForm mSlot mOver mMany mKinds mEnds mYes mNo mDominators_j24 mMeets mSources mSet mUseW mUseX mEndUse mGone mIsName mNameBlock mNameStep) → va_S A s.heap H locs → J24 t24_0 mReached_j24 mDominators_j24 → W p l e (headSpec (Cond.code yMd_propagate cMd_propagate 5 (some .int) :: xW) rmMd_propagate).room s m ([.ref (bd 0)] : List Value).toArray below meth c H locs 0 0 Q (F0 m 24 ls [.int t24_0, .ref (bd 0)]) := by
    intro t24_0 mReached_j24 mDominators_j24 ls H locs hl hP hD hS hw
    have hw := hJ24 t24_0 mReached_j24 mDominators_j24 hw
    refine va_put (D := D) (ci := 7) (v := .int t24_0) (ty := .int) (C := "OnceNamedModel") (T := TX7) (N := 34) hx hb hts (fun w h => List.mem_cons_of_mem _ (inX7 w h)) tyX7 tyX7_ok nmX7 hown hK hP hD hS 0 rfl rfl 0 (by decide) (hts _ (List.mem_cons_of_mem _ kw_985)) (fun _ h9 => h9) rfl (by decide +kernel) rfl rfl (Nat.le_of_ble_eq_true rfl) dMd_propagate_24 (fun H locs hP hD hS => ?_)
    have hP : va_P D vwCl (wdMd_propagate cA cB bd N t24_0 mReached_j24 mForm mSlot mOver mMany mKinds mEnds mYes mNo mDominators_j24 mMeets mSources mSet mUseW mUseX mEndUse mGone mIsName mNameBlock mNameStep) H := hP
    have hD : va_D A (wdMd_propagate cA cB bd N t24_0 mReached_j24 mForm mSlot mOver mMany mKinds mEnds mYes mNo mDominators_j24 mMeets mSources mSet mUseW mUseX mEndUse mGone mIsName mNameBlock mNameStep) := hD
    refine lv_aload_n hx hb dMd_propagate_27 rfl (lv_at hl 0 rfl) ?_
    refine va_get (D := D) (ci := 7) (v := .int t24_0) (C := "OnceNamedModel") (T := TX7) (N := 34) hx hb hts (fun w h => List.mem_cons_of_mem _ (inX7 w h)) hown hK hP 0 rfl rfl 0 (by decide) (hts _ (List.mem_cons_of_mem _ kw_985)) (fun _ h9 => h9) rfl dMd_propagate_28 ?_
    refine lv_if_eq (tgt := 36) hx hb dMd_propagate_31 rfl (fun hc => ?_) (fun hc => ?_)
    · have hw := hw.1 hc
      refine lv_iconst (v := 0) hx hb dMd_propagate_36 (by decide) ?_
      refine lv_istore_n (lv' := [(1, .int 0), (0, .ref (bd 0))]) hx hb dMd_propagate_37 rfl hl (by decide) rfl (fun ls hl => ?_)
      obtain ⟨k38, hw⟩ := hw
      have hlp38 : ∀ (K269 : Int32 → (Nat → Int32) → (Nat → Int32) → (Nat → Int32) → (Nat → Int32) → Prop), (∀ (v1_x269 : Int32) (mSources_x269 : Nat → Int32) (mUseW_x269 : Nat → Int32) (mUseX_x269 : Nat → Int32) (mEndUse_x269 : Nat → Int32) (ls : Array Slot) (H : Heap) (locs : List Loc), lv_has ls 5 [(0, .ref (bd 0)), (1, .int v1_x269)] → va_P D vwCl (wdMd_propagate cA cB bd N t24_0 mReached_j24 mForm mSlot mOver mMany mKinds mEnds mYes mNo mDominators_j24 mMeets mSources_x269 mSet mUseW_x269 mUseX_x269 mEndUse_x269 mGone mIsName mNameBlock mNameStep) H → va_D A (wdMd_propagate cA cB bd N t24_0 mReached_j24 mForm mSlot mOver mMany mKinds mEnds mYes mNo mDominators_j24 mMeets mSources_x269 mSet mUseW_x269 mUseX_x269 mEndUse_x269 mGone mIsName mNameBlock mNameStep) → va_S A s.heap H locs → K269 v1_x269 mSources_x269 mUseW_x269 mUseX_x269 mEndUse_x269 → W p l e (headSpec (Cond.code yMd_propagate cMd_propagate 5 (some .int) :: xW) rmMd_propagate).room s m ([.ref (bd 0)] : List Value).toArray below meth c H locs 0 0 Q (F0 m 269 ls [])) → ∀ (k : Nat), ∀ (v1_L38 : Int32) (mSources_L38 : Nat → Int32) (mUseW_L38 : Nat → Int32) (mUseX_L38 : Nat → Int32) (mEndUse_L38 : Nat → Int32) (ls : Array Slot) (H : Heap) (locs : List Loc), lv_has ls 5 [(0, .ref (bd 0)), (1, .int v1_L38)] → va_P D vwCl (wdMd_propagate cA cB bd N t24_0 mReached_j24 mForm mSlot mOver mMany mKinds mEnds mYes mNo mDominators_j24 mMeets mSources_L38 mSet mUseW_L38 mUseX_L38 mEndUse_L38 mGone mIsName mNameBlock mNameStep) H → va_D A (wdMd_propagate cA cB bd N t24_0 mReached_j24 mForm mSlot mOver mMany mKinds mEnds mYes mNo mDominators_j24 mMeets mSources_L38 mSet mUseW_L38 mUseX_L38 mEndUse_L38 mGone mIsName mNameBlock mNameStep) → va_S A s.heap H locs → lpMd_propagate_38 N mMany mKinds mMeets mNameBlock mNameStep K269 k v1_L38 mSources_L38 mUseW_L38 mUseX_L38 mEndUse_L38 → W p l e (headSpec (Cond.code yMd_propagate cMd_propagate 5 (some .int) :: xW) rmMd_propagate).room s m ([.ref (bd 0)] : List Value).toArray below meth c H locs 0 0 Q (F0 m 38 ls []) := by
        intro K269 hK269 k
        induction k with
        | zero => intro v1_L38 mSources_L38 mUseW_L38 mUseX_L38 mEndUse_L38 ls H locs hl hP hD hS hw; exact False.elim hw
        | succ k ih =>
          intro v1_L38 mSources_L38 mUseW_L38 mUseX_L38 mEndUse_L38 ls H locs hl hP hD hS hw
          refine lv_iload_n hx hb dMd_propagate_38 rfl (lv_at hl 1 rfl) ?_
          refine lv_aload_n hx hb dMd_propagate_39 rfl (lv_at hl 0 rfl) ?_
          refine va_get (D := D) (ci := 7) (v := .int (nI N)) (C := "OnceNamedModel") (T := TX7) (N := 34) hx hb hts (fun w h => List.mem_cons_of_mem _ (inX7 w h)) hown hK hP 0 rfl rfl 1 (by decide) (hts _ (List.mem_cons_of_mem _ kw_986)) (fun _ h9 => h9) rfl dMd_propagate_40 ?_
          refine lv_icmp_ge (tgt := 269) hx hb dMd_propagate_43 rfl (fun hc => ?_) (fun hc => ?_)
          · have hw := hw.1 hc
            exact hK269 v1_L38 mSources_L38 mUseW_L38 mUseX_L38 mEndUse_L38 _ _ _ (lv_sub hl [0, 1] rfl) hP hD hS hw
          · have hw := hw.2 hc
            refine lv_aload_n hx hb dMd_propagate_46 rfl (lv_at hl 0 rfl) ?_
            refine va_get (D := D) (ci := 7) (v := .ref (bd 17)) (C := "OnceNamedModel") (T := TX7) (N := 34) hx hb hts (fun w h => List.mem_cons_of_mem _ (inX7 w h)) hown hK hP 0 rfl rfl 20 (by decide) (hts _ (List.mem_cons_of_mem _ kw_1005)) (fun _ h9 => h9) rfl dMd_propagate_47 ?_
            refine lv_iload_n hx hb dMd_propagate_50 rfl (lv_at hl 1 rfl) ?_
            refine lv_aload_n hx hb dMd_propagate_51 rfl (lv_at hl 0 rfl) ?_
            refine va_get (D := D) (ci := 7) (v := .ref (bd 17)) (C := "OnceNamedModel") (T := TX7) (N := 34) hx hb hts (fun w h => List.mem_cons_of_mem _ (inX7 w h)) hown hK hP 0 rfl rfl 20 (by decide) (hts _ (List.mem_cons_of_mem _ kw_1005)) (fun _ h9 => h9) rfl dMd_propagate_52 ?_
            refine lv_iload_n hx hb dMd_propagate_55 rfl (lv_at hl 1 rfl) ?_
            have ho := hw.1
            have hw := hw.2
            refine va_iald hx hb hK hP 12 0 rfl rfl ho dMd_propagate_56 ?_
            obtain ⟨J74, hJ74, hw⟩ := hw
            have hj74 : ∀ (t74_0 : Int32) (ls : Array Slot) (H : Heap) (locs : List Loc), lv_has ls 5 [(0, .ref (bd 0)), (1, .int v1_L38)] → va_P D vwCl (wdMd_propagate cA cB bd N t24_0 mReached_j24 mForm mSlot mOver mMany mKinds mEnds mYes mNo mDominators_j24 mMeets mSources_L38 mSet mUseW_L38 mUseX_L38 mEndUse_L38 mGone mIsName mNameBlock mNameStep) H → va_D A (wdMd_propagate cA cB bd N t24_0 mReached_j24 mForm mSlot mOver mMany mKinds mEnds mYes mNo mDominators_j24 mMeets mSources_L38 mSet mUseW_L38 mUseX_L38 mEndUse_L38 mGone mIsName mNameBlock mNameStep) → va_S A s.heap H locs → J74 t74_0 → W p l e (headSpec (Cond.code yMd_propagate cMd_propagate 5 (some .int) :: xW) rmMd_propagate).room s m ([.ref (bd 0)] : List Value).toArray below meth c H locs 0 0 Q (F0 m 74 ls [.int t74_0, .int v1_L38, .ref (bd 17)]) := by
              intro t74_0 ls H locs hl hP hD hS hw
              have hw := hJ74 t74_0 hw
              have ho := hw.1
              have hw := hw.2
              refine va_iast hx hb hK hP hD hS 12 0 rfl rfl ho dMd_propagate_74 (fun H locs hP hD hS => ?_)
              have hP : va_P D vwCl (wdMd_propagate cA cB bd N t24_0 mReached_j24 mForm mSlot mOver mMany mKinds mEnds mYes mNo mDominators_j24 mMeets mSources_L38 mSet mUseW_L38 mUseX_L38 (upd mEndUse_L38 (Int32.toNatClampNeg v1_L38) t74_0) mGone mIsName mNameBlock mNameStep) H := hP
              have hD : va_D A (wdMd_propagate cA cB bd N t24_0 mReached_j24 mForm mSlot mOver mMany mKinds mEnds mYes mNo mDominators_j24 mMeets mSources_L38 mSet mUseW_L38 mUseX_L38 (upd mEndUse_L38 (Int32.toNatClampNeg v1_L38) t74_0) mGone mIsName mNameBlock mNameStep) := hD
              refine lv_bipush (v := 6) hx hb dMd_propagate_75 (by decide) ?_
              refine lv_iload_n hx hb dMd_propagate_77 rfl (lv_at hl 1 rfl) ?_
              refine lv_imul hx hb dMd_propagate_78 ?_
              refine lv_topi (fun v2_79 e_v2_79 => ?_)
              have hw := hw v2_79 e_v2_79
              refine lv_istore_n (lv' := [(2, .int v2_79), (0, .ref (bd 0)), (1, .int v1_L38)]) hx hb dMd_propagate_79 rfl hl (by decide) rfl (fun ls hl => ?_)
              obtain ⟨k80, hw⟩ := hw
              have hlp80 : ∀ (K174 : Int32 → (Nat → Int32) → (Nat → Int32) → Prop), (∀ (v2_x174 : Int32) (mUseW_x174 : Nat → Int32) (mUseX_x174 : Nat → Int32) (ls : Array Slot) (H : Heap) (locs : List Loc), lv_has ls 5 [(0, .ref (bd 0)), (1, .int v1_L38), (2, .int v2_x174)] → va_P D vwCl (wdMd_propagate cA cB bd N t24_0 mReached_j24 mForm mSlot mOver mMany mKinds mEnds mYes mNo mDominators_j24 mMeets mSources_L38 mSet mUseW_x174 mUseX_x174 (upd mEndUse_L38 (Int32.toNatClampNeg v1_L38) t74_0) mGone mIsName mNameBlock mNameStep) H → va_D A (wdMd_propagate cA cB bd N t24_0 mReached_j24 mForm mSlot mOver mMany mKinds mEnds mYes mNo mDominators_j24 mMeets mSources_L38 mSet mUseW_x174 mUseX_x174 (upd mEndUse_L38 (Int32.toNatClampNeg v1_L38) t74_0) mGone mIsName mNameBlock mNameStep) → va_S A s.heap H locs → K174 v2_x174 mUseW_x174 mUseX_x174 → W p l e (headSpec (Cond.code yMd_propagate cMd_propagate 5 (some .int) :: xW) rmMd_propagate).room s m ([.ref (bd 0)] : List Value).toArray below meth c H locs 0 0 Q (F0 m 174 ls [])) → ∀ (k : Nat), ∀ (v2_L80 : Int32) (mUseW_L80 : Nat → Int32) (mUseX_L80 : Nat → Int32) (ls : Array Slot) (H : Heap) (locs : List Loc), lv_has ls 5 [(0, .ref (bd 0)), (1, .int v1_L38), (2, .int v2_L80)] → va_P D vwCl (wdMd_propagate cA cB bd N t24_0 mReached_j24 mForm mSlot mOver mMany mKinds mEnds mYes mNo mDominators_j24 mMeets mSources_L38 mSet mUseW_L80 mUseX_L80 (upd mEndUse_L38 (Int32.toNatClampNeg v1_L38) t74_0) mGone mIsName mNameBlock mNameStep) H → va_D A (wdMd_propagate cA cB bd N t24_0 mReached_j24 mForm mSlot mOver mMany mKinds mEnds mYes mNo mDominators_j24 mMeets mSources_L38 mSet mUseW_L80 mUseX_L80 (upd mEndUse_L38 (Int32.toNatClampNeg v1_L38) t74_0) mGone mIsName mNameBlock mNameStep) → va_S A s.heap H locs → lpMd_propagate_80 N v1_L38 mMany mKinds mNameBlock mNameStep K174 k v2_L80 mUseW_L80 mUseX_L80 → W p l e (headSpec (Cond.code yMd_propagate cMd_propagate 5 (some .int) :: xW) rmMd_propagate).room s m ([.ref (bd 0)] : List Value).toArray below meth c H locs 0 0 Q (F0 m 80 ls []) := by
                intro K174 hK174 k
                induction k with
                | zero => intro v2_L80 mUseW_L80 mUseX_L80 ls H locs hl hP hD hS hw; exact False.elim hw
                | succ k ih =>
                  intro v2_L80 mUseW_L80 mUseX_L80 ls H locs hl hP hD hS hw
                  refine lv_iload_n hx hb dMd_propagate_80 rfl (lv_at hl 2 rfl) ?_
                  refine lv_bipush (v := 6) hx hb dMd_propagate_81 (by decide) ?_
                  refine lv_iload_n hx hb dMd_propagate_83 rfl (lv_at hl 1 rfl) ?_
                  refine lv_imul hx hb dMd_propagate_84 ?_
                  refine lv_aload_n hx hb dMd_propagate_85 rfl (lv_at hl 0 rfl) ?_
                  refine va_get (D := D) (ci := 7) (v := .ref (bd 1)) (C := "OnceNamedModel") (T := TX7) (N := 34) hx hb hts (fun w h => List.mem_cons_of_mem _ (inX7 w h)) hown hK hP 0 rfl rfl 2 (by decide) (hts _ (List.mem_cons_of_mem _ kw_987)) (fun _ h9 => h9) rfl dMd_propagate_86 ?_
                  refine lv_iload_n hx hb dMd_propagate_89 rfl (lv_at hl 1 rfl) ?_
                  have ho := hw.1
                  have hw := hw.2
                  refine va_iald hx hb hK hP 1 0 rfl rfl ho dMd_propagate_90 ?_
                  refine lv_iadd hx hb dMd_propagate_91 ?_
                  refine lv_icmp_ge (tgt := 174) hx hb dMd_propagate_92 rfl (fun hc => ?_) (fun hc => ?_)
                  · have hw := hw.1 hc
                    exact hK174 v2_L80 mUseW_L80 mUseX_L80 _ _ _ (lv_sub hl [0, 1, 2] rfl) hP hD hS hw
                  · have hw := hw.2 hc
                    refine lv_aload_n hx hb dMd_propagate_95 rfl (lv_at hl 0 rfl) ?_
                    refine va_get (D := D) (ci := 7) (v := .ref (bd 15)) (C := "OnceNamedModel") (T := TX7) (N := 34) hx hb hts (fun w h => List.mem_cons_of_mem _ (inX7 w h)) hown hK hP 0 rfl rfl 18 (by decide) (hts _ (List.mem_cons_of_mem _ kw_1003)) (fun _ h9 => h9) rfl dMd_propagate_96 ?_
                    refine lv_iload_n hx hb dMd_propagate_99 rfl (lv_at hl 2 rfl) ?_
                    refine lv_aload_n hx hb dMd_propagate_100 rfl (lv_at hl 0 rfl) ?_
                    refine va_get (D := D) (ci := 7) (v := .ref (bd 15)) (C := "OnceNamedModel") (T := TX7) (N := 34) hx hb hts (fun w h => List.mem_cons_of_mem _ (inX7 w h)) hown hK hP 0 rfl rfl 18 (by decide) (hts _ (List.mem_cons_of_mem _ kw_1003)) (fun _ h9 => h9) rfl dMd_propagate_101 ?_
                    refine lv_iload_n hx hb dMd_propagate_104 rfl (lv_at hl 2 rfl) ?_
                    have ho := hw.1
                    have hw := hw.2
                    refine va_iald hx hb hK hP 10 0 rfl rfl ho dMd_propagate_105 ?_
                    obtain ⟨J138, hJ138, hw⟩ := hw
                    have hj138 : ∀ (t138_0 : Int32) (ls : Array Slot) (H : Heap) (locs : List Loc), lv_has ls 5 [(0, .ref (bd 0)), (1, .int v1_L38), (2, .int v2_L80)] → va_P D vwCl (wdMd_propagate cA cB bd N t24_0 mReached_j24 mForm mSlot mOver mMany mKinds mEnds mYes mNo mDominators_j24 mMeets mSources_L38 mSet mUseW_L80 mUseX_L80 (upd mEndUse_L38 (Int32.toNatClampNeg v1_L38) t74_0) mGone mIsName mNameBlock mNameStep) H → va_D A (wdMd_propagate cA cB bd N t24_0 mReached_j24 mForm mSlot mOver mMany mKinds mEnds mYes mNo mDominators_j24 mMeets mSources_L38 mSet mUseW_L80 mUseX_L80 (upd mEndUse_L38 (Int32.toNatClampNeg v1_L38) t74_0) mGone mIsName mNameBlock mNameStep) → va_S A s.heap H locs → J138 t138_0 → W p l e (headSpec (Cond.code yMd_propagate cMd_propagate 5 (some .int) :: xW) rmMd_propagate).room s m ([.ref (bd 0)] : List Value).toArray below meth c H locs 0 0 Q (F0 m 138 ls [.int t138_0, .int v2_L80, .ref (bd 15)]) := by
                      intro t138_0 ls H locs hl hP hD hS hw
                      have hw := hJ138 t138_0 hw
                      have ho := hw.1
                      have hw := hw.2
                      refine va_iast hx hb hK hP hD hS 10 0 rfl rfl ho dMd_propagate_138 (fun H locs hP hD hS => ?_)
                      have hP : va_P D vwCl (wdMd_propagate cA cB bd N t24_0 mReached_j24 mForm mSlot mOver mMany mKinds mEnds mYes mNo mDominators_j24 mMeets mSources_L38 mSet (upd mUseW_L80 (Int32.toNatClampNeg v2_L80) t138_0) mUseX_L80 (upd mEndUse_L38 (Int32.toNatClampNeg v1_L38) t74_0) mGone mIsName mNameBlock mNameStep) H := hP
                      have hD : va_D A (wdMd_propagate cA cB bd N t24_0 mReached_j24 mForm mSlot mOver mMany mKinds mEnds mYes mNo mDominators_j24 mMeets mSources_L38 mSet (upd mUseW_L80 (Int32.toNatClampNeg v2_L80) t138_0) mUseX_L80 (upd mEndUse_L38 (Int32.toNatClampNeg v1_L38) t74_0) mGone mIsName mNameBlock mNameStep) := hD
                      refine lv_aload_n hx hb dMd_propagate_139 rfl (lv_at hl 0 rfl) ?_
                      refine va_get (D := D) (ci := 7) (v := .ref (bd 16)) (C := "OnceNamedModel") (T := TX7) (N := 34) hx hb hts (fun w h => List.mem_cons_of_mem _ (inX7 w h)) hown hK hP 0 rfl rfl 19 (by decide) (hts _ (List.mem_cons_of_mem _ kw_1004)) (fun _ h9 => h9) rfl dMd_propagate_140 ?_
                      refine lv_iload_n hx hb dMd_propagate_143 rfl (lv_at hl 2 rfl) ?_
                      refine lv_aload_n hx hb dMd_propagate_144 rfl (lv_at hl 0 rfl) ?_
                      refine va_get (D := D) (ci := 7) (v := .ref (bd 16)) (C := "OnceNamedModel") (T := TX7) (N := 34) hx hb hts (fun w h => List.mem_cons_of_mem _ (inX7 w h)) hown hK hP 0 rfl rfl 19 (by decide) (hts _ (List.mem_cons_of_mem _ kw_1004)) (fun _ h9 => h9) rfl dMd_propagate_145 ?_
                      refine lv_iload_n hx hb dMd_propagate_148 rfl (lv_at hl 2 rfl) ?_
                      have ho := hw.1
                      have hw := hw.2
                      refine va_iald hx hb hK hP 11 0 rfl rfl ho dMd_propagate_149 ?_
                      refine lv_if_ge (tgt := 157) hx hb dMd_propagate_150 rfl (fun hc => ?_) (fun hc => ?_)
                      · have hw := hw.1 hc
                        refine lv_aload_n hx hb dMd_propagate_157 rfl (lv_at hl 0 rfl) ?_
                        refine lv_aload_n hx hb dMd_propagate_158 rfl (lv_at hl 0 rfl) ?_
                        refine va_get (D := D) (ci := 7) (v := .ref (bd 16)) (C := "OnceNamedModel") (T := TX7) (N := 34) hx hb hts (fun w h => List.mem_cons_of_mem _ (inX7 w h)) hown hK hP 0 rfl rfl 19 (by decide) (hts _ (List.mem_cons_of_mem _ kw_1004)) (fun _ h9 => h9) rfl dMd_propagate_159 ?_
                        refine lv_iload_n hx hb dMd_propagate_162 rfl (lv_at hl 2 rfl) ?_
                        have ho := hw.1
                        have hw := hw.2
                        refine va_iald hx hb hK hP 11 0 rfl rfl ho dMd_propagate_163 ?_
                        refine xci (va_runV ⟨hx, hb, hml, hown, hts⟩ (ktMd_behind l D cA cB bd N _ t24_0 mReached_j24 mForm mSlot mOver mKinds (upd mUseW_L80 (Int32.toNatClampNeg v2_L80) t138_0) mNameBlock mNameStep (mUseX_L80 (Int32.toNatClampNeg v2_L80)) _ hw) (cwV 1 hts (goodV kw_1213 kw_1215 ks_4_15 kw_11 kw_1216) rfl rfl rfl (by decide +kernel) ⟨Nat.le_of_ble_eq_true rfl, Nat.le_of_ble_eq_true rfl⟩) (xpreV hK hP hD hN [0, 2, 10, 15, 16] rfl rfl 0 rfl rfl) rfl rfl hl.1 rfl (lv_room (Nat.le_of_ble_eq_true rfl)) dMd_propagate_164 ⟨Nat.le_of_ble_eq_true rfl, Nat.le_of_ble_eq_true rfl⟩) hP hD hS hA [0, 2, 10, 15, 16] [1, 3, 4, 5, 6, 7, 8, 9, 11, 12, 13, 14] rfl rfl rfl rfl [12, 0, 13, 1, 2, 3, 4, 5, 6, 7, 14, 8, 9, 10, 11, 15, 16] rfl (fun _ => rfl) (fun r164 u H locs hw hP hD hS => ?_)
                        have hP : va_P D vwCl (wdMd_propagate cA cB bd N t24_0 mReached_j24 mForm mSlot mOver mMany mKinds mEnds mYes mNo mDominators_j24 mMeets mSources_L38 mSet (upd mUseW_L80 (Int32.toNatClampNeg v2_L80) t138_0) mUseX_L80 (upd mEndUse_L38 (Int32.toNatClampNeg v1_L38) t74_0) mGone mIsName mNameBlock mNameStep) H := hP
                        have hD : va_D A (wdMd_propagate cA cB bd N t24_0 mReached_j24 mForm mSlot mOver mMany mKinds mEnds mYes mNo mDominators_j24 mMeets mSources_L38 mSet (upd mUseW_L80 (Int32.toNatClampNeg v2_L80) t138_0) mUseX_L80 (upd mEndUse_L38 (Int32.toNatClampNeg v1_L38) t74_0) mGone mIsName mNameBlock mNameStep) := hD
                        have ho := hw.1
                        have hw := hw.2
                        refine va_iast hx hb hK hP hD hS 11 0 rfl rfl ho dMd_propagate_167 (fun H locs hP hD hS => ?_)
                        have hP : va_P D vwCl (wdMd_propagate cA cB bd N t24_0 mReached_j24 mForm mSlot mOver mMany mKinds mEnds mYes mNo mDominators_j24 mMeets mSources_L38 mSet (upd mUseW_L80 (Int32.toNatClampNeg v2_L80) t138_0) (upd mUseX_L80 (Int32.toNatClampNeg v2_L80) r164) (upd mEndUse_L38 (Int32.toNatClampNeg v1_L38) t74_0) mGone mIsName mNameBlock mNameStep) H := hP
                        have hD : va_D A (wdMd_propagate cA cB bd N t24_0 mReached_j24 mForm mSlot mOver mMany mKinds mEnds mYes mNo mDominators_j24 mMeets mSources_L38 mSet (upd mUseW_L80 (Int32.toNatClampNeg v2_L80) t138_0) (upd mUseX_L80 (Int32.toNatClampNeg v2_L80) r164) (upd mEndUse_L38 (Int32.toNatClampNeg v1_L38) t74_0) mGone mIsName mNameBlock mNameStep) := hD
                        refine lv_iinc (k := 2) (v := (v2_L80 + 1)) (lv' := [(2, .int (v2_L80 + 1)), (0, .ref (bd 0)), (1, .int v1_L38)]) hx hb dMd_propagate_168 hl rfl rfl (by decide) rfl (fun ls hl => ?_)
                        refine lv_goto (tgt := 80) hx hb dMd_propagate_171 rfl ?_
                        exact ih (v2_L80 + 1) (upd mUseW_L80 (Int32.toNatClampNeg v2_L80) t138_0) (upd mUseX_L80 (Int32.toNatClampNeg v2_L80) r164) _ _ _ (lv_sub hl [1, 2, 0] rfl) hP hD hS hw
                      · have hw := hw.2 hc
                        refine lv_iconst (v := (-1)) hx hb dMd_propagate_153 (by decide) ?_
                        refine lv_goto (tgt := 167) hx hb dMd_propagate_154 rfl ?_
                        have ho := hw.1
                        have hw := hw.2
                        refine va_iast hx hb hK hP hD hS 11 0 rfl rfl ho dMd_propagate_167 (fun H locs hP hD hS => ?_)
                        have hP : va_P D vwCl (wdMd_propagate cA cB bd N t24_0 mReached_j24 mForm mSlot mOver mMany mKinds mEnds mYes mNo mDominators_j24 mMeets mSources_L38 mSet (upd mUseW_L80 (Int32.toNatClampNeg v2_L80) t138_0) (upd mUseX_L80 (Int32.toNatClampNeg v2_L80) (-1)) (upd mEndUse_L38 (Int32.toNatClampNeg v1_L38) t74_0) mGone mIsName mNameBlock mNameStep) H := hP
                        have hD : va_D A (wdMd_propagate cA cB bd N t24_0 mReached_j24 mForm mSlot mOver mMany mKinds mEnds mYes mNo mDominators_j24 mMeets mSources_L38 mSet (upd mUseW_L80 (Int32.toNatClampNeg v2_L80) t138_0) (upd mUseX_L80 (Int32.toNatClampNeg v2_L80) (-1)) (upd mEndUse_L38 (Int32.toNatClampNeg v1_L38) t74_0) mGone mIsName mNameBlock mNameStep) := hD
                        refine lv_iinc (k := 2) (v := (v2_L80 + 1)) (lv' := [(2, .int (v2_L80 + 1)), (0, .ref (bd 0)), (1, .int v1_L38)]) hx hb dMd_propagate_168 hl rfl rfl (by decide) rfl (fun ls hl => ?_)
                        refine lv_goto (tgt := 80) hx hb dMd_propagate_171 rfl ?_
                        exact ih (v2_L80 + 1) (upd mUseW_L80 (Int32.toNatClampNeg v2_L80) t138_0) (upd mUseX_L80 (Int32.toNatClampNeg v2_L80) (-1)) _ _ _ (lv_sub hl [1, 2, 0] rfl) hP hD hS hw
                    obtain ⟨J119, hJ119, hw⟩ := hw
                    have hj119 : ∀  (ls : Array Slot) (H : Heap) (locs : List Loc), lv_has ls 5 [(0, .ref (bd 0)), (1, .int v1_L38), (2, .int v2_L80)] → va_P D vwCl (wdMd_propagate cA cB bd N t24_0 mReached_j24 mForm mSlot mOver mMany mKinds mEnds mYes mNo mDominators_j24 mMeets mSources_L38 mSet mUseW_L80 mUseX_L80 (upd mEndUse_L38 (Int32.toNatClampNeg v1_L38) t74_0) mGone mIsName mNameBlock mNameStep) H → va_D A (wdMd_propagate cA cB bd N t24_0 mReached_j24 mForm mSlot mOver mMany mKinds mEnds mYes mNo mDominators_j24 mMeets mSources_L38 mSet mUseW_L80 mUseX_L80 (upd mEndUse_L38 (Int32.toNatClampNeg v1_L38) t74_0) mGone mIsName mNameBlock mNameStep) → va_S A s.heap H locs → J119 → W p l e (headSpec (Cond.code yMd_propagate cMd_propagate 5 (some .int) :: xW) rmMd_propagate).room s m ([.ref (bd 0)] : List Value).toArray below meth c H locs 0 0 Q (F0 m 119 ls [.int v2_L80, .ref (bd 15)]) := by
                      intro  ls H locs hl hP hD hS hw
                      have hw := hJ119  hw
                      refine lv_aload_n hx hb dMd_propagate_119 rfl (lv_at hl 0 rfl) ?_
                      refine va_get (D := D) (ci := 7) (v := .ref (bd 15)) (C := "OnceNamedModel") (T := TX7) (N := 34) hx hb hts (fun w h => List.mem_cons_of_mem _ (inX7 w h)) hown hK hP 0 rfl rfl 18 (by decide) (hts _ (List.mem_cons_of_mem _ kw_1003)) (fun _ h9 => h9) rfl dMd_propagate_120 ?_
                      refine lv_iload_n hx hb dMd_propagate_123 rfl (lv_at hl 2 rfl) ?_
                      have ho := hw.1
                      have hw := hw.2
                      refine va_iald hx hb hK hP 10 0 rfl rfl ho dMd_propagate_124 ?_
                      refine lv_goto (tgt := 138) hx hb dMd_propagate_125 rfl ?_
                      exact hj138 (mUseW_L80 (Int32.toNatClampNeg v2_L80)) _ _ _ (lv_sub hl [0, 1, 2] rfl) hP hD hS hw
                    refine lv_if_lt (tgt := 119) hx hb dMd_propagate_106 rfl (fun hc => ?_) (fun hc => ?_)
                    · have hw := hw.1 hc
                      exact hj119  _ _ _ (lv_sub hl [0, 1, 2] rfl) hP hD hS hw
                    · have hw := hw.2 hc
                      refine lv_aload_n hx hb dMd_propagate_109 rfl (lv_at hl 0 rfl) ?_
                      refine va_get (D := D) (ci := 7) (v := .ref (bd 2)) (C := "OnceNamedModel") (T := TX7) (N := 34) hx hb hts (fun w h => List.mem_cons_of_mem _ (inX7 w h)) hown hK hP 0 rfl rfl 3 (by decide) (hts _ (List.mem_cons_of_mem _ kw_988)) (fun _ h9 => h9) rfl dMd_propagate_110 ?_
                      refine lv_iload_n hx hb dMd_propagate_113 rfl (lv_at hl 2 rfl) ?_
                      have ho := hw.1
                      have hw := hw.2
                      refine va_iald hx hb hK hP 2 0 rfl rfl ho dMd_propagate_114 ?_
                      refine lv_iconst (v := 1) hx hb dMd_propagate_115 (by decide) ?_
                      refine lv_icmp_ne (tgt := 128) hx hb dMd_propagate_116 rfl (fun hc => ?_) (fun hc => ?_)
                      · have hw := hw.1 hc
                        refine lv_aload_n hx hb dMd_propagate_128 rfl (lv_at hl 0 rfl) ?_
                        refine lv_aload_n hx hb dMd_propagate_129 rfl (lv_at hl 0 rfl) ?_
                        refine va_get (D := D) (ci := 7) (v := .ref (bd 15)) (C := "OnceNamedModel") (T := TX7) (N := 34) hx hb hts (fun w h => List.mem_cons_of_mem _ (inX7 w h)) hown hK hP 0 rfl rfl 18 (by decide) (hts _ (List.mem_cons_of_mem _ kw_1003)) (fun _ h9 => h9) rfl dMd_propagate_130 ?_
                        refine lv_iload_n hx hb dMd_propagate_133 rfl (lv_at hl 2 rfl) ?_
                        have ho := hw.1
                        have hw := hw.2
                        refine va_iald hx hb hK hP 10 0 rfl rfl ho dMd_propagate_134 ?_
                        refine xci (va_runV ⟨hx, hb, hml, hown, hts⟩ (ktMd_behind l D cA cB bd N _ t24_0 mReached_j24 mForm mSlot mOver mKinds mUseW_L80 mNameBlock mNameStep (mUseW_L80 (Int32.toNatClampNeg v2_L80)) _ hw) (cwV 1 hts (goodV kw_1213 kw_1215 ks_4_15 kw_11 kw_1216) rfl rfl rfl (by decide +kernel) ⟨Nat.le_of_ble_eq_true rfl, Nat.le_of_ble_eq_true rfl⟩) (xpreV hK hP hD hN [0, 2, 10, 15, 16] rfl rfl 0 rfl rfl) rfl rfl hl.1 rfl (lv_room (Nat.le_of_ble_eq_true rfl)) dMd_propagate_135 ⟨Nat.le_of_ble_eq_true rfl, Nat.le_of_ble_eq_true rfl⟩) hP hD hS hA [0, 2, 10, 15, 16] [1, 3, 4, 5, 6, 7, 8, 9, 11, 12, 13, 14] rfl rfl rfl rfl [12, 0, 13, 1, 2, 3, 4, 5, 6, 7, 14, 8, 9, 10, 11, 15, 16] rfl (fun _ => rfl) (fun r135 u H locs hw hP hD hS => ?_)
                        have hP : va_P D vwCl (wdMd_propagate cA cB bd N t24_0 mReached_j24 mForm mSlot mOver mMany mKinds mEnds mYes mNo mDominators_j24 mMeets mSources_L38 mSet mUseW_L80 mUseX_L80 (upd mEndUse_L38 (Int32.toNatClampNeg v1_L38) t74_0) mGone mIsName mNameBlock mNameStep) H := hP
                        have hD : va_D A (wdMd_propagate cA cB bd N t24_0 mReached_j24 mForm mSlot mOver mMany mKinds mEnds mYes mNo mDominators_j24 mMeets mSources_L38 mSet mUseW_L80 mUseX_L80 (upd mEndUse_L38 (Int32.toNatClampNeg v1_L38) t74_0) mGone mIsName mNameBlock mNameStep) := hD
                        exact hj138 r135 _ _ _ (lv_sub hl [0, 1, 2] rfl) hP hD hS hw
                      · have hw := hw.2 hc
                        exact hj119  _ _ _ (lv_sub hl [0, 1, 2] rfl) hP hD hS hw
              refine hlp80 _ ?_ k80 v2_79 mUseW_L38 mUseX_L38 _ _ _ (lv_sub hl [1, 2, 0] rfl) hP hD hS hw
              intro v2_x174 mUseW_x174 mUseX_x174 ls H locs hl hP hD hS hw
              try dsimp only at hw
              refine lv_iconst (v := 0) hx hb dMd_propagate_174 (by decide) ?_
              refine lv_istore_n (lv' := [(2, .int 0), (0, .ref (bd 0)), (1, .int v1_L38)]) hx hb dMd_propagate_175 rfl hl (by decide) rfl (fun ls hl => ?_)
              obtain ⟨k176, hw⟩ := hw
              have hlp176 : ∀ (K263 : Int32 → (Nat → Int32) → Prop), (∀ (v2_x263 : Int32) (mSources_x263 : Nat → Int32) (ls : Array Slot) (H : Heap) (locs : List Loc), lv_has ls 5 [(0, .ref (bd 0)), (1, .int v1_L38), (2, .int v2_x263)] → va_P D vwCl (wdMd_propagate cA cB bd N t24_0 mReached_j24 mForm mSlot mOver mMany mKinds mEnds mYes mNo mDominators_j24 mMeets mSources_x263 mSet mUseW_x174 mUseX_x174 (upd mEndUse_L38 (Int32.toNatClampNeg v1_L38) t74_0) mGone mIsName mNameBlock mNameStep) H → va_D A (wdMd_propagate cA cB bd N t24_0 mReached_j24 mForm mSlot mOver mMany mKinds mEnds mYes mNo mDominators_j24 mMeets mSources_x263 mSet mUseW_x174 mUseX_x174 (upd mEndUse_L38 (Int32.toNatClampNeg v1_L38) t74_0) mGone mIsName mNameBlock mNameStep) → va_S A s.heap H locs → K263 v2_x263 mSources_x263 → W p l e (headSpec (Cond.code yMd_propagate cMd_propagate 5 (some .int) :: xW) rmMd_propagate).room s m ([.ref (bd 0)] : List Value).toArray below meth c H locs 0 0 Q (F0 m 263 ls [])) → ∀ (k : Nat), ∀ (v2_L176 : Int32) (mSources_L176 : Nat → Int32) (ls : Array Slot) (H : Heap) (locs : List Loc), lv_has ls 5 [(0, .ref (bd 0)), (1, .int v1_L38), (2, .int v2_L176)] → va_P D vwCl (wdMd_propagate cA cB bd N t24_0 mReached_j24 mForm mSlot mOver mMany mKinds mEnds mYes mNo mDominators_j24 mMeets mSources_L176 mSet mUseW_x174 mUseX_x174 (upd mEndUse_L38 (Int32.toNatClampNeg v1_L38) t74_0) mGone mIsName mNameBlock mNameStep) H → va_D A (wdMd_propagate cA cB bd N t24_0 mReached_j24 mForm mSlot mOver mMany mKinds mEnds mYes mNo mDominators_j24 mMeets mSources_L176 mSet mUseW_x174 mUseX_x174 (upd mEndUse_L38 (Int32.toNatClampNeg v1_L38) t74_0) mGone mIsName mNameBlock mNameStep) → va_S A s.heap H locs → lpMd_propagate_176 N v1_L38 mKinds mMeets mUseW_x174 mNameBlock mNameStep K263 k v2_L176 mSources_L176 → W p l e (headSpec (Cond.code yMd_propagate cMd_propagate 5 (some .int) :: xW) rmMd_propagate).room s m ([.ref (bd 0)] : List Value).toArray below meth c H locs 0 0 Q (F0 m 176 ls []) := by
                intro K263 hK263 k
                induction k with
                | zero => intro v2_L176 mSources_L176 ls H locs hl hP hD hS hw; exact False.elim hw
                | succ k ih =>
                  intro v2_L176 mSources_L176 ls H locs hl hP hD hS hw
                  refine lv_iload_n hx hb dMd_propagate_176 rfl (lv_at hl 2 rfl) ?_
                  refine lv_bipush (v := 6) hx hb dMd_propagate_177 (by decide) ?_
                  refine lv_icmp_ge (tgt := 263) hx hb dMd_propagate_179 rfl (fun hc => ?_) (fun hc => ?_)
                  · have hw := hw.1 hc
                    exact hK263 v2_L176 mSources_L176 _ _ _ (lv_sub hl [0, 1, 2] rfl) hP hD hS hw
                  · have hw := hw.2 hc
                    refine lv_iconst (v := 0) hx hb dMd_propagate_182 (by decide) ?_
                    refine lv_istore_n (lv' := [(3, .int 0), (0, .ref (bd 0)), (1, .int v1_L38), (2, .int v2_L176)]) hx hb dMd_propagate_183 rfl hl (by decide) rfl (fun ls hl => ?_)
                    obtain ⟨k184, hw⟩ := hw
                    have hlp184 : ∀ (K257 : Int32 → (Nat → Int32) → Prop), (∀ (v3_x257 : Int32) (mSources_x257 : Nat → Int32) (ls : Array Slot) (H : Heap) (locs : List Loc), lv_has ls 5 [(0, .ref (bd 0)), (1, .int v1_L38), (2, .int v2_L176), (3, .int v3_x257)] → va_P D vwCl (wdMd_propagate cA cB bd N t24_0 mReached_j24 mForm mSlot mOver mMany mKinds mEnds mYes mNo mDominators_j24 mMeets mSources_x257 mSet mUseW_x174 mUseX_x174 (upd mEndUse_L38 (Int32.toNatClampNeg v1_L38) t74_0) mGone mIsName mNameBlock mNameStep) H → va_D A (wdMd_propagate cA cB bd N t24_0 mReached_j24 mForm mSlot mOver mMany mKinds mEnds mYes mNo mDominators_j24 mMeets mSources_x257 mSet mUseW_x174 mUseX_x174 (upd mEndUse_L38 (Int32.toNatClampNeg v1_L38) t74_0) mGone mIsName mNameBlock mNameStep) → va_S A s.heap H locs → K257 v3_x257 mSources_x257 → W p l e (headSpec (Cond.code yMd_propagate cMd_propagate 5 (some .int) :: xW) rmMd_propagate).room s m ([.ref (bd 0)] : List Value).toArray below meth c H locs 0 0 Q (F0 m 257 ls [])) → ∀ (k : Nat), ∀ (v3_L184 : Int32) (mSources_L184 : Nat → Int32) (ls : Array Slot) (H : Heap) (locs : List Loc), lv_has ls 5 [(0, .ref (bd 0)), (1, .int v1_L38), (2, .int v2_L176), (3, .int v3_L184)] → va_P D vwCl (wdMd_propagate cA cB bd N t24_0 mReached_j24 mForm mSlot mOver mMany mKinds mEnds mYes mNo mDominators_j24 mMeets mSources_L184 mSet mUseW_x174 mUseX_x174 (upd mEndUse_L38 (Int32.toNatClampNeg v1_L38) t74_0) mGone mIsName mNameBlock mNameStep) H → va_D A (wdMd_propagate cA cB bd N t24_0 mReached_j24 mForm mSlot mOver mMany mKinds mEnds mYes mNo mDominators_j24 mMeets mSources_L184 mSet mUseW_x174 mUseX_x174 (upd mEndUse_L38 (Int32.toNatClampNeg v1_L38) t74_0) mGone mIsName mNameBlock mNameStep) → va_S A s.heap H locs → lpMd_propagate_184 N v1_L38 v2_L176 mKinds mMeets mUseW_x174 mNameBlock mNameStep K257 k v3_L184 mSources_L184 → W p l e (headSpec (Cond.code yMd_propagate cMd_propagate 5 (some .int) :: xW) rmMd_propagate).room s m ([.ref (bd 0)] : List Value).toArray below meth c H locs 0 0 Q (F0 m 184 ls []) := by
                      intro K257 hK257 k
                      induction k with
                      | zero => intro v3_L184 mSources_L184 ls H locs hl hP hD hS hw; exact False.elim hw
                      | succ k ih =>
                        intro v3_L184 mSources_L184 ls H locs hl hP hD hS hw
                        refine lv_iload_n hx hb dMd_propagate_184 rfl (lv_at hl 3 rfl) ?_
                        refine lv_aload_n hx hb dMd_propagate_185 rfl (lv_at hl 0 rfl) ?_
                        refine va_get (D := D) (ci := 7) (v := .int (nI N)) (C := "OnceNamedModel") (T := TX7) (N := 34) hx hb hts (fun w h => List.mem_cons_of_mem _ (inX7 w h)) hown hK hP 0 rfl rfl 1 (by decide) (hts _ (List.mem_cons_of_mem _ kw_986)) (fun _ h9 => h9) rfl dMd_propagate_186 ?_
                        refine lv_icmp_gt (tgt := 257) hx hb dMd_propagate_189 rfl (fun hc => ?_) (fun hc => ?_)
                        · have hw := hw.1 hc
                          exact hK257 v3_L184 mSources_L184 _ _ _ (lv_sub hl [0, 1, 2, 3] rfl) hP hD hS hw
                        · have hw := hw.2 hc
                          refine lv_aload_n hx hb dMd_propagate_192 rfl (lv_at hl 0 rfl) ?_
                          refine va_get (D := D) (ci := 7) (v := .ref (bd 12)) (C := "OnceNamedModel") (T := TX7) (N := 34) hx hb hts (fun w h => List.mem_cons_of_mem _ (inX7 w h)) hown hK hP 0 rfl rfl 15 (by decide) (hts _ (List.mem_cons_of_mem _ kw_1000)) (fun _ h9 => h9) rfl dMd_propagate_193 ?_
                          refine lv_bipush (v := 6) hx hb dMd_propagate_196 (by decide) ?_
                          refine lv_iload_n hx hb dMd_propagate_198 rfl (lv_at hl 1 rfl) ?_
                          refine lv_imul hx hb dMd_propagate_199 ?_
                          refine lv_iload_n hx hb dMd_propagate_200 rfl (lv_at hl 2 rfl) ?_
                          refine lv_iadd hx hb dMd_propagate_201 ?_
                          have ho := hw.1
                          have hw := hw.2
                          refine va_iald hx hb hK hP 7 0 rfl rfl ho dMd_propagate_202 ?_
                          refine lv_if_lt (tgt := 257) hx hb dMd_propagate_203 rfl (fun hc => ?_) (fun hc => ?_)
                          · have hw := hw.1 hc
                            exact hK257 v3_L184 mSources_L184 _ _ _ (lv_sub hl [0, 1, 2, 3] rfl) hP hD hS hw
                          · have hw := hw.2 hc
                            refine lv_bipush (v := 13) hx hb dMd_propagate_206 (by decide) ?_
                            refine lv_bipush (v := 6) hx hb dMd_propagate_208 (by decide) ?_
                            refine lv_iload_n hx hb dMd_propagate_210 rfl (lv_at hl 1 rfl) ?_
                            refine lv_imul hx hb dMd_propagate_211 ?_
                            refine lv_iload_n hx hb dMd_propagate_212 rfl (lv_at hl 2 rfl) ?_
                            refine lv_iadd hx hb dMd_propagate_213 ?_
                            refine lv_imul hx hb dMd_propagate_214 ?_
                            refine lv_iload_n hx hb dMd_propagate_215 rfl (lv_at hl 3 rfl) ?_
                            refine lv_iadd hx hb dMd_propagate_216 ?_
                            refine lv_topi (fun v4_217 e_v4_217 => ?_)
                            have hw := hw v4_217 e_v4_217
                            refine lv_istore (lv' := [(4, .int v4_217), (0, .ref (bd 0)), (1, .int v1_L38), (2, .int v2_L176), (3, .int v3_L184)]) hx hb dMd_propagate_217 hl (by decide) rfl (fun ls hl => ?_)
                            refine lv_aload_n hx hb dMd_propagate_219 rfl (lv_at hl 1 rfl) ?_
                            refine va_get (D := D) (ci := 7) (v := .ref (bd 13)) (C := "OnceNamedModel") (T := TX7) (N := 34) hx hb hts (fun w h => List.mem_cons_of_mem _ (inX7 w h)) hown hK hP 0 rfl rfl 16 (by decide) (hts _ (List.mem_cons_of_mem _ kw_1001)) (fun _ h9 => h9) rfl dMd_propagate_220 ?_
                            refine lv_iload hx hb dMd_propagate_223 (lv_at hl 0 rfl) ?_
                            refine lv_aload_n hx hb dMd_propagate_225 rfl (lv_at hl 1 rfl) ?_
                            refine va_get (D := D) (ci := 7) (v := .ref (bd 13)) (C := "OnceNamedModel") (T := TX7) (N := 34) hx hb hts (fun w h => List.mem_cons_of_mem _ (inX7 w h)) hown hK hP 0 rfl rfl 16 (by decide) (hts _ (List.mem_cons_of_mem _ kw_1001)) (fun _ h9 => h9) rfl dMd_propagate_226 ?_
                            refine lv_iload hx hb dMd_propagate_229 (lv_at hl 0 rfl) ?_
                            have ho := hw.1
                            have hw := hw.2
                            refine va_iald hx hb hK hP 8 0 rfl rfl ho dMd_propagate_231 ?_
                            refine lv_if_ge (tgt := 239) hx hb dMd_propagate_232 rfl (fun hc => ?_) (fun hc => ?_)
                            · have hw := hw.1 hc
                              refine lv_aload_n hx hb dMd_propagate_239 rfl (lv_at hl 1 rfl) ?_
                              refine lv_aload_n hx hb dMd_propagate_240 rfl (lv_at hl 1 rfl) ?_
                              refine va_get (D := D) (ci := 7) (v := .ref (bd 13)) (C := "OnceNamedModel") (T := TX7) (N := 34) hx hb hts (fun w h => List.mem_cons_of_mem _ (inX7 w h)) hown hK hP 0 rfl rfl 16 (by decide) (hts _ (List.mem_cons_of_mem _ kw_1001)) (fun _ h9 => h9) rfl dMd_propagate_241 ?_
                              refine lv_iload hx hb dMd_propagate_244 (lv_at hl 0 rfl) ?_
                              have ho := hw.1
                              have hw := hw.2
                              refine va_iald hx hb hK hP 8 0 rfl rfl ho dMd_propagate_246 ?_
                              refine xci (va_runV ⟨hx, hb, hml, hown, hts⟩ (ktMd_behind l D cA cB bd N _ t24_0 mReached_j24 mForm mSlot mOver mKinds mUseW_x174 mNameBlock mNameStep (mSources_L184 (Int32.toNatClampNeg v4_217)) _ hw) (cwV 1 hts (goodV kw_1213 kw_1215 ks_4_15 kw_11 kw_1216) rfl rfl rfl (by decide +kernel) ⟨Nat.le_of_ble_eq_true rfl, Nat.le_of_ble_eq_true rfl⟩) (xpreV hK hP hD hN [0, 2, 10, 15, 16] rfl rfl 0 rfl rfl) rfl rfl hl.1 rfl (lv_room (Nat.le_of_ble_eq_true rfl)) dMd_propagate_247 ⟨Nat.le_of_ble_eq_true rfl, Nat.le_of_ble_eq_true rfl⟩) hP hD hS hA [0, 2, 10, 15, 16] [1, 3, 4, 5, 6, 7, 8, 9, 11, 12, 13, 14] rfl rfl rfl rfl [12, 0, 13, 1, 2, 3, 4, 5, 6, 7, 14, 8, 9, 10, 11, 15, 16] rfl (fun _ => rfl) (fun r247 u H locs hw hP hD hS => ?_)
                              have hP : va_P D vwCl (wdMd_propagate cA cB bd N t24_0 mReached_j24 mForm mSlot mOver mMany mKinds mEnds mYes mNo mDominators_j24 mMeets mSources_L184 mSet mUseW_x174 mUseX_x174 (upd mEndUse_L38 (Int32.toNatClampNeg v1_L38) t74_0) mGone mIsName mNameBlock mNameStep) H := hP
                              have hD : va_D A (wdMd_propagate cA cB bd N t24_0 mReached_j24 mForm mSlot mOver mMany mKinds mEnds mYes mNo mDominators_j24 mMeets mSources_L184 mSet mUseW_x174 mUseX_x174 (upd mEndUse_L38 (Int32.toNatClampNeg v1_L38) t74_0) mGone mIsName mNameBlock mNameStep) := hD
                              have ho := hw.1
                              have hw := hw.2
                              refine va_iast hx hb hK hP hD hS 8 0 rfl rfl ho dMd_propagate_250 (fun H locs hP hD hS => ?_)
                              have hP : va_P D vwCl (wdMd_propagate cA cB bd N t24_0 mReached_j24 mForm mSlot mOver mMany mKinds mEnds mYes mNo mDominators_j24 mMeets (upd mSources_L184 (Int32.toNatClampNeg v4_217) r247) mSet mUseW_x174 mUseX_x174 (upd mEndUse_L38 (Int32.toNatClampNeg v1_L38) t74_0) mGone mIsName mNameBlock mNameStep) H := hP
                              have hD : va_D A (wdMd_propagate cA cB bd N t24_0 mReached_j24 mForm mSlot mOver mMany mKinds mEnds mYes mNo mDominators_j24 mMeets (upd mSources_L184 (Int32.toNatClampNeg v4_217) r247) mSet mUseW_x174 mUseX_x174 (upd mEndUse_L38 (Int32.toNatClampNeg v1_L38) t74_0) mGone mIsName mNameBlock mNameStep) := hD
                              refine lv_iinc (k := 4) (v := (v3_L184 + 1)) (lv' := [(3, .int (v3_L184 + 1)), (4, .int v4_217), (0, .ref (bd 0)), (1, .int v1_L38), (2, .int v2_L176)]) hx hb dMd_propagate_251 hl rfl rfl (by decide) rfl (fun ls hl => ?_)
                              refine lv_goto (tgt := 184) hx hb dMd_propagate_254 rfl ?_
                              exact ih (v3_L184 + 1) (upd mSources_L184 (Int32.toNatClampNeg v4_217) r247) _ _ _ (lv_sub hl [2, 3, 4, 0] rfl) hP hD hS hw
                            · have hw := hw.2 hc
                              refine lv_iconst (v := (-1)) hx hb dMd_propagate_235 (by decide) ?_
                              refine lv_goto (tgt := 250) hx hb dMd_propagate_236 rfl ?_
                              have ho := hw.1
                              have hw := hw.2
                              refine va_iast hx hb hK hP hD hS 8 0 rfl rfl ho dMd_propagate_250 (fun H locs hP hD hS => ?_)
                              have hP : va_P D vwCl (wdMd_propagate cA cB bd N t24_0 mReached_j24 mForm mSlot mOver mMany mKinds mEnds mYes mNo mDominators_j24 mMeets (upd mSources_L184 (Int32.toNatClampNeg v4_217) (-1)) mSet mUseW_x174 mUseX_x174 (upd mEndUse_L38 (Int32.toNatClampNeg v1_L38) t74_0) mGone mIsName mNameBlock mNameStep) H := hP
                              have hD : va_D A (wdMd_propagate cA cB bd N t24_0 mReached_j24 mForm mSlot mOver mMany mKinds mEnds mYes mNo mDominators_j24 mMeets (upd mSources_L184 (Int32.toNatClampNeg v4_217) (-1)) mSet mUseW_x174 mUseX_x174 (upd mEndUse_L38 (Int32.toNatClampNeg v1_L38) t74_0) mGone mIsName mNameBlock mNameStep) := hD
                              refine lv_iinc (k := 4) (v := (v3_L184 + 1)) (lv' := [(3, .int (v3_L184 + 1)), (4, .int v4_217), (0, .ref (bd 0)), (1, .int v1_L38), (2, .int v2_L176)]) hx hb dMd_propagate_251 hl rfl rfl (by decide) rfl (fun ls hl => ?_)
                              refine lv_goto (tgt := 184) hx hb dMd_propagate_254 rfl ?_
                              exact ih (v3_L184 + 1) (upd mSources_L184 (Int32.toNatClampNeg v4_217) (-1)) _ _ _ (lv_sub hl [2, 3, 4, 0] rfl) hP hD hS hw
                    refine hlp184 _ ?_ k184 0 mSources_L176 _ _ _ (lv_sub hl [1, 2, 3, 0] rfl) hP hD hS hw
                    intro v3_x257 mSources_x257 ls H locs hl hP hD hS hw
                    try dsimp only at hw
                    refine lv_iinc (k := 2) (v := (v2_L176 + 1)) (lv' := [(2, .int (v2_L176 + 1)), (0, .ref (bd 0)), (1, .int v1_L38), (3, .int v3_x257)]) hx hb dMd_propagate_257 hl rfl rfl (by decide) rfl (fun ls hl => ?_)
                    refine lv_goto (tgt := 176) hx hb dMd_propagate_260 rfl ?_
                    exact ih (v2_L176 + 1) mSources_x257 _ _ _ (lv_sub hl [1, 2, 0] rfl) hP hD hS hw
              refine hlp176 _ ?_ k176 0 mSources_L38 _ _ _ (lv_sub hl [1, 2, 0] rfl) hP hD hS hw
              intro v2_x263 mSources_x263 ls H locs hl hP hD hS hw
              try dsimp only at hw
              refine lv_iinc (k := 1) (v := (v1_L38 + 1)) (lv' := [(1, .int (v1_L38 + 1)), (0, .ref (bd 0)), (2, .int v2_x263)]) hx hb dMd_propagate_263 hl rfl rfl (by decide) rfl (fun ls hl => ?_)
              refine lv_goto (tgt := 38) hx hb dMd_propagate_266 rfl ?_
              exact ih (v1_L38 + 1) mSources_x263 mUseW_x174 mUseX_x174 (upd mEndUse_L38 (Int32.toNatClampNeg v1_L38) t74_0) _ _ _ (lv_sub hl [1, 0] rfl) hP hD hS hw
            refine lv_if_ge (tgt := 64) hx hb dMd_propagate_57 rfl (fun hc => ?_) (fun hc => ?_)
            · have hw := hw.1 hc
              refine lv_aload_n hx hb dMd_propagate_64 rfl (lv_at hl 0 rfl) ?_
              refine lv_aload_n hx hb dMd_propagate_65 rfl (lv_at hl 0 rfl) ?_
              refine va_get (D := D) (ci := 7) (v := .ref (bd 17)) (C := "OnceNamedModel") (T := TX7) (N := 34) hx hb hts (fun w h => List.mem_cons_of_mem _ (inX7 w h)) hown hK hP 0 rfl rfl 20 (by decide) (hts _ (List.mem_cons_of_mem _ kw_1005)) (fun _ h9 => h9) rfl dMd_propagate_66 ?_
              refine lv_iload_n hx hb dMd_propagate_69 rfl (lv_at hl 1 rfl) ?_
              have ho := hw.1
              have hw := hw.2
              refine va_iald hx hb hK hP 12 0 rfl rfl ho dMd_propagate_70 ?_
              refine xci (va_runV ⟨hx, hb, hml, hown, hts⟩ (ktMd_behind l D cA cB bd N _ t24_0 mReached_j24 mForm mSlot mOver mKinds mUseW_L38 mNameBlock mNameStep (mEndUse_L38 (Int32.toNatClampNeg v1_L38)) _ hw) (cwV 1 hts (goodV kw_1213 kw_1215 ks_4_15 kw_11 kw_1216) rfl rfl rfl (by decide +kernel) ⟨Nat.le_of_ble_eq_true rfl, Nat.le_of_ble_eq_true rfl⟩) (xpreV hK hP hD hN [0, 2, 10, 15, 16] rfl rfl 0 rfl rfl) rfl rfl hl.1 rfl (lv_room (Nat.le_of_ble_eq_true rfl)) dMd_propagate_71 ⟨Nat.le_of_ble_eq_true rfl, Nat.le_of_ble_eq_true rfl⟩) hP hD hS hA [0, 2, 10, 15, 16] [1, 3, 4, 5, 6, 7, 8, 9, 11, 12, 13, 14] rfl rfl rfl rfl [12, 0, 13, 1, 2, 3, 4, 5, 6, 7, 14, 8, 9, 10, 11, 15, 16] rfl (fun _ => rfl) (fun r71 u H locs hw hP hD hS => ?_)
              have hP : va_P D vwCl (wdMd_propagate cA cB bd N t24_0 mReached_j24 mForm mSlot mOver mMany mKinds mEnds mYes mNo mDominators_j24 mMeets mSources_L38 mSet mUseW_L38 mUseX_L38 mEndUse_L38 mGone mIsName mNameBlock mNameStep) H := hP
              have hD : va_D A (wdMd_propagate cA cB bd N t24_0 mReached_j24 mForm mSlot mOver mMany mKinds mEnds mYes mNo mDominators_j24 mMeets mSources_L38 mSet mUseW_L38 mUseX_L38 mEndUse_L38 mGone mIsName mNameBlock mNameStep) := hD
              exact hj74 r71 _ _ _ (lv_sub hl [0, 1] rfl) hP hD hS hw
            · have hw := hw.2 hc
              refine lv_iconst (v := (-1)) hx hb dMd_propagate_60 (by decide) ?_
              refine lv_goto (tgt := 74) hx hb dMd_propagate_61 rfl ?_
              exact hj74 (-1) _ _ _ (lv_sub hl [0, 1] rfl) hP hD hS hw
      refine hlp38 _ ?_ k38 0 mSources mUseW mUseX mEndUse _ _ _ (lv_sub hl [1, 0] rfl) hP hD hS hw
      intro v1_x269 mSources_x269 mUseW_x269 mUseX_x269 mEndUse_x269 ls H locs hl hP hD hS hw
      try dsimp only at hw
      refine lv_iconst (v := 0) hx hb dMd_propagate_269 (by decide) ?_
      refine lv_istore_n (lv' := [(1, .int 0), (0, .ref (bd 0))]) hx hb dMd_propagate_270 rfl hl (by decide) rfl (fun ls hl => ?_)
      refine lv_iconst (v := 0) hx hb dMd_propagate_271 (by decide) ?_
      refine lv_istore_n (lv' := [(2, .int 0), (1, .int 0), (0, .ref (bd 0))]) hx hb dMd_propagate_272 rfl hl (by decide) rfl (fun ls hl => ?_)
      obtain ⟨k273, hw⟩ := hw
      have hlp273 : ∀ (k : Nat), ∀ (v1_L273 : Int32) (v2_L273 : Int32) (mSet_L273 : Nat → Int32) (mUseW_L273 : Nat → Int32) (mGone_L273 : Nat → Bool) (mIsName_L273 : Nat → Bool) (ls : Array Slot) (H : Heap) (locs : List Loc), lv_has ls 5 [(0, .ref (bd 0)), (1, .int v1_L273), (2, .int v2_L273)] → va_P D vwCl (wdMd_propagate cA cB bd N t24_0 mReached_j24 mForm mSlot mOver mMany mKinds mEnds mYes mNo mDominators_j24 mMeets mSources_x269 mSet_L273 mUseW_L273 mUseX_x269 mEndUse_x269 mGone_L273 mIsName_L273 mNameBlock mNameStep) H → va_D A (wdMd_propagate cA cB bd N t24_0 mReached_j24 mForm mSlot mOver mMany mKinds mEnds mYes mNo mDominators_j24 mMeets mSources_x269 mSet_L273 mUseW_L273 mUseX_x269 mEndUse_x269 mGone_L273 mIsName_L273 mNameBlock mNameStep) → va_S A s.heap H locs → lpMd_propagate_273 t24_0 mReached_j24 mKinds mDominators_j24 mSources_x269 mUseX_x269 mEndUse_x269 post k v1_L273 v2_L273 mSet_L273 mUseW_L273 mGone_L273 mIsName_L273 → W p l e (headSpec (Cond.code yMd_propagate cMd_propagate 5 (some .int) :: xW) rmMd_propagate).room s m ([.ref (bd 0)] : List Value).toArray below meth c H locs 0 0 Q (F0 m 273 ls []) := by
        intro k
        induction k with
        | zero => intro v1_L273 v2_L273 mSet_L273 mUseW_L273 mGone_L273 mIsName_L273 ls H locs hl hP hD hS hw; exact False.elim hw
        | succ k ih =>
          intro v1_L273 v2_L273 mSet_L273 mUseW_L273 mGone_L273 mIsName_L273 ls H locs hl hP hD hS hw
          refine lv_iload_n hx hb dMd_propagate_273 rfl (lv_at hl 2 rfl) ?_
          refine lv_bipush (v := 72) hx hb dMd_propagate_274 (by decide) ?_
          refine lv_icmp_ge (tgt := 340) hx hb dMd_propagate_276 rfl (fun hc => ?_) (fun hc => ?_)
          · have hw := hw.1 hc
            refine lv_iload_n hx hb dMd_propagate_340 rfl (lv_at hl 1 rfl) ?_
            exact hend v1_L273 t24_0 mReached_j24 mDominators_j24 mSources_x269 mSet_L273 mUseW_L273 mUseX_x269 mEndUse_x269 mGone_L273 mIsName_L273 _ _ _ _ dMd_propagate_341 hP hD hS hw
          · have hw := hw.2 hc
            refine lv_aload_n hx hb dMd_propagate_279 rfl (lv_at hl 0 rfl) ?_
            refine va_get (D := D) (ci := 7) (v := .ref (bd 14)) (C := "OnceNamedModel") (T := TX7) (N := 34) hx hb hts (fun w h => List.mem_cons_of_mem _ (inX7 w h)) hown hK hP 0 rfl rfl 17 (by decide) (hts _ (List.mem_cons_of_mem _ kw_1002)) (fun _ h9 => h9) rfl dMd_propagate_280 ?_
            refine lv_iload_n hx hb dMd_propagate_283 rfl (lv_at hl 2 rfl) ?_
            have ho := hw.1
            have hw := hw.2
            refine va_iald hx hb hK hP 9 0 rfl rfl ho dMd_propagate_284 ?_
            refine lv_if_lt (tgt := 334) hx hb dMd_propagate_285 rfl (fun hc => ?_) (fun hc => ?_)
            · have hw := hw.1 hc
              refine lv_iinc (k := 2) (v := (v2_L273 + 1)) (lv' := [(2, .int (v2_L273 + 1)), (0, .ref (bd 0)), (1, .int v1_L273)]) hx hb dMd_propagate_334 hl rfl rfl (by decide) rfl (fun ls hl => ?_)
              refine lv_goto (tgt := 273) hx hb dMd_propagate_337 rfl ?_
              exact ih v1_L273 (v2_L273 + 1) mSet_L273 mUseW_L273 mGone_L273 mIsName_L273 _ _ _ (lv_sub hl [1, 2, 0] rfl) hP hD hS hw
            · have hw := hw.2 hc
              refine lv_aload_n hx hb dMd_propagate_288 rfl (lv_at hl 0 rfl) ?_
              refine va_get (D := D) (ci := 7) (v := .ref (bd 2)) (C := "OnceNamedModel") (T := TX7) (N := 34) hx hb hts (fun w h => List.mem_cons_of_mem _ (inX7 w h)) hown hK hP 0 rfl rfl 3 (by decide) (hts _ (List.mem_cons_of_mem _ kw_988)) (fun _ h9 => h9) rfl dMd_propagate_289 ?_
              refine lv_iload_n hx hb dMd_propagate_292 rfl (lv_at hl 2 rfl) ?_
              have ho := hw.1
              have hw := hw.2
              refine va_iald hx hb hK hP 2 0 rfl rfl ho dMd_propagate_293 ?_
              refine lv_iconst (v := 1) hx hb dMd_propagate_294 (by decide) ?_
              refine lv_icmp_ne (tgt := 334) hx hb dMd_propagate_295 rfl (fun hc => ?_) (fun hc => ?_)
              · have hw := hw.1 hc
                refine lv_iinc (k := 2) (v := (v2_L273 + 1)) (lv' := [(2, .int (v2_L273 + 1)), (0, .ref (bd 0)), (1, .int v1_L273)]) hx hb dMd_propagate_334 hl rfl rfl (by decide) rfl (fun ls hl => ?_)
                refine lv_goto (tgt := 273) hx hb dMd_propagate_337 rfl ?_
                exact ih v1_L273 (v2_L273 + 1) mSet_L273 mUseW_L273 mGone_L273 mIsName_L273 _ _ _ (lv_sub hl [1, 2, 0] rfl) hP hD hS hw
              · have hw := hw.2 hc
                refine lv_aload_n hx hb dMd_propagate_298 rfl (lv_at hl 0 rfl) ?_
                refine va_get (D := D) (ci := 7) (v := .ref (bd 19)) (C := "OnceNamedModel") (T := TX7) (N := 34) hx hb hts (fun w h => List.mem_cons_of_mem _ (inX7 w h)) hown hK hP 0 rfl rfl 22 (by decide) (hts _ (List.mem_cons_of_mem _ kw_1007)) (fun _ h9 => h9) rfl dMd_propagate_299 ?_
                refine lv_aload_n hx hb dMd_propagate_302 rfl (lv_at hl 0 rfl) ?_
                refine va_get (D := D) (ci := 7) (v := .ref (bd 14)) (C := "OnceNamedModel") (T := TX7) (N := 34) hx hb hts (fun w h => List.mem_cons_of_mem _ (inX7 w h)) hown hK hP 0 rfl rfl 17 (by decide) (hts _ (List.mem_cons_of_mem _ kw_1002)) (fun _ h9 => h9) rfl dMd_propagate_303 ?_
                refine lv_iload_n hx hb dMd_propagate_306 rfl (lv_at hl 2 rfl) ?_
                have ho := hw.1
                have hw := hw.2
                refine va_iald hx hb hK hP 9 0 rfl rfl ho dMd_propagate_307 ?_
                refine lv_iconst (v := 0) hx hb dMd_propagate_308 (by decide) ?_
                have ho := hw.1
                have hw := hw.2
                refine xzast (z := false) hx hb hK hP hD hS 14 1 rfl rfl ho dMd_propagate_309 (fun H locs hP hD hS => ?_)
                have hP : va_P D vwCl (wdMd_propagate cA cB bd N t24_0 mReached_j24 mForm mSlot mOver mMany mKinds mEnds mYes mNo mDominators_j24 mMeets mSources_x269 mSet_L273 mUseW_L273 mUseX_x269 mEndUse_x269 mGone_L273 (updB mIsName_L273 (Int32.toNatClampNeg (mSet_L273 (Int32.toNatClampNeg v2_L273))) false) mNameBlock mNameStep) H := hP
                have hD : va_D A (wdMd_propagate cA cB bd N t24_0 mReached_j24 mForm mSlot mOver mMany mKinds mEnds mYes mNo mDominators_j24 mMeets mSources_x269 mSet_L273 mUseW_L273 mUseX_x269 mEndUse_x269 mGone_L273 (updB mIsName_L273 (Int32.toNatClampNeg (mSet_L273 (Int32.toNatClampNeg v2_L273))) false) mNameBlock mNameStep) := hD
                refine lv_aload_n hx hb dMd_propagate_310 rfl (lv_at hl 0 rfl) ?_
                refine va_get (D := D) (ci := 7) (v := .ref (bd 14)) (C := "OnceNamedModel") (T := TX7) (N := 34) hx hb hts (fun w h => List.mem_cons_of_mem _ (inX7 w h)) hown hK hP 0 rfl rfl 17 (by decide) (hts _ (List.mem_cons_of_mem _ kw_1002)) (fun _ h9 => h9) rfl dMd_propagate_311 ?_
                refine lv_iload_n hx hb dMd_propagate_314 rfl (lv_at hl 2 rfl) ?_
                refine lv_iconst (v := (-1)) hx hb dMd_propagate_315 (by decide) ?_
                have ho := hw.1
                have hw := hw.2
                refine va_iast hx hb hK hP hD hS 9 0 rfl rfl ho dMd_propagate_316 (fun H locs hP hD hS => ?_)
                have hP : va_P D vwCl (wdMd_propagate cA cB bd N t24_0 mReached_j24 mForm mSlot mOver mMany mKinds mEnds mYes mNo mDominators_j24 mMeets mSources_x269 (upd mSet_L273 (Int32.toNatClampNeg v2_L273) (-1)) mUseW_L273 mUseX_x269 mEndUse_x269 mGone_L273 (updB mIsName_L273 (Int32.toNatClampNeg (mSet_L273 (Int32.toNatClampNeg v2_L273))) false) mNameBlock mNameStep) H := hP
                have hD : va_D A (wdMd_propagate cA cB bd N t24_0 mReached_j24 mForm mSlot mOver mMany mKinds mEnds mYes mNo mDominators_j24 mMeets mSources_x269 (upd mSet_L273 (Int32.toNatClampNeg v2_L273) (-1)) mUseW_L273 mUseX_x269 mEndUse_x269 mGone_L273 (updB mIsName_L273 (Int32.toNatClampNeg (mSet_L273 (Int32.toNatClampNeg v2_L273))) false) mNameBlock mNameStep) := hD
                refine lv_aload_n hx hb dMd_propagate_317 rfl (lv_at hl 0 rfl) ?_
                refine va_get (D := D) (ci := 7) (v := .ref (bd 15)) (C := "OnceNamedModel") (T := TX7) (N := 34) hx hb hts (fun w h => List.mem_cons_of_mem _ (inX7 w h)) hown hK hP 0 rfl rfl 18 (by decide) (hts _ (List.mem_cons_of_mem _ kw_1003)) (fun _ h9 => h9) rfl dMd_propagate_318 ?_
                refine lv_iload_n hx hb dMd_propagate_321 rfl (lv_at hl 2 rfl) ?_
                refine lv_iconst (v := (-1)) hx hb dMd_propagate_322 (by decide) ?_
                have ho := hw.1
                have hw := hw.2
                refine va_iast hx hb hK hP hD hS 10 0 rfl rfl ho dMd_propagate_323 (fun H locs hP hD hS => ?_)
                have hP : va_P D vwCl (wdMd_propagate cA cB bd N t24_0 mReached_j24 mForm mSlot mOver mMany mKinds mEnds mYes mNo mDominators_j24 mMeets mSources_x269 (upd mSet_L273 (Int32.toNatClampNeg v2_L273) (-1)) (upd mUseW_L273 (Int32.toNatClampNeg v2_L273) (-1)) mUseX_x269 mEndUse_x269 mGone_L273 (updB mIsName_L273 (Int32.toNatClampNeg (mSet_L273 (Int32.toNatClampNeg v2_L273))) false) mNameBlock mNameStep) H := hP
                have hD : va_D A (wdMd_propagate cA cB bd N t24_0 mReached_j24 mForm mSlot mOver mMany mKinds mEnds mYes mNo mDominators_j24 mMeets mSources_x269 (upd mSet_L273 (Int32.toNatClampNeg v2_L273) (-1)) (upd mUseW_L273 (Int32.toNatClampNeg v2_L273) (-1)) mUseX_x269 mEndUse_x269 mGone_L273 (updB mIsName_L273 (Int32.toNatClampNeg (mSet_L273 (Int32.toNatClampNeg v2_L273))) false) mNameBlock mNameStep) := hD
                refine lv_aload_n hx hb dMd_propagate_324 rfl (lv_at hl 0 rfl) ?_
                refine va_get (D := D) (ci := 7) (v := .ref (bd 18)) (C := "OnceNamedModel") (T := TX7) (N := 34) hx hb hts (fun w h => List.mem_cons_of_mem _ (inX7 w h)) hown hK hP 0 rfl rfl 21 (by decide) (hts _ (List.mem_cons_of_mem _ kw_1006)) (fun _ h9 => h9) rfl dMd_propagate_325 ?_
                refine lv_iload_n hx hb dMd_propagate_328 rfl (lv_at hl 2 rfl) ?_
                refine lv_iconst (v := 1) hx hb dMd_propagate_329 (by decide) ?_
                have ho := hw.1
                have hw := hw.2
                refine xzast (z := true) hx hb hK hP hD hS 13 1 rfl rfl ho dMd_propagate_330 (fun H locs hP hD hS => ?_)
                have hP : va_P D vwCl (wdMd_propagate cA cB bd N t24_0 mReached_j24 mForm mSlot mOver mMany mKinds mEnds mYes mNo mDominators_j24 mMeets mSources_x269 (upd mSet_L273 (Int32.toNatClampNeg v2_L273) (-1)) (upd mUseW_L273 (Int32.toNatClampNeg v2_L273) (-1)) mUseX_x269 mEndUse_x269 (updB mGone_L273 (Int32.toNatClampNeg v2_L273) true) (updB mIsName_L273 (Int32.toNatClampNeg (mSet_L273 (Int32.toNatClampNeg v2_L273))) false) mNameBlock mNameStep) H := hP
                have hD : va_D A (wdMd_propagate cA cB bd N t24_0 mReached_j24 mForm mSlot mOver mMany mKinds mEnds mYes mNo mDominators_j24 mMeets mSources_x269 (upd mSet_L273 (Int32.toNatClampNeg v2_L273) (-1)) (upd mUseW_L273 (Int32.toNatClampNeg v2_L273) (-1)) mUseX_x269 mEndUse_x269 (updB mGone_L273 (Int32.toNatClampNeg v2_L273) true) (updB mIsName_L273 (Int32.toNatClampNeg (mSet_L273 (Int32.toNatClampNeg v2_L273))) false) mNameBlock mNameStep) := hD
                refine lv_iinc (k := 1) (v := (v1_L273 + 1)) (lv' := [(1, .int (v1_L273 + 1)), (0, .ref (bd 0)), (2, .int v2_L273)]) hx hb dMd_propagate_331 hl rfl rfl (by decide) rfl (fun ls hl => ?_)
                refine lv_iinc (k := 2) (v := (v2_L273 + 1)) (lv' := [(2, .int (v2_L273 + 1)), (1, .int (v1_L273 + 1)), (0, .ref (bd 0))]) hx hb dMd_propagate_334 hl rfl rfl (by decide) rfl (fun ls hl => ?_)
                refine lv_goto (tgt := 273) hx hb dMd_propagate_337 rfl ?_
                exact ih (v1_L273 + 1) (v2_L273 + 1) (upd mSet_L273 (Int32.toNatClampNeg v2_L273) (-1)) (upd mUseW_L273 (Int32.toNatClampNeg v2_L273) (-1)) (updB mGone_L273 (Int32.toNatClampNeg v2_L273) true) (updB mIsName_L273 (Int32.toNatClampNeg (mSet_L273 (Int32.toNatClampNeg v2_L273))) false) _ _ _ (lv_sub hl [2, 1, 0] rfl) hP hD hS hw
      refine hlp273 k273 0 0 mSet mUseW_x269 mGone mIsName _ _ _ (lv_sub hl [2, 1, 0] rfl) hP hD hS hw
    · have hw := hw.2 hc
      refine lv_iconst (v := 0) hx hb dMd_propagate_34 (by decide) ?_
      exact hend 0 t24_0 mReached_j24 mDominators_j24 mSources mSet mUseW mUseX mEndUse mGone mIsName _ _ _ _ dMd_propagate_35 hP hD hS hw
  refine lv_if_ne (tgt := 12) hx hb dMd_propagate_5 rfl (fun hc => ?_) (fun hc => ?_)
  · have hw := hw.1 (bI_1 hc)
    refine lv_aload_n hx hb dMd_propagate_12 rfl (lv_at hl 0 rfl) ?_
    refine xci (va_runV ⟨hx, hb, hml, hown, hts⟩ (ktMd_isValid l D cA cB bd N _ mThrown mReached mForm mSlot mOver mMany mEnds mYes mNo mDominators mMeets mSources mUseW mUseX mEndUse mNameBlock mNameStep _ hw) (cwV 0 hts (goodV kw_1201 kw_1203 ks_4_13 kw_11 kw_1204) rfl rfl rfl (by decide +kernel) ⟨Nat.le_of_ble_eq_true rfl, Nat.le_of_ble_eq_true rfl⟩) (xpreV hK hP hD hN [0, 1, 3, 4, 5, 6, 7, 8, 10, 11, 12, 15, 16] rfl rfl 0 rfl rfl) rfl rfl hl.1 rfl (lv_room (Nat.le_of_ble_eq_true rfl)) dMd_propagate_13 ⟨Nat.le_of_ble_eq_true rfl, Nat.le_of_ble_eq_true rfl⟩) hP hD hS hA [0, 1, 3, 4, 5, 6, 7, 8, 10, 11, 12, 15, 16] [2, 9, 13, 14] rfl rfl rfl rfl [4, 5, 0, 6, 7, 8, 9, 10, 11, 1, 12, 13, 14, 2, 3, 15, 16] rfl (fun _ => rfl) (fun r13 u H locs hw hP hD hS => ?_)
    obtain ⟨r13, rfl, hw⟩ := hw
    obtain ⟨mReached_13, mDominators_13⟩ := u
    try dsimp only at hw
    have hP : va_P D vwCl (wdMd_propagate cA cB bd N mThrown mReached_13 mForm mSlot mOver mMany mKinds mEnds mYes mNo mDominators_13 mMeets mSources mSet mUseW mUseX mEndUse mGone mIsName mNameBlock mNameStep) H := hP
    have hD : va_D A (wdMd_propagate cA cB bd N mThrown mReached_13 mForm mSlot mOver mMany mKinds mEnds mYes mNo mDominators_13 mMeets mSources mSet mUseW mUseX mEndUse mGone mIsName mNameBlock mNameStep) := hD
    refine lv_if_ne (tgt := 23) hx hb dMd_propagate_16 rfl (fun hc => ?_) (fun hc => ?_)
    · have hw := hw.1 (bI_1 hc)
      refine lv_iconst (v := 0) hx hb dMd_propagate_23 (by decide) ?_
      exact hj24 0 mReached_13 mDominators_13 _ _ _ (lv_sub hl [0] rfl) hP hD hS hw
    · have hw := hw.2 (bI_0 hc)
      refine lv_iconst (v := 2) hx hb dMd_propagate_19 (by decide) ?_
      refine lv_goto (tgt := 24) hx hb dMd_propagate_20 rfl ?_
      exact hj24 2 mReached_13 mDominators_13 _ _ _ (lv_sub hl [0] rfl) hP hD hS hw
  · have hw := hw.2 (bI_0 hc)
    refine lv_iconst (v := 1) hx hb dMd_propagate_8 (by decide) ?_
    refine lv_goto (tgt := 24) hx hb dMd_propagate_9 rfl ?_
    exact hj24 1 mReached mDominators _ _ _ (lv_sub hl [0] rfl) hP hD hS hw
