abbrev wdMd_build (cA : ClassId) (cB : ClassId) (bd : Nat → Nat) (N : Nat) (mThrown : Int32) (mReached : Int32) (mForm : Bool) (mSlot : Int32) (mOver : Bool) (mMany : Nat → Int32) (mKinds : Nat → Int32) (mVs : Nat → Int32) (mWs : Nat → Int32) (mXs : Nat → Int32) (mEnds : Nat → Int32) (mEndVariable : Nat → Int32) (mYes : Nat → Int32) (mNo : Nat → Int32) (mDominators : Nat → Int32) (mMeets : Nat → Int32) (mSources : Nat → Int32) (mSet : Nat → Int32) (mUseW : Nat → Int32) (mUseX : Nat → Int32) (mEndUse : Nat → Int32) (mGone : Nat → Bool) (mIsName : Nat → Bool) (mNameBlock : Nat → Int32) (mNameStep : Nat → Int32) (mNumbers : Nat → Int32) (mOpen : Nat → Int32) : va_W := [((bd 0), .inr (7, [.int mThrown, .int (nI N), .ref (bd 1), .ref (bd 2), .ref (bd 3), .ref (bd 4), .ref (bd 5), .ref (bd 6), .ref (bd 7), .ref (bd 8), .ref (bd 9), .ref (bd 10), .int mReached, .ref (bd 11), .int (bI mForm), .ref (bd 12), .ref (bd 13), .ref (bd 14), .ref (bd 15), .ref (bd 16), .ref (bd 17), .ref (bd 18), .ref (bd 19), .ref (bd 20), .ref (bd 21), .ref (bd 22), .ref (bd 23), .ref (bd 24), .ref (bd 25), .ref (bd 26), .ref (bd 27), .ref (bd 28), .int mSlot, .int (bI mOver)])), ((bd 1), .inl (cA, 12, .inl mMany)), ((bd 2), .inl (cA, 72, .inl mKinds)), ((bd 3), .inl (cA, 72, .inl mVs)), ((bd 4), .inl (cA, 72, .inl mWs)), ((bd 5), .inl (cA, 72, .inl mXs)), ((bd 6), .inl (cA, 12, .inl mEnds)), ((bd 7), .inl (cA, 12, .inl mEndVariable)), ((bd 8), .inl (cA, 12, .inl mYes)), ((bd 9), .inl (cA, 12, .inl mNo)), ((bd 11), .inl (cA, 12, .inl mDominators)), ((bd 12), .inl (cA, 72, .inl mMeets)), ((bd 13), .inl (cA, 936, .inl mSources)), ((bd 14), .inl (cA, 72, .inl mSet)), ((bd 15), .inl (cA, 72, .inl mUseW)), ((bd 16), .inl (cA, 72, .inl mUseX)), ((bd 17), .inl (cA, 12, .inl mEndUse)), ((bd 18), .inl (cB, 72, .inl (fun j => bI (mGone j)))), ((bd 19), .inl (cB, 600, .inl (fun j => bI (mIsName j)))), ((bd 20), .inl (cA, 600, .inl mNameBlock)), ((bd 21), .inl (cA, 600, .inl mNameStep)), ((bd 22), .inl (cA, 6, .inl mNumbers)), ((bd 28), .inl (cA, 80, .inl mOpen))]
abbrev qcMd_build (D : va_G) (cA : ClassId) (cB : ClassId) (bd : Nat → Nat) (N : Nat) (mThrown : Int32) (mReached : Int32) (mForm : Bool) (mSlot : Int32) (mOver : Bool) (mMany : Nat → Int32) (mKinds : Nat → Int32) (mVs : Nat → Int32) (mWs : Nat → Int32) (mXs : Nat → Int32) (mEnds : Nat → Int32) (mEndVariable : Nat → Int32) (mYes : Nat → Int32) (mNo : Nat → Int32) (mDominators : Nat → Int32) (mMeets : Nat → Int32) (mSources : Nat → Int32) (mSet : Nat → Int32) (mUseW : Nat → Int32) (mUseX : Nat → Int32) (mEndUse : Nat → Int32) (mGone : Nat → Bool) (mIsName : Nat → Bool) (mNameBlock : Nat → Int32) (mNameStep : Nat → Int32) (mNumbers : Nat → Int32) (mOpen : Nat → Int32) (post : Int32 → Int32 → Int32 → Bool → (Nat → Int32) → (Nat → Int32) → (Nat → Int32) → (Nat → Int32) → (Nat → Int32) → (Nat → Int32) → (Nat → Int32) → (Nat → Bool) → (Nat → Bool) → (Nat → Int32) → (Nat → Int32) → (Nat → Int32) → (Nat → Int32) → Prop) (A : Nat → Prop) : Array Value → State → Outcome → State → Prop := va_Qi (S := (Int32) × (Int32) × (Bool) × (Nat → Int32) × (Nat → Int32) × (Nat → Int32) × (Nat → Int32) × (Nat → Int32) × (Nat → Int32) × (Nat → Int32) × (Nat → Bool) × (Nat → Bool) × (Nat → Int32) × (Nat → Int32) × (Nat → Int32) × (Nat → Int32)) (fun r u => post r u.1 u.2.1 u.2.2.1 u.2.2.2.1 u.2.2.2.2.1 u.2.2.2.2.2.1 u.2.2.2.2.2.2.1 u.2.2.2.2.2.2.2.1 u.2.2.2.2.2.2.2.2.1 u.2.2.2.2.2.2.2.2.2.1 u.2.2.2.2.2.2.2.2.2.2.1 u.2.2.2.2.2.2.2.2.2.2.2.1 u.2.2.2.2.2.2.2.2.2.2.2.2.1 u.2.2.2.2.2.2.2.2.2.2.2.2.2.1 u.2.2.2.2.2.2.2.2.2.2.2.2.2.2.1 u.2.2.2.2.2.2.2.2.2.2.2.2.2.2.2) (fun u t => xB D [(cA, .int), (cB, .boolean)] A (wdMd_build cA cB bd N u.1 u.2.1 u.2.2.1 mSlot mOver mMany mKinds mVs mWs mXs mEnds mEndVariable mYes mNo u.2.2.2.1 u.2.2.2.2.1 u.2.2.2.2.2.1 u.2.2.2.2.2.2.1 u.2.2.2.2.2.2.2.1 u.2.2.2.2.2.2.2.2.1 u.2.2.2.2.2.2.2.2.2.1 u.2.2.2.2.2.2.2.2.2.2.1 u.2.2.2.2.2.2.2.2.2.2.2.1 u.2.2.2.2.2.2.2.2.2.2.2.2.1 u.2.2.2.2.2.2.2.2.2.2.2.2.2.1 u.2.2.2.2.2.2.2.2.2.2.2.2.2.2.1 u.2.2.2.2.2.2.2.2.2.2.2.2.2.2.2) t) A
abbrev rmMd_build : Room := { frames := 4, cells := 0, slots := 0, locals := 97 }
set_option maxHeartbeats 4000000 in
set_option maxRecDepth 100000 in
theorem ktMd_build (l : Launch) (D : va_G) (cA : ClassId) (cB : ClassId) (bd : Nat → Nat) (N : Nat) (sz : Nat) (mThrown : Int32) (mReached : Int32) (mForm : Bool) (mSlot : Int32) (mOver : Bool) (mMany : Nat → Int32) (mKinds : Nat → Int32) (mVs : Nat → Int32) (mWs : Nat → Int32) (mXs : Nat → Int32) (mEnds : Nat → Int32) (mEndVariable : Nat → Int32) (mYes : Nat → Int32) (mNo : Nat → Int32) (mDominators : Nat → Int32) (mMeets : Nat → Int32) (mSources : Nat → Int32) (mSet : Nat → Int32) (mUseW : Nat → Int32) (mUseX : Nat → Int32) (mEndUse : Nat → Int32) (mGone : Nat → Bool) (mIsName : Nat → Bool) (mNameBlock : Nat → Int32) (mNameStep : Nat → Int32) (mNumbers : Nat → Int32) (mOpen : Nat → Int32)  (post : Int32 → Int32 → Int32 → Bool → (Nat → Int32) → (Nat → Int32) → (Nat → Int32) → (Nat → Int32) → (Nat → Int32) → (Nat → Int32) → (Nat → Int32) → (Nat → Bool) → (Nat → Bool) → (Nat → Int32) → (Nat → Int32) → (Nat → Int32) → (Nat → Int32) → Prop) (hw : wpMd_build N mMany mKinds mVs mWs mXs mEnds mEndVariable mYes mNo mDominators mMeets mSources mSet mUseW mUseX mEndUse mGone mIsName mNameBlock mNameStep mNumbers mOpen post) : Met l yMd_build (Cond.code yMd_build cMd_build 3 (some .int) :: xW) rmMd_build (va_Pc [.ref (bd 0)] (xPc D [(cA, .int), (cB, .boolean)] (wdMd_build cA cB bd N mThrown mReached mForm mSlot mOver mMany mKinds mVs mWs mXs mEnds mEndVariable mYes mNo mDominators mMeets mSources mSet mUseW mUseX mEndUse mGone mIsName mNameBlock mNameStep mNumbers mOpen) sz)) (qcMd_build D cA cB bd N mThrown mReached mForm mSlot mOver mMany mKinds mVs mWs mXs mEnds mEndVariable mYes mNo mDominators mMeets mSources mSet mUseW mUseX mEndUse mGone mIsName mNameBlock mNameStep mNumbers mOpen post (va_A (wdMd_build cA cB bd N mThrown mReached mForm mSlot mOver mMany mKinds mVs mWs mXs mEnds mEndVariable mYes mNo mDominators mMeets mSources mSet mUseW mUseX mEndUse mGone mIsName mNameBlock mNameStep mNumbers mOpen) sz)) 0 0 (va_A (wdMd_build cA cB bd N mThrown mReached mForm mSlot mOver mMany mKinds mVs mWs mXs mEnds mEndVariable mYes mNo mDominators mMeets mSources mSet mUseW mUseX mEndUse mGone mIsName mNameBlock mNameStep mNumbers mOpen) sz) := by
  refine Met.ofW (cc := cMd_build) (maxL := 3) (ret := (some .int)) (by decide) rfl ?_
  intro p e s m args below meth c s₁ B hml hv
  obtain ⟨rfl, hsz, hP, hK, hD0, hN⟩ := hv
  have hx := B.exec
  have hb := B.bytes
  have hr := B.returns
  have hts := atoms_spec (ws := (Cond.code yMd_build cMd_build 3 (some .int) :: xW)) B.pre
  have hown : s.vm.findClass "OnceNamedModel" = some m.cls := findClass_of_methodNamed B.named
  have hlocks := B.notSynchronized
  subst hsz
  have hD := hD0.self (sz := s.heap.size)
  generalize hAe : va_A (wdMd_build cA cB bd N mThrown mReached mForm mSlot mOver mMany mKinds mVs mWs mXs mEnds mEndVariable mYes mNo mDominators mMeets mSources mSet mUseW mUseX mEndUse mGone mIsName mNameBlock mNameStep mNumbers mOpen) s.heap.size = A at hD ⊢
  have hA : ∀ q : Nat, s.heap.size ≤ q → A q := fun q h => by rw [← hAe]; exact Or.inr h
  have hS : va_S A s.heap s.heap [] := va_S.rf
  have hend : ∀ (r : Int32) (u0 : Int32) (u1 : Int32) (u2 : Bool) (u3 : Nat → Int32) (u4 : Nat → Int32) (u5 : Nat → Int32) (u6 : Nat → Int32) (u7 : Nat → Int32) (u8 : Nat → Int32) (u9 : Nat → Int32) (u10 : Nat → Bool) (u11 : Nat → Bool) (u12 : Nat → Int32) (u13 : Nat → Int32) (u14 : Nat → Int32) (u15 : Nat → Int32) (H : Heap) (locs : List Loc) (pc : Nat) (ls : Array Slot), decode cMd_build pc = .ok (.ireturn, 1) → va_P D vwCl (wdMd_build cA cB bd N u0 u1 u2 mSlot mOver mMany mKinds mVs mWs mXs mEnds mEndVariable mYes mNo u3 u4 u5 u6 u7 u8 u9 u10 u11 u12 u13 u14 u15) H → va_D A (wdMd_build cA cB bd N u0 u1 u2 mSlot mOver mMany mKinds mVs mWs mXs mEnds mEndVariable mYes mNo u3 u4 u5 u6 u7 u8 u9 u10 u11 u12 u13 u14 u15) → va_S A s.heap H locs → post r u0 u1 u2 u3 u4 u5 u6 u7 u8 u9 u10 u11 u12 u13 u14 u15 → W p l e (headSpec (Cond.code yMd_build cMd_build 3 (some .int) :: xW) rmMd_build).room s m ([.ref (bd 0)] : List Value).toArray below meth c H locs 0 0 (MQ below (qcMd_build D cA cB bd N mThrown mReached mForm mSlot mOver mMany mKinds mVs mWs mXs mEnds mEndVariable mYes mNo mDominators mMeets mSources mSet mUseW mUseX mEndUse mGone mIsName mNameBlock mNameStep mNumbers mOpen post A) ([.ref (bd 0)] : List Value).toArray s 0 0 A) (F0 m pc ls [.int r]) := fun r u0 u1 u2 u3 u4 u5 u6 u7 u8 u9 u10 u11 u12 u13 u14 u15 H locs pc ls hd hP hD hS hw => W.iret (v := r) hx hb hr (fun t ht hW => ⟨⟨r, (u0, u1, u2, u3, u4, u5, u6, u7, u8, u9, u10, u11, u12, u13, u14, u15), rfl, hw, ⟨by rw [ht]; exact hP, va_K.moved hW.alike hK, hD⟩⟩, hS.F ht⟩) hS.2.2 hd
  generalize hQ : MQ below (qcMd_build D cA cB bd N mThrown mReached mForm mSlot mOver mMany mKinds mVs mWs mXs mEnds mEndVariable mYes mNo mDominators mMeets mSources mSet mUseW mUseX mEndUse mGone mIsName mNameBlock mNameStep mNumbers mOpen post A) ([.ref (bd 0)] : List Value).toArray s 0 0 A = Q at hend ⊢
  have hl := lv_entry ([.ref (bd 0)]) (n := 3) (Nat.le_of_ble_eq_true rfl)
  rw [lg_entry_eq]
  generalize (lg_sl ([.ref (bd 0)]) ++ List.replicate (3 - (lg_sl ([.ref (bd 0)])).length) Slot.unset).toArray = ls at hl ⊢
  have hl : lv_has ls 3 [(0, .ref (bd 0))] := hl
  unfold wpMd_build at hw
  refine lv_aload_n hx hb dMd_build_0 rfl (lv_at hl 0 rfl) ?_
  refine lv_iconst (v := 0) hx hb dMd_build_1 (by decide) ?_
  refine va_put (D := D) (ci := 7) (v := .int 0) (ty := .int) (C := "OnceNamedModel") (T := TX7) (N := 34) hx hb hts (fun w h => List.mem_cons_of_mem _ (inX7 w h)) tyX7 tyX7_ok nmX7 hown hK hP hD hS 0 rfl rfl 0 (by decide) (hts _ (List.mem_cons_of_mem _ kw_985)) (fun _ h9 => h9) rfl (by decide +kernel) rfl rfl (Nat.le_of_ble_eq_true rfl) dMd_build_2 (fun H locs hP hD hS => ?_)
  have hP : va_P D vwCl (wdMd_build cA cB bd N 0 mReached mForm mSlot mOver mMany mKinds mVs mWs mXs mEnds mEndVariable mYes mNo mDominators mMeets mSources mSet mUseW mUseX mEndUse mGone mIsName mNameBlock mNameStep mNumbers mOpen) H := hP
  have hD : va_D A (wdMd_build cA cB bd N 0 mReached mForm mSlot mOver mMany mKinds mVs mWs mXs mEnds mEndVariable mYes mNo mDominators mMeets mSources mSet mUseW mUseX mEndUse mGone mIsName mNameBlock mNameStep mNumbers mOpen) := hD
  refine lv_aload_n hx hb dMd_build_5 rfl (lv_at hl 0 rfl) ?_
  refine xcv (va_runV ⟨hx, hb, hml, hown, hts⟩ (ktMd_look l D cA cB bd N _ 0 mReached mForm mSlot mOver mEnds mYes mNo mDominators _ hw) (cwV 0 hts (goodV kw_1125 kw_1127 ks_3_14 kw_11 kw_1128) rfl rfl rfl (by decide +kernel) ⟨Nat.le_of_ble_eq_true rfl, Nat.le_of_ble_eq_true rfl⟩) (xpreV hK hP hD hN [0, 6, 8, 9, 10] rfl rfl 0 rfl rfl) rfl rfl hl.1 rfl (lv_room (Nat.le_of_ble_eq_true rfl)) dMd_build_6 ⟨Nat.le_of_ble_eq_true rfl, Nat.le_of_ble_eq_true rfl⟩) hP hD hS hA [0, 6, 8, 9, 10] [1, 2, 3, 4, 5, 7, 11, 12, 13, 14, 15, 16, 17, 18, 19, 20, 21, 22] rfl rfl rfl rfl [18, 0, 1, 2, 3, 4, 19, 5, 20, 21, 22, 6, 7, 8, 9, 10, 11, 12, 13, 14, 15, 16, 17] rfl (fun _ => rfl) (fun u H locs hw hP hD hS => ?_)
  obtain ⟨mReached_6, mDominators_6⟩ := u
  try dsimp only at hw
  have hP : va_P D vwCl (wdMd_build cA cB bd N 0 mReached_6 mForm mSlot mOver mMany mKinds mVs mWs mXs mEnds mEndVariable mYes mNo mDominators_6 mMeets mSources mSet mUseW mUseX mEndUse mGone mIsName mNameBlock mNameStep mNumbers mOpen) H := hP
  have hD : va_D A (wdMd_build cA cB bd N 0 mReached_6 mForm mSlot mOver mMany mKinds mVs mWs mXs mEnds mEndVariable mYes mNo mDominators_6 mMeets mSources mSet mUseW mUseX mEndUse mGone mIsName mNameBlock mNameStep mNumbers mOpen) := hD
  refine lv_aload_n hx hb dMd_build_9 rfl (lv_at hl 0 rfl) ?_
  refine xcv (va_runV ⟨hx, hb, hml, hown, hts⟩ (ktMd_findMeetings l D cA cB bd N _ 0 mReached_6 mForm mSlot mOver mMany mKinds mVs mEnds mYes mNo mDominators_6 mMeets _ hw) (cwV 0 hts (goodV kw_1169 kw_1171 ks_4_6 kw_11 kw_1172) rfl rfl rfl (by decide +kernel) ⟨Nat.le_of_ble_eq_true rfl, Nat.le_of_ble_eq_true rfl⟩) (xpreV hK hP hD hN [0, 1, 2, 3, 6, 8, 9, 10, 11] rfl rfl 0 rfl rfl) rfl rfl hl.1 rfl (lv_room (Nat.le_of_ble_eq_true rfl)) dMd_build_10 ⟨Nat.le_of_ble_eq_true rfl, Nat.le_of_ble_eq_true rfl⟩) hP hD hS hA [0, 1, 2, 3, 6, 8, 9, 10, 11] [4, 5, 7, 12, 13, 14, 15, 16, 17, 18, 19, 20, 21, 22] rfl rfl rfl rfl [14, 15, 16, 17, 0, 1, 18, 2, 19, 20, 21, 22, 3, 4, 5, 6, 7, 8, 9, 10, 11, 12, 13] rfl (fun _ => rfl) (fun mMeets_10 H locs hw hP hD hS => ?_)
  try dsimp only at hw
  have hP : va_P D vwCl (wdMd_build cA cB bd N 0 mReached_6 mForm mSlot mOver mMany mKinds mVs mWs mXs mEnds mEndVariable mYes mNo mDominators_6 mMeets_10 mSources mSet mUseW mUseX mEndUse mGone mIsName mNameBlock mNameStep mNumbers mOpen) H := hP
  have hD : va_D A (wdMd_build cA cB bd N 0 mReached_6 mForm mSlot mOver mMany mKinds mVs mWs mXs mEnds mEndVariable mYes mNo mDominators_6 mMeets_10 mSources mSet mUseW mUseX mEndUse mGone mIsName mNameBlock mNameStep mNumbers mOpen) := hD
  refine lv_aload_n hx hb dMd_build_13 rfl (lv_at hl 0 rfl) ?_
  refine xcv (va_runV ⟨hx, hb, hml, hown, hts⟩ (ktMd_giveNames l D cA cB bd N _ 0 mReached_6 mForm mSlot mOver mMany mKinds mVs mDominators_6 mMeets_10 mSet mGone mIsName mNameBlock mNameStep mNumbers mOpen _ hw) (cwV 0 hts (goodV kw_1177 kw_1179 ks_4_8 kw_11 kw_1180) rfl rfl rfl (by decide +kernel) ⟨Nat.le_of_ble_eq_true rfl, Nat.le_of_ble_eq_true rfl⟩) (xpreV hK hP hD hN [0, 1, 2, 3, 10, 11, 13, 17, 18, 19, 20, 21, 22] rfl rfl 0 rfl rfl) rfl rfl hl.1 rfl (lv_room (Nat.le_of_ble_eq_true rfl)) dMd_build_14 ⟨Nat.le_of_ble_eq_true rfl, Nat.le_of_ble_eq_true rfl⟩) hP hD hS hA [0, 1, 2, 3, 10, 11, 13, 17, 18, 19, 20, 21, 22] [4, 5, 6, 7, 8, 9, 12, 14, 15, 16] rfl rfl rfl rfl [10, 11, 12, 13, 0, 1, 2, 3, 4, 5, 14, 15, 6, 16, 7, 8, 9, 17, 18, 19, 20, 21, 22] rfl (fun _ => rfl) (fun u H locs hw hP hD hS => ?_)
  obtain ⟨mMeets_14, mSet_14, mGone_14, mIsName_14, mNameBlock_14, mNameStep_14, mNumbers_14, mOpen_14⟩ := u
  try dsimp only at hw
  have hP : va_P D vwCl (wdMd_build cA cB bd N 0 mReached_6 mForm mSlot mOver mMany mKinds mVs mWs mXs mEnds mEndVariable mYes mNo mDominators_6 mMeets_14 mSources mSet_14 mUseW mUseX mEndUse mGone_14 mIsName_14 mNameBlock_14 mNameStep_14 mNumbers_14 mOpen_14) H := hP
  have hD : va_D A (wdMd_build cA cB bd N 0 mReached_6 mForm mSlot mOver mMany mKinds mVs mWs mXs mEnds mEndVariable mYes mNo mDominators_6 mMeets_14 mSources mSet_14 mUseW mUseX mEndUse mGone_14 mIsName_14 mNameBlock_14 mNameStep_14 mNumbers_14 mOpen_14) := hD
  refine lv_iconst (v := 0) hx hb dMd_build_17 (by decide) ?_
  refine lv_istore_n (lv' := [(1, .int 0), (0, .ref (bd 0))]) hx hb dMd_build_18 rfl hl (by decide) rfl (fun ls hl => ?_)
  obtain ⟨k19, hw⟩ := hw
  have hlp19 : ∀ (K95 : Int32 → (Nat → Int32) → (Nat → Int32) → (Nat → Int32) → (Nat → Int32) → Prop), (∀ (v1_x95 : Int32) (mSources_x95 : Nat → Int32) (mUseW_x95 : Nat → Int32) (mUseX_x95 : Nat → Int32) (mEndUse_x95 : Nat → Int32) (ls : Array Slot) (H : Heap) (locs : List Loc), lv_has ls 3 [(0, .ref (bd 0)), (1, .int v1_x95)] → va_P D vwCl (wdMd_build cA cB bd N 0 mReached_6 mForm mSlot mOver mMany mKinds mVs mWs mXs mEnds mEndVariable mYes mNo mDominators_6 mMeets_14 mSources_x95 mSet_14 mUseW_x95 mUseX_x95 mEndUse_x95 mGone_14 mIsName_14 mNameBlock_14 mNameStep_14 mNumbers_14 mOpen_14) H → va_D A (wdMd_build cA cB bd N 0 mReached_6 mForm mSlot mOver mMany mKinds mVs mWs mXs mEnds mEndVariable mYes mNo mDominators_6 mMeets_14 mSources_x95 mSet_14 mUseW_x95 mUseX_x95 mEndUse_x95 mGone_14 mIsName_14 mNameBlock_14 mNameStep_14 mNumbers_14 mOpen_14) → va_S A s.heap H locs → K95 v1_x95 mSources_x95 mUseW_x95 mUseX_x95 mEndUse_x95 → W p l e (headSpec (Cond.code yMd_build cMd_build 3 (some .int) :: xW) rmMd_build).room s m ([.ref (bd 0)] : List Value).toArray below meth c H locs 0 0 Q (F0 m 95 ls [])) → ∀ (k : Nat), ∀ (v1_L19 : Int32) (mSources_L19 : Nat → Int32) (mUseW_L19 : Nat → Int32) (mUseX_L19 : Nat → Int32) (mEndUse_L19 : Nat → Int32) (ls : Array Slot) (H : Heap) (locs : List Loc), lv_has ls 3 [(0, .ref (bd 0)), (1, .int v1_L19)] → va_P D vwCl (wdMd_build cA cB bd N 0 mReached_6 mForm mSlot mOver mMany mKinds mVs mWs mXs mEnds mEndVariable mYes mNo mDominators_6 mMeets_14 mSources_L19 mSet_14 mUseW_L19 mUseX_L19 mEndUse_L19 mGone_14 mIsName_14 mNameBlock_14 mNameStep_14 mNumbers_14 mOpen_14) H → va_D A (wdMd_build cA cB bd N 0 mReached_6 mForm mSlot mOver mMany mKinds mVs mWs mXs mEnds mEndVariable mYes mNo mDominators_6 mMeets_14 mSources_L19 mSet_14 mUseW_L19 mUseX_L19 mEndUse_L19 mGone_14 mIsName_14 mNameBlock_14 mNameStep_14 mNumbers_14 mOpen_14) → va_S A s.heap H locs → lpMd_build_19 N mReached_6 mMany mKinds mVs mWs mXs mEnds mEndVariable mYes mNo mDominators_6 mMeets_14 mSet_14 K95 k v1_L19 mSources_L19 mUseW_L19 mUseX_L19 mEndUse_L19 → W p l e (headSpec (Cond.code yMd_build cMd_build 3 (some .int) :: xW) rmMd_build).room s m ([.ref (bd 0)] : List Value).toArray below meth c H locs 0 0 Q (F0 m 19 ls []) := by
    intro K95 hK95 k
    induction k with
    | zero => intro v1_L19 mSources_L19 mUseW_L19 mUseX_L19 mEndUse_L19 ls H locs hl hP hD hS hw; exact False.elim hw
    | succ k ih =>
      intro v1_L19 mSources_L19 mUseW_L19 mUseX_L19 mEndUse_L19 ls H locs hl hP hD hS hw
      refine lv_iload_n hx hb dMd_build_19 rfl (lv_at hl 1 rfl) ?_
      refine lv_aload_n hx hb dMd_build_20 rfl (lv_at hl 0 rfl) ?_
      refine va_get (D := D) (ci := 7) (v := .int (nI N)) (C := "OnceNamedModel") (T := TX7) (N := 34) hx hb hts (fun w h => List.mem_cons_of_mem _ (inX7 w h)) hown hK hP 0 rfl rfl 1 (by decide) (hts _ (List.mem_cons_of_mem _ kw_986)) (fun _ h9 => h9) rfl dMd_build_21 ?_
      refine lv_icmp_ge (tgt := 95) hx hb dMd_build_24 rfl (fun hc => ?_) (fun hc => ?_)
      · have hw := hw.1 hc
        exact hK95 v1_L19 mSources_L19 mUseW_L19 mUseX_L19 mEndUse_L19 _ _ _ (lv_sub hl [0, 1] rfl) hP hD hS hw
      · have hw := hw.2 hc
        refine lv_aload_n hx hb dMd_build_27 rfl (lv_at hl 0 rfl) ?_
        refine va_get (D := D) (ci := 7) (v := .ref (bd 17)) (C := "OnceNamedModel") (T := TX7) (N := 34) hx hb hts (fun w h => List.mem_cons_of_mem _ (inX7 w h)) hown hK hP 0 rfl rfl 20 (by decide) (hts _ (List.mem_cons_of_mem _ kw_1005)) (fun _ h9 => h9) rfl dMd_build_28 ?_
        refine lv_iload_n hx hb dMd_build_31 rfl (lv_at hl 1 rfl) ?_
        refine lv_iconst (v := (-1)) hx hb dMd_build_32 (by decide) ?_
        have ho := hw.1
        have hw := hw.2
        refine va_iast hx hb hK hP hD hS 16 0 rfl rfl ho dMd_build_33 (fun H locs hP hD hS => ?_)
        have hP : va_P D vwCl (wdMd_build cA cB bd N 0 mReached_6 mForm mSlot mOver mMany mKinds mVs mWs mXs mEnds mEndVariable mYes mNo mDominators_6 mMeets_14 mSources_L19 mSet_14 mUseW_L19 mUseX_L19 (upd mEndUse_L19 (Int32.toNatClampNeg v1_L19) (-1)) mGone_14 mIsName_14 mNameBlock_14 mNameStep_14 mNumbers_14 mOpen_14) H := hP
        have hD : va_D A (wdMd_build cA cB bd N 0 mReached_6 mForm mSlot mOver mMany mKinds mVs mWs mXs mEnds mEndVariable mYes mNo mDominators_6 mMeets_14 mSources_L19 mSet_14 mUseW_L19 mUseX_L19 (upd mEndUse_L19 (Int32.toNatClampNeg v1_L19) (-1)) mGone_14 mIsName_14 mNameBlock_14 mNameStep_14 mNumbers_14 mOpen_14) := hD
        refine lv_iconst (v := 0) hx hb dMd_build_34 (by decide) ?_
        refine lv_istore_n (lv' := [(2, .int 0), (0, .ref (bd 0)), (1, .int v1_L19)]) hx hb dMd_build_35 rfl hl (by decide) rfl (fun ls hl => ?_)
        obtain ⟨k36, hw⟩ := hw
        have hlp36 : ∀ (K72 : Int32 → (Nat → Int32) → (Nat → Int32) → Prop), (∀ (v2_x72 : Int32) (mUseW_x72 : Nat → Int32) (mUseX_x72 : Nat → Int32) (ls : Array Slot) (H : Heap) (locs : List Loc), lv_has ls 3 [(0, .ref (bd 0)), (1, .int v1_L19), (2, .int v2_x72)] → va_P D vwCl (wdMd_build cA cB bd N 0 mReached_6 mForm mSlot mOver mMany mKinds mVs mWs mXs mEnds mEndVariable mYes mNo mDominators_6 mMeets_14 mSources_L19 mSet_14 mUseW_x72 mUseX_x72 (upd mEndUse_L19 (Int32.toNatClampNeg v1_L19) (-1)) mGone_14 mIsName_14 mNameBlock_14 mNameStep_14 mNumbers_14 mOpen_14) H → va_D A (wdMd_build cA cB bd N 0 mReached_6 mForm mSlot mOver mMany mKinds mVs mWs mXs mEnds mEndVariable mYes mNo mDominators_6 mMeets_14 mSources_L19 mSet_14 mUseW_x72 mUseX_x72 (upd mEndUse_L19 (Int32.toNatClampNeg v1_L19) (-1)) mGone_14 mIsName_14 mNameBlock_14 mNameStep_14 mNumbers_14 mOpen_14) → va_S A s.heap H locs → K72 v2_x72 mUseW_x72 mUseX_x72 → W p l e (headSpec (Cond.code yMd_build cMd_build 3 (some .int) :: xW) rmMd_build).room s m ([.ref (bd 0)] : List Value).toArray below meth c H locs 0 0 Q (F0 m 72 ls [])) → ∀ (k : Nat), ∀ (v2_L36 : Int32) (mUseW_L36 : Nat → Int32) (mUseX_L36 : Nat → Int32) (ls : Array Slot) (H : Heap) (locs : List Loc), lv_has ls 3 [(0, .ref (bd 0)), (1, .int v1_L19), (2, .int v2_L36)] → va_P D vwCl (wdMd_build cA cB bd N 0 mReached_6 mForm mSlot mOver mMany mKinds mVs mWs mXs mEnds mEndVariable mYes mNo mDominators_6 mMeets_14 mSources_L19 mSet_14 mUseW_L36 mUseX_L36 (upd mEndUse_L19 (Int32.toNatClampNeg v1_L19) (-1)) mGone_14 mIsName_14 mNameBlock_14 mNameStep_14 mNumbers_14 mOpen_14) H → va_D A (wdMd_build cA cB bd N 0 mReached_6 mForm mSlot mOver mMany mKinds mVs mWs mXs mEnds mEndVariable mYes mNo mDominators_6 mMeets_14 mSources_L19 mSet_14 mUseW_L36 mUseX_L36 (upd mEndUse_L19 (Int32.toNatClampNeg v1_L19) (-1)) mGone_14 mIsName_14 mNameBlock_14 mNameStep_14 mNumbers_14 mOpen_14) → va_S A s.heap H locs → lpMd_build_36 v1_L19 K72 k v2_L36 mUseW_L36 mUseX_L36 → W p l e (headSpec (Cond.code yMd_build cMd_build 3 (some .int) :: xW) rmMd_build).room s m ([.ref (bd 0)] : List Value).toArray below meth c H locs 0 0 Q (F0 m 36 ls []) := by
          intro K72 hK72 k
          induction k with
          | zero => intro v2_L36 mUseW_L36 mUseX_L36 ls H locs hl hP hD hS hw; exact False.elim hw
          | succ k ih =>
            intro v2_L36 mUseW_L36 mUseX_L36 ls H locs hl hP hD hS hw
            refine lv_iload_n hx hb dMd_build_36 rfl (lv_at hl 2 rfl) ?_
            refine lv_bipush (v := 6) hx hb dMd_build_37 (by decide) ?_
            refine lv_icmp_ge (tgt := 72) hx hb dMd_build_39 rfl (fun hc => ?_) (fun hc => ?_)
            · have hw := hw.1 hc
              exact hK72 v2_L36 mUseW_L36 mUseX_L36 _ _ _ (lv_sub hl [0, 1, 2] rfl) hP hD hS hw
            · have hw := hw.2 hc
              refine lv_aload_n hx hb dMd_build_42 rfl (lv_at hl 0 rfl) ?_
              refine va_get (D := D) (ci := 7) (v := .ref (bd 15)) (C := "OnceNamedModel") (T := TX7) (N := 34) hx hb hts (fun w h => List.mem_cons_of_mem _ (inX7 w h)) hown hK hP 0 rfl rfl 18 (by decide) (hts _ (List.mem_cons_of_mem _ kw_1003)) (fun _ h9 => h9) rfl dMd_build_43 ?_
              refine lv_bipush (v := 6) hx hb dMd_build_46 (by decide) ?_
              refine lv_iload_n hx hb dMd_build_48 rfl (lv_at hl 1 rfl) ?_
              refine lv_imul hx hb dMd_build_49 ?_
              refine lv_iload_n hx hb dMd_build_50 rfl (lv_at hl 2 rfl) ?_
              refine lv_iadd hx hb dMd_build_51 ?_
              refine lv_iconst (v := (-1)) hx hb dMd_build_52 (by decide) ?_
              have ho := hw.1
              have hw := hw.2
              refine va_iast hx hb hK hP hD hS 14 0 rfl rfl ho dMd_build_53 (fun H locs hP hD hS => ?_)
              have hP : va_P D vwCl (wdMd_build cA cB bd N 0 mReached_6 mForm mSlot mOver mMany mKinds mVs mWs mXs mEnds mEndVariable mYes mNo mDominators_6 mMeets_14 mSources_L19 mSet_14 (upd mUseW_L36 (Int32.toNatClampNeg ((6 * v1_L19) + v2_L36)) (-1)) mUseX_L36 (upd mEndUse_L19 (Int32.toNatClampNeg v1_L19) (-1)) mGone_14 mIsName_14 mNameBlock_14 mNameStep_14 mNumbers_14 mOpen_14) H := hP
              have hD : va_D A (wdMd_build cA cB bd N 0 mReached_6 mForm mSlot mOver mMany mKinds mVs mWs mXs mEnds mEndVariable mYes mNo mDominators_6 mMeets_14 mSources_L19 mSet_14 (upd mUseW_L36 (Int32.toNatClampNeg ((6 * v1_L19) + v2_L36)) (-1)) mUseX_L36 (upd mEndUse_L19 (Int32.toNatClampNeg v1_L19) (-1)) mGone_14 mIsName_14 mNameBlock_14 mNameStep_14 mNumbers_14 mOpen_14) := hD
              refine lv_aload_n hx hb dMd_build_54 rfl (lv_at hl 0 rfl) ?_
              refine va_get (D := D) (ci := 7) (v := .ref (bd 16)) (C := "OnceNamedModel") (T := TX7) (N := 34) hx hb hts (fun w h => List.mem_cons_of_mem _ (inX7 w h)) hown hK hP 0 rfl rfl 19 (by decide) (hts _ (List.mem_cons_of_mem _ kw_1004)) (fun _ h9 => h9) rfl dMd_build_55 ?_
              refine lv_bipush (v := 6) hx hb dMd_build_58 (by decide) ?_
              refine lv_iload_n hx hb dMd_build_60 rfl (lv_at hl 1 rfl) ?_
              refine lv_imul hx hb dMd_build_61 ?_
              refine lv_iload_n hx hb dMd_build_62 rfl (lv_at hl 2 rfl) ?_
              refine lv_iadd hx hb dMd_build_63 ?_
              refine lv_iconst (v := (-1)) hx hb dMd_build_64 (by decide) ?_
              have ho := hw.1
              have hw := hw.2
              refine va_iast hx hb hK hP hD hS 15 0 rfl rfl ho dMd_build_65 (fun H locs hP hD hS => ?_)
              have hP : va_P D vwCl (wdMd_build cA cB bd N 0 mReached_6 mForm mSlot mOver mMany mKinds mVs mWs mXs mEnds mEndVariable mYes mNo mDominators_6 mMeets_14 mSources_L19 mSet_14 (upd mUseW_L36 (Int32.toNatClampNeg ((6 * v1_L19) + v2_L36)) (-1)) (upd mUseX_L36 (Int32.toNatClampNeg ((6 * v1_L19) + v2_L36)) (-1)) (upd mEndUse_L19 (Int32.toNatClampNeg v1_L19) (-1)) mGone_14 mIsName_14 mNameBlock_14 mNameStep_14 mNumbers_14 mOpen_14) H := hP
              have hD : va_D A (wdMd_build cA cB bd N 0 mReached_6 mForm mSlot mOver mMany mKinds mVs mWs mXs mEnds mEndVariable mYes mNo mDominators_6 mMeets_14 mSources_L19 mSet_14 (upd mUseW_L36 (Int32.toNatClampNeg ((6 * v1_L19) + v2_L36)) (-1)) (upd mUseX_L36 (Int32.toNatClampNeg ((6 * v1_L19) + v2_L36)) (-1)) (upd mEndUse_L19 (Int32.toNatClampNeg v1_L19) (-1)) mGone_14 mIsName_14 mNameBlock_14 mNameStep_14 mNumbers_14 mOpen_14) := hD
              refine lv_iinc (k := 2) (v := (v2_L36 + 1)) (lv' := [(2, .int (v2_L36 + 1)), (0, .ref (bd 0)), (1, .int v1_L19)]) hx hb dMd_build_66 hl rfl rfl (by decide) rfl (fun ls hl => ?_)
              refine lv_goto (tgt := 36) hx hb dMd_build_69 rfl ?_
              exact ih (v2_L36 + 1) (upd mUseW_L36 (Int32.toNatClampNeg ((6 * v1_L19) + v2_L36)) (-1)) (upd mUseX_L36 (Int32.toNatClampNeg ((6 * v1_L19) + v2_L36)) (-1)) _ _ _ (lv_sub hl [1, 2, 0] rfl) hP hD hS hw
        refine hlp36 _ ?_ k36 0 mUseW_L19 mUseX_L19 _ _ _ (lv_sub hl [1, 2, 0] rfl) hP hD hS hw
        intro v2_x72 mUseW_x72 mUseX_x72 ls H locs hl hP hD hS hw
        try dsimp only at hw
        refine lv_aload_n hx hb dMd_build_72 rfl (lv_at hl 0 rfl) ?_
        refine lv_aload_n hx hb dMd_build_73 rfl (lv_at hl 0 rfl) ?_
        refine va_get (D := D) (ci := 7) (v := .int mReached_6) (C := "OnceNamedModel") (T := TX7) (N := 34) hx hb hts (fun w h => List.mem_cons_of_mem _ (inX7 w h)) hown hK hP 0 rfl rfl 12 (by decide) (hts _ (List.mem_cons_of_mem _ kw_997)) (fun _ h9 => h9) rfl dMd_build_74 ?_
        refine lv_iload_n hx hb dMd_build_77 rfl (lv_at hl 1 rfl) ?_
        refine xci (va_runV ⟨hx, hb, hml, hown, hts⟩ (ktMd_has l D cA cB bd N _ mReached_6 v1_L19 _ hw) (cwV 2 hts (goodV kw_1133 kw_1135 ks_4_0 kw_11 kw_1136) rfl rfl rfl (by decide +kernel) ⟨Nat.le_of_ble_eq_true rfl, Nat.le_of_ble_eq_true rfl⟩) (xpreV hK hP hD hN [] rfl rfl 0 rfl rfl) rfl rfl hl.1 rfl (lv_room (Nat.le_of_ble_eq_true rfl)) dMd_build_78 ⟨Nat.le_of_ble_eq_true rfl, Nat.le_of_ble_eq_true rfl⟩) hP hD hS hA [] [0, 1, 2, 3, 4, 5, 6, 7, 8, 9, 10, 11, 12, 13, 14, 15, 16, 17, 18, 19, 20, 21, 22] rfl rfl rfl rfl [0, 1, 2, 3, 4, 5, 6, 7, 8, 9, 10, 11, 12, 13, 14, 15, 16, 17, 18, 19, 20, 21, 22] rfl (fun _ => rfl) (fun r78 u H locs hw hP hD hS => ?_)
        obtain ⟨r78, rfl, hw⟩ := hw
        have hP : va_P D vwCl (wdMd_build cA cB bd N 0 mReached_6 mForm mSlot mOver mMany mKinds mVs mWs mXs mEnds mEndVariable mYes mNo mDominators_6 mMeets_14 mSources_L19 mSet_14 mUseW_x72 mUseX_x72 (upd mEndUse_L19 (Int32.toNatClampNeg v1_L19) (-1)) mGone_14 mIsName_14 mNameBlock_14 mNameStep_14 mNumbers_14 mOpen_14) H := hP
        have hD : va_D A (wdMd_build cA cB bd N 0 mReached_6 mForm mSlot mOver mMany mKinds mVs mWs mXs mEnds mEndVariable mYes mNo mDominators_6 mMeets_14 mSources_L19 mSet_14 mUseW_x72 mUseX_x72 (upd mEndUse_L19 (Int32.toNatClampNeg v1_L19) (-1)) mGone_14 mIsName_14 mNameBlock_14 mNameStep_14 mNumbers_14 mOpen_14) := hD
        refine lv_if_eq (tgt := 89) hx hb dMd_build_81 rfl (fun hc => ?_) (fun hc => ?_)
        · have hw := hw.1 (bI_0 hc)
          refine lv_iinc (k := 1) (v := (v1_L19 + 1)) (lv' := [(1, .int (v1_L19 + 1)), (0, .ref (bd 0)), (2, .int v2_x72)]) hx hb dMd_build_89 hl rfl rfl (by decide) rfl (fun ls hl => ?_)
          refine lv_goto (tgt := 19) hx hb dMd_build_92 rfl ?_
          exact ih (v1_L19 + 1) mSources_L19 mUseW_x72 mUseX_x72 (upd mEndUse_L19 (Int32.toNatClampNeg v1_L19) (-1)) _ _ _ (lv_sub hl [1, 0] rfl) hP hD hS hw
        · have hw := hw.2 (bI_1 hc)
          refine lv_aload_n hx hb dMd_build_84 rfl (lv_at hl 0 rfl) ?_
          refine lv_iload_n hx hb dMd_build_85 rfl (lv_at hl 1 rfl) ?_
          refine xcv (va_runV ⟨hx, hb, hml, hown, hts⟩ (ktMd_giveUses l D cA cB bd N _ 0 mReached_6 mForm mSlot mOver mMany mKinds mVs mWs mXs mEnds mEndVariable mYes mNo mDominators_6 mMeets_14 mSources_L19 mSet_14 mUseW_x72 mUseX_x72 (upd mEndUse_L19 (Int32.toNatClampNeg v1_L19) (-1)) v1_L19 _ hw) (cwV 1 hts (goodV kw_1189 kw_1191 ks_4_11 kw_11 kw_1192) rfl rfl rfl (by decide +kernel) ⟨Nat.le_of_ble_eq_true rfl, Nat.le_of_ble_eq_true rfl⟩) (xpreV hK hP hD hN [0, 1, 2, 3, 4, 5, 6, 7, 8, 9, 10, 11, 12, 13, 14, 15, 16] rfl rfl 0 rfl rfl) rfl rfl hl.1 rfl (lv_room (Nat.le_of_ble_eq_true rfl)) dMd_build_86 ⟨Nat.le_of_ble_eq_true rfl, Nat.le_of_ble_eq_true rfl⟩) hP hD hS hA [0, 1, 2, 3, 4, 5, 6, 7, 8, 9, 10, 11, 12, 13, 14, 15, 16] [17, 18, 19, 20, 21, 22] rfl rfl rfl rfl [6, 7, 8, 9, 10, 11, 12, 13, 14, 15, 16, 17, 18, 19, 20, 21, 22, 0, 1, 2, 3, 4, 5] rfl (fun _ => rfl) (fun u H locs hw hP hD hS => ?_)
          obtain ⟨mSources_86, mUseW_86, mUseX_86, mEndUse_86⟩ := u
          try dsimp only at hw
          have hP : va_P D vwCl (wdMd_build cA cB bd N 0 mReached_6 mForm mSlot mOver mMany mKinds mVs mWs mXs mEnds mEndVariable mYes mNo mDominators_6 mMeets_14 mSources_86 mSet_14 mUseW_86 mUseX_86 mEndUse_86 mGone_14 mIsName_14 mNameBlock_14 mNameStep_14 mNumbers_14 mOpen_14) H := hP
          have hD : va_D A (wdMd_build cA cB bd N 0 mReached_6 mForm mSlot mOver mMany mKinds mVs mWs mXs mEnds mEndVariable mYes mNo mDominators_6 mMeets_14 mSources_86 mSet_14 mUseW_86 mUseX_86 mEndUse_86 mGone_14 mIsName_14 mNameBlock_14 mNameStep_14 mNumbers_14 mOpen_14) := hD
          refine lv_iinc (k := 1) (v := (v1_L19 + 1)) (lv' := [(1, .int (v1_L19 + 1)), (0, .ref (bd 0)), (2, .int v2_x72)]) hx hb dMd_build_89 hl rfl rfl (by decide) rfl (fun ls hl => ?_)
          refine lv_goto (tgt := 19) hx hb dMd_build_92 rfl ?_
          exact ih (v1_L19 + 1) mSources_86 mUseW_86 mUseX_86 mEndUse_86 _ _ _ (lv_sub hl [1, 0] rfl) hP hD hS hw
  refine hlp19 _ ?_ k19 0 mSources mUseW mUseX mEndUse _ _ _ (lv_sub hl [1, 0] rfl) hP hD hS hw
  intro v1_x95 mSources_x95 mUseW_x95 mUseX_x95 mEndUse_x95 ls H locs hl hP hD hS hw
  try dsimp only at hw
  refine lv_aload_n hx hb dMd_build_95 rfl (lv_at hl 0 rfl) ?_
  refine lv_iconst (v := 1) hx hb dMd_build_96 (by decide) ?_
  refine va_put (D := D) (ci := 7) (v := .int (bI true)) (ty := .boolean) (C := "OnceNamedModel") (T := TX7) (N := 34) hx hb hts (fun w h => List.mem_cons_of_mem _ (inX7 w h)) tyX7 tyX7_ok nmX7 hown hK hP hD hS 0 rfl rfl 14 (by decide) (hts _ (List.mem_cons_of_mem _ kw_999)) (fun _ h9 => h9) rfl (by decide +kernel) (bI_nar _) (bI_fit _) (Nat.le_of_ble_eq_true rfl) dMd_build_97 (fun H locs hP hD hS => ?_)
  have hP : va_P D vwCl (wdMd_build cA cB bd N 0 mReached_6 true mSlot mOver mMany mKinds mVs mWs mXs mEnds mEndVariable mYes mNo mDominators_6 mMeets_14 mSources_x95 mSet_14 mUseW_x95 mUseX_x95 mEndUse_x95 mGone_14 mIsName_14 mNameBlock_14 mNameStep_14 mNumbers_14 mOpen_14) H := hP
  have hD : va_D A (wdMd_build cA cB bd N 0 mReached_6 true mSlot mOver mMany mKinds mVs mWs mXs mEnds mEndVariable mYes mNo mDominators_6 mMeets_14 mSources_x95 mSet_14 mUseW_x95 mUseX_x95 mEndUse_x95 mGone_14 mIsName_14 mNameBlock_14 mNameStep_14 mNumbers_14 mOpen_14) := hD
  refine lv_iconst (v := 0) hx hb dMd_build_100 (by decide) ?_
  refine lv_istore_n (lv' := [(1, .int 0), (0, .ref (bd 0))]) hx hb dMd_build_101 rfl hl (by decide) rfl (fun ls hl => ?_)
  refine lv_iconst (v := 0) hx hb dMd_build_102 (by decide) ?_
  refine lv_istore_n (lv' := [(2, .int 0), (1, .int 0), (0, .ref (bd 0))]) hx hb dMd_build_103 rfl hl (by decide) rfl (fun ls hl => ?_)
  obtain ⟨k104, hw⟩ := hw
  have hlp104 : ∀ (k : Nat), ∀ (v1_L104 : Int32) (v2_L104 : Int32) (ls : Array Slot) (H : Heap) (locs : List Loc), lv_has ls 3 [(0, .ref (bd 0)), (1, .int v1_L104), (2, .int v2_L104)] → va_P D vwCl (wdMd_build cA cB bd N 0 mReached_6 true mSlot mOver mMany mKinds mVs mWs mXs mEnds mEndVariable mYes mNo mDominators_6 mMeets_14 mSources_x95 mSet_14 mUseW_x95 mUseX_x95 mEndUse_x95 mGone_14 mIsName_14 mNameBlock_14 mNameStep_14 mNumbers_14 mOpen_14) H → va_D A (wdMd_build cA cB bd N 0 mReached_6 true mSlot mOver mMany mKinds mVs mWs mXs mEnds mEndVariable mYes mNo mDominators_6 mMeets_14 mSources_x95 mSet_14 mUseW_x95 mUseX_x95 mEndUse_x95 mGone_14 mIsName_14 mNameBlock_14 mNameStep_14 mNumbers_14 mOpen_14) → va_S A s.heap H locs → lpMd_build_104 0 mReached_6 true mDominators_6 mMeets_14 mSources_x95 mSet_14 mUseW_x95 mUseX_x95 mEndUse_x95 mGone_14 mIsName_14 mNameBlock_14 mNameStep_14 mNumbers_14 mOpen_14 post k v1_L104 v2_L104 → W p l e (headSpec (Cond.code yMd_build cMd_build 3 (some .int) :: xW) rmMd_build).room s m ([.ref (bd 0)] : List Value).toArray below meth c H locs 0 0 Q (F0 m 104 ls []) := by
    intro k
    induction k with
    | zero => intro v1_L104 v2_L104 ls H locs hl hP hD hS hw; exact False.elim hw
    | succ k ih =>
      intro v1_L104 v2_L104 ls H locs hl hP hD hS hw
      refine lv_iload_n hx hb dMd_build_104 rfl (lv_at hl 2 rfl) ?_
      refine lv_sipush (v := 600) hx hb dMd_build_105 (by decide) ?_
      refine lv_icmp_ge (tgt := 134) hx hb dMd_build_108 rfl (fun hc => ?_) (fun hc => ?_)
      · have hw := hw.1 hc
        refine lv_iload_n hx hb dMd_build_134 rfl (lv_at hl 1 rfl) ?_
        exact hend v1_L104 0 mReached_6 true mDominators_6 mMeets_14 mSources_x95 mSet_14 mUseW_x95 mUseX_x95 mEndUse_x95 mGone_14 mIsName_14 mNameBlock_14 mNameStep_14 mNumbers_14 mOpen_14 _ _ _ _ dMd_build_135 hP hD hS hw
      · have hw := hw.2 hc
        refine lv_iload_n hx hb dMd_build_111 rfl (lv_at hl 1 rfl) ?_
        refine lv_aload_n hx hb dMd_build_112 rfl (lv_at hl 0 rfl) ?_
        refine va_get (D := D) (ci := 7) (v := .ref (bd 19)) (C := "OnceNamedModel") (T := TX7) (N := 34) hx hb hts (fun w h => List.mem_cons_of_mem _ (inX7 w h)) hown hK hP 0 rfl rfl 22 (by decide) (hts _ (List.mem_cons_of_mem _ kw_1007)) (fun _ h9 => h9) rfl dMd_build_113 ?_
        refine lv_iload_n hx hb dMd_build_116 rfl (lv_at hl 2 rfl) ?_
        have ho := hw.1
        have hw := hw.2
        refine xzald hx hb hK hP 18 1 rfl rfl ho dMd_build_117 ?_
        refine lv_if_eq (tgt := 125) hx hb dMd_build_118 rfl (fun hc => ?_) (fun hc => ?_)
        · have hw := hw.1 (bI_0 hc)
          refine lv_iconst (v := 0) hx hb dMd_build_125 (by decide) ?_
          refine lv_iadd hx hb dMd_build_126 ?_
          refine lv_topi (fun v1_127 e_v1_127 => ?_)
          have hw := hw v1_127 e_v1_127
          refine lv_istore_n (lv' := [(1, .int v1_127), (0, .ref (bd 0)), (2, .int v2_L104)]) hx hb dMd_build_127 rfl hl (by decide) rfl (fun ls hl => ?_)
          refine lv_iinc (k := 2) (v := (v2_L104 + 1)) (lv' := [(2, .int (v2_L104 + 1)), (1, .int v1_127), (0, .ref (bd 0))]) hx hb dMd_build_128 hl rfl rfl (by decide) rfl (fun ls hl => ?_)
          refine lv_goto (tgt := 104) hx hb dMd_build_131 rfl ?_
          exact ih v1_127 (v2_L104 + 1) _ _ _ (lv_sub hl [2, 1, 0] rfl) hP hD hS hw
        · have hw := hw.2 (bI_1 hc)
          refine lv_iconst (v := 1) hx hb dMd_build_121 (by decide) ?_
          refine lv_goto (tgt := 126) hx hb dMd_build_122 rfl ?_
          refine lv_iadd hx hb dMd_build_126 ?_
          refine lv_topi (fun v1_127 e_v1_127 => ?_)
          have hw := hw v1_127 e_v1_127
          refine lv_istore_n (lv' := [(1, .int v1_127), (0, .ref (bd 0)), (2, .int v2_L104)]) hx hb dMd_build_127 rfl hl (by decide) rfl (fun ls hl => ?_)
          refine lv_iinc (k := 2) (v := (v2_L104 + 1)) (lv' := [(2, .int (v2_L104 + 1)), (1, .int v1_127), (0, .ref (bd 0))]) hx hb dMd_build_128 hl rfl rfl (by decide) rfl (fun ls hl => ?_)
          refine lv_goto (tgt := 104) hx hb dMd_build_131 rfl ?_
          exact ih v1_127 (v2_L104 + 1) _ _ _ (lv_sub hl [2, 1, 0] rfl) hP hD hS hw
  refine hlp104 k104 0 0 _ _ _ (lv_sub hl [2, 1, 0] rfl) hP hD hS hw
abbrev wdMd_before (cA : ClassId) (cB : ClassId) (bd : Nat → Nat) (N : Nat) (mThrown : Int32) (mReached : Int32) (mForm : Bool) (mSlot : Int32) (mOver : Bool) (mDominators : Nat → Int32) (mNameBlock : Nat → Int32) (mNameStep : Nat → Int32) : va_W := [((bd 0), .inr (7, [.int mThrown, .int (nI N), .ref (bd 1), .ref (bd 2), .ref (bd 3), .ref (bd 4), .ref (bd 5), .ref (bd 6), .ref (bd 7), .ref (bd 8), .ref (bd 9), .ref (bd 10), .int mReached, .ref (bd 11), .int (bI mForm), .ref (bd 12), .ref (bd 13), .ref (bd 14), .ref (bd 15), .ref (bd 16), .ref (bd 17), .ref (bd 18), .ref (bd 19), .ref (bd 20), .ref (bd 21), .ref (bd 22), .ref (bd 23), .ref (bd 24), .ref (bd 25), .ref (bd 26), .ref (bd 27), .ref (bd 28), .int mSlot, .int (bI mOver)])), ((bd 11), .inl (cA, 12, .inl mDominators)), ((bd 20), .inl (cA, 600, .inl mNameBlock)), ((bd 21), .inl (cA, 600, .inl mNameStep))]
abbrev qcMd_before (D : va_G) (cA : ClassId) (cB : ClassId) (bd : Nat → Nat) (N : Nat) (mThrown : Int32) (mReached : Int32) (mForm : Bool) (mSlot : Int32) (mOver : Bool) (mDominators : Nat → Int32) (mNameBlock : Nat → Int32) (mNameStep : Nat → Int32) (post : Bool → Prop) (A : Nat → Prop) : Array Value → State → Outcome → State → Prop := va_Qi (S := Unit) (fun r u => ∃ z : Bool, r = bI z ∧ post z ) (fun u t => xB D [(cA, .int), (cB, .boolean)] A (wdMd_before cA cB bd N mThrown mReached mForm mSlot mOver mDominators mNameBlock mNameStep) t) A
abbrev rmMd_before : Room := { frames := 2, cells := 0, slots := 0, locals := 44 }
set_option maxHeartbeats 4000000 in
set_option maxRecDepth 100000 in
theorem ktMd_before (l : Launch) (D : va_G) (cA : ClassId) (cB : ClassId) (bd : Nat → Nat) (N : Nat) (sz : Nat) (mThrown : Int32) (mReached : Int32) (mForm : Bool) (mSlot : Int32) (mOver : Bool) (mDominators : Nat → Int32) (mNameBlock : Nat → Int32) (mNameStep : Nat → Int32) (v1 : Int32) (v2 : Int32) (v3 : Int32) (post : Bool → Prop) (hw : wpMd_before N mDominators mNameBlock mNameStep v1 v2 v3 post) : Met l yMd_before (Cond.code yMd_before cMd_before 5 (some .boolean) :: xW) rmMd_before (va_Pc [.ref (bd 0), .int v1, .int v2, .int v3] (xPc D [(cA, .int), (cB, .boolean)] (wdMd_before cA cB bd N mThrown mReached mForm mSlot mOver mDominators mNameBlock mNameStep) sz)) (qcMd_before D cA cB bd N mThrown mReached mForm mSlot mOver mDominators mNameBlock mNameStep post (va_A (wdMd_before cA cB bd N mThrown mReached mForm mSlot mOver mDominators mNameBlock mNameStep) sz)) 0 0 (va_A (wdMd_before cA cB bd N mThrown mReached mForm mSlot mOver mDominators mNameBlock mNameStep) sz) := by
  refine Met.ofW (cc := cMd_before) (maxL := 5) (ret := (some .boolean)) (by decide) rfl ?_
  intro p e s m args below meth c s₁ B hml hv
  obtain ⟨rfl, hsz, hP, hK, hD0, hN⟩ := hv
  have hx := B.exec
  have hb := B.bytes
  have hr := B.returns
  have hts := atoms_spec (ws := (Cond.code yMd_before cMd_before 5 (some .boolean) :: xW)) B.pre
  have hown : s.vm.findClass "OnceNamedModel" = some m.cls := findClass_of_methodNamed B.named
  have hlocks := B.notSynchronized
  subst hsz
  have hD := hD0.self (sz := s.heap.size)
  generalize hAe : va_A (wdMd_before cA cB bd N mThrown mReached mForm mSlot mOver mDominators mNameBlock mNameStep) s.heap.size = A at hD ⊢
  have hA : ∀ q : Nat, s.heap.size ≤ q → A q := fun q h => by rw [← hAe]; exact Or.inr h
  have hS : va_S A s.heap s.heap [] := va_S.rf
  have hend : ∀ (r : Bool)  (H : Heap) (locs : List Loc) (pc : Nat) (ls : Array Slot), decode cMd_before pc = .ok (.ireturn, 1) → va_P D vwCl (wdMd_before cA cB bd N mThrown mReached mForm mSlot mOver mDominators mNameBlock mNameStep) H → va_D A (wdMd_before cA cB bd N mThrown mReached mForm mSlot mOver mDominators mNameBlock mNameStep) → va_S A s.heap H locs → post r  → W p l e (headSpec (Cond.code yMd_before cMd_before 5 (some .boolean) :: xW) rmMd_before).room s m ([.ref (bd 0), .int v1, .int v2, .int v3] : List Value).toArray below meth c H locs 0 0 (MQ below (qcMd_before D cA cB bd N mThrown mReached mForm mSlot mOver mDominators mNameBlock mNameStep post A) ([.ref (bd 0), .int v1, .int v2, .int v3] : List Value).toArray s 0 0 A) (F0 m pc ls [.int (bI r)]) := fun r  H locs pc ls hd hP hD hS hw => W.zret (v := bI r) hx hb hr (bI_nar r) (fun t ht hW => ⟨⟨bI r, (), rfl, ⟨r, rfl, hw⟩, ⟨by rw [ht]; exact hP, va_K.moved hW.alike hK, hD⟩⟩, hS.F ht⟩) hS.2.2 hd
  generalize hQ : MQ below (qcMd_before D cA cB bd N mThrown mReached mForm mSlot mOver mDominators mNameBlock mNameStep post A) ([.ref (bd 0), .int v1, .int v2, .int v3] : List Value).toArray s 0 0 A = Q at hend ⊢
  have hl := lv_entry ([.ref (bd 0), .int v1, .int v2, .int v3]) (n := 5) (Nat.le_of_ble_eq_true rfl)
  rw [lg_entry_eq]
  generalize (lg_sl ([.ref (bd 0), .int v1, .int v2, .int v3]) ++ List.replicate (5 - (lg_sl ([.ref (bd 0), .int v1, .int v2, .int v3])).length) Slot.unset).toArray = ls at hl ⊢
  have hl : lv_has ls 5 [(0, .ref (bd 0)), (1, .int v1), (2, .int v2), (3, .int v3)] := hl
  unfold wpMd_before at hw
  refine lv_aload_n hx hb dMd_before_0 rfl (lv_at hl 0 rfl) ?_
  refine va_get (D := D) (ci := 7) (v := .ref (bd 20)) (C := "OnceNamedModel") (T := TX7) (N := 34) hx hb hts (fun w h => List.mem_cons_of_mem _ (inX7 w h)) hown hK hP 0 rfl rfl 23 (by decide) (hts _ (List.mem_cons_of_mem _ kw_1008)) (fun _ h9 => h9) rfl dMd_before_1 ?_
  refine lv_iload_n hx hb dMd_before_4 rfl (lv_at hl 1 rfl) ?_
  have ho := hw.1
  have hw := hw.2
  refine va_iald hx hb hK hP 2 0 rfl rfl ho dMd_before_5 ?_
  refine lv_topi (fun v4_6 e_v4_6 => ?_)
  have hw := hw v4_6 e_v4_6
  refine lv_istore (lv' := [(4, .int v4_6), (0, .ref (bd 0)), (1, .int v1), (2, .int v2), (3, .int v3)]) hx hb dMd_before_6 hl (by decide) rfl (fun ls hl => ?_)
  refine lv_iload hx hb dMd_before_8 (lv_at hl 0 rfl) ?_
  refine lv_aload_n hx hb dMd_before_10 rfl (lv_at hl 1 rfl) ?_
  refine va_get (D := D) (ci := 7) (v := .int (nI N)) (C := "OnceNamedModel") (T := TX7) (N := 34) hx hb hts (fun w h => List.mem_cons_of_mem _ (inX7 w h)) hown hK hP 0 rfl rfl 1 (by decide) (hts _ (List.mem_cons_of_mem _ kw_986)) (fun _ h9 => h9) rfl dMd_before_11 ?_
  refine lv_icmp_ne (tgt := 19) hx hb dMd_before_14 rfl (fun hc => ?_) (fun hc => ?_)
  · have hw := hw.1 hc
    refine lv_iload_n hx hb dMd_before_19 rfl (lv_at hl 3 rfl) ?_
    refine lv_aload_n hx hb dMd_before_20 rfl (lv_at hl 1 rfl) ?_
    refine va_get (D := D) (ci := 7) (v := .int (nI N)) (C := "OnceNamedModel") (T := TX7) (N := 34) hx hb hts (fun w h => List.mem_cons_of_mem _ (inX7 w h)) hown hK hP 0 rfl rfl 1 (by decide) (hts _ (List.mem_cons_of_mem _ kw_986)) (fun _ h9 => h9) rfl dMd_before_21 ?_
    refine lv_icmp_ge (tgt := 57) hx hb dMd_before_24 rfl (fun hc => ?_) (fun hc => ?_)
    · have hw := hw.1 hc
      refine lv_iconst (v := 0) hx hb dMd_before_57 (by decide) ?_
      exact hend false _ _ _ _ dMd_before_58 hP hD hS hw
    · have hw := hw.2 hc
      refine lv_aload_n hx hb dMd_before_27 rfl (lv_at hl 1 rfl) ?_
      refine lv_iload hx hb dMd_before_28 (lv_at hl 0 rfl) ?_
      refine lv_iload_n hx hb dMd_before_30 rfl (lv_at hl 3 rfl) ?_
      refine xci (va_runV ⟨hx, hb, hml, hown, hts⟩ (ktMd_strictly l D cA cB bd N _ mThrown mReached mForm mSlot mOver mDominators v4_6 v2 _ hw) (cwV 2 hts (goodV kw_1157 kw_1159 ks_4_4 kw_11 kw_1160) rfl rfl rfl (by decide +kernel) ⟨Nat.le_of_ble_eq_true rfl, Nat.le_of_ble_eq_true rfl⟩) (xpreV hK hP hD hN [0, 1] rfl rfl 0 rfl rfl) rfl rfl hl.1 rfl (lv_room (Nat.le_of_ble_eq_true rfl)) dMd_before_31 ⟨Nat.le_of_ble_eq_true rfl, Nat.le_of_ble_eq_true rfl⟩) hP hD hS hA [0, 1] [2, 3] rfl rfl rfl rfl [2, 3, 0, 1] rfl (fun _ => rfl) (fun r31 u H locs hw hP hD hS => ?_)
      obtain ⟨r31, rfl, hw⟩ := hw
      have hP : va_P D vwCl (wdMd_before cA cB bd N mThrown mReached mForm mSlot mOver mDominators mNameBlock mNameStep) H := hP
      have hD : va_D A (wdMd_before cA cB bd N mThrown mReached mForm mSlot mOver mDominators mNameBlock mNameStep) := hD
      refine lv_if_ne (tgt := 53) hx hb dMd_before_34 rfl (fun hc => ?_) (fun hc => ?_)
      · have hw := hw.1 (bI_1 hc)
        refine lv_iconst (v := 1) hx hb dMd_before_53 (by decide) ?_
        refine lv_goto (tgt := 58) hx hb dMd_before_54 rfl ?_
        exact hend true _ _ _ _ dMd_before_58 hP hD hS hw
      · have hw := hw.2 (bI_0 hc)
        refine lv_iload hx hb dMd_before_37 (lv_at hl 0 rfl) ?_
        refine lv_iload_n hx hb dMd_before_39 rfl (lv_at hl 3 rfl) ?_
        refine lv_icmp_ne (tgt := 57) hx hb dMd_before_40 rfl (fun hc => ?_) (fun hc => ?_)
        · have hw := hw.1 hc
          refine lv_iconst (v := 0) hx hb dMd_before_57 (by decide) ?_
          exact hend false _ _ _ _ dMd_before_58 hP hD hS hw
        · have hw := hw.2 hc
          refine lv_aload_n hx hb dMd_before_43 rfl (lv_at hl 1 rfl) ?_
          refine va_get (D := D) (ci := 7) (v := .ref (bd 21)) (C := "OnceNamedModel") (T := TX7) (N := 34) hx hb hts (fun w h => List.mem_cons_of_mem _ (inX7 w h)) hown hK hP 0 rfl rfl 24 (by decide) (hts _ (List.mem_cons_of_mem _ kw_1009)) (fun _ h9 => h9) rfl dMd_before_44 ?_
          refine lv_iload_n hx hb dMd_before_47 rfl (lv_at hl 2 rfl) ?_
          have ho := hw.1
          have hw := hw.2
          refine va_iald hx hb hK hP 3 0 rfl rfl ho dMd_before_48 ?_
          refine lv_iload_n hx hb dMd_before_49 rfl (lv_at hl 4 rfl) ?_
          refine lv_icmp_ge (tgt := 57) hx hb dMd_before_50 rfl (fun hc => ?_) (fun hc => ?_)
          · have hw := hw.1 hc
            refine lv_iconst (v := 0) hx hb dMd_before_57 (by decide) ?_
            exact hend false _ _ _ _ dMd_before_58 hP hD hS hw
          · have hw := hw.2 hc
            refine lv_iconst (v := 1) hx hb dMd_before_53 (by decide) ?_
            refine lv_goto (tgt := 58) hx hb dMd_before_54 rfl ?_
            exact hend true _ _ _ _ dMd_before_58 hP hD hS hw
  · have hw := hw.2 hc
    refine lv_iconst (v := 1) hx hb dMd_before_17 (by decide) ?_
    exact hend true _ _ _ _ dMd_before_18 hP hD hS hw
abbrev wdMd_isValid (cA : ClassId) (cB : ClassId) (bd : Nat → Nat) (N : Nat) (mThrown : Int32) (mReached : Int32) (mForm : Bool) (mSlot : Int32) (mOver : Bool) (mMany : Nat → Int32) (mEnds : Nat → Int32) (mYes : Nat → Int32) (mNo : Nat → Int32) (mDominators : Nat → Int32) (mMeets : Nat → Int32) (mSources : Nat → Int32) (mUseW : Nat → Int32) (mUseX : Nat → Int32) (mEndUse : Nat → Int32) (mNameBlock : Nat → Int32) (mNameStep : Nat → Int32) : va_W := [((bd 0), .inr (7, [.int mThrown, .int (nI N), .ref (bd 1), .ref (bd 2), .ref (bd 3), .ref (bd 4), .ref (bd 5), .ref (bd 6), .ref (bd 7), .ref (bd 8), .ref (bd 9), .ref (bd 10), .int mReached, .ref (bd 11), .int (bI mForm), .ref (bd 12), .ref (bd 13), .ref (bd 14), .ref (bd 15), .ref (bd 16), .ref (bd 17), .ref (bd 18), .ref (bd 19), .ref (bd 20), .ref (bd 21), .ref (bd 22), .ref (bd 23), .ref (bd 24), .ref (bd 25), .ref (bd 26), .ref (bd 27), .ref (bd 28), .int mSlot, .int (bI mOver)])), ((bd 1), .inl (cA, 12, .inl mMany)), ((bd 6), .inl (cA, 12, .inl mEnds)), ((bd 8), .inl (cA, 12, .inl mYes)), ((bd 9), .inl (cA, 12, .inl mNo)), ((bd 11), .inl (cA, 12, .inl mDominators)), ((bd 12), .inl (cA, 72, .inl mMeets)), ((bd 13), .inl (cA, 936, .inl mSources)), ((bd 15), .inl (cA, 72, .inl mUseW)), ((bd 16), .inl (cA, 72, .inl mUseX)), ((bd 17), .inl (cA, 12, .inl mEndUse)), ((bd 20), .inl (cA, 600, .inl mNameBlock)), ((bd 21), .inl (cA, 600, .inl mNameStep))]
abbrev qcMd_isValid (D : va_G) (cA : ClassId) (cB : ClassId) (bd : Nat → Nat) (N : Nat) (mThrown : Int32) (mReached : Int32) (mForm : Bool) (mSlot : Int32) (mOver : Bool) (mMany : Nat → Int32) (mEnds : Nat → Int32) (mYes : Nat → Int32) (mNo : Nat → Int32) (mDominators : Nat → Int32) (mMeets : Nat → Int32) (mSources : Nat → Int32) (mUseW : Nat → Int32) (mUseX : Nat → Int32) (mEndUse : Nat → Int32) (mNameBlock : Nat → Int32) (mNameStep : Nat → Int32) (post : Bool → Int32 → (Nat → Int32) → Prop) (A : Nat → Prop) : Array Value → State → Outcome → State → Prop := va_Qi (S := (Int32) × (Nat → Int32)) (fun r u => ∃ z : Bool, r = bI z ∧ post z u.1 u.2) (fun u t => xB D [(cA, .int), (cB, .boolean)] A (wdMd_isValid cA cB bd N mThrown u.1 mForm mSlot mOver mMany mEnds mYes mNo u.2 mMeets mSources mUseW mUseX mEndUse mNameBlock mNameStep) t) A
abbrev rmMd_isValid : Room := { frames := 3, cells := 0, slots := 0, locals := 69 }
set_option maxHeartbeats 4000000 in
set_option maxRecDepth 100000 in
theorem ktMd_isValid (l : Launch) (D : va_G) (cA : ClassId) (cB : ClassId) (bd : Nat → Nat) (N : Nat) (sz : Nat) (mThrown : Int32) (mReached : Int32) (mForm : Bool) (mSlot : Int32) (mOver : Bool) (mMany : Nat → Int32) (mEnds : Nat → Int32) (mYes : Nat → Int32) (mNo : Nat → Int32) (mDominators : Nat → Int32) (mMeets : Nat → Int32) (mSources : Nat → Int32) (mUseW : Nat → Int32) (mUseX : Nat → Int32) (mEndUse : Nat → Int32) (mNameBlock : Nat → Int32) (mNameStep : Nat → Int32)  (post : Bool → Int32 → (Nat → Int32) → Prop) (hw : wpMd_isValid N mMany mEnds mYes mNo mDominators mMeets mSources mUseW mUseX mEndUse mNameBlock mNameStep post) : Met l yMd_isValid (Cond.code yMd_isValid cMd_isValid 6 (some .boolean) :: xW) rmMd_isValid (va_Pc [.ref (bd 0)] (xPc D [(cA, .int), (cB, .boolean)] (wdMd_isValid cA cB bd N mThrown mReached mForm mSlot mOver mMany mEnds mYes mNo mDominators mMeets mSources mUseW mUseX mEndUse mNameBlock mNameStep) sz)) (qcMd_isValid D cA cB bd N mThrown mReached mForm mSlot mOver mMany mEnds mYes mNo mDominators mMeets mSources mUseW mUseX mEndUse mNameBlock mNameStep post (va_A (wdMd_isValid cA cB bd N mThrown mReached mForm mSlot mOver mMany mEnds mYes mNo mDominators mMeets mSources mUseW mUseX mEndUse mNameBlock mNameStep) sz)) 0 0 (va_A (wdMd_isValid cA cB bd N mThrown mReached mForm mSlot mOver mMany mEnds mYes mNo mDominators mMeets mSources mUseW mUseX mEndUse mNameBlock mNameStep) sz) := by
  refine Met.ofW (cc := cMd_isValid) (maxL := 6) (ret := (some .boolean)) (by decide) rfl ?_
  intro p e s m args below meth c s₁ B hml hv
  obtain ⟨rfl, hsz, hP, hK, hD0, hN⟩ := hv
  have hx := B.exec
  have hb := B.bytes
  have hr := B.returns
  have hts := atoms_spec (ws := (Cond.code yMd_isValid cMd_isValid 6 (some .boolean) :: xW)) B.pre
  have hown : s.vm.findClass "OnceNamedModel" = some m.cls := findClass_of_methodNamed B.named
  have hlocks := B.notSynchronized
  subst hsz
  have hD := hD0.self (sz := s.heap.size)
  generalize hAe : va_A (wdMd_isValid cA cB bd N mThrown mReached mForm mSlot mOver mMany mEnds mYes mNo mDominators mMeets mSources mUseW mUseX mEndUse mNameBlock mNameStep) s.heap.size = A at hD ⊢
  have hA : ∀ q : Nat, s.heap.size ≤ q → A q := fun q h => by rw [← hAe]; exact Or.inr h
  have hS : va_S A s.heap s.heap [] := va_S.rf
  have hend : ∀ (r : Bool) (u0 : Int32) (u1 : Nat → Int32) (H : Heap) (locs : List Loc) (pc : Nat) (ls : Array Slot), decode cMd_isValid pc = .ok (.ireturn, 1) → va_P D vwCl (wdMd_isValid cA cB bd N mThrown u0 mForm mSlot mOver mMany mEnds mYes mNo u1 mMeets mSources mUseW mUseX mEndUse mNameBlock mNameStep) H → va_D A (wdMd_isValid cA cB bd N mThrown u0 mForm mSlot mOver mMany mEnds mYes mNo u1 mMeets mSources mUseW mUseX mEndUse mNameBlock mNameStep) → va_S A s.heap H locs → post r u0 u1 → W p l e (headSpec (Cond.code yMd_isValid cMd_isValid 6 (some .boolean) :: xW) rmMd_isValid).room s m ([.ref (bd 0)] : List Value).toArray below meth c H locs 0 0 (MQ below (qcMd_isValid D cA cB bd N mThrown mReached mForm mSlot mOver mMany mEnds mYes mNo mDominators mMeets mSources mUseW mUseX mEndUse mNameBlock mNameStep post A) ([.ref (bd 0)] : List Value).toArray s 0 0 A) (F0 m pc ls [.int (bI r)]) := fun r u0 u1 H locs pc ls hd hP hD hS hw => W.zret (v := bI r) hx hb hr (bI_nar r) (fun t ht hW => ⟨⟨bI r, (u0, u1), rfl, ⟨r, rfl, hw⟩, ⟨by rw [ht]; exact hP, va_K.moved hW.alike hK, hD⟩⟩, hS.F ht⟩) hS.2.2 hd
  generalize hQ : MQ below (qcMd_isValid D cA cB bd N mThrown mReached mForm mSlot mOver mMany mEnds mYes mNo mDominators mMeets mSources mUseW mUseX mEndUse mNameBlock mNameStep post A) ([.ref (bd 0)] : List Value).toArray s 0 0 A = Q at hend ⊢
  have hl := lv_entry ([.ref (bd 0)]) (n := 6) (Nat.le_of_ble_eq_true rfl)
  rw [lg_entry_eq]
  generalize (lg_sl ([.ref (bd 0)]) ++ List.replicate (6 - (lg_sl ([.ref (bd 0)])).length) Slot.unset).toArray = ls at hl ⊢
  have hl : lv_has ls 6 [(0, .ref (bd 0))] := hl
  unfold wpMd_isValid at hw
  refine lv_aload_n hx hb dMd_isValid_0 rfl (lv_at hl 0 rfl) ?_
  refine xcv (va_runV ⟨hx, hb, hml, hown, hts⟩ (ktMd_look l D cA cB bd N _ mThrown mReached mForm mSlot mOver mEnds mYes mNo mDominators _ hw) (cwV 0 hts (goodV kw_1125 kw_1127 ks_3_14 kw_11 kw_1128) rfl rfl rfl (by decide +kernel) ⟨Nat.le_of_ble_eq_true rfl, Nat.le_of_ble_eq_true rfl⟩) (xpreV hK hP hD hN [0, 2, 3, 4, 5] rfl rfl 0 rfl rfl) rfl rfl hl.1 rfl (lv_room (Nat.le_of_ble_eq_true rfl)) dMd_isValid_1 ⟨Nat.le_of_ble_eq_true rfl, Nat.le_of_ble_eq_true rfl⟩) hP hD hS hA [0, 2, 3, 4, 5] [1, 6, 7, 8, 9, 10, 11, 12] rfl rfl rfl rfl [8, 0, 9, 10, 11, 12, 1, 2, 3, 4, 5, 6, 7] rfl (fun _ => rfl) (fun u H locs hw hP hD hS => ?_)
  obtain ⟨mReached_1, mDominators_1⟩ := u
  try dsimp only at hw
  have hP : va_P D vwCl (wdMd_isValid cA cB bd N mThrown mReached_1 mForm mSlot mOver mMany mEnds mYes mNo mDominators_1 mMeets mSources mUseW mUseX mEndUse mNameBlock mNameStep) H := hP
  have hD : va_D A (wdMd_isValid cA cB bd N mThrown mReached_1 mForm mSlot mOver mMany mEnds mYes mNo mDominators_1 mMeets mSources mUseW mUseX mEndUse mNameBlock mNameStep) := hD
  refine lv_iconst (v := 1) hx hb dMd_isValid_4 (by decide) ?_
  refine lv_istore_n (lv' := [(1, .int 1), (0, .ref (bd 0))]) hx hb dMd_isValid_5 rfl hl (by decide) rfl (fun ls hl => ?_)
  refine lv_iconst (v := 0) hx hb dMd_isValid_6 (by decide) ?_
  refine lv_istore_n (lv' := [(2, .int 0), (1, .int 1), (0, .ref (bd 0))]) hx hb dMd_isValid_7 rfl hl (by decide) rfl (fun ls hl => ?_)
  obtain ⟨k8, hw⟩ := hw
  have hlp8 : ∀ (k : Nat), ∀ (v1_L8 : Bool) (v2_L8 : Int32) (ls : Array Slot) (H : Heap) (locs : List Loc), lv_has ls 6 [(0, .ref (bd 0)), (1, .int (bI v1_L8)), (2, .int v2_L8)] → va_P D vwCl (wdMd_isValid cA cB bd N mThrown mReached_1 mForm mSlot mOver mMany mEnds mYes mNo mDominators_1 mMeets mSources mUseW mUseX mEndUse mNameBlock mNameStep) H → va_D A (wdMd_isValid cA cB bd N mThrown mReached_1 mForm mSlot mOver mMany mEnds mYes mNo mDominators_1 mMeets mSources mUseW mUseX mEndUse mNameBlock mNameStep) → va_S A s.heap H locs → lpMd_isValid_8 N mReached_1 mMany mDominators_1 mMeets mSources mUseW mUseX mEndUse mNameBlock mNameStep post k v1_L8 v2_L8 → W p l e (headSpec (Cond.code yMd_isValid cMd_isValid 6 (some .boolean) :: xW) rmMd_isValid).room s m ([.ref (bd 0)] : List Value).toArray below meth c H locs 0 0 Q (F0 m 8 ls []) := by
    intro k
    induction k with
    | zero => intro v1_L8 v2_L8 ls H locs hl hP hD hS hw; exact False.elim hw
    | succ k ih =>
      intro v1_L8 v2_L8 ls H locs hl hP hD hS hw
      refine lv_iload_n hx hb dMd_isValid_8 rfl (lv_at hl 2 rfl) ?_
      refine lv_aload_n hx hb dMd_isValid_9 rfl (lv_at hl 0 rfl) ?_
      refine va_get (D := D) (ci := 7) (v := .int (nI N)) (C := "OnceNamedModel") (T := TX7) (N := 34) hx hb hts (fun w h => List.mem_cons_of_mem _ (inX7 w h)) hown hK hP 0 rfl rfl 1 (by decide) (hts _ (List.mem_cons_of_mem _ kw_986)) (fun _ h9 => h9) rfl dMd_isValid_10 ?_
      refine lv_icmp_ge (tgt := 238) hx hb dMd_isValid_13 rfl (fun hc => ?_) (fun hc => ?_)
      · have hw := hw.1 hc
        refine lv_iload_n hx hb dMd_isValid_238 rfl (lv_at hl 1 rfl) ?_
        exact hend v1_L8 mReached_1 mDominators_1 _ _ _ _ dMd_isValid_239 hP hD hS hw
      · have hw := hw.2 hc
        refine lv_iconst (v := 0) hx hb dMd_isValid_16 (by decide) ?_
        refine lv_istore_n (lv' := [(3, .int 0), (0, .ref (bd 0)), (1, .int (bI v1_L8)), (2, .int v2_L8)]) hx hb dMd_isValid_17 rfl hl (by decide) rfl (fun ls hl => ?_)
        obtain ⟨k18, hw⟩ := hw
        have hlp18 : ∀ (K104 : Bool → Int32 → Prop), (∀ (v1_x104 : Bool) (v3_x104 : Int32) (ls : Array Slot) (H : Heap) (locs : List Loc), lv_has ls 6 [(0, .ref (bd 0)), (1, .int (bI v1_x104)), (2, .int v2_L8), (3, .int v3_x104)] → va_P D vwCl (wdMd_isValid cA cB bd N mThrown mReached_1 mForm mSlot mOver mMany mEnds mYes mNo mDominators_1 mMeets mSources mUseW mUseX mEndUse mNameBlock mNameStep) H → va_D A (wdMd_isValid cA cB bd N mThrown mReached_1 mForm mSlot mOver mMany mEnds mYes mNo mDominators_1 mMeets mSources mUseW mUseX mEndUse mNameBlock mNameStep) → va_S A s.heap H locs → K104 v1_x104 v3_x104 → W p l e (headSpec (Cond.code yMd_isValid cMd_isValid 6 (some .boolean) :: xW) rmMd_isValid).room s m ([.ref (bd 0)] : List Value).toArray below meth c H locs 0 0 Q (F0 m 104 ls [])) → ∀ (k : Nat), ∀ (v1_L18 : Bool) (v3_L18 : Int32) (ls : Array Slot) (H : Heap) (locs : List Loc), lv_has ls 6 [(0, .ref (bd 0)), (1, .int (bI v1_L18)), (2, .int v2_L8), (3, .int v3_L18)] → va_P D vwCl (wdMd_isValid cA cB bd N mThrown mReached_1 mForm mSlot mOver mMany mEnds mYes mNo mDominators_1 mMeets mSources mUseW mUseX mEndUse mNameBlock mNameStep) H → va_D A (wdMd_isValid cA cB bd N mThrown mReached_1 mForm mSlot mOver mMany mEnds mYes mNo mDominators_1 mMeets mSources mUseW mUseX mEndUse mNameBlock mNameStep) → va_S A s.heap H locs → lpMd_isValid_18 N v2_L8 mMany mDominators_1 mUseW mUseX mNameBlock mNameStep K104 k v1_L18 v3_L18 → W p l e (headSpec (Cond.code yMd_isValid cMd_isValid 6 (some .boolean) :: xW) rmMd_isValid).room s m ([.ref (bd 0)] : List Value).toArray below meth c H locs 0 0 Q (F0 m 18 ls []) := by
          intro K104 hK104 k
          induction k with
          | zero => intro v1_L18 v3_L18 ls H locs hl hP hD hS hw; exact False.elim hw
          | succ k ih =>
            intro v1_L18 v3_L18 ls H locs hl hP hD hS hw
            refine lv_iload_n hx hb dMd_isValid_18 rfl (lv_at hl 3 rfl) ?_
            refine lv_aload_n hx hb dMd_isValid_19 rfl (lv_at hl 0 rfl) ?_
            refine va_get (D := D) (ci := 7) (v := .ref (bd 1)) (C := "OnceNamedModel") (T := TX7) (N := 34) hx hb hts (fun w h => List.mem_cons_of_mem _ (inX7 w h)) hown hK hP 0 rfl rfl 2 (by decide) (hts _ (List.mem_cons_of_mem _ kw_987)) (fun _ h9 => h9) rfl dMd_isValid_20 ?_
            refine lv_iload_n hx hb dMd_isValid_23 rfl (lv_at hl 2 rfl) ?_
            have ho := hw.1
            have hw := hw.2
            refine va_iald hx hb hK hP 1 0 rfl rfl ho dMd_isValid_24 ?_
            refine lv_icmp_ge (tgt := 104) hx hb dMd_isValid_25 rfl (fun hc => ?_) (fun hc => ?_)
            · have hw := hw.1 hc
              exact hK104 v1_L18 v3_L18 _ _ _ (lv_sub hl [0, 1, 2, 3] rfl) hP hD hS hw
            · have hw := hw.2 hc
              refine lv_bipush (v := 6) hx hb dMd_isValid_28 (by decide) ?_
              refine lv_iload_n hx hb dMd_isValid_30 rfl (lv_at hl 2 rfl) ?_
              refine lv_imul hx hb dMd_isValid_31 ?_
              refine lv_iload_n hx hb dMd_isValid_32 rfl (lv_at hl 3 rfl) ?_
              refine lv_iadd hx hb dMd_isValid_33 ?_
              refine lv_topi (fun v4_34 e_v4_34 => ?_)
              have hw := hw v4_34 e_v4_34
              refine lv_istore (lv' := [(4, .int v4_34), (0, .ref (bd 0)), (1, .int (bI v1_L18)), (2, .int v2_L8), (3, .int v3_L18)]) hx hb dMd_isValid_34 hl (by decide) rfl (fun ls hl => ?_)
              refine lv_iload_n hx hb dMd_isValid_36 rfl (lv_at hl 2 rfl) ?_
              refine lv_if_eq (tgt := 96) hx hb dMd_isValid_37 rfl (fun hc => ?_) (fun hc => ?_)
              · have hw := hw.1 (bI_0 hc)
                refine lv_iconst (v := 0) hx hb dMd_isValid_96 (by decide) ?_
                refine lv_istore_n (lv' := [(1, .int 0), (4, .int v4_34), (0, .ref (bd 0)), (2, .int v2_L8), (3, .int v3_L18)]) hx hb dMd_isValid_97 rfl hl (by decide) rfl (fun ls hl => ?_)
                refine lv_iinc (k := 4) (v := (v3_L18 + 1)) (lv' := [(3, .int (v3_L18 + 1)), (1, .int 0), (4, .int v4_34), (0, .ref (bd 0)), (2, .int v2_L8)]) hx hb dMd_isValid_98 hl rfl rfl (by decide) rfl (fun ls hl => ?_)
                refine lv_goto (tgt := 18) hx hb dMd_isValid_101 rfl ?_
                exact ih false (v3_L18 + 1) _ _ _ (lv_sub hl [3, 1, 4, 0] rfl) hP hD hS hw
              · have hw := hw.2 (bI_1 hc)
                refine lv_aload_n hx hb dMd_isValid_40 rfl (lv_at hl 1 rfl) ?_
                refine va_get (D := D) (ci := 7) (v := .ref (bd 15)) (C := "OnceNamedModel") (T := TX7) (N := 34) hx hb hts (fun w h => List.mem_cons_of_mem _ (inX7 w h)) hown hK hP 0 rfl rfl 18 (by decide) (hts _ (List.mem_cons_of_mem _ kw_1003)) (fun _ h9 => h9) rfl dMd_isValid_41 ?_
                refine lv_iload hx hb dMd_isValid_44 (lv_at hl 0 rfl) ?_
                have ho := hw.1
                have hw := hw.2
                refine va_iald hx hb hK hP 8 0 rfl rfl ho dMd_isValid_46 ?_
                obtain ⟨J66, hJ66, hw⟩ := hw
                have hj66 : ∀  (ls : Array Slot) (H : Heap) (locs : List Loc), lv_has ls 6 [(0, .ref (bd 0)), (1, .int (bI v1_L18)), (2, .int v2_L8), (3, .int v3_L18), (4, .int v4_34)] → va_P D vwCl (wdMd_isValid cA cB bd N mThrown mReached_1 mForm mSlot mOver mMany mEnds mYes mNo mDominators_1 mMeets mSources mUseW mUseX mEndUse mNameBlock mNameStep) H → va_D A (wdMd_isValid cA cB bd N mThrown mReached_1 mForm mSlot mOver mMany mEnds mYes mNo mDominators_1 mMeets mSources mUseW mUseX mEndUse mNameBlock mNameStep) → va_S A s.heap H locs → J66 → W p l e (headSpec (Cond.code yMd_isValid cMd_isValid 6 (some .boolean) :: xW) rmMd_isValid).room s m ([.ref (bd 0)] : List Value).toArray below meth c H locs 0 0 Q (F0 m 66 ls []) := by
                  intro  ls H locs hl hP hD hS hw
                  have hw := hJ66  hw
                  refine lv_aload_n hx hb dMd_isValid_66 rfl (lv_at hl 0 rfl) ?_
                  refine va_get (D := D) (ci := 7) (v := .ref (bd 16)) (C := "OnceNamedModel") (T := TX7) (N := 34) hx hb hts (fun w h => List.mem_cons_of_mem _ (inX7 w h)) hown hK hP 0 rfl rfl 19 (by decide) (hts _ (List.mem_cons_of_mem _ kw_1004)) (fun _ h9 => h9) rfl dMd_isValid_67 ?_
                  refine lv_iload hx hb dMd_isValid_70 (lv_at hl 4 rfl) ?_
                  have ho := hw.1
                  have hw := hw.2
                  refine va_iald hx hb hK hP 9 0 rfl rfl ho dMd_isValid_72 ?_
                  refine lv_if_lt (tgt := 92) hx hb dMd_isValid_73 rfl (fun hc => ?_) (fun hc => ?_)
                  · have hw := hw.1 hc
                    refine lv_iconst (v := 1) hx hb dMd_isValid_92 (by decide) ?_
                    refine lv_goto (tgt := 97) hx hb dMd_isValid_93 rfl ?_
                    refine lv_istore_n (lv' := [(1, .int 1), (0, .ref (bd 0)), (2, .int v2_L8), (3, .int v3_L18), (4, .int v4_34)]) hx hb dMd_isValid_97 rfl hl (by decide) rfl (fun ls hl => ?_)
                    refine lv_iinc (k := 3) (v := (v3_L18 + 1)) (lv' := [(3, .int (v3_L18 + 1)), (1, .int 1), (0, .ref (bd 0)), (2, .int v2_L8), (4, .int v4_34)]) hx hb dMd_isValid_98 hl rfl rfl (by decide) rfl (fun ls hl => ?_)
                    refine lv_goto (tgt := 18) hx hb dMd_isValid_101 rfl ?_
                    exact ih true (v3_L18 + 1) _ _ _ (lv_sub hl [2, 1, 3, 0] rfl) hP hD hS hw
                  · have hw := hw.2 hc
                    refine lv_aload_n hx hb dMd_isValid_76 rfl (lv_at hl 0 rfl) ?_
                    refine lv_aload_n hx hb dMd_isValid_77 rfl (lv_at hl 0 rfl) ?_
                    refine va_get (D := D) (ci := 7) (v := .ref (bd 16)) (C := "OnceNamedModel") (T := TX7) (N := 34) hx hb hts (fun w h => List.mem_cons_of_mem _ (inX7 w h)) hown hK hP 0 rfl rfl 19 (by decide) (hts _ (List.mem_cons_of_mem _ kw_1004)) (fun _ h9 => h9) rfl dMd_isValid_78 ?_
                    refine lv_iload hx hb dMd_isValid_81 (lv_at hl 4 rfl) ?_
                    have ho := hw.1
                    have hw := hw.2
                    refine va_iald hx hb hK hP 9 0 rfl rfl ho dMd_isValid_83 ?_
                    refine lv_iload_n hx hb dMd_isValid_84 rfl (lv_at hl 2 rfl) ?_
                    refine lv_iload_n hx hb dMd_isValid_85 rfl (lv_at hl 3 rfl) ?_
                    refine xci (va_runV ⟨hx, hb, hml, hown, hts⟩ (ktMd_before l D cA cB bd N _ mThrown mReached_1 mForm mSlot mOver mDominators_1 mNameBlock mNameStep (mUseX (Int32.toNatClampNeg v4_34)) v2_L8 v3_L18 _ hw) (cwV 3 hts (goodV kw_1205 kw_1207 ks_4_14 kw_11 kw_1208) rfl rfl rfl (by decide +kernel) ⟨Nat.le_of_ble_eq_true rfl, Nat.le_of_ble_eq_true rfl⟩) (xpreV hK hP hD hN [0, 5, 11, 12] rfl rfl 0 rfl rfl) rfl rfl hl.1 rfl (lv_room (Nat.le_of_ble_eq_true rfl)) dMd_isValid_86 ⟨Nat.le_of_ble_eq_true rfl, Nat.le_of_ble_eq_true rfl⟩) hP hD hS hA [0, 5, 11, 12] [1, 2, 3, 4, 6, 7, 8, 9, 10] rfl rfl rfl rfl [9, 0, 1, 2, 3, 10, 4, 5, 6, 7, 8, 11, 12] rfl (fun _ => rfl) (fun r86 u H locs hw hP hD hS => ?_)
                    obtain ⟨r86, rfl, hw⟩ := hw
                    have hP : va_P D vwCl (wdMd_isValid cA cB bd N mThrown mReached_1 mForm mSlot mOver mMany mEnds mYes mNo mDominators_1 mMeets mSources mUseW mUseX mEndUse mNameBlock mNameStep) H := hP
                    have hD : va_D A (wdMd_isValid cA cB bd N mThrown mReached_1 mForm mSlot mOver mMany mEnds mYes mNo mDominators_1 mMeets mSources mUseW mUseX mEndUse mNameBlock mNameStep) := hD
                    refine lv_if_eq (tgt := 96) hx hb dMd_isValid_89 rfl (fun hc => ?_) (fun hc => ?_)
                    · have hw := hw.1 (bI_0 hc)
                      refine lv_iconst (v := 0) hx hb dMd_isValid_96 (by decide) ?_
                      refine lv_istore_n (lv' := [(1, .int 0), (0, .ref (bd 0)), (2, .int v2_L8), (3, .int v3_L18), (4, .int v4_34)]) hx hb dMd_isValid_97 rfl hl (by decide) rfl (fun ls hl => ?_)
                      refine lv_iinc (k := 3) (v := (v3_L18 + 1)) (lv' := [(3, .int (v3_L18 + 1)), (1, .int 0), (0, .ref (bd 0)), (2, .int v2_L8), (4, .int v4_34)]) hx hb dMd_isValid_98 hl rfl rfl (by decide) rfl (fun ls hl => ?_)
                      refine lv_goto (tgt := 18) hx hb dMd_isValid_101 rfl ?_
                      exact ih false (v3_L18 + 1) _ _ _ (lv_sub hl [2, 1, 3, 0] rfl) hP hD hS hw
                    · have hw := hw.2 (bI_1 hc)
                      refine lv_iconst (v := 1) hx hb dMd_isValid_92 (by decide) ?_
                      refine lv_goto (tgt := 97) hx hb dMd_isValid_93 rfl ?_
                      refine lv_istore_n (lv' := [(1, .int 1), (0, .ref (bd 0)), (2, .int v2_L8), (3, .int v3_L18), (4, .int v4_34)]) hx hb dMd_isValid_97 rfl hl (by decide) rfl (fun ls hl => ?_)
                      refine lv_iinc (k := 3) (v := (v3_L18 + 1)) (lv' := [(3, .int (v3_L18 + 1)), (1, .int 1), (0, .ref (bd 0)), (2, .int v2_L8), (4, .int v4_34)]) hx hb dMd_isValid_98 hl rfl rfl (by decide) rfl (fun ls hl => ?_)
                      refine lv_goto (tgt := 18) hx hb dMd_isValid_101 rfl ?_
                      exact ih true (v3_L18 + 1) _ _ _ (lv_sub hl [2, 1, 3, 0] rfl) hP hD hS hw
                refine lv_if_lt (tgt := 66) hx hb dMd_isValid_47 rfl (fun hc => ?_) (fun hc => ?_)
                · have hw := hw.1 hc
                  exact hj66  _ _ _ (lv_sub hl [1, 2, 3, 4, 0] rfl) hP hD hS hw
                · have hw := hw.2 hc
                  refine lv_aload_n hx hb dMd_isValid_50 rfl (lv_at hl 1 rfl) ?_
                  refine lv_aload_n hx hb dMd_isValid_51 rfl (lv_at hl 1 rfl) ?_
                  refine va_get (D := D) (ci := 7) (v := .ref (bd 15)) (C := "OnceNamedModel") (T := TX7) (N := 34) hx hb hts (fun w h => List.mem_cons_of_mem _ (inX7 w h)) hown hK hP 0 rfl rfl 18 (by decide) (hts _ (List.mem_cons_of_mem _ kw_1003)) (fun _ h9 => h9) rfl dMd_isValid_52 ?_
                  refine lv_iload hx hb dMd_isValid_55 (lv_at hl 0 rfl) ?_
                  have ho := hw.1
                  have hw := hw.2
                  refine va_iald hx hb hK hP 8 0 rfl rfl ho dMd_isValid_57 ?_
                  refine lv_iload_n hx hb dMd_isValid_58 rfl (lv_at hl 3 rfl) ?_
                  refine lv_iload_n hx hb dMd_isValid_59 rfl (lv_at hl 4 rfl) ?_
                  refine xci (va_runV ⟨hx, hb, hml, hown, hts⟩ (ktMd_before l D cA cB bd N _ mThrown mReached_1 mForm mSlot mOver mDominators_1 mNameBlock mNameStep (mUseW (Int32.toNatClampNeg v4_34)) v2_L8 v3_L18 _ hw) (cwV 3 hts (goodV kw_1205 kw_1207 ks_4_14 kw_11 kw_1208) rfl rfl rfl (by decide +kernel) ⟨Nat.le_of_ble_eq_true rfl, Nat.le_of_ble_eq_true rfl⟩) (xpreV hK hP hD hN [0, 5, 11, 12] rfl rfl 0 rfl rfl) rfl rfl hl.1 rfl (lv_room (Nat.le_of_ble_eq_true rfl)) dMd_isValid_60 ⟨Nat.le_of_ble_eq_true rfl, Nat.le_of_ble_eq_true rfl⟩) hP hD hS hA [0, 5, 11, 12] [1, 2, 3, 4, 6, 7, 8, 9, 10] rfl rfl rfl rfl [9, 0, 1, 2, 3, 10, 4, 5, 6, 7, 8, 11, 12] rfl (fun _ => rfl) (fun r60 u H locs hw hP hD hS => ?_)
                  obtain ⟨r60, rfl, hw⟩ := hw
                  have hP : va_P D vwCl (wdMd_isValid cA cB bd N mThrown mReached_1 mForm mSlot mOver mMany mEnds mYes mNo mDominators_1 mMeets mSources mUseW mUseX mEndUse mNameBlock mNameStep) H := hP
                  have hD : va_D A (wdMd_isValid cA cB bd N mThrown mReached_1 mForm mSlot mOver mMany mEnds mYes mNo mDominators_1 mMeets mSources mUseW mUseX mEndUse mNameBlock mNameStep) := hD
                  refine lv_if_eq (tgt := 96) hx hb dMd_isValid_63 rfl (fun hc => ?_) (fun hc => ?_)
                  · have hw := hw.1 (bI_0 hc)
                    refine lv_iconst (v := 0) hx hb dMd_isValid_96 (by decide) ?_
                    refine lv_istore_n (lv' := [(1, .int 0), (4, .int v4_34), (0, .ref (bd 0)), (2, .int v2_L8), (3, .int v3_L18)]) hx hb dMd_isValid_97 rfl hl (by decide) rfl (fun ls hl => ?_)
                    refine lv_iinc (k := 4) (v := (v3_L18 + 1)) (lv' := [(3, .int (v3_L18 + 1)), (1, .int 0), (4, .int v4_34), (0, .ref (bd 0)), (2, .int v2_L8)]) hx hb dMd_isValid_98 hl rfl rfl (by decide) rfl (fun ls hl => ?_)
                    refine lv_goto (tgt := 18) hx hb dMd_isValid_101 rfl ?_
                    exact ih false (v3_L18 + 1) _ _ _ (lv_sub hl [3, 1, 4, 0] rfl) hP hD hS hw
                  · have hw := hw.2 (bI_1 hc)
                    exact hj66  _ _ _ (lv_sub hl [1, 2, 3, 4, 0] rfl) hP hD hS hw
        refine hlp18 _ ?_ k18 v1_L8 0 _ _ _ (lv_sub hl [1, 2, 3, 0] rfl) hP hD hS hw
        intro v1_x104 v3_x104 ls H locs hl hP hD hS hw
        try dsimp only at hw
        refine lv_iload_n hx hb dMd_isValid_104 rfl (lv_at hl 1 rfl) ?_
        obtain ⟨J138, hJ138, hw⟩ := hw
        have hj138 : ∀ (t138_0 : Bool) (ls : Array Slot) (H : Heap) (locs : List Loc), lv_has ls 6 [(0, .ref (bd 0)), (1, .int (bI v1_x104)), (2, .int v2_L8), (3, .int v3_x104)] → va_P D vwCl (wdMd_isValid cA cB bd N mThrown mReached_1 mForm mSlot mOver mMany mEnds mYes mNo mDominators_1 mMeets mSources mUseW mUseX mEndUse mNameBlock mNameStep) H → va_D A (wdMd_isValid cA cB bd N mThrown mReached_1 mForm mSlot mOver mMany mEnds mYes mNo mDominators_1 mMeets mSources mUseW mUseX mEndUse mNameBlock mNameStep) → va_S A s.heap H locs → J138 t138_0 → W p l e (headSpec (Cond.code yMd_isValid cMd_isValid 6 (some .boolean) :: xW) rmMd_isValid).room s m ([.ref (bd 0)] : List Value).toArray below meth c H locs 0 0 Q (F0 m 138 ls [.int (bI t138_0)]) := by
          intro t138_0 ls H locs hl hP hD hS hw
          have hw := hJ138 t138_0 hw
          refine lv_istore_n (lv' := [(1, .int (bI t138_0)), (0, .ref (bd 0)), (2, .int v2_L8), (3, .int v3_x104)]) hx hb dMd_isValid_138 rfl hl (by decide) rfl (fun ls hl => ?_)
          refine lv_iconst (v := 0) hx hb dMd_isValid_139 (by decide) ?_
          refine lv_istore_n (lv' := [(3, .int 0), (1, .int (bI t138_0)), (0, .ref (bd 0)), (2, .int v2_L8)]) hx hb dMd_isValid_140 rfl hl (by decide) rfl (fun ls hl => ?_)
          obtain ⟨k141, hw⟩ := hw
          have hlp141 : ∀ (K232 : Bool → Int32 → Prop), (∀ (v1_x232 : Bool) (v3_x232 : Int32) (ls : Array Slot) (H : Heap) (locs : List Loc), lv_has ls 6 [(0, .ref (bd 0)), (1, .int (bI v1_x232)), (2, .int v2_L8), (3, .int v3_x232)] → va_P D vwCl (wdMd_isValid cA cB bd N mThrown mReached_1 mForm mSlot mOver mMany mEnds mYes mNo mDominators_1 mMeets mSources mUseW mUseX mEndUse mNameBlock mNameStep) H → va_D A (wdMd_isValid cA cB bd N mThrown mReached_1 mForm mSlot mOver mMany mEnds mYes mNo mDominators_1 mMeets mSources mUseW mUseX mEndUse mNameBlock mNameStep) → va_S A s.heap H locs → K232 v1_x232 v3_x232 → W p l e (headSpec (Cond.code yMd_isValid cMd_isValid 6 (some .boolean) :: xW) rmMd_isValid).room s m ([.ref (bd 0)] : List Value).toArray below meth c H locs 0 0 Q (F0 m 232 ls [])) → ∀ (k : Nat), ∀ (v1_L141 : Bool) (v3_L141 : Int32) (ls : Array Slot) (H : Heap) (locs : List Loc), lv_has ls 6 [(0, .ref (bd 0)), (1, .int (bI v1_L141)), (2, .int v2_L8), (3, .int v3_L141)] → va_P D vwCl (wdMd_isValid cA cB bd N mThrown mReached_1 mForm mSlot mOver mMany mEnds mYes mNo mDominators_1 mMeets mSources mUseW mUseX mEndUse mNameBlock mNameStep) H → va_D A (wdMd_isValid cA cB bd N mThrown mReached_1 mForm mSlot mOver mMany mEnds mYes mNo mDominators_1 mMeets mSources mUseW mUseX mEndUse mNameBlock mNameStep) → va_S A s.heap H locs → lpMd_isValid_141 N v2_L8 mDominators_1 mMeets mSources mNameBlock mNameStep K232 k v1_L141 v3_L141 → W p l e (headSpec (Cond.code yMd_isValid cMd_isValid 6 (some .boolean) :: xW) rmMd_isValid).room s m ([.ref (bd 0)] : List Value).toArray below meth c H locs 0 0 Q (F0 m 141 ls []) := by
            intro K232 hK232 k
            induction k with
            | zero => intro v1_L141 v3_L141 ls H locs hl hP hD hS hw; exact False.elim hw
            | succ k ih =>
              intro v1_L141 v3_L141 ls H locs hl hP hD hS hw
              refine lv_iload_n hx hb dMd_isValid_141 rfl (lv_at hl 3 rfl) ?_
              refine lv_bipush (v := 6) hx hb dMd_isValid_142 (by decide) ?_
              refine lv_icmp_ge (tgt := 232) hx hb dMd_isValid_144 rfl (fun hc => ?_) (fun hc => ?_)
              · have hw := hw.1 hc
                exact hK232 v1_L141 v3_L141 _ _ _ (lv_sub hl [0, 1, 2, 3] rfl) hP hD hS hw
              · have hw := hw.2 hc
                refine lv_iconst (v := 0) hx hb dMd_isValid_147 (by decide) ?_
                refine lv_istore (lv' := [(4, .int 0), (0, .ref (bd 0)), (1, .int (bI v1_L141)), (2, .int v2_L8), (3, .int v3_L141)]) hx hb dMd_isValid_148 hl (by decide) rfl (fun ls hl => ?_)
                obtain ⟨k150, hw⟩ := hw
                have hlp150 : ∀ (K226 : Bool → Int32 → Prop), (∀ (v1_x226 : Bool) (v4_x226 : Int32) (ls : Array Slot) (H : Heap) (locs : List Loc), lv_has ls 6 [(0, .ref (bd 0)), (1, .int (bI v1_x226)), (2, .int v2_L8), (3, .int v3_L141), (4, .int v4_x226)] → va_P D vwCl (wdMd_isValid cA cB bd N mThrown mReached_1 mForm mSlot mOver mMany mEnds mYes mNo mDominators_1 mMeets mSources mUseW mUseX mEndUse mNameBlock mNameStep) H → va_D A (wdMd_isValid cA cB bd N mThrown mReached_1 mForm mSlot mOver mMany mEnds mYes mNo mDominators_1 mMeets mSources mUseW mUseX mEndUse mNameBlock mNameStep) → va_S A s.heap H locs → K226 v1_x226 v4_x226 → W p l e (headSpec (Cond.code yMd_isValid cMd_isValid 6 (some .boolean) :: xW) rmMd_isValid).room s m ([.ref (bd 0)] : List Value).toArray below meth c H locs 0 0 Q (F0 m 226 ls [])) → ∀ (k : Nat), ∀ (v1_L150 : Bool) (v4_L150 : Int32) (ls : Array Slot) (H : Heap) (locs : List Loc), lv_has ls 6 [(0, .ref (bd 0)), (1, .int (bI v1_L150)), (2, .int v2_L8), (3, .int v3_L141), (4, .int v4_L150)] → va_P D vwCl (wdMd_isValid cA cB bd N mThrown mReached_1 mForm mSlot mOver mMany mEnds mYes mNo mDominators_1 mMeets mSources mUseW mUseX mEndUse mNameBlock mNameStep) H → va_D A (wdMd_isValid cA cB bd N mThrown mReached_1 mForm mSlot mOver mMany mEnds mYes mNo mDominators_1 mMeets mSources mUseW mUseX mEndUse mNameBlock mNameStep) → va_S A s.heap H locs → lpMd_isValid_150 N v2_L8 v3_L141 mDominators_1 mMeets mSources mNameBlock mNameStep K226 k v1_L150 v4_L150 → W p l e (headSpec (Cond.code yMd_isValid cMd_isValid 6 (some .boolean) :: xW) rmMd_isValid).room s m ([.ref (bd 0)] : List Value).toArray below meth c H locs 0 0 Q (F0 m 150 ls []) := by
                  intro K226 hK226 k
                  induction k with
                  | zero => intro v1_L150 v4_L150 ls H locs hl hP hD hS hw; exact False.elim hw
                  | succ k ih =>
                    intro v1_L150 v4_L150 ls H locs hl hP hD hS hw
                    refine lv_iload hx hb dMd_isValid_150 (lv_at hl 4 rfl) ?_
                    refine lv_aload_n hx hb dMd_isValid_152 rfl (lv_at hl 0 rfl) ?_
                    refine va_get (D := D) (ci := 7) (v := .int (nI N)) (C := "OnceNamedModel") (T := TX7) (N := 34) hx hb hts (fun w h => List.mem_cons_of_mem _ (inX7 w h)) hown hK hP 0 rfl rfl 1 (by decide) (hts _ (List.mem_cons_of_mem _ kw_986)) (fun _ h9 => h9) rfl dMd_isValid_153 ?_
                    refine lv_icmp_gt (tgt := 226) hx hb dMd_isValid_156 rfl (fun hc => ?_) (fun hc => ?_)
                    · have hw := hw.1 hc
                      exact hK226 v1_L150 v4_L150 _ _ _ (lv_sub hl [0, 1, 2, 3, 4] rfl) hP hD hS hw
                    · have hw := hw.2 hc
                      refine lv_aload_n hx hb dMd_isValid_159 rfl (lv_at hl 0 rfl) ?_
                      refine va_get (D := D) (ci := 7) (v := .ref (bd 12)) (C := "OnceNamedModel") (T := TX7) (N := 34) hx hb hts (fun w h => List.mem_cons_of_mem _ (inX7 w h)) hown hK hP 0 rfl rfl 15 (by decide) (hts _ (List.mem_cons_of_mem _ kw_1000)) (fun _ h9 => h9) rfl dMd_isValid_160 ?_
                      refine lv_bipush (v := 6) hx hb dMd_isValid_163 (by decide) ?_
                      refine lv_iload_n hx hb dMd_isValid_165 rfl (lv_at hl 2 rfl) ?_
                      refine lv_imul hx hb dMd_isValid_166 ?_
                      refine lv_iload_n hx hb dMd_isValid_167 rfl (lv_at hl 3 rfl) ?_
                      refine lv_iadd hx hb dMd_isValid_168 ?_
                      have ho := hw.1
                      have hw := hw.2
                      refine va_iald hx hb hK hP 6 0 rfl rfl ho dMd_isValid_169 ?_
                      refine lv_if_lt (tgt := 226) hx hb dMd_isValid_170 rfl (fun hc => ?_) (fun hc => ?_)
                      · have hw := hw.1 hc
                        exact hK226 v1_L150 v4_L150 _ _ _ (lv_sub hl [0, 1, 2, 3, 4] rfl) hP hD hS hw
                      · have hw := hw.2 hc
                        refine lv_aload_n hx hb dMd_isValid_173 rfl (lv_at hl 0 rfl) ?_
                        refine va_get (D := D) (ci := 7) (v := .ref (bd 13)) (C := "OnceNamedModel") (T := TX7) (N := 34) hx hb hts (fun w h => List.mem_cons_of_mem _ (inX7 w h)) hown hK hP 0 rfl rfl 16 (by decide) (hts _ (List.mem_cons_of_mem _ kw_1001)) (fun _ h9 => h9) rfl dMd_isValid_174 ?_
                        refine lv_bipush (v := 13) hx hb dMd_isValid_177 (by decide) ?_
                        refine lv_bipush (v := 6) hx hb dMd_isValid_179 (by decide) ?_
                        refine lv_iload_n hx hb dMd_isValid_181 rfl (lv_at hl 2 rfl) ?_
                        refine lv_imul hx hb dMd_isValid_182 ?_
                        refine lv_iload_n hx hb dMd_isValid_183 rfl (lv_at hl 3 rfl) ?_
                        refine lv_iadd hx hb dMd_isValid_184 ?_
                        refine lv_imul hx hb dMd_isValid_185 ?_
                        refine lv_iload hx hb dMd_isValid_186 (lv_at hl 4 rfl) ?_
                        refine lv_iadd hx hb dMd_isValid_188 ?_
                        have ho := hw.1
                        have hw := hw.2
                        refine va_iald hx hb hK hP 7 0 rfl rfl ho dMd_isValid_189 ?_
                        refine lv_topi (fun v5_190 e_v5_190 => ?_)
                        have hw := hw v5_190 e_v5_190
                        refine lv_istore (lv' := [(5, .int v5_190), (0, .ref (bd 0)), (1, .int (bI v1_L150)), (2, .int v2_L8), (3, .int v3_L141), (4, .int v4_L150)]) hx hb dMd_isValid_190 hl (by decide) rfl (fun ls hl => ?_)
                        refine lv_iload_n hx hb dMd_isValid_192 rfl (lv_at hl 2 rfl) ?_
                        refine lv_if_eq (tgt := 218) hx hb dMd_isValid_193 rfl (fun hc => ?_) (fun hc => ?_)
                        · have hw := hw.1 (bI_0 hc)
                          refine lv_iconst (v := 0) hx hb dMd_isValid_218 (by decide) ?_
                          refine lv_istore_n (lv' := [(1, .int 0), (5, .int v5_190), (0, .ref (bd 0)), (2, .int v2_L8), (3, .int v3_L141), (4, .int v4_L150)]) hx hb dMd_isValid_219 rfl hl (by decide) rfl (fun ls hl => ?_)
                          refine lv_iinc (k := 5) (v := (v4_L150 + 1)) (lv' := [(4, .int (v4_L150 + 1)), (1, .int 0), (5, .int v5_190), (0, .ref (bd 0)), (2, .int v2_L8), (3, .int v3_L141)]) hx hb dMd_isValid_220 hl rfl rfl (by decide) rfl (fun ls hl => ?_)
                          refine lv_goto (tgt := 150) hx hb dMd_isValid_223 rfl ?_
                          exact ih false (v4_L150 + 1) _ _ _ (lv_sub hl [3, 1, 4, 5, 0] rfl) hP hD hS hw
                        · have hw := hw.2 (bI_1 hc)
                          refine lv_iload hx hb dMd_isValid_196 (lv_at hl 0 rfl) ?_
                          refine lv_if_lt (tgt := 214) hx hb dMd_isValid_198 rfl (fun hc => ?_) (fun hc => ?_)
                          · have hw := hw.1 hc
                            refine lv_iconst (v := 1) hx hb dMd_isValid_214 (by decide) ?_
                            refine lv_goto (tgt := 219) hx hb dMd_isValid_215 rfl ?_
                            refine lv_istore_n (lv' := [(1, .int 1), (5, .int v5_190), (0, .ref (bd 0)), (2, .int v2_L8), (3, .int v3_L141), (4, .int v4_L150)]) hx hb dMd_isValid_219 rfl hl (by decide) rfl (fun ls hl => ?_)
                            refine lv_iinc (k := 5) (v := (v4_L150 + 1)) (lv' := [(4, .int (v4_L150 + 1)), (1, .int 1), (5, .int v5_190), (0, .ref (bd 0)), (2, .int v2_L8), (3, .int v3_L141)]) hx hb dMd_isValid_220 hl rfl rfl (by decide) rfl (fun ls hl => ?_)
                            refine lv_goto (tgt := 150) hx hb dMd_isValid_223 rfl ?_
                            exact ih true (v4_L150 + 1) _ _ _ (lv_sub hl [3, 1, 4, 5, 0] rfl) hP hD hS hw
                          · have hw := hw.2 hc
                            refine lv_aload_n hx hb dMd_isValid_201 rfl (lv_at hl 1 rfl) ?_
                            refine lv_iload hx hb dMd_isValid_202 (lv_at hl 0 rfl) ?_
                            refine lv_iload hx hb dMd_isValid_204 (lv_at hl 5 rfl) ?_
                            refine lv_bipush (v := 6) hx hb dMd_isValid_206 (by decide) ?_
                            refine xci (va_runV ⟨hx, hb, hml, hown, hts⟩ (ktMd_before l D cA cB bd N _ mThrown mReached_1 mForm mSlot mOver mDominators_1 mNameBlock mNameStep v5_190 v4_L150 6 _ hw) (cwV 3 hts (goodV kw_1205 kw_1207 ks_4_14 kw_11 kw_1208) rfl rfl rfl (by decide +kernel) ⟨Nat.le_of_ble_eq_true rfl, Nat.le_of_ble_eq_true rfl⟩) (xpreV hK hP hD hN [0, 5, 11, 12] rfl rfl 0 rfl rfl) rfl rfl hl.1 rfl (lv_room (Nat.le_of_ble_eq_true rfl)) dMd_isValid_208 ⟨Nat.le_of_ble_eq_true rfl, Nat.le_of_ble_eq_true rfl⟩) hP hD hS hA [0, 5, 11, 12] [1, 2, 3, 4, 6, 7, 8, 9, 10] rfl rfl rfl rfl [9, 0, 1, 2, 3, 10, 4, 5, 6, 7, 8, 11, 12] rfl (fun _ => rfl) (fun r208 u H locs hw hP hD hS => ?_)
                            obtain ⟨r208, rfl, hw⟩ := hw
                            have hP : va_P D vwCl (wdMd_isValid cA cB bd N mThrown mReached_1 mForm mSlot mOver mMany mEnds mYes mNo mDominators_1 mMeets mSources mUseW mUseX mEndUse mNameBlock mNameStep) H := hP
                            have hD : va_D A (wdMd_isValid cA cB bd N mThrown mReached_1 mForm mSlot mOver mMany mEnds mYes mNo mDominators_1 mMeets mSources mUseW mUseX mEndUse mNameBlock mNameStep) := hD
                            refine lv_if_eq (tgt := 218) hx hb dMd_isValid_211 rfl (fun hc => ?_) (fun hc => ?_)
                            · have hw := hw.1 (bI_0 hc)
                              refine lv_iconst (v := 0) hx hb dMd_isValid_218 (by decide) ?_
                              refine lv_istore_n (lv' := [(1, .int 0), (5, .int v5_190), (0, .ref (bd 0)), (2, .int v2_L8), (3, .int v3_L141), (4, .int v4_L150)]) hx hb dMd_isValid_219 rfl hl (by decide) rfl (fun ls hl => ?_)
                              refine lv_iinc (k := 5) (v := (v4_L150 + 1)) (lv' := [(4, .int (v4_L150 + 1)), (1, .int 0), (5, .int v5_190), (0, .ref (bd 0)), (2, .int v2_L8), (3, .int v3_L141)]) hx hb dMd_isValid_220 hl rfl rfl (by decide) rfl (fun ls hl => ?_)
                              refine lv_goto (tgt := 150) hx hb dMd_isValid_223 rfl ?_
                              exact ih false (v4_L150 + 1) _ _ _ (lv_sub hl [3, 1, 4, 5, 0] rfl) hP hD hS hw
                            · have hw := hw.2 (bI_1 hc)
                              refine lv_iconst (v := 1) hx hb dMd_isValid_214 (by decide) ?_
                              refine lv_goto (tgt := 219) hx hb dMd_isValid_215 rfl ?_
                              refine lv_istore_n (lv' := [(1, .int 1), (5, .int v5_190), (0, .ref (bd 0)), (2, .int v2_L8), (3, .int v3_L141), (4, .int v4_L150)]) hx hb dMd_isValid_219 rfl hl (by decide) rfl (fun ls hl => ?_)
                              refine lv_iinc (k := 5) (v := (v4_L150 + 1)) (lv' := [(4, .int (v4_L150 + 1)), (1, .int 1), (5, .int v5_190), (0, .ref (bd 0)), (2, .int v2_L8), (3, .int v3_L141)]) hx hb dMd_isValid_220 hl rfl rfl (by decide) rfl (fun ls hl => ?_)
                              refine lv_goto (tgt := 150) hx hb dMd_isValid_223 rfl ?_
                              exact ih true (v4_L150 + 1) _ _ _ (lv_sub hl [3, 1, 4, 5, 0] rfl) hP hD hS hw
                refine hlp150 _ ?_ k150 v1_L141 0 _ _ _ (lv_sub hl [1, 2, 3, 4, 0] rfl) hP hD hS hw
                intro v1_x226 v4_x226 ls H locs hl hP hD hS hw
                try dsimp only at hw
                refine lv_iinc (k := 3) (v := (v3_L141 + 1)) (lv' := [(3, .int (v3_L141 + 1)), (0, .ref (bd 0)), (1, .int (bI v1_x226)), (2, .int v2_L8), (4, .int v4_x226)]) hx hb dMd_isValid_226 hl rfl rfl (by decide) rfl (fun ls hl => ?_)
                refine lv_goto (tgt := 141) hx hb dMd_isValid_229 rfl ?_
                exact ih v1_x226 (v3_L141 + 1) _ _ _ (lv_sub hl [1, 2, 3, 0] rfl) hP hD hS hw
          refine hlp141 _ ?_ k141 t138_0 0 _ _ _ (lv_sub hl [2, 1, 3, 0] rfl) hP hD hS hw
          intro v1_x232 v3_x232 ls H locs hl hP hD hS hw
          try dsimp only at hw
          refine lv_iinc (k := 2) (v := (v2_L8 + 1)) (lv' := [(2, .int (v2_L8 + 1)), (0, .ref (bd 0)), (1, .int (bI v1_x232)), (3, .int v3_x232)]) hx hb dMd_isValid_232 hl rfl rfl (by decide) rfl (fun ls hl => ?_)
          refine lv_goto (tgt := 8) hx hb dMd_isValid_235 rfl ?_
          exact ih v1_x232 (v2_L8 + 1) _ _ _ (lv_sub hl [1, 2, 0] rfl) hP hD hS hw
        obtain ⟨J137, hJ137, hw⟩ := hw
        have hj137 : ∀  (ls : Array Slot) (H : Heap) (locs : List Loc), lv_has ls 6 [(0, .ref (bd 0)), (1, .int (bI v1_x104)), (2, .int v2_L8), (3, .int v3_x104)] → va_P D vwCl (wdMd_isValid cA cB bd N mThrown mReached_1 mForm mSlot mOver mMany mEnds mYes mNo mDominators_1 mMeets mSources mUseW mUseX mEndUse mNameBlock mNameStep) H → va_D A (wdMd_isValid cA cB bd N mThrown mReached_1 mForm mSlot mOver mMany mEnds mYes mNo mDominators_1 mMeets mSources mUseW mUseX mEndUse mNameBlock mNameStep) → va_S A s.heap H locs → J137 → W p l e (headSpec (Cond.code yMd_isValid cMd_isValid 6 (some .boolean) :: xW) rmMd_isValid).room s m ([.ref (bd 0)] : List Value).toArray below meth c H locs 0 0 Q (F0 m 137 ls []) := by
          intro  ls H locs hl hP hD hS hw
          have hw := hJ137  hw
          refine lv_iconst (v := 0) hx hb dMd_isValid_137 (by decide) ?_
          exact hj138 false _ _ _ (lv_sub hl [0, 1, 2, 3] rfl) hP hD hS hw
        refine lv_if_eq (tgt := 137) hx hb dMd_isValid_105 rfl (fun hc => ?_) (fun hc => ?_)
        · have hw := hw.1 (bI_0 hc)
          exact hj137  _ _ _ (lv_sub hl [0, 1, 2, 3] rfl) hP hD hS hw
        · have hw := hw.2 (bI_1 hc)
          refine lv_aload_n hx hb dMd_isValid_108 rfl (lv_at hl 0 rfl) ?_
          refine va_get (D := D) (ci := 7) (v := .ref (bd 17)) (C := "OnceNamedModel") (T := TX7) (N := 34) hx hb hts (fun w h => List.mem_cons_of_mem _ (inX7 w h)) hown hK hP 0 rfl rfl 20 (by decide) (hts _ (List.mem_cons_of_mem _ kw_1005)) (fun _ h9 => h9) rfl dMd_isValid_109 ?_
          refine lv_iload_n hx hb dMd_isValid_112 rfl (lv_at hl 2 rfl) ?_
          have ho := hw.1
          have hw := hw.2
          refine va_iald hx hb hK hP 10 0 rfl rfl ho dMd_isValid_113 ?_
          refine lv_if_lt (tgt := 133) hx hb dMd_isValid_114 rfl (fun hc => ?_) (fun hc => ?_)
          · have hw := hw.1 hc
            refine lv_iconst (v := 1) hx hb dMd_isValid_133 (by decide) ?_
            refine lv_goto (tgt := 138) hx hb dMd_isValid_134 rfl ?_
            exact hj138 true _ _ _ (lv_sub hl [0, 1, 2, 3] rfl) hP hD hS hw
          · have hw := hw.2 hc
            refine lv_aload_n hx hb dMd_isValid_117 rfl (lv_at hl 0 rfl) ?_
            refine lv_aload_n hx hb dMd_isValid_118 rfl (lv_at hl 0 rfl) ?_
            refine va_get (D := D) (ci := 7) (v := .ref (bd 17)) (C := "OnceNamedModel") (T := TX7) (N := 34) hx hb hts (fun w h => List.mem_cons_of_mem _ (inX7 w h)) hown hK hP 0 rfl rfl 20 (by decide) (hts _ (List.mem_cons_of_mem _ kw_1005)) (fun _ h9 => h9) rfl dMd_isValid_119 ?_
            refine lv_iload_n hx hb dMd_isValid_122 rfl (lv_at hl 2 rfl) ?_
            have ho := hw.1
            have hw := hw.2
            refine va_iald hx hb hK hP 10 0 rfl rfl ho dMd_isValid_123 ?_
            refine lv_iload_n hx hb dMd_isValid_124 rfl (lv_at hl 2 rfl) ?_
            refine lv_bipush (v := 6) hx hb dMd_isValid_125 (by decide) ?_
            refine xci (va_runV ⟨hx, hb, hml, hown, hts⟩ (ktMd_before l D cA cB bd N _ mThrown mReached_1 mForm mSlot mOver mDominators_1 mNameBlock mNameStep (mEndUse (Int32.toNatClampNeg v2_L8)) v2_L8 6 _ hw) (cwV 3 hts (goodV kw_1205 kw_1207 ks_4_14 kw_11 kw_1208) rfl rfl rfl (by decide +kernel) ⟨Nat.le_of_ble_eq_true rfl, Nat.le_of_ble_eq_true rfl⟩) (xpreV hK hP hD hN [0, 5, 11, 12] rfl rfl 0 rfl rfl) rfl rfl hl.1 rfl (lv_room (Nat.le_of_ble_eq_true rfl)) dMd_isValid_127 ⟨Nat.le_of_ble_eq_true rfl, Nat.le_of_ble_eq_true rfl⟩) hP hD hS hA [0, 5, 11, 12] [1, 2, 3, 4, 6, 7, 8, 9, 10] rfl rfl rfl rfl [9, 0, 1, 2, 3, 10, 4, 5, 6, 7, 8, 11, 12] rfl (fun _ => rfl) (fun r127 u H locs hw hP hD hS => ?_)
            obtain ⟨r127, rfl, hw⟩ := hw
            have hP : va_P D vwCl (wdMd_isValid cA cB bd N mThrown mReached_1 mForm mSlot mOver mMany mEnds mYes mNo mDominators_1 mMeets mSources mUseW mUseX mEndUse mNameBlock mNameStep) H := hP
            have hD : va_D A (wdMd_isValid cA cB bd N mThrown mReached_1 mForm mSlot mOver mMany mEnds mYes mNo mDominators_1 mMeets mSources mUseW mUseX mEndUse mNameBlock mNameStep) := hD
            refine lv_if_eq (tgt := 137) hx hb dMd_isValid_130 rfl (fun hc => ?_) (fun hc => ?_)
            · have hw := hw.1 (bI_0 hc)
              exact hj137  _ _ _ (lv_sub hl [0, 1, 2, 3] rfl) hP hD hS hw
            · have hw := hw.2 (bI_1 hc)
              refine lv_iconst (v := 1) hx hb dMd_isValid_133 (by decide) ?_
              refine lv_goto (tgt := 138) hx hb dMd_isValid_134 rfl ?_
              exact hj138 true _ _ _ (lv_sub hl [0, 1, 2, 3] rfl) hP hD hS hw
  refine hlp8 k8 true 0 _ _ _ (lv_sub hl [2, 1, 0] rfl) hP hD hS hw
