abbrev wdMd_run (cA : ClassId) (cB : ClassId) (bd : Nat → Nat) (N : Nat) (mThrown : Int32) (mReached : Int32) (mForm : Bool) (mSlot : Int32) (mOver : Bool) (mMany : Nat → Int32) (mKinds : Nat → Int32) (mVs : Nat → Int32) (mWs : Nat → Int32) (mXs : Nat → Int32) (mEnds : Nat → Int32) (mEndVariable : Nat → Int32) (mYes : Nat → Int32) (mNo : Nat → Int32) (mStarts : Nat → Int32) (mMeets : Nat → Int32) (mSources : Nat → Int32) (mSet : Nat → Int32) (mUseW : Nat → Int32) (mUseX : Nat → Int32) (mEndUse : Nat → Int32) (mGone : Nat → Bool) (mSaid : Nat → Int32) (mSaidCount : Nat → Int32) (mFailed : Nat → Int32) (mValues : Nat → Int32) (mNextValues : Nat → Int32) : va_W := [((bd 0), .inr (7, [.int mThrown, .int (nI N), .ref (bd 1), .ref (bd 2), .ref (bd 3), .ref (bd 4), .ref (bd 5), .ref (bd 6), .ref (bd 7), .ref (bd 8), .ref (bd 9), .ref (bd 10), .int mReached, .ref (bd 11), .int (bI mForm), .ref (bd 12), .ref (bd 13), .ref (bd 14), .ref (bd 15), .ref (bd 16), .ref (bd 17), .ref (bd 18), .ref (bd 19), .ref (bd 20), .ref (bd 21), .ref (bd 22), .ref (bd 23), .ref (bd 24), .ref (bd 25), .ref (bd 26), .ref (bd 27), .ref (bd 28), .int mSlot, .int (bI mOver)])), ((bd 1), .inl (cA, 12, .inl mMany)), ((bd 2), .inl (cA, 72, .inl mKinds)), ((bd 3), .inl (cA, 72, .inl mVs)), ((bd 4), .inl (cA, 72, .inl mWs)), ((bd 5), .inl (cA, 72, .inl mXs)), ((bd 6), .inl (cA, 12, .inl mEnds)), ((bd 7), .inl (cA, 12, .inl mEndVariable)), ((bd 8), .inl (cA, 12, .inl mYes)), ((bd 9), .inl (cA, 12, .inl mNo)), ((bd 10), .inl (cA, 6, .inl mStarts)), ((bd 12), .inl (cA, 72, .inl mMeets)), ((bd 13), .inl (cA, 936, .inl mSources)), ((bd 14), .inl (cA, 72, .inl mSet)), ((bd 15), .inl (cA, 72, .inl mUseW)), ((bd 16), .inl (cA, 72, .inl mUseX)), ((bd 17), .inl (cA, 12, .inl mEndUse)), ((bd 18), .inl (cB, 72, .inl (fun j => bI (mGone j)))), ((bd 23), .inl (cA, 150, .inl mSaid)), ((bd 24), .inl (cA, 3, .inl mSaidCount)), ((bd 25), .inl (cA, 3, .inl mFailed)), ((bd 26), .inl (cA, 600, .inl mValues)), ((bd 27), .inl (cA, 6, .inl mNextValues))]
abbrev qcMd_run (D : va_G) (cA : ClassId) (cB : ClassId) (bd : Nat → Nat) (N : Nat) (mThrown : Int32) (mReached : Int32) (mForm : Bool) (mSlot : Int32) (mOver : Bool) (mMany : Nat → Int32) (mKinds : Nat → Int32) (mVs : Nat → Int32) (mWs : Nat → Int32) (mXs : Nat → Int32) (mEnds : Nat → Int32) (mEndVariable : Nat → Int32) (mYes : Nat → Int32) (mNo : Nat → Int32) (mStarts : Nat → Int32) (mMeets : Nat → Int32) (mSources : Nat → Int32) (mSet : Nat → Int32) (mUseW : Nat → Int32) (mUseX : Nat → Int32) (mEndUse : Nat → Int32) (mGone : Nat → Bool) (mSaid : Nat → Int32) (mSaidCount : Nat → Int32) (mFailed : Nat → Int32) (mValues : Nat → Int32) (mNextValues : Nat → Int32) (post : Int32 → Int32 → Int32 → Bool → (Nat → Int32) → (Nat → Int32) → (Nat → Int32) → (Nat → Int32) → (Nat → Int32) → Prop) (A : Nat → Prop) : Array Value → State → Outcome → State → Prop := va_Qi (S := (Int32) × (Int32) × (Bool) × (Nat → Int32) × (Nat → Int32) × (Nat → Int32) × (Nat → Int32) × (Nat → Int32)) (fun r u => post r u.1 u.2.1 u.2.2.1 u.2.2.2.1 u.2.2.2.2.1 u.2.2.2.2.2.1 u.2.2.2.2.2.2.1 u.2.2.2.2.2.2.2) (fun u t => xB D [(cA, .int), (cB, .boolean)] A (wdMd_run cA cB bd N u.1 mReached mForm u.2.1 u.2.2.1 mMany mKinds mVs mWs mXs mEnds mEndVariable mYes mNo mStarts mMeets mSources mSet mUseW mUseX mEndUse mGone u.2.2.2.1 u.2.2.2.2.1 u.2.2.2.2.2.1 u.2.2.2.2.2.2.1 u.2.2.2.2.2.2.2) t) A
abbrev rmMd_run : Room := { frames := 4, cells := 0, slots := 0, locals := 96 }
set_option maxHeartbeats 4000000 in
set_option maxRecDepth 100000 in
theorem ktMd_run (l : Launch) (D : va_G) (cA : ClassId) (cB : ClassId) (bd : Nat → Nat) (N : Nat) (sz : Nat) (mThrown : Int32) (mReached : Int32) (mForm : Bool) (mSlot : Int32) (mOver : Bool) (mMany : Nat → Int32) (mKinds : Nat → Int32) (mVs : Nat → Int32) (mWs : Nat → Int32) (mXs : Nat → Int32) (mEnds : Nat → Int32) (mEndVariable : Nat → Int32) (mYes : Nat → Int32) (mNo : Nat → Int32) (mStarts : Nat → Int32) (mMeets : Nat → Int32) (mSources : Nat → Int32) (mSet : Nat → Int32) (mUseW : Nat → Int32) (mUseX : Nat → Int32) (mEndUse : Nat → Int32) (mGone : Nat → Bool) (mSaid : Nat → Int32) (mSaidCount : Nat → Int32) (mFailed : Nat → Int32) (mValues : Nat → Int32) (mNextValues : Nat → Int32) (v1 : Int32) (post : Int32 → Int32 → Int32 → Bool → (Nat → Int32) → (Nat → Int32) → (Nat → Int32) → (Nat → Int32) → (Nat → Int32) → Prop) (hw : wpMd_run N mForm mSlot mOver mMany mKinds mVs mWs mXs mEnds mEndVariable mYes mNo mStarts mMeets mSources mSet mUseW mUseX mEndUse mGone mSaid mSaidCount mFailed mValues mNextValues v1 post) : Met l yMd_run (Cond.code yMd_run cMd_run 2 (some .int) :: xW) rmMd_run (va_Pc [.ref (bd 0), .int v1] (xPc D [(cA, .int), (cB, .boolean)] (wdMd_run cA cB bd N mThrown mReached mForm mSlot mOver mMany mKinds mVs mWs mXs mEnds mEndVariable mYes mNo mStarts mMeets mSources mSet mUseW mUseX mEndUse mGone mSaid mSaidCount mFailed mValues mNextValues) sz)) (qcMd_run D cA cB bd N mThrown mReached mForm mSlot mOver mMany mKinds mVs mWs mXs mEnds mEndVariable mYes mNo mStarts mMeets mSources mSet mUseW mUseX mEndUse mGone mSaid mSaidCount mFailed mValues mNextValues post (va_A (wdMd_run cA cB bd N mThrown mReached mForm mSlot mOver mMany mKinds mVs mWs mXs mEnds mEndVariable mYes mNo mStarts mMeets mSources mSet mUseW mUseX mEndUse mGone mSaid mSaidCount mFailed mValues mNextValues) sz)) 0 0 (va_A (wdMd_run cA cB bd N mThrown mReached mForm mSlot mOver mMany mKinds mVs mWs mXs mEnds mEndVariable mYes mNo mStarts mMeets mSources mSet mUseW mUseX mEndUse mGone mSaid mSaidCount mFailed mValues mNextValues) sz) := by
  refine Met.ofW (cc := cMd_run) (maxL := 2) (ret := (some .int)) (by decide) rfl ?_
  intro p e s m args below meth c s₁ B hml hv
  obtain ⟨rfl, hsz, hP, hK, hD0, hN⟩ := hv
  have hx := B.exec
  have hb := B.bytes
  have hr := B.returns
  have hts := atoms_spec (ws := (Cond.code yMd_run cMd_run 2 (some .int) :: xW)) B.pre
  have hown : s.vm.findClass "OnceNamedModel" = some m.cls := findClass_of_methodNamed B.named
  have hlocks := B.notSynchronized
  subst hsz
  have hD := hD0.self (sz := s.heap.size)
  generalize hAe : va_A (wdMd_run cA cB bd N mThrown mReached mForm mSlot mOver mMany mKinds mVs mWs mXs mEnds mEndVariable mYes mNo mStarts mMeets mSources mSet mUseW mUseX mEndUse mGone mSaid mSaidCount mFailed mValues mNextValues) s.heap.size = A at hD ⊢
  have hA : ∀ q : Nat, s.heap.size ≤ q → A q := fun q h => by rw [← hAe]; exact Or.inr h
  have hS : va_S A s.heap s.heap [] := va_S.rf
  have hend : ∀ (r : Int32) (u0 : Int32) (u1 : Int32) (u2 : Bool) (u3 : Nat → Int32) (u4 : Nat → Int32) (u5 : Nat → Int32) (u6 : Nat → Int32) (u7 : Nat → Int32) (H : Heap) (locs : List Loc) (pc : Nat) (ls : Array Slot), decode cMd_run pc = .ok (.ireturn, 1) → va_P D vwCl (wdMd_run cA cB bd N u0 mReached mForm u1 u2 mMany mKinds mVs mWs mXs mEnds mEndVariable mYes mNo mStarts mMeets mSources mSet mUseW mUseX mEndUse mGone u3 u4 u5 u6 u7) H → va_D A (wdMd_run cA cB bd N u0 mReached mForm u1 u2 mMany mKinds mVs mWs mXs mEnds mEndVariable mYes mNo mStarts mMeets mSources mSet mUseW mUseX mEndUse mGone u3 u4 u5 u6 u7) → va_S A s.heap H locs → post r u0 u1 u2 u3 u4 u5 u6 u7 → W p l e (headSpec (Cond.code yMd_run cMd_run 2 (some .int) :: xW) rmMd_run).room s m ([.ref (bd 0), .int v1] : List Value).toArray below meth c H locs 0 0 (MQ below (qcMd_run D cA cB bd N mThrown mReached mForm mSlot mOver mMany mKinds mVs mWs mXs mEnds mEndVariable mYes mNo mStarts mMeets mSources mSet mUseW mUseX mEndUse mGone mSaid mSaidCount mFailed mValues mNextValues post A) ([.ref (bd 0), .int v1] : List Value).toArray s 0 0 A) (F0 m pc ls [.int r]) := fun r u0 u1 u2 u3 u4 u5 u6 u7 H locs pc ls hd hP hD hS hw => W.iret (v := r) hx hb hr (fun t ht hW => ⟨⟨r, (u0, u1, u2, u3, u4, u5, u6, u7), rfl, hw, ⟨by rw [ht]; exact hP, va_K.moved hW.alike hK, hD⟩⟩, hS.F ht⟩) hS.2.2 hd
  generalize hQ : MQ below (qcMd_run D cA cB bd N mThrown mReached mForm mSlot mOver mMany mKinds mVs mWs mXs mEnds mEndVariable mYes mNo mStarts mMeets mSources mSet mUseW mUseX mEndUse mGone mSaid mSaidCount mFailed mValues mNextValues post A) ([.ref (bd 0), .int v1] : List Value).toArray s 0 0 A = Q at hend ⊢
  have hl := lv_entry ([.ref (bd 0), .int v1]) (n := 2) (Nat.le_of_ble_eq_true rfl)
  rw [lg_entry_eq]
  generalize (lg_sl ([.ref (bd 0), .int v1]) ++ List.replicate (2 - (lg_sl ([.ref (bd 0), .int v1])).length) Slot.unset).toArray = ls at hl ⊢
  have hl : lv_has ls 2 [(0, .ref (bd 0)), (1, .int v1)] := hl
  unfold wpMd_run at hw
  refine lv_aload_n hx hb dMd_run_0 rfl (lv_at hl 0 rfl) ?_
  refine lv_iload_n hx hb dMd_run_1 rfl (lv_at hl 1 rfl) ?_
  obtain ⟨J30, hJ30, hw⟩ := hw
  have hj30 : ∀ (t30_0 : Int32) (ls : Array Slot) (H : Heap) (locs : List Loc), lv_has ls 2 [(0, .ref (bd 0)), (1, .int v1)] → va_P D vwCl (wdMd_run cA cB bd N mThrown mReached mForm mSlot mOver mMany mKinds mVs mWs mXs mEnds mEndVariable mYes mNo mStarts mMeets mSources mSet mUseW mUseX mEndUse mGone mSaid mSaidCount mFailed mValues mNextValues) H → va_D A (wdMd_run cA cB bd N mThrown mReached mForm mSlot mOver mMany mKinds mVs mWs mXs mEnds mEndVariable mYes mNo mStarts mMeets mSources mSet mUseW mUseX mEndUse mGone mSaid mSaidCount mFailed mValues mNextValues) → va_S A s.heap H locs → J30 t30_0 → W p l e (headSpec (Cond.code yMd_run cMd_run 2 (some .int) :: xW) rmMd_run).room s m ([.ref (bd 0), .int v1] : List Value).toArray below meth c H locs 0 0 Q (F0 m 30 ls [.int t30_0, .ref (bd 0)]) := by
    intro t30_0 ls H locs hl hP hD hS hw
    have hw := hJ30 t30_0 hw
    refine va_put (D := D) (ci := 7) (v := .int t30_0) (ty := .int) (C := "OnceNamedModel") (T := TX7) (N := 34) hx hb hts (fun w h => List.mem_cons_of_mem _ (inX7 w h)) tyX7 tyX7_ok nmX7 hown hK hP hD hS 0 rfl rfl 0 (by decide) (hts _ (List.mem_cons_of_mem _ kw_985)) (fun _ h9 => h9) rfl (by decide +kernel) rfl rfl (Nat.le_of_ble_eq_true rfl) dMd_run_30 (fun H locs hP hD hS => ?_)
    have hP : va_P D vwCl (wdMd_run cA cB bd N t30_0 mReached mForm mSlot mOver mMany mKinds mVs mWs mXs mEnds mEndVariable mYes mNo mStarts mMeets mSources mSet mUseW mUseX mEndUse mGone mSaid mSaidCount mFailed mValues mNextValues) H := hP
    have hD : va_D A (wdMd_run cA cB bd N t30_0 mReached mForm mSlot mOver mMany mKinds mVs mWs mXs mEnds mEndVariable mYes mNo mStarts mMeets mSources mSet mUseW mUseX mEndUse mGone mSaid mSaidCount mFailed mValues mNextValues) := hD
    refine lv_aload_n hx hb dMd_run_33 rfl (lv_at hl 0 rfl) ?_
    refine va_get (D := D) (ci := 7) (v := .int t30_0) (C := "OnceNamedModel") (T := TX7) (N := 34) hx hb hts (fun w h => List.mem_cons_of_mem _ (inX7 w h)) hown hK hP 0 rfl rfl 0 (by decide) (hts _ (List.mem_cons_of_mem _ kw_985)) (fun _ h9 => h9) rfl dMd_run_34 ?_
    refine lv_if_eq (tgt := 42) hx hb dMd_run_37 rfl (fun hc => ?_) (fun hc => ?_)
    · have hw := hw.1 hc
      refine lv_aload_n hx hb dMd_run_42 rfl (lv_at hl 0 rfl) ?_
      refine lv_iconst (v := 0) hx hb dMd_run_43 (by decide) ?_
      refine lv_iload_n hx hb dMd_run_44 rfl (lv_at hl 1 rfl) ?_
      obtain ⟨J53, hJ53, hw⟩ := hw
      have hj53 : ∀ (t53_0 : Bool) (ls : Array Slot) (H : Heap) (locs : List Loc), lv_has ls 2 [(0, .ref (bd 0)), (1, .int v1)] → va_P D vwCl (wdMd_run cA cB bd N t30_0 mReached mForm mSlot mOver mMany mKinds mVs mWs mXs mEnds mEndVariable mYes mNo mStarts mMeets mSources mSet mUseW mUseX mEndUse mGone mSaid mSaidCount mFailed mValues mNextValues) H → va_D A (wdMd_run cA cB bd N t30_0 mReached mForm mSlot mOver mMany mKinds mVs mWs mXs mEnds mEndVariable mYes mNo mStarts mMeets mSources mSet mUseW mUseX mEndUse mGone mSaid mSaidCount mFailed mValues mNextValues) → va_S A s.heap H locs → J53 t53_0 → W p l e (headSpec (Cond.code yMd_run cMd_run 2 (some .int) :: xW) rmMd_run).room s m ([.ref (bd 0), .int v1] : List Value).toArray below meth c H locs 0 0 Q (F0 m 53 ls [.int (bI t53_0), .int 0, .ref (bd 0)]) := by
        intro t53_0 ls H locs hl hP hD hS hw
        have hw := hJ53 t53_0 hw
        refine xcv (va_runV ⟨hx, hb, hml, hown, hts⟩ (ktMd_runInto l D cA cB bd N _ t30_0 mReached mForm mSlot mOver mMany mKinds mVs mWs mXs mEnds mEndVariable mYes mNo mStarts mMeets mSources mSet mUseW mUseX mEndUse mGone mSaid mSaidCount mFailed mValues mNextValues 0 t53_0 _ hw) (cwV 2 hts (goodV kw_1273 kw_1275 ks_5_6 kw_11 kw_1276) rfl rfl rfl (by decide +kernel) ⟨Nat.le_of_ble_eq_true rfl, Nat.le_of_ble_eq_true rfl⟩) (xpreV hK hP hD hN [0, 1, 2, 3, 4, 5, 6, 7, 8, 9, 10, 11, 12, 13, 14, 15, 16, 17, 18, 19, 20, 21, 22] rfl rfl 0 rfl rfl) rfl rfl hl.1 rfl (lv_room (Nat.le_of_ble_eq_true rfl)) dMd_run_53 ⟨Nat.le_of_ble_eq_true rfl, Nat.le_of_ble_eq_true rfl⟩) hP hD hS hA [0, 1, 2, 3, 4, 5, 6, 7, 8, 9, 10, 11, 12, 13, 14, 15, 16, 17, 18, 19, 20, 21, 22] [] rfl rfl rfl rfl [0, 1, 2, 3, 4, 5, 6, 7, 8, 9, 10, 11, 12, 13, 14, 15, 16, 17, 18, 19, 20, 21, 22] rfl (fun _ => rfl) (fun u H locs hw hP hD hS => ?_)
        obtain ⟨mSlot_53, mOver_53, mSaid_53, mSaidCount_53, mFailed_53, mValues_53, mNextValues_53⟩ := u
        try dsimp only at hw
        have hP : va_P D vwCl (wdMd_run cA cB bd N t30_0 mReached mForm mSlot_53 mOver_53 mMany mKinds mVs mWs mXs mEnds mEndVariable mYes mNo mStarts mMeets mSources mSet mUseW mUseX mEndUse mGone mSaid_53 mSaidCount_53 mFailed_53 mValues_53 mNextValues_53) H := hP
        have hD : va_D A (wdMd_run cA cB bd N t30_0 mReached mForm mSlot_53 mOver_53 mMany mKinds mVs mWs mXs mEnds mEndVariable mYes mNo mStarts mMeets mSources mSet mUseW mUseX mEndUse mGone mSaid_53 mSaidCount_53 mFailed_53 mValues_53 mNextValues_53) := hD
        refine lv_aload_n hx hb dMd_run_56 rfl (lv_at hl 0 rfl) ?_
        refine lv_aload_n hx hb dMd_run_57 rfl (lv_at hl 0 rfl) ?_
        refine va_get (D := D) (ci := 7) (v := .ref (bd 25)) (C := "OnceNamedModel") (T := TX7) (N := 34) hx hb hts (fun w h => List.mem_cons_of_mem _ (inX7 w h)) hown hK hP 0 rfl rfl 28 (by decide) (hts _ (List.mem_cons_of_mem _ kw_1013)) (fun _ h9 => h9) rfl dMd_run_58 ?_
        refine lv_iconst (v := 0) hx hb dMd_run_61 (by decide) ?_
        have ho := hw.1
        have hw := hw.2
        refine va_iald hx hb hK hP 20 0 rfl rfl ho dMd_run_62 ?_
        obtain ⟨J78, hJ78, hw⟩ := hw
        have hj78 : ∀ (t78_0 : Int32) (ls : Array Slot) (H : Heap) (locs : List Loc), lv_has ls 2 [(0, .ref (bd 0)), (1, .int v1)] → va_P D vwCl (wdMd_run cA cB bd N t30_0 mReached mForm mSlot_53 mOver_53 mMany mKinds mVs mWs mXs mEnds mEndVariable mYes mNo mStarts mMeets mSources mSet mUseW mUseX mEndUse mGone mSaid_53 mSaidCount_53 mFailed_53 mValues_53 mNextValues_53) H → va_D A (wdMd_run cA cB bd N t30_0 mReached mForm mSlot_53 mOver_53 mMany mKinds mVs mWs mXs mEnds mEndVariable mYes mNo mStarts mMeets mSources mSet mUseW mUseX mEndUse mGone mSaid_53 mSaidCount_53 mFailed_53 mValues_53 mNextValues_53) → va_S A s.heap H locs → J78 t78_0 → W p l e (headSpec (Cond.code yMd_run cMd_run 2 (some .int) :: xW) rmMd_run).room s m ([.ref (bd 0), .int v1] : List Value).toArray below meth c H locs 0 0 Q (F0 m 78 ls [.int t78_0, .ref (bd 0)]) := by
          intro t78_0 ls H locs hl hP hD hS hw
          have hw := hJ78 t78_0 hw
          refine va_put (D := D) (ci := 7) (v := .int t78_0) (ty := .int) (C := "OnceNamedModel") (T := TX7) (N := 34) hx hb hts (fun w h => List.mem_cons_of_mem _ (inX7 w h)) tyX7 tyX7_ok nmX7 hown hK hP hD hS 0 rfl rfl 0 (by decide) (hts _ (List.mem_cons_of_mem _ kw_985)) (fun _ h9 => h9) rfl (by decide +kernel) rfl rfl (Nat.le_of_ble_eq_true rfl) dMd_run_78 (fun H locs hP hD hS => ?_)
          have hP : va_P D vwCl (wdMd_run cA cB bd N t78_0 mReached mForm mSlot_53 mOver_53 mMany mKinds mVs mWs mXs mEnds mEndVariable mYes mNo mStarts mMeets mSources mSet mUseW mUseX mEndUse mGone mSaid_53 mSaidCount_53 mFailed_53 mValues_53 mNextValues_53) H := hP
          have hD : va_D A (wdMd_run cA cB bd N t78_0 mReached mForm mSlot_53 mOver_53 mMany mKinds mVs mWs mXs mEnds mEndVariable mYes mNo mStarts mMeets mSources mSet mUseW mUseX mEndUse mGone mSaid_53 mSaidCount_53 mFailed_53 mValues_53 mNextValues_53) := hD
          refine lv_aload_n hx hb dMd_run_81 rfl (lv_at hl 0 rfl) ?_
          refine va_get (D := D) (ci := 7) (v := .int t78_0) (C := "OnceNamedModel") (T := TX7) (N := 34) hx hb hts (fun w h => List.mem_cons_of_mem _ (inX7 w h)) hown hK hP 0 rfl rfl 0 (by decide) (hts _ (List.mem_cons_of_mem _ kw_985)) (fun _ h9 => h9) rfl dMd_run_82 ?_
          refine lv_if_ne (tgt := 97) hx hb dMd_run_85 rfl (fun hc => ?_) (fun hc => ?_)
          · have hw := hw.1 hc
            refine lv_iconst (v := 0) hx hb dMd_run_97 (by decide) ?_
            exact hend 0 t78_0 mSlot_53 mOver_53 mSaid_53 mSaidCount_53 mFailed_53 mValues_53 mNextValues_53 _ _ _ _ dMd_run_98 hP hD hS hw
          · have hw := hw.2 hc
            refine lv_aload_n hx hb dMd_run_88 rfl (lv_at hl 0 rfl) ?_
            refine va_get (D := D) (ci := 7) (v := .ref (bd 24)) (C := "OnceNamedModel") (T := TX7) (N := 34) hx hb hts (fun w h => List.mem_cons_of_mem _ (inX7 w h)) hown hK hP 0 rfl rfl 27 (by decide) (hts _ (List.mem_cons_of_mem _ kw_1012)) (fun _ h9 => h9) rfl dMd_run_89 ?_
            refine lv_iconst (v := 0) hx hb dMd_run_92 (by decide) ?_
            have ho := hw.1
            have hw := hw.2
            refine va_iald hx hb hK hP 19 0 rfl rfl ho dMd_run_93 ?_
            refine lv_goto (tgt := 98) hx hb dMd_run_94 rfl ?_
            exact hend (mSaidCount_53 (Int32.toNatClampNeg 0)) t78_0 mSlot_53 mOver_53 mSaid_53 mSaidCount_53 mFailed_53 mValues_53 mNextValues_53 _ _ _ _ dMd_run_98 hP hD hS hw
        refine lv_if_ne (tgt := 70) hx hb dMd_run_63 rfl (fun hc => ?_) (fun hc => ?_)
        · have hw := hw.1 hc
          refine lv_aload_n hx hb dMd_run_70 rfl (lv_at hl 0 rfl) ?_
          refine va_get (D := D) (ci := 7) (v := .ref (bd 25)) (C := "OnceNamedModel") (T := TX7) (N := 34) hx hb hts (fun w h => List.mem_cons_of_mem _ (inX7 w h)) hown hK hP 0 rfl rfl 28 (by decide) (hts _ (List.mem_cons_of_mem _ kw_1013)) (fun _ h9 => h9) rfl dMd_run_71 ?_
          refine lv_iconst (v := 0) hx hb dMd_run_74 (by decide) ?_
          have ho := hw.1
          have hw := hw.2
          refine va_iald hx hb hK hP 20 0 rfl rfl ho dMd_run_75 ?_
          refine lv_iconst (v := 2) hx hb dMd_run_76 (by decide) ?_
          refine lv_iadd hx hb dMd_run_77 ?_
          exact hj78 ((mFailed_53 (Int32.toNatClampNeg 0)) + 2) _ _ _ (lv_sub hl [0, 1] rfl) hP hD hS hw
        · have hw := hw.2 hc
          refine lv_iconst (v := 0) hx hb dMd_run_66 (by decide) ?_
          refine lv_goto (tgt := 78) hx hb dMd_run_67 rfl ?_
          exact hj78 0 _ _ _ (lv_sub hl [0, 1] rfl) hP hD hS hw
      refine lv_if_le (tgt := 52) hx hb dMd_run_45 rfl (fun hc => ?_) (fun hc => ?_)
      · have hw := hw.1 hc
        refine lv_iconst (v := 0) hx hb dMd_run_52 (by decide) ?_
        exact hj53 false _ _ _ (lv_sub hl [0, 1] rfl) hP hD hS hw
      · have hw := hw.2 hc
        refine lv_iconst (v := 1) hx hb dMd_run_48 (by decide) ?_
        refine lv_goto (tgt := 53) hx hb dMd_run_49 rfl ?_
        exact hj53 true _ _ _ (lv_sub hl [0, 1] rfl) hP hD hS hw
    · have hw := hw.2 hc
      refine lv_iconst (v := 0) hx hb dMd_run_40 (by decide) ?_
      exact hend 0 t30_0 mSlot mOver mSaid mSaidCount mFailed mValues mNextValues _ _ _ _ dMd_run_41 hP hD hS hw
  obtain ⟨J10, hJ10, hw⟩ := hw
  have hj10 : ∀  (ls : Array Slot) (H : Heap) (locs : List Loc), lv_has ls 2 [(0, .ref (bd 0)), (1, .int v1)] → va_P D vwCl (wdMd_run cA cB bd N mThrown mReached mForm mSlot mOver mMany mKinds mVs mWs mXs mEnds mEndVariable mYes mNo mStarts mMeets mSources mSet mUseW mUseX mEndUse mGone mSaid mSaidCount mFailed mValues mNextValues) H → va_D A (wdMd_run cA cB bd N mThrown mReached mForm mSlot mOver mMany mKinds mVs mWs mXs mEnds mEndVariable mYes mNo mStarts mMeets mSources mSet mUseW mUseX mEndUse mGone mSaid mSaidCount mFailed mValues mNextValues) → va_S A s.heap H locs → J10 → W p l e (headSpec (Cond.code yMd_run cMd_run 2 (some .int) :: xW) rmMd_run).room s m ([.ref (bd 0), .int v1] : List Value).toArray below meth c H locs 0 0 Q (F0 m 10 ls [.ref (bd 0)]) := by
    intro  ls H locs hl hP hD hS hw
    have hw := hJ10  hw
    refine lv_iconst (v := 1) hx hb dMd_run_10 (by decide) ?_
    refine lv_goto (tgt := 30) hx hb dMd_run_11 rfl ?_
    exact hj30 1 _ _ _ (lv_sub hl [0, 1] rfl) hP hD hS hw
  refine lv_if_lt (tgt := 10) hx hb dMd_run_2 rfl (fun hc => ?_) (fun hc => ?_)
  · have hw := hw.1 hc
    exact hj10  _ _ _ (lv_sub hl [0, 1] rfl) hP hD hS hw
  · have hw := hw.2 hc
    refine lv_iload_n hx hb dMd_run_5 rfl (lv_at hl 1 rfl) ?_
    refine lv_iconst (v := 2) hx hb dMd_run_6 (by decide) ?_
    refine lv_icmp_le (tgt := 14) hx hb dMd_run_7 rfl (fun hc => ?_) (fun hc => ?_)
    · have hw := hw.1 hc
      refine lv_iload_n hx hb dMd_run_14 rfl (lv_at hl 1 rfl) ?_
      refine lv_if_le (tgt := 29) hx hb dMd_run_15 rfl (fun hc => ?_) (fun hc => ?_)
      · have hw := hw.1 hc
        refine lv_iconst (v := 0) hx hb dMd_run_29 (by decide) ?_
        exact hj30 0 _ _ _ (lv_sub hl [0, 1] rfl) hP hD hS hw
      · have hw := hw.2 hc
        refine lv_aload_n hx hb dMd_run_18 rfl (lv_at hl 0 rfl) ?_
        refine va_get (D := D) (ci := 7) (v := .int (bI mForm)) (C := "OnceNamedModel") (T := TX7) (N := 34) hx hb hts (fun w h => List.mem_cons_of_mem _ (inX7 w h)) hown hK hP 0 rfl rfl 14 (by decide) (hts _ (List.mem_cons_of_mem _ kw_999)) (fun _ h9 => h9) rfl dMd_run_19 ?_
        refine lv_if_ne (tgt := 29) hx hb dMd_run_22 rfl (fun hc => ?_) (fun hc => ?_)
        · have hw := hw.1 (bI_1 hc)
          refine lv_iconst (v := 0) hx hb dMd_run_29 (by decide) ?_
          exact hj30 0 _ _ _ (lv_sub hl [0, 1] rfl) hP hD hS hw
        · have hw := hw.2 (bI_0 hc)
          refine lv_iconst (v := 2) hx hb dMd_run_25 (by decide) ?_
          refine lv_goto (tgt := 30) hx hb dMd_run_26 rfl ?_
          exact hj30 2 _ _ _ (lv_sub hl [0, 1] rfl) hP hD hS hw
    · have hw := hw.2 hc
      exact hj10  _ _ _ (lv_sub hl [0, 1] rfl) hP hD hS hw
abbrev wdMd_said (cA : ClassId) (cB : ClassId) (bd : Nat → Nat) (N : Nat) (mThrown : Int32) (mReached : Int32) (mForm : Bool) (mSlot : Int32) (mOver : Bool) (mSaid : Nat → Int32) (mSaidCount : Nat → Int32) : va_W := [((bd 0), .inr (7, [.int mThrown, .int (nI N), .ref (bd 1), .ref (bd 2), .ref (bd 3), .ref (bd 4), .ref (bd 5), .ref (bd 6), .ref (bd 7), .ref (bd 8), .ref (bd 9), .ref (bd 10), .int mReached, .ref (bd 11), .int (bI mForm), .ref (bd 12), .ref (bd 13), .ref (bd 14), .ref (bd 15), .ref (bd 16), .ref (bd 17), .ref (bd 18), .ref (bd 19), .ref (bd 20), .ref (bd 21), .ref (bd 22), .ref (bd 23), .ref (bd 24), .ref (bd 25), .ref (bd 26), .ref (bd 27), .ref (bd 28), .int mSlot, .int (bI mOver)])), ((bd 23), .inl (cA, 150, .inl mSaid)), ((bd 24), .inl (cA, 3, .inl mSaidCount))]
abbrev qcMd_said (D : va_G) (cA : ClassId) (cB : ClassId) (bd : Nat → Nat) (N : Nat) (mThrown : Int32) (mReached : Int32) (mForm : Bool) (mSlot : Int32) (mOver : Bool) (mSaid : Nat → Int32) (mSaidCount : Nat → Int32) (post : Int32 → Int32 → Prop) (A : Nat → Prop) : Array Value → State → Outcome → State → Prop := va_Qi (S := (Int32)) (fun r u => post r u) (fun u t => xB D [(cA, .int), (cB, .boolean)] A (wdMd_said cA cB bd N u mReached mForm mSlot mOver mSaid mSaidCount) t) A
abbrev rmMd_said : Room := { frames := 0, cells := 0, slots := 0, locals := 0 }
set_option maxHeartbeats 4000000 in
set_option maxRecDepth 100000 in
theorem ktMd_said (l : Launch) (D : va_G) (cA : ClassId) (cB : ClassId) (bd : Nat → Nat) (N : Nat) (sz : Nat) (mThrown : Int32) (mReached : Int32) (mForm : Bool) (mSlot : Int32) (mOver : Bool) (mSaid : Nat → Int32) (mSaidCount : Nat → Int32) (v1 : Int32) (post : Int32 → Int32 → Prop) (hw : wpMd_said mSaid mSaidCount v1 post) : Met l yMd_said (Cond.code yMd_said cMd_said 2 (some .int) :: xW) rmMd_said (va_Pc [.ref (bd 0), .int v1] (xPc D [(cA, .int), (cB, .boolean)] (wdMd_said cA cB bd N mThrown mReached mForm mSlot mOver mSaid mSaidCount) sz)) (qcMd_said D cA cB bd N mThrown mReached mForm mSlot mOver mSaid mSaidCount post (va_A (wdMd_said cA cB bd N mThrown mReached mForm mSlot mOver mSaid mSaidCount) sz)) 0 0 (va_A (wdMd_said cA cB bd N mThrown mReached mForm mSlot mOver mSaid mSaidCount) sz) := by
  refine Met.ofW (cc := cMd_said) (maxL := 2) (ret := (some .int)) (by decide) rfl ?_
  intro p e s m args below meth c s₁ B hml hv
  obtain ⟨rfl, hsz, hP, hK, hD0, hN⟩ := hv
  have hx := B.exec
  have hb := B.bytes
  have hr := B.returns
  have hts := atoms_spec (ws := (Cond.code yMd_said cMd_said 2 (some .int) :: xW)) B.pre
  have hown : s.vm.findClass "OnceNamedModel" = some m.cls := findClass_of_methodNamed B.named
  have hlocks := B.notSynchronized
  subst hsz
  have hD := hD0.self (sz := s.heap.size)
  generalize hAe : va_A (wdMd_said cA cB bd N mThrown mReached mForm mSlot mOver mSaid mSaidCount) s.heap.size = A at hD ⊢
  have hA : ∀ q : Nat, s.heap.size ≤ q → A q := fun q h => by rw [← hAe]; exact Or.inr h
  have hS : va_S A s.heap s.heap [] := va_S.rf
  have hend : ∀ (r : Int32) (u0 : Int32) (H : Heap) (locs : List Loc) (pc : Nat) (ls : Array Slot), decode cMd_said pc = .ok (.ireturn, 1) → va_P D vwCl (wdMd_said cA cB bd N u0 mReached mForm mSlot mOver mSaid mSaidCount) H → va_D A (wdMd_said cA cB bd N u0 mReached mForm mSlot mOver mSaid mSaidCount) → va_S A s.heap H locs → post r u0 → W p l e (headSpec (Cond.code yMd_said cMd_said 2 (some .int) :: xW) rmMd_said).room s m ([.ref (bd 0), .int v1] : List Value).toArray below meth c H locs 0 0 (MQ below (qcMd_said D cA cB bd N mThrown mReached mForm mSlot mOver mSaid mSaidCount post A) ([.ref (bd 0), .int v1] : List Value).toArray s 0 0 A) (F0 m pc ls [.int r]) := fun r u0 H locs pc ls hd hP hD hS hw => W.iret (v := r) hx hb hr (fun t ht hW => ⟨⟨r, u0, rfl, hw, ⟨by rw [ht]; exact hP, va_K.moved hW.alike hK, hD⟩⟩, hS.F ht⟩) hS.2.2 hd
  generalize hQ : MQ below (qcMd_said D cA cB bd N mThrown mReached mForm mSlot mOver mSaid mSaidCount post A) ([.ref (bd 0), .int v1] : List Value).toArray s 0 0 A = Q at hend ⊢
  have hl := lv_entry ([.ref (bd 0), .int v1]) (n := 2) (Nat.le_of_ble_eq_true rfl)
  rw [lg_entry_eq]
  generalize (lg_sl ([.ref (bd 0), .int v1]) ++ List.replicate (2 - (lg_sl ([.ref (bd 0), .int v1])).length) Slot.unset).toArray = ls at hl ⊢
  have hl : lv_has ls 2 [(0, .ref (bd 0)), (1, .int v1)] := hl
  unfold wpMd_said at hw
  refine lv_aload_n hx hb dMd_said_0 rfl (lv_at hl 0 rfl) ?_
  refine lv_iload_n hx hb dMd_said_1 rfl (lv_at hl 1 rfl) ?_
  obtain ⟨J20, hJ20, hw⟩ := hw
  have hj20 : ∀ (t20_0 : Bool) (ls : Array Slot) (H : Heap) (locs : List Loc), lv_has ls 2 [(0, .ref (bd 0)), (1, .int v1)] → va_P D vwCl (wdMd_said cA cB bd N mThrown mReached mForm mSlot mOver mSaid mSaidCount) H → va_D A (wdMd_said cA cB bd N mThrown mReached mForm mSlot mOver mSaid mSaidCount) → va_S A s.heap H locs → J20 t20_0 → W p l e (headSpec (Cond.code yMd_said cMd_said 2 (some .int) :: xW) rmMd_said).room s m ([.ref (bd 0), .int v1] : List Value).toArray below meth c H locs 0 0 Q (F0 m 20 ls [.int (bI t20_0), .ref (bd 0)]) := by
    intro t20_0 ls H locs hl hP hD hS hw
    have hw := hJ20 t20_0 hw
    refine va_put (D := D) (ci := 7) (v := .int (bI t20_0)) (ty := .int) (C := "OnceNamedModel") (T := TX7) (N := 34) hx hb hts (fun w h => List.mem_cons_of_mem _ (inX7 w h)) tyX7 tyX7_ok nmX7 hown hK hP hD hS 0 rfl rfl 0 (by decide) (hts _ (List.mem_cons_of_mem _ kw_985)) (fun _ h9 => h9) rfl (by decide +kernel) rfl rfl (Nat.le_of_ble_eq_true rfl) dMd_said_20 (fun H locs hP hD hS => ?_)
    have hP : va_P D vwCl (wdMd_said cA cB bd N (bI t20_0) mReached mForm mSlot mOver mSaid mSaidCount) H := hP
    have hD : va_D A (wdMd_said cA cB bd N (bI t20_0) mReached mForm mSlot mOver mSaid mSaidCount) := hD
    refine lv_aload_n hx hb dMd_said_23 rfl (lv_at hl 0 rfl) ?_
    refine va_get (D := D) (ci := 7) (v := .int (bI t20_0)) (C := "OnceNamedModel") (T := TX7) (N := 34) hx hb hts (fun w h => List.mem_cons_of_mem _ (inX7 w h)) hown hK hP 0 rfl rfl 0 (by decide) (hts _ (List.mem_cons_of_mem _ kw_985)) (fun _ h9 => h9) rfl dMd_said_24 ?_
    refine lv_if_ne (tgt := 39) hx hb dMd_said_27 rfl (fun hc => ?_) (fun hc => ?_)
    · have hw := hw.1 hc
      refine lv_iconst (v := 0) hx hb dMd_said_39 (by decide) ?_
      exact hend 0 (bI t20_0) _ _ _ _ dMd_said_40 hP hD hS hw
    · have hw := hw.2 hc
      refine lv_aload_n hx hb dMd_said_30 rfl (lv_at hl 0 rfl) ?_
      refine va_get (D := D) (ci := 7) (v := .ref (bd 23)) (C := "OnceNamedModel") (T := TX7) (N := 34) hx hb hts (fun w h => List.mem_cons_of_mem _ (inX7 w h)) hown hK hP 0 rfl rfl 26 (by decide) (hts _ (List.mem_cons_of_mem _ kw_1011)) (fun _ h9 => h9) rfl dMd_said_31 ?_
      refine lv_iload_n hx hb dMd_said_34 rfl (lv_at hl 1 rfl) ?_
      have ho := hw.1
      have hw := hw.2
      refine va_iald hx hb hK hP 1 0 rfl rfl ho dMd_said_35 ?_
      refine lv_goto (tgt := 40) hx hb dMd_said_36 rfl ?_
      exact hend (mSaid (Int32.toNatClampNeg v1)) (bI t20_0) _ _ _ _ dMd_said_40 hP hD hS hw
  obtain ⟨J15, hJ15, hw⟩ := hw
  have hj15 : ∀  (ls : Array Slot) (H : Heap) (locs : List Loc), lv_has ls 2 [(0, .ref (bd 0)), (1, .int v1)] → va_P D vwCl (wdMd_said cA cB bd N mThrown mReached mForm mSlot mOver mSaid mSaidCount) H → va_D A (wdMd_said cA cB bd N mThrown mReached mForm mSlot mOver mSaid mSaidCount) → va_S A s.heap H locs → J15 → W p l e (headSpec (Cond.code yMd_said cMd_said 2 (some .int) :: xW) rmMd_said).room s m ([.ref (bd 0), .int v1] : List Value).toArray below meth c H locs 0 0 Q (F0 m 15 ls [.ref (bd 0)]) := by
    intro  ls H locs hl hP hD hS hw
    have hw := hJ15  hw
    refine lv_iconst (v := 1) hx hb dMd_said_15 (by decide) ?_
    refine lv_goto (tgt := 20) hx hb dMd_said_16 rfl ?_
    exact hj20 true _ _ _ (lv_sub hl [0, 1] rfl) hP hD hS hw
  refine lv_if_lt (tgt := 15) hx hb dMd_said_2 rfl (fun hc => ?_) (fun hc => ?_)
  · have hw := hw.1 hc
    exact hj15  _ _ _ (lv_sub hl [0, 1] rfl) hP hD hS hw
  · have hw := hw.2 hc
    refine lv_iload_n hx hb dMd_said_5 rfl (lv_at hl 1 rfl) ?_
    refine lv_aload_n hx hb dMd_said_6 rfl (lv_at hl 0 rfl) ?_
    refine va_get (D := D) (ci := 7) (v := .ref (bd 24)) (C := "OnceNamedModel") (T := TX7) (N := 34) hx hb hts (fun w h => List.mem_cons_of_mem _ (inX7 w h)) hown hK hP 0 rfl rfl 27 (by decide) (hts _ (List.mem_cons_of_mem _ kw_1012)) (fun _ h9 => h9) rfl dMd_said_7 ?_
    refine lv_iconst (v := 0) hx hb dMd_said_10 (by decide) ?_
    have ho := hw.1
    have hw := hw.2
    refine va_iald hx hb hK hP 2 0 rfl rfl ho dMd_said_11 ?_
    refine lv_icmp_lt (tgt := 19) hx hb dMd_said_12 rfl (fun hc => ?_) (fun hc => ?_)
    · have hw := hw.1 hc
      refine lv_iconst (v := 0) hx hb dMd_said_19 (by decide) ?_
      exact hj20 false _ _ _ (lv_sub hl [0, 1] rfl) hP hD hS hw
    · have hw := hw.2 hc
      exact hj15  _ _ _ (lv_sub hl [0, 1] rfl) hP hD hS hw
abbrev wdMd_same (cA : ClassId) (cB : ClassId) (bd : Nat → Nat) (N : Nat) (mThrown : Int32) (mReached : Int32) (mForm : Bool) (mSlot : Int32) (mOver : Bool) (mMany : Nat → Int32) (mKinds : Nat → Int32) (mVs : Nat → Int32) (mWs : Nat → Int32) (mXs : Nat → Int32) (mEnds : Nat → Int32) (mEndVariable : Nat → Int32) (mYes : Nat → Int32) (mNo : Nat → Int32) (mStarts : Nat → Int32) (mMeets : Nat → Int32) (mSources : Nat → Int32) (mSet : Nat → Int32) (mUseW : Nat → Int32) (mUseX : Nat → Int32) (mEndUse : Nat → Int32) (mGone : Nat → Bool) (mSaid : Nat → Int32) (mSaidCount : Nat → Int32) (mFailed : Nat → Int32) (mValues : Nat → Int32) (mNextValues : Nat → Int32) : va_W := [((bd 0), .inr (7, [.int mThrown, .int (nI N), .ref (bd 1), .ref (bd 2), .ref (bd 3), .ref (bd 4), .ref (bd 5), .ref (bd 6), .ref (bd 7), .ref (bd 8), .ref (bd 9), .ref (bd 10), .int mReached, .ref (bd 11), .int (bI mForm), .ref (bd 12), .ref (bd 13), .ref (bd 14), .ref (bd 15), .ref (bd 16), .ref (bd 17), .ref (bd 18), .ref (bd 19), .ref (bd 20), .ref (bd 21), .ref (bd 22), .ref (bd 23), .ref (bd 24), .ref (bd 25), .ref (bd 26), .ref (bd 27), .ref (bd 28), .int mSlot, .int (bI mOver)])), ((bd 1), .inl (cA, 12, .inl mMany)), ((bd 2), .inl (cA, 72, .inl mKinds)), ((bd 3), .inl (cA, 72, .inl mVs)), ((bd 4), .inl (cA, 72, .inl mWs)), ((bd 5), .inl (cA, 72, .inl mXs)), ((bd 6), .inl (cA, 12, .inl mEnds)), ((bd 7), .inl (cA, 12, .inl mEndVariable)), ((bd 8), .inl (cA, 12, .inl mYes)), ((bd 9), .inl (cA, 12, .inl mNo)), ((bd 10), .inl (cA, 6, .inl mStarts)), ((bd 12), .inl (cA, 72, .inl mMeets)), ((bd 13), .inl (cA, 936, .inl mSources)), ((bd 14), .inl (cA, 72, .inl mSet)), ((bd 15), .inl (cA, 72, .inl mUseW)), ((bd 16), .inl (cA, 72, .inl mUseX)), ((bd 17), .inl (cA, 12, .inl mEndUse)), ((bd 18), .inl (cB, 72, .inl (fun j => bI (mGone j)))), ((bd 23), .inl (cA, 150, .inl mSaid)), ((bd 24), .inl (cA, 3, .inl mSaidCount)), ((bd 25), .inl (cA, 3, .inl mFailed)), ((bd 26), .inl (cA, 600, .inl mValues)), ((bd 27), .inl (cA, 6, .inl mNextValues))]
abbrev qcMd_same (D : va_G) (cA : ClassId) (cB : ClassId) (bd : Nat → Nat) (N : Nat) (mThrown : Int32) (mReached : Int32) (mForm : Bool) (mSlot : Int32) (mOver : Bool) (mMany : Nat → Int32) (mKinds : Nat → Int32) (mVs : Nat → Int32) (mWs : Nat → Int32) (mXs : Nat → Int32) (mEnds : Nat → Int32) (mEndVariable : Nat → Int32) (mYes : Nat → Int32) (mNo : Nat → Int32) (mStarts : Nat → Int32) (mMeets : Nat → Int32) (mSources : Nat → Int32) (mSet : Nat → Int32) (mUseW : Nat → Int32) (mUseX : Nat → Int32) (mEndUse : Nat → Int32) (mGone : Nat → Bool) (mSaid : Nat → Int32) (mSaidCount : Nat → Int32) (mFailed : Nat → Int32) (mValues : Nat → Int32) (mNextValues : Nat → Int32) (post : Bool → Int32 → Int32 → Bool → (Nat → Int32) → (Nat → Int32) → (Nat → Int32) → (Nat → Int32) → (Nat → Int32) → Prop) (A : Nat → Prop) : Array Value → State → Outcome → State → Prop := va_Qi (S := (Int32) × (Int32) × (Bool) × (Nat → Int32) × (Nat → Int32) × (Nat → Int32) × (Nat → Int32) × (Nat → Int32)) (fun r u => ∃ z : Bool, r = bI z ∧ post z u.1 u.2.1 u.2.2.1 u.2.2.2.1 u.2.2.2.2.1 u.2.2.2.2.2.1 u.2.2.2.2.2.2.1 u.2.2.2.2.2.2.2) (fun u t => xB D [(cA, .int), (cB, .boolean)] A (wdMd_same cA cB bd N u.1 mReached mForm u.2.1 u.2.2.1 mMany mKinds mVs mWs mXs mEnds mEndVariable mYes mNo mStarts mMeets mSources mSet mUseW mUseX mEndUse mGone u.2.2.2.1 u.2.2.2.2.1 u.2.2.2.2.2.1 u.2.2.2.2.2.2.1 u.2.2.2.2.2.2.2) t) A
abbrev rmMd_same : Room := { frames := 4, cells := 0, slots := 0, locals := 96 }
set_option maxHeartbeats 4000000 in
set_option maxRecDepth 100000 in
theorem ktMd_same (l : Launch) (D : va_G) (cA : ClassId) (cB : ClassId) (bd : Nat → Nat) (N : Nat) (sz : Nat) (mThrown : Int32) (mReached : Int32) (mForm : Bool) (mSlot : Int32) (mOver : Bool) (mMany : Nat → Int32) (mKinds : Nat → Int32) (mVs : Nat → Int32) (mWs : Nat → Int32) (mXs : Nat → Int32) (mEnds : Nat → Int32) (mEndVariable : Nat → Int32) (mYes : Nat → Int32) (mNo : Nat → Int32) (mStarts : Nat → Int32) (mMeets : Nat → Int32) (mSources : Nat → Int32) (mSet : Nat → Int32) (mUseW : Nat → Int32) (mUseX : Nat → Int32) (mEndUse : Nat → Int32) (mGone : Nat → Bool) (mSaid : Nat → Int32) (mSaidCount : Nat → Int32) (mFailed : Nat → Int32) (mValues : Nat → Int32) (mNextValues : Nat → Int32) (v1 : Int32) (post : Bool → Int32 → Int32 → Bool → (Nat → Int32) → (Nat → Int32) → (Nat → Int32) → (Nat → Int32) → (Nat → Int32) → Prop) (hw : wpMd_same N mForm mSlot mOver mMany mKinds mVs mWs mXs mEnds mEndVariable mYes mNo mStarts mMeets mSources mSet mUseW mUseX mEndUse mGone mSaid mSaidCount mFailed mValues mNextValues v1 post) : Met l yMd_same (Cond.code yMd_same cMd_same 4 (some .boolean) :: xW) rmMd_same (va_Pc [.ref (bd 0), .int v1] (xPc D [(cA, .int), (cB, .boolean)] (wdMd_same cA cB bd N mThrown mReached mForm mSlot mOver mMany mKinds mVs mWs mXs mEnds mEndVariable mYes mNo mStarts mMeets mSources mSet mUseW mUseX mEndUse mGone mSaid mSaidCount mFailed mValues mNextValues) sz)) (qcMd_same D cA cB bd N mThrown mReached mForm mSlot mOver mMany mKinds mVs mWs mXs mEnds mEndVariable mYes mNo mStarts mMeets mSources mSet mUseW mUseX mEndUse mGone mSaid mSaidCount mFailed mValues mNextValues post (va_A (wdMd_same cA cB bd N mThrown mReached mForm mSlot mOver mMany mKinds mVs mWs mXs mEnds mEndVariable mYes mNo mStarts mMeets mSources mSet mUseW mUseX mEndUse mGone mSaid mSaidCount mFailed mValues mNextValues) sz)) 0 0 (va_A (wdMd_same cA cB bd N mThrown mReached mForm mSlot mOver mMany mKinds mVs mWs mXs mEnds mEndVariable mYes mNo mStarts mMeets mSources mSet mUseW mUseX mEndUse mGone mSaid mSaidCount mFailed mValues mNextValues) sz) := by
  refine Met.ofW (cc := cMd_same) (maxL := 4) (ret := (some .boolean)) (by decide) rfl ?_
  intro p e s m args below meth c s₁ B hml hv
  obtain ⟨rfl, hsz, hP, hK, hD0, hN⟩ := hv
  have hx := B.exec
  have hb := B.bytes
  have hr := B.returns
  have hts := atoms_spec (ws := (Cond.code yMd_same cMd_same 4 (some .boolean) :: xW)) B.pre
  have hown : s.vm.findClass "OnceNamedModel" = some m.cls := findClass_of_methodNamed B.named
  have hlocks := B.notSynchronized
  subst hsz
  have hD := hD0.self (sz := s.heap.size)
  generalize hAe : va_A (wdMd_same cA cB bd N mThrown mReached mForm mSlot mOver mMany mKinds mVs mWs mXs mEnds mEndVariable mYes mNo mStarts mMeets mSources mSet mUseW mUseX mEndUse mGone mSaid mSaidCount mFailed mValues mNextValues) s.heap.size = A at hD ⊢
  have hA : ∀ q : Nat, s.heap.size ≤ q → A q := fun q h => by rw [← hAe]; exact Or.inr h
  have hS : va_S A s.heap s.heap [] := va_S.rf
  have hend : ∀ (r : Bool) (u0 : Int32) (u1 : Int32) (u2 : Bool) (u3 : Nat → Int32) (u4 : Nat → Int32) (u5 : Nat → Int32) (u6 : Nat → Int32) (u7 : Nat → Int32) (H : Heap) (locs : List Loc) (pc : Nat) (ls : Array Slot), decode cMd_same pc = .ok (.ireturn, 1) → va_P D vwCl (wdMd_same cA cB bd N u0 mReached mForm u1 u2 mMany mKinds mVs mWs mXs mEnds mEndVariable mYes mNo mStarts mMeets mSources mSet mUseW mUseX mEndUse mGone u3 u4 u5 u6 u7) H → va_D A (wdMd_same cA cB bd N u0 mReached mForm u1 u2 mMany mKinds mVs mWs mXs mEnds mEndVariable mYes mNo mStarts mMeets mSources mSet mUseW mUseX mEndUse mGone u3 u4 u5 u6 u7) → va_S A s.heap H locs → post r u0 u1 u2 u3 u4 u5 u6 u7 → W p l e (headSpec (Cond.code yMd_same cMd_same 4 (some .boolean) :: xW) rmMd_same).room s m ([.ref (bd 0), .int v1] : List Value).toArray below meth c H locs 0 0 (MQ below (qcMd_same D cA cB bd N mThrown mReached mForm mSlot mOver mMany mKinds mVs mWs mXs mEnds mEndVariable mYes mNo mStarts mMeets mSources mSet mUseW mUseX mEndUse mGone mSaid mSaidCount mFailed mValues mNextValues post A) ([.ref (bd 0), .int v1] : List Value).toArray s 0 0 A) (F0 m pc ls [.int (bI r)]) := fun r u0 u1 u2 u3 u4 u5 u6 u7 H locs pc ls hd hP hD hS hw => W.zret (v := bI r) hx hb hr (bI_nar r) (fun t ht hW => ⟨⟨bI r, (u0, u1, u2, u3, u4, u5, u6, u7), rfl, ⟨r, rfl, hw⟩, ⟨by rw [ht]; exact hP, va_K.moved hW.alike hK, hD⟩⟩, hS.F ht⟩) hS.2.2 hd
  generalize hQ : MQ below (qcMd_same D cA cB bd N mThrown mReached mForm mSlot mOver mMany mKinds mVs mWs mXs mEnds mEndVariable mYes mNo mStarts mMeets mSources mSet mUseW mUseX mEndUse mGone mSaid mSaidCount mFailed mValues mNextValues post A) ([.ref (bd 0), .int v1] : List Value).toArray s 0 0 A = Q at hend ⊢
  have hl := lv_entry ([.ref (bd 0), .int v1]) (n := 4) (Nat.le_of_ble_eq_true rfl)
  rw [lg_entry_eq]
  generalize (lg_sl ([.ref (bd 0), .int v1]) ++ List.replicate (4 - (lg_sl ([.ref (bd 0), .int v1])).length) Slot.unset).toArray = ls at hl ⊢
  have hl : lv_has ls 4 [(0, .ref (bd 0)), (1, .int v1)] := hl
  unfold wpMd_same at hw
  refine lv_aload_n hx hb dMd_same_0 rfl (lv_at hl 0 rfl) ?_
  refine lv_iload_n hx hb dMd_same_1 rfl (lv_at hl 1 rfl) ?_
  obtain ⟨J30, hJ30, hw⟩ := hw
  have hj30 : ∀ (t30_0 : Int32) (ls : Array Slot) (H : Heap) (locs : List Loc), lv_has ls 4 [(0, .ref (bd 0)), (1, .int v1)] → va_P D vwCl (wdMd_same cA cB bd N mThrown mReached mForm mSlot mOver mMany mKinds mVs mWs mXs mEnds mEndVariable mYes mNo mStarts mMeets mSources mSet mUseW mUseX mEndUse mGone mSaid mSaidCount mFailed mValues mNextValues) H → va_D A (wdMd_same cA cB bd N mThrown mReached mForm mSlot mOver mMany mKinds mVs mWs mXs mEnds mEndVariable mYes mNo mStarts mMeets mSources mSet mUseW mUseX mEndUse mGone mSaid mSaidCount mFailed mValues mNextValues) → va_S A s.heap H locs → J30 t30_0 → W p l e (headSpec (Cond.code yMd_same cMd_same 4 (some .boolean) :: xW) rmMd_same).room s m ([.ref (bd 0), .int v1] : List Value).toArray below meth c H locs 0 0 Q (F0 m 30 ls [.int t30_0, .ref (bd 0)]) := by
    intro t30_0 ls H locs hl hP hD hS hw
    have hw := hJ30 t30_0 hw
    refine va_put (D := D) (ci := 7) (v := .int t30_0) (ty := .int) (C := "OnceNamedModel") (T := TX7) (N := 34) hx hb hts (fun w h => List.mem_cons_of_mem _ (inX7 w h)) tyX7 tyX7_ok nmX7 hown hK hP hD hS 0 rfl rfl 0 (by decide) (hts _ (List.mem_cons_of_mem _ kw_985)) (fun _ h9 => h9) rfl (by decide +kernel) rfl rfl (Nat.le_of_ble_eq_true rfl) dMd_same_30 (fun H locs hP hD hS => ?_)
    have hP : va_P D vwCl (wdMd_same cA cB bd N t30_0 mReached mForm mSlot mOver mMany mKinds mVs mWs mXs mEnds mEndVariable mYes mNo mStarts mMeets mSources mSet mUseW mUseX mEndUse mGone mSaid mSaidCount mFailed mValues mNextValues) H := hP
    have hD : va_D A (wdMd_same cA cB bd N t30_0 mReached mForm mSlot mOver mMany mKinds mVs mWs mXs mEnds mEndVariable mYes mNo mStarts mMeets mSources mSet mUseW mUseX mEndUse mGone mSaid mSaidCount mFailed mValues mNextValues) := hD
    refine lv_aload_n hx hb dMd_same_33 rfl (lv_at hl 0 rfl) ?_
    refine va_get (D := D) (ci := 7) (v := .int t30_0) (C := "OnceNamedModel") (T := TX7) (N := 34) hx hb hts (fun w h => List.mem_cons_of_mem _ (inX7 w h)) hown hK hP 0 rfl rfl 0 (by decide) (hts _ (List.mem_cons_of_mem _ kw_985)) (fun _ h9 => h9) rfl dMd_same_34 ?_
    refine lv_if_eq (tgt := 42) hx hb dMd_same_37 rfl (fun hc => ?_) (fun hc => ?_)
    · have hw := hw.1 hc
      refine lv_aload_n hx hb dMd_same_42 rfl (lv_at hl 0 rfl) ?_
      refine lv_iconst (v := 1) hx hb dMd_same_43 (by decide) ?_
      refine lv_iconst (v := 0) hx hb dMd_same_44 (by decide) ?_
      refine xcv (va_runV ⟨hx, hb, hml, hown, hts⟩ (ktMd_runInto l D cA cB bd N _ t30_0 mReached mForm mSlot mOver mMany mKinds mVs mWs mXs mEnds mEndVariable mYes mNo mStarts mMeets mSources mSet mUseW mUseX mEndUse mGone mSaid mSaidCount mFailed mValues mNextValues 1 false _ hw) (cwV 2 hts (goodV kw_1273 kw_1275 ks_5_6 kw_11 kw_1276) rfl rfl rfl (by decide +kernel) ⟨Nat.le_of_ble_eq_true rfl, Nat.le_of_ble_eq_true rfl⟩) (xpreV hK hP hD hN [0, 1, 2, 3, 4, 5, 6, 7, 8, 9, 10, 11, 12, 13, 14, 15, 16, 17, 18, 19, 20, 21, 22] rfl rfl 0 rfl rfl) rfl rfl hl.1 rfl (lv_room (Nat.le_of_ble_eq_true rfl)) dMd_same_45 ⟨Nat.le_of_ble_eq_true rfl, Nat.le_of_ble_eq_true rfl⟩) hP hD hS hA [0, 1, 2, 3, 4, 5, 6, 7, 8, 9, 10, 11, 12, 13, 14, 15, 16, 17, 18, 19, 20, 21, 22] [] rfl rfl rfl rfl [0, 1, 2, 3, 4, 5, 6, 7, 8, 9, 10, 11, 12, 13, 14, 15, 16, 17, 18, 19, 20, 21, 22] rfl (fun _ => rfl) (fun u H locs hw hP hD hS => ?_)
      obtain ⟨mSlot_45, mOver_45, mSaid_45, mSaidCount_45, mFailed_45, mValues_45, mNextValues_45⟩ := u
      try dsimp only at hw
      have hP : va_P D vwCl (wdMd_same cA cB bd N t30_0 mReached mForm mSlot_45 mOver_45 mMany mKinds mVs mWs mXs mEnds mEndVariable mYes mNo mStarts mMeets mSources mSet mUseW mUseX mEndUse mGone mSaid_45 mSaidCount_45 mFailed_45 mValues_45 mNextValues_45) H := hP
      have hD : va_D A (wdMd_same cA cB bd N t30_0 mReached mForm mSlot_45 mOver_45 mMany mKinds mVs mWs mXs mEnds mEndVariable mYes mNo mStarts mMeets mSources mSet mUseW mUseX mEndUse mGone mSaid_45 mSaidCount_45 mFailed_45 mValues_45 mNextValues_45) := hD
      refine lv_aload_n hx hb dMd_same_48 rfl (lv_at hl 0 rfl) ?_
      refine lv_iconst (v := 2) hx hb dMd_same_49 (by decide) ?_
      refine lv_iload_n hx hb dMd_same_50 rfl (lv_at hl 1 rfl) ?_
      obtain ⟨J59, hJ59, hw⟩ := hw
      have hj59 : ∀ (t59_0 : Bool) (ls : Array Slot) (H : Heap) (locs : List Loc), lv_has ls 4 [(0, .ref (bd 0)), (1, .int v1)] → va_P D vwCl (wdMd_same cA cB bd N t30_0 mReached mForm mSlot_45 mOver_45 mMany mKinds mVs mWs mXs mEnds mEndVariable mYes mNo mStarts mMeets mSources mSet mUseW mUseX mEndUse mGone mSaid_45 mSaidCount_45 mFailed_45 mValues_45 mNextValues_45) H → va_D A (wdMd_same cA cB bd N t30_0 mReached mForm mSlot_45 mOver_45 mMany mKinds mVs mWs mXs mEnds mEndVariable mYes mNo mStarts mMeets mSources mSet mUseW mUseX mEndUse mGone mSaid_45 mSaidCount_45 mFailed_45 mValues_45 mNextValues_45) → va_S A s.heap H locs → J59 t59_0 → W p l e (headSpec (Cond.code yMd_same cMd_same 4 (some .boolean) :: xW) rmMd_same).room s m ([.ref (bd 0), .int v1] : List Value).toArray below meth c H locs 0 0 Q (F0 m 59 ls [.int (bI t59_0), .int 2, .ref (bd 0)]) := by
        intro t59_0 ls H locs hl hP hD hS hw
        have hw := hJ59 t59_0 hw
        refine xcv (va_runV ⟨hx, hb, hml, hown, hts⟩ (ktMd_runInto l D cA cB bd N _ t30_0 mReached mForm mSlot_45 mOver_45 mMany mKinds mVs mWs mXs mEnds mEndVariable mYes mNo mStarts mMeets mSources mSet mUseW mUseX mEndUse mGone mSaid_45 mSaidCount_45 mFailed_45 mValues_45 mNextValues_45 2 t59_0 _ hw) (cwV 2 hts (goodV kw_1273 kw_1275 ks_5_6 kw_11 kw_1276) rfl rfl rfl (by decide +kernel) ⟨Nat.le_of_ble_eq_true rfl, Nat.le_of_ble_eq_true rfl⟩) (xpreV hK hP hD hN [0, 1, 2, 3, 4, 5, 6, 7, 8, 9, 10, 11, 12, 13, 14, 15, 16, 17, 18, 19, 20, 21, 22] rfl rfl 0 rfl rfl) rfl rfl hl.1 rfl (lv_room (Nat.le_of_ble_eq_true rfl)) dMd_same_59 ⟨Nat.le_of_ble_eq_true rfl, Nat.le_of_ble_eq_true rfl⟩) hP hD hS hA [0, 1, 2, 3, 4, 5, 6, 7, 8, 9, 10, 11, 12, 13, 14, 15, 16, 17, 18, 19, 20, 21, 22] [] rfl rfl rfl rfl [0, 1, 2, 3, 4, 5, 6, 7, 8, 9, 10, 11, 12, 13, 14, 15, 16, 17, 18, 19, 20, 21, 22] rfl (fun _ => rfl) (fun u H locs hw hP hD hS => ?_)
        obtain ⟨mSlot_59, mOver_59, mSaid_59, mSaidCount_59, mFailed_59, mValues_59, mNextValues_59⟩ := u
        try dsimp only at hw
        have hP : va_P D vwCl (wdMd_same cA cB bd N t30_0 mReached mForm mSlot_59 mOver_59 mMany mKinds mVs mWs mXs mEnds mEndVariable mYes mNo mStarts mMeets mSources mSet mUseW mUseX mEndUse mGone mSaid_59 mSaidCount_59 mFailed_59 mValues_59 mNextValues_59) H := hP
        have hD : va_D A (wdMd_same cA cB bd N t30_0 mReached mForm mSlot_59 mOver_59 mMany mKinds mVs mWs mXs mEnds mEndVariable mYes mNo mStarts mMeets mSources mSet mUseW mUseX mEndUse mGone mSaid_59 mSaidCount_59 mFailed_59 mValues_59 mNextValues_59) := hD
        refine lv_aload_n hx hb dMd_same_62 rfl (lv_at hl 0 rfl) ?_
        refine va_get (D := D) (ci := 7) (v := .ref (bd 25)) (C := "OnceNamedModel") (T := TX7) (N := 34) hx hb hts (fun w h => List.mem_cons_of_mem _ (inX7 w h)) hown hK hP 0 rfl rfl 28 (by decide) (hts _ (List.mem_cons_of_mem _ kw_1013)) (fun _ h9 => h9) rfl dMd_same_63 ?_
        refine lv_iconst (v := 1) hx hb dMd_same_66 (by decide) ?_
        have ho := hw.1
        have hw := hw.2
        refine va_iald hx hb hK hP 20 0 rfl rfl ho dMd_same_67 ?_
        refine lv_aload_n hx hb dMd_same_68 rfl (lv_at hl 0 rfl) ?_
        refine va_get (D := D) (ci := 7) (v := .ref (bd 25)) (C := "OnceNamedModel") (T := TX7) (N := 34) hx hb hts (fun w h => List.mem_cons_of_mem _ (inX7 w h)) hown hK hP 0 rfl rfl 28 (by decide) (hts _ (List.mem_cons_of_mem _ kw_1013)) (fun _ h9 => h9) rfl dMd_same_69 ?_
        refine lv_iconst (v := 2) hx hb dMd_same_72 (by decide) ?_
        have ho := hw.1
        have hw := hw.2
        refine va_iald hx hb hK hP 20 0 rfl rfl ho dMd_same_73 ?_
        obtain ⟨J97, hJ97, hw⟩ := hw
        have hj97 : ∀ (t97_0 : Bool) (ls : Array Slot) (H : Heap) (locs : List Loc), lv_has ls 4 [(0, .ref (bd 0)), (1, .int v1)] → va_P D vwCl (wdMd_same cA cB bd N t30_0 mReached mForm mSlot_59 mOver_59 mMany mKinds mVs mWs mXs mEnds mEndVariable mYes mNo mStarts mMeets mSources mSet mUseW mUseX mEndUse mGone mSaid_59 mSaidCount_59 mFailed_59 mValues_59 mNextValues_59) H → va_D A (wdMd_same cA cB bd N t30_0 mReached mForm mSlot_59 mOver_59 mMany mKinds mVs mWs mXs mEnds mEndVariable mYes mNo mStarts mMeets mSources mSet mUseW mUseX mEndUse mGone mSaid_59 mSaidCount_59 mFailed_59 mValues_59 mNextValues_59) → va_S A s.heap H locs → J97 t97_0 → W p l e (headSpec (Cond.code yMd_same cMd_same 4 (some .boolean) :: xW) rmMd_same).room s m ([.ref (bd 0), .int v1] : List Value).toArray below meth c H locs 0 0 Q (F0 m 97 ls [.int (bI t97_0)]) := by
          intro t97_0 ls H locs hl hP hD hS hw
          have hw := hJ97 t97_0 hw
          refine lv_istore_n (lv' := [(2, .int (bI t97_0)), (0, .ref (bd 0)), (1, .int v1)]) hx hb dMd_same_97 rfl hl (by decide) rfl (fun ls hl => ?_)
          refine lv_iconst (v := 0) hx hb dMd_same_98 (by decide) ?_
          refine lv_istore_n (lv' := [(3, .int 0), (2, .int (bI t97_0)), (0, .ref (bd 0)), (1, .int v1)]) hx hb dMd_same_99 rfl hl (by decide) rfl (fun ls hl => ?_)
          obtain ⟨k100, hw⟩ := hw
          have hlp100 : ∀ (k : Nat), ∀ (v2_L100 : Bool) (v3_L100 : Int32) (ls : Array Slot) (H : Heap) (locs : List Loc), lv_has ls 4 [(0, .ref (bd 0)), (1, .int v1), (2, .int (bI v2_L100)), (3, .int v3_L100)] → va_P D vwCl (wdMd_same cA cB bd N t30_0 mReached mForm mSlot_59 mOver_59 mMany mKinds mVs mWs mXs mEnds mEndVariable mYes mNo mStarts mMeets mSources mSet mUseW mUseX mEndUse mGone mSaid_59 mSaidCount_59 mFailed_59 mValues_59 mNextValues_59) H → va_D A (wdMd_same cA cB bd N t30_0 mReached mForm mSlot_59 mOver_59 mMany mKinds mVs mWs mXs mEnds mEndVariable mYes mNo mStarts mMeets mSources mSet mUseW mUseX mEndUse mGone mSaid_59 mSaidCount_59 mFailed_59 mValues_59 mNextValues_59) → va_S A s.heap H locs → lpMd_same_100 t30_0 mSlot_59 mOver_59 mSaid_59 mSaidCount_59 mFailed_59 mValues_59 mNextValues_59 post k v2_L100 v3_L100 → W p l e (headSpec (Cond.code yMd_same cMd_same 4 (some .boolean) :: xW) rmMd_same).room s m ([.ref (bd 0), .int v1] : List Value).toArray below meth c H locs 0 0 Q (F0 m 100 ls []) := by
            intro k
            induction k with
            | zero => intro v2_L100 v3_L100 ls H locs hl hP hD hS hw; exact False.elim hw
            | succ k ih =>
              intro v2_L100 v3_L100 ls H locs hl hP hD hS hw
              refine lv_iload_n hx hb dMd_same_100 rfl (lv_at hl 3 rfl) ?_
              refine lv_aload_n hx hb dMd_same_101 rfl (lv_at hl 0 rfl) ?_
              refine va_get (D := D) (ci := 7) (v := .ref (bd 24)) (C := "OnceNamedModel") (T := TX7) (N := 34) hx hb hts (fun w h => List.mem_cons_of_mem _ (inX7 w h)) hown hK hP 0 rfl rfl 27 (by decide) (hts _ (List.mem_cons_of_mem _ kw_1012)) (fun _ h9 => h9) rfl dMd_same_102 ?_
              refine lv_iconst (v := 1) hx hb dMd_same_105 (by decide) ?_
              have ho := hw.1
              have hw := hw.2
              refine va_iald hx hb hK hP 19 0 rfl rfl ho dMd_same_106 ?_
              refine lv_icmp_ge (tgt := 147) hx hb dMd_same_107 rfl (fun hc => ?_) (fun hc => ?_)
              · have hw := hw.1 hc
                refine lv_iload_n hx hb dMd_same_147 rfl (lv_at hl 2 rfl) ?_
                exact hend v2_L100 t30_0 mSlot_59 mOver_59 mSaid_59 mSaidCount_59 mFailed_59 mValues_59 mNextValues_59 _ _ _ _ dMd_same_148 hP hD hS hw
              · have hw := hw.2 hc
                refine lv_iload_n hx hb dMd_same_110 rfl (lv_at hl 2 rfl) ?_
                refine lv_if_eq (tgt := 147) hx hb dMd_same_111 rfl (fun hc => ?_) (fun hc => ?_)
                · have hw := hw.1 (bI_0 hc)
                  refine lv_iload_n hx hb dMd_same_147 rfl (lv_at hl 2 rfl) ?_
                  exact hend v2_L100 t30_0 mSlot_59 mOver_59 mSaid_59 mSaidCount_59 mFailed_59 mValues_59 mNextValues_59 _ _ _ _ dMd_same_148 hP hD hS hw
                · have hw := hw.2 (bI_1 hc)
                  refine lv_aload_n hx hb dMd_same_114 rfl (lv_at hl 0 rfl) ?_
                  refine va_get (D := D) (ci := 7) (v := .ref (bd 23)) (C := "OnceNamedModel") (T := TX7) (N := 34) hx hb hts (fun w h => List.mem_cons_of_mem _ (inX7 w h)) hown hK hP 0 rfl rfl 26 (by decide) (hts _ (List.mem_cons_of_mem _ kw_1011)) (fun _ h9 => h9) rfl dMd_same_115 ?_
                  refine lv_bipush (v := 50) hx hb dMd_same_118 (by decide) ?_
                  refine lv_iload_n hx hb dMd_same_120 rfl (lv_at hl 3 rfl) ?_
                  refine lv_iadd hx hb dMd_same_121 ?_
                  have ho := hw.1
                  have hw := hw.2
                  refine va_iald hx hb hK hP 18 0 rfl rfl ho dMd_same_122 ?_
                  refine lv_aload_n hx hb dMd_same_123 rfl (lv_at hl 0 rfl) ?_
                  refine va_get (D := D) (ci := 7) (v := .ref (bd 23)) (C := "OnceNamedModel") (T := TX7) (N := 34) hx hb hts (fun w h => List.mem_cons_of_mem _ (inX7 w h)) hown hK hP 0 rfl rfl 26 (by decide) (hts _ (List.mem_cons_of_mem _ kw_1011)) (fun _ h9 => h9) rfl dMd_same_124 ?_
                  refine lv_bipush (v := 100) hx hb dMd_same_127 (by decide) ?_
                  refine lv_iload_n hx hb dMd_same_129 rfl (lv_at hl 3 rfl) ?_
                  refine lv_iadd hx hb dMd_same_130 ?_
                  have ho := hw.1
                  have hw := hw.2
                  refine va_iald hx hb hK hP 18 0 rfl rfl ho dMd_same_131 ?_
                  refine lv_icmp_ne (tgt := 139) hx hb dMd_same_132 rfl (fun hc => ?_) (fun hc => ?_)
                  · have hw := hw.1 hc
                    refine lv_iconst (v := 0) hx hb dMd_same_139 (by decide) ?_
                    refine lv_istore_n (lv' := [(2, .int 0), (0, .ref (bd 0)), (1, .int v1), (3, .int v3_L100)]) hx hb dMd_same_140 rfl hl (by decide) rfl (fun ls hl => ?_)
                    refine lv_iinc (k := 3) (v := (v3_L100 + 1)) (lv' := [(3, .int (v3_L100 + 1)), (2, .int 0), (0, .ref (bd 0)), (1, .int v1)]) hx hb dMd_same_141 hl rfl rfl (by decide) rfl (fun ls hl => ?_)
                    refine lv_goto (tgt := 100) hx hb dMd_same_144 rfl ?_
                    exact ih false (v3_L100 + 1) _ _ _ (lv_sub hl [2, 3, 1, 0] rfl) hP hD hS hw
                  · have hw := hw.2 hc
                    refine lv_iconst (v := 1) hx hb dMd_same_135 (by decide) ?_
                    refine lv_goto (tgt := 140) hx hb dMd_same_136 rfl ?_
                    refine lv_istore_n (lv' := [(2, .int 1), (0, .ref (bd 0)), (1, .int v1), (3, .int v3_L100)]) hx hb dMd_same_140 rfl hl (by decide) rfl (fun ls hl => ?_)
                    refine lv_iinc (k := 3) (v := (v3_L100 + 1)) (lv' := [(3, .int (v3_L100 + 1)), (2, .int 1), (0, .ref (bd 0)), (1, .int v1)]) hx hb dMd_same_141 hl rfl rfl (by decide) rfl (fun ls hl => ?_)
                    refine lv_goto (tgt := 100) hx hb dMd_same_144 rfl ?_
                    exact ih true (v3_L100 + 1) _ _ _ (lv_sub hl [2, 3, 1, 0] rfl) hP hD hS hw
          refine hlp100 k100 t97_0 0 _ _ _ (lv_sub hl [2, 3, 1, 0] rfl) hP hD hS hw
        obtain ⟨J96, hJ96, hw⟩ := hw
        have hj96 : ∀  (ls : Array Slot) (H : Heap) (locs : List Loc), lv_has ls 4 [(0, .ref (bd 0)), (1, .int v1)] → va_P D vwCl (wdMd_same cA cB bd N t30_0 mReached mForm mSlot_59 mOver_59 mMany mKinds mVs mWs mXs mEnds mEndVariable mYes mNo mStarts mMeets mSources mSet mUseW mUseX mEndUse mGone mSaid_59 mSaidCount_59 mFailed_59 mValues_59 mNextValues_59) H → va_D A (wdMd_same cA cB bd N t30_0 mReached mForm mSlot_59 mOver_59 mMany mKinds mVs mWs mXs mEnds mEndVariable mYes mNo mStarts mMeets mSources mSet mUseW mUseX mEndUse mGone mSaid_59 mSaidCount_59 mFailed_59 mValues_59 mNextValues_59) → va_S A s.heap H locs → J96 → W p l e (headSpec (Cond.code yMd_same cMd_same 4 (some .boolean) :: xW) rmMd_same).room s m ([.ref (bd 0), .int v1] : List Value).toArray below meth c H locs 0 0 Q (F0 m 96 ls []) := by
          intro  ls H locs hl hP hD hS hw
          have hw := hJ96  hw
          refine lv_iconst (v := 0) hx hb dMd_same_96 (by decide) ?_
          exact hj97 false _ _ _ (lv_sub hl [0, 1] rfl) hP hD hS hw
        refine lv_icmp_ne (tgt := 96) hx hb dMd_same_74 rfl (fun hc => ?_) (fun hc => ?_)
        · have hw := hw.1 hc
          exact hj96  _ _ _ (lv_sub hl [0, 1] rfl) hP hD hS hw
        · have hw := hw.2 hc
          refine lv_aload_n hx hb dMd_same_77 rfl (lv_at hl 0 rfl) ?_
          refine va_get (D := D) (ci := 7) (v := .ref (bd 24)) (C := "OnceNamedModel") (T := TX7) (N := 34) hx hb hts (fun w h => List.mem_cons_of_mem _ (inX7 w h)) hown hK hP 0 rfl rfl 27 (by decide) (hts _ (List.mem_cons_of_mem _ kw_1012)) (fun _ h9 => h9) rfl dMd_same_78 ?_
          refine lv_iconst (v := 1) hx hb dMd_same_81 (by decide) ?_
          have ho := hw.1
          have hw := hw.2
          refine va_iald hx hb hK hP 19 0 rfl rfl ho dMd_same_82 ?_
          refine lv_aload_n hx hb dMd_same_83 rfl (lv_at hl 0 rfl) ?_
          refine va_get (D := D) (ci := 7) (v := .ref (bd 24)) (C := "OnceNamedModel") (T := TX7) (N := 34) hx hb hts (fun w h => List.mem_cons_of_mem _ (inX7 w h)) hown hK hP 0 rfl rfl 27 (by decide) (hts _ (List.mem_cons_of_mem _ kw_1012)) (fun _ h9 => h9) rfl dMd_same_84 ?_
          refine lv_iconst (v := 2) hx hb dMd_same_87 (by decide) ?_
          have ho := hw.1
          have hw := hw.2
          refine va_iald hx hb hK hP 19 0 rfl rfl ho dMd_same_88 ?_
          refine lv_icmp_ne (tgt := 96) hx hb dMd_same_89 rfl (fun hc => ?_) (fun hc => ?_)
          · have hw := hw.1 hc
            exact hj96  _ _ _ (lv_sub hl [0, 1] rfl) hP hD hS hw
          · have hw := hw.2 hc
            refine lv_iconst (v := 1) hx hb dMd_same_92 (by decide) ?_
            refine lv_goto (tgt := 97) hx hb dMd_same_93 rfl ?_
            exact hj97 true _ _ _ (lv_sub hl [0, 1] rfl) hP hD hS hw
      refine lv_if_le (tgt := 58) hx hb dMd_same_51 rfl (fun hc => ?_) (fun hc => ?_)
      · have hw := hw.1 hc
        refine lv_iconst (v := 0) hx hb dMd_same_58 (by decide) ?_
        exact hj59 false _ _ _ (lv_sub hl [0, 1] rfl) hP hD hS hw
      · have hw := hw.2 hc
        refine lv_iconst (v := 1) hx hb dMd_same_54 (by decide) ?_
        refine lv_goto (tgt := 59) hx hb dMd_same_55 rfl ?_
        exact hj59 true _ _ _ (lv_sub hl [0, 1] rfl) hP hD hS hw
    · have hw := hw.2 hc
      refine lv_iconst (v := 0) hx hb dMd_same_40 (by decide) ?_
      exact hend false t30_0 mSlot mOver mSaid mSaidCount mFailed mValues mNextValues _ _ _ _ dMd_same_41 hP hD hS hw
  obtain ⟨J10, hJ10, hw⟩ := hw
  have hj10 : ∀  (ls : Array Slot) (H : Heap) (locs : List Loc), lv_has ls 4 [(0, .ref (bd 0)), (1, .int v1)] → va_P D vwCl (wdMd_same cA cB bd N mThrown mReached mForm mSlot mOver mMany mKinds mVs mWs mXs mEnds mEndVariable mYes mNo mStarts mMeets mSources mSet mUseW mUseX mEndUse mGone mSaid mSaidCount mFailed mValues mNextValues) H → va_D A (wdMd_same cA cB bd N mThrown mReached mForm mSlot mOver mMany mKinds mVs mWs mXs mEnds mEndVariable mYes mNo mStarts mMeets mSources mSet mUseW mUseX mEndUse mGone mSaid mSaidCount mFailed mValues mNextValues) → va_S A s.heap H locs → J10 → W p l e (headSpec (Cond.code yMd_same cMd_same 4 (some .boolean) :: xW) rmMd_same).room s m ([.ref (bd 0), .int v1] : List Value).toArray below meth c H locs 0 0 Q (F0 m 10 ls [.ref (bd 0)]) := by
    intro  ls H locs hl hP hD hS hw
    have hw := hJ10  hw
    refine lv_iconst (v := 1) hx hb dMd_same_10 (by decide) ?_
    refine lv_goto (tgt := 30) hx hb dMd_same_11 rfl ?_
    exact hj30 1 _ _ _ (lv_sub hl [0, 1] rfl) hP hD hS hw
  refine lv_if_lt (tgt := 10) hx hb dMd_same_2 rfl (fun hc => ?_) (fun hc => ?_)
  · have hw := hw.1 hc
    exact hj10  _ _ _ (lv_sub hl [0, 1] rfl) hP hD hS hw
  · have hw := hw.2 hc
    refine lv_iload_n hx hb dMd_same_5 rfl (lv_at hl 1 rfl) ?_
    refine lv_iconst (v := 2) hx hb dMd_same_6 (by decide) ?_
    refine lv_icmp_le (tgt := 14) hx hb dMd_same_7 rfl (fun hc => ?_) (fun hc => ?_)
    · have hw := hw.1 hc
      refine lv_iload_n hx hb dMd_same_14 rfl (lv_at hl 1 rfl) ?_
      refine lv_if_le (tgt := 29) hx hb dMd_same_15 rfl (fun hc => ?_) (fun hc => ?_)
      · have hw := hw.1 hc
        refine lv_iconst (v := 0) hx hb dMd_same_29 (by decide) ?_
        exact hj30 0 _ _ _ (lv_sub hl [0, 1] rfl) hP hD hS hw
      · have hw := hw.2 hc
        refine lv_aload_n hx hb dMd_same_18 rfl (lv_at hl 0 rfl) ?_
        refine va_get (D := D) (ci := 7) (v := .int (bI mForm)) (C := "OnceNamedModel") (T := TX7) (N := 34) hx hb hts (fun w h => List.mem_cons_of_mem _ (inX7 w h)) hown hK hP 0 rfl rfl 14 (by decide) (hts _ (List.mem_cons_of_mem _ kw_999)) (fun _ h9 => h9) rfl dMd_same_19 ?_
        refine lv_if_ne (tgt := 29) hx hb dMd_same_22 rfl (fun hc => ?_) (fun hc => ?_)
        · have hw := hw.1 (bI_1 hc)
          refine lv_iconst (v := 0) hx hb dMd_same_29 (by decide) ?_
          exact hj30 0 _ _ _ (lv_sub hl [0, 1] rfl) hP hD hS hw
        · have hw := hw.2 (bI_0 hc)
          refine lv_iconst (v := 2) hx hb dMd_same_25 (by decide) ?_
          refine lv_goto (tgt := 30) hx hb dMd_same_26 rfl ?_
          exact hj30 2 _ _ _ (lv_sub hl [0, 1] rfl) hP hD hS hw
    · have hw := hw.2 hc
      exact hj10  _ _ _ (lv_sub hl [0, 1] rfl) hP hD hS hw
