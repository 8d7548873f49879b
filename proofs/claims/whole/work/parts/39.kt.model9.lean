abbrev wdMd_result (cA : ClassId) (cB : ClassId) (bd : Nat → Nat) (N : Nat) (mThrown : Int32) (mReached : Int32) (mForm : Bool) (mSlot : Int32) (mOver : Bool) (mFailed : Nat → Int32) : va_W := [((bd 0), .inr (7, [.int mThrown, .int (nI N), .ref (bd 1), .ref (bd 2), .ref (bd 3), .ref (bd 4), .ref (bd 5), .ref (bd 6), .ref (bd 7), .ref (bd 8), .ref (bd 9), .ref (bd 10), .int mReached, .ref (bd 11), .int (bI mForm), .ref (bd 12), .ref (bd 13), .ref (bd 14), .ref (bd 15), .ref (bd 16), .ref (bd 17), .ref (bd 18), .ref (bd 19), .ref (bd 20), .ref (bd 21), .ref (bd 22), .ref (bd 23), .ref (bd 24), .ref (bd 25), .ref (bd 26), .ref (bd 27), .ref (bd 28), .int mSlot, .int (bI mOver)])), ((bd 25), .inl (cA, 3, .inl mFailed))]
abbrev qcMd_result (D : va_G) (cA : ClassId) (cB : ClassId) (bd : Nat → Nat) (N : Nat) (mThrown : Int32) (mReached : Int32) (mForm : Bool) (mSlot : Int32) (mOver : Bool) (mFailed : Nat → Int32) (post : Int32 → Bool → (Nat → Int32) → Prop) (A : Nat → Prop) : Array Value → State → Outcome → State → Prop := va_Qi (S := (Bool) × (Nat → Int32)) (fun r u => post r u.1 u.2) (fun u t => xB D [(cA, .int), (cB, .boolean)] A (wdMd_result cA cB bd N mThrown mReached mForm mSlot u.1 u.2) t) A
abbrev rmMd_result : Room := { frames := 1, cells := 0, slots := 0, locals := 21 }
set_option maxHeartbeats 4000000 in
set_option maxRecDepth 100000 in
theorem ktMd_result (l : Launch) (D : va_G) (cA : ClassId) (cB : ClassId) (bd : Nat → Nat) (N : Nat) (sz : Nat) (mThrown : Int32) (mReached : Int32) (mForm : Bool) (mSlot : Int32) (mOver : Bool) (mFailed : Nat → Int32) (v1 : Int32) (v2 : Int32) (v3 : Int32) (post : Int32 → Bool → (Nat → Int32) → Prop) (hw : wpMd_result mSlot mOver mFailed v1 v2 v3 post) : Met l yMd_result (Cond.code yMd_result cMd_result 4 (some .int) :: xW) rmMd_result (va_Pc [.ref (bd 0), .int v1, .int v2, .int v3] (xPc D [(cA, .int), (cB, .boolean)] (wdMd_result cA cB bd N mThrown mReached mForm mSlot mOver mFailed) sz)) (qcMd_result D cA cB bd N mThrown mReached mForm mSlot mOver mFailed post (va_A (wdMd_result cA cB bd N mThrown mReached mForm mSlot mOver mFailed) sz)) 0 0 (va_A (wdMd_result cA cB bd N mThrown mReached mForm mSlot mOver mFailed) sz) := by
  refine Met.ofW (cc := cMd_result) (maxL := 4) (ret := (some .int)) (by decide) rfl ?_
  intro p e s m args below meth c s₁ B hml hv
  obtain ⟨rfl, hsz, hP, hK, hD0, hN⟩ := hv
  have hx := B.exec
  have hb := B.bytes
  have hr := B.returns
  have hts := atoms_spec (ws := (Cond.code yMd_result cMd_result 4 (some .int) :: xW)) B.pre
  have hown : s.vm.findClass "OnceNamedModel" = some m.cls := findClass_of_methodNamed B.named
  have hlocks := B.notSynchronized
  subst hsz
  have hD := hD0.self (sz := s.heap.size)
  generalize hAe : va_A (wdMd_result cA cB bd N mThrown mReached mForm mSlot mOver mFailed) s.heap.size = A at hD ⊢
  have hA : ∀ q : Nat, s.heap.size ≤ q → A q := fun q h => by rw [← hAe]; exact Or.inr h
  have hS : va_S A s.heap s.heap [] := va_S.rf
  have hend : ∀ (r : Int32) (u0 : Bool) (u1 : Nat → Int32) (H : Heap) (locs : List Loc) (pc : Nat) (ls : Array Slot), decode cMd_result pc = .ok (.ireturn, 1) → va_P D vwCl (wdMd_result cA cB bd N mThrown mReached mForm mSlot u0 u1) H → va_D A (wdMd_result cA cB bd N mThrown mReached mForm mSlot u0 u1) → va_S A s.heap H locs → post r u0 u1 → W p l e (headSpec (Cond.code yMd_result cMd_result 4 (some .int) :: xW) rmMd_result).room s m ([.ref (bd 0), .int v1, .int v2, .int v3] : List Value).toArray below meth c H locs 0 0 (MQ below (qcMd_result D cA cB bd N mThrown mReached mForm mSlot mOver mFailed post A) ([.ref (bd 0), .int v1, .int v2, .int v3] : List Value).toArray s 0 0 A) (F0 m pc ls [.int r]) := fun r u0 u1 H locs pc ls hd hP hD hS hw => W.iret (v := r) hx hb hr (fun t ht hW => ⟨⟨r, (u0, u1), rfl, hw, ⟨by rw [ht]; exact hP, va_K.moved hW.alike hK, hD⟩⟩, hS.F ht⟩) hS.2.2 hd
  generalize hQ : MQ below (qcMd_result D cA cB bd N mThrown mReached mForm mSlot mOver mFailed post A) ([.ref (bd 0), .int v1, .int v2, .int v3] : List Value).toArray s 0 0 A = Q at hend ⊢
  have hl := lv_entry ([.ref (bd 0), .int v1, .int v2, .int v3]) (n := 4) (Nat.le_of_ble_eq_true rfl)
  rw [lg_entry_eq]
  generalize (lg_sl ([.ref (bd 0), .int v1, .int v2, .int v3]) ++ List.replicate (4 - (lg_sl ([.ref (bd 0), .int v1, .int v2, .int v3])).length) Slot.unset).toArray = ls at hl ⊢
  have hl : lv_has ls 4 [(0, .ref (bd 0)), (1, .int v1), (2, .int v2), (3, .int v3)] := hl
  unfold wpMd_result at hw
  refine lv_iload_n hx hb dMd_result_0 rfl (lv_at hl 1 rfl) ?_
  refine lv_iconst (v := 5) hx hb dMd_result_1 (by decide) ?_
  obtain ⟨J16, hJ16, hw⟩ := hw
  have hj16 : ∀  (ls : Array Slot) (H : Heap) (locs : List Loc), lv_has ls 4 [(0, .ref (bd 0)), (1, .int v1), (2, .int v2), (3, .int v3)] → va_P D vwCl (wdMd_result cA cB bd N mThrown mReached mForm mSlot mOver mFailed) H → va_D A (wdMd_result cA cB bd N mThrown mReached mForm mSlot mOver mFailed) → va_S A s.heap H locs → J16 → W p l e (headSpec (Cond.code yMd_result cMd_result 4 (some .int) :: xW) rmMd_result).room s m ([.ref (bd 0), .int v1, .int v2, .int v3] : List Value).toArray below meth c H locs 0 0 Q (F0 m 16 ls []) := by
    intro  ls H locs hl hP hD hS hw
    have hw := hJ16  hw
    refine lv_iload_n hx hb dMd_result_16 rfl (lv_at hl 1 rfl) ?_
    refine lv_iconst (v := 1) hx hb dMd_result_17 (by decide) ?_
    refine lv_icmp_ne (tgt := 25) hx hb dMd_result_18 rfl (fun hc => ?_) (fun hc => ?_)
    · have hw := hw.1 hc
      refine lv_iload_n hx hb dMd_result_25 rfl (lv_at hl 1 rfl) ?_
      refine lv_iconst (v := 2) hx hb dMd_result_26 (by decide) ?_
      refine lv_icmp_ne (tgt := 36) hx hb dMd_result_27 rfl (fun hc => ?_) (fun hc => ?_)
      · have hw := hw.1 hc
        refine lv_iload_n hx hb dMd_result_36 rfl (lv_at hl 1 rfl) ?_
        refine lv_iconst (v := 3) hx hb dMd_result_37 (by decide) ?_
        refine lv_icmp_ne (tgt := 47) hx hb dMd_result_38 rfl (fun hc => ?_) (fun hc => ?_)
        · have hw := hw.1 hc
          refine lv_iload_n hx hb dMd_result_47 rfl (lv_at hl 1 rfl) ?_
          refine lv_iconst (v := 4) hx hb dMd_result_48 (by decide) ?_
          refine lv_icmp_ne (tgt := 58) hx hb dMd_result_49 rfl (fun hc => ?_) (fun hc => ?_)
          · have hw := hw.1 hc
            refine lv_iload_n hx hb dMd_result_58 rfl (lv_at hl 1 rfl) ?_
            refine lv_iconst (v := 5) hx hb dMd_result_59 (by decide) ?_
            refine lv_icmp_ne (tgt := 69) hx hb dMd_result_60 rfl (fun hc => ?_) (fun hc => ?_)
            · have hw := hw.1 hc
              refine lv_iload_n hx hb dMd_result_69 rfl (lv_at hl 2 rfl) ?_
              refine lv_iload_n hx hb dMd_result_70 rfl (lv_at hl 3 rfl) ?_
              refine lv_icmp_ge (tgt := 78) hx hb dMd_result_71 rfl (fun hc => ?_) (fun hc => ?_)
              · have hw := hw.1 hc
                refine lv_iconst (v := 0) hx hb dMd_result_78 (by decide) ?_
                exact hend 0 mOver mFailed _ _ _ _ dMd_result_79 hP hD hS hw
              · have hw := hw.2 hc
                refine lv_iconst (v := 1) hx hb dMd_result_74 (by decide) ?_
                refine lv_goto (tgt := 79) hx hb dMd_result_75 rfl ?_
                exact hend 1 mOver mFailed _ _ _ _ dMd_result_79 hP hD hS hw
            · have hw := hw.2 hc
              refine lv_iload_n hx hb dMd_result_63 rfl (lv_at hl 2 rfl) ?_
              refine lv_iload_n hx hb dMd_result_64 rfl (lv_at hl 3 rfl) ?_
              have ho := hw.1
              have hw := hw.2
              refine lv_idiv hx hb dMd_result_65 ho ?_
              refine lv_goto (tgt := 79) hx hb dMd_result_66 rfl ?_
              exact hend (v2 / v3) mOver mFailed _ _ _ _ dMd_result_79 hP hD hS hw
          · have hw := hw.2 hc
            refine lv_iload_n hx hb dMd_result_52 rfl (lv_at hl 2 rfl) ?_
            refine lv_iload_n hx hb dMd_result_53 rfl (lv_at hl 3 rfl) ?_
            refine lv_imul hx hb dMd_result_54 ?_
            refine lv_goto (tgt := 79) hx hb dMd_result_55 rfl ?_
            exact hend (v2 * v3) mOver mFailed _ _ _ _ dMd_result_79 hP hD hS hw
        · have hw := hw.2 hc
          refine lv_iload_n hx hb dMd_result_41 rfl (lv_at hl 2 rfl) ?_
          refine lv_iload_n hx hb dMd_result_42 rfl (lv_at hl 3 rfl) ?_
          refine lv_isub hx hb dMd_result_43 ?_
          refine lv_goto (tgt := 79) hx hb dMd_result_44 rfl ?_
          exact hend (v2 - v3) mOver mFailed _ _ _ _ dMd_result_79 hP hD hS hw
      · have hw := hw.2 hc
        refine lv_iload_n hx hb dMd_result_30 rfl (lv_at hl 2 rfl) ?_
        refine lv_iload_n hx hb dMd_result_31 rfl (lv_at hl 3 rfl) ?_
        refine lv_iadd hx hb dMd_result_32 ?_
        refine lv_goto (tgt := 79) hx hb dMd_result_33 rfl ?_
        exact hend (v2 + v3) mOver mFailed _ _ _ _ dMd_result_79 hP hD hS hw
    · have hw := hw.2 hc
      refine lv_iload_n hx hb dMd_result_21 rfl (lv_at hl 2 rfl) ?_
      refine lv_goto (tgt := 79) hx hb dMd_result_22 rfl ?_
      exact hend v2 mOver mFailed _ _ _ _ dMd_result_79 hP hD hS hw
  refine lv_icmp_ne (tgt := 16) hx hb dMd_result_2 rfl (fun hc => ?_) (fun hc => ?_)
  · have hw := hw.1 hc
    exact hj16  _ _ _ (lv_sub hl [0, 1, 2, 3] rfl) hP hD hS hw
  · have hw := hw.2 hc
    refine lv_iload_n hx hb dMd_result_5 rfl (lv_at hl 3 rfl) ?_
    refine lv_if_ne (tgt := 16) hx hb dMd_result_6 rfl (fun hc => ?_) (fun hc => ?_)
    · have hw := hw.1 hc
      exact hj16  _ _ _ (lv_sub hl [0, 1, 2, 3] rfl) hP hD hS hw
    · have hw := hw.2 hc
      refine lv_aload_n hx hb dMd_result_9 rfl (lv_at hl 0 rfl) ?_
      refine lv_iconst (v := 1) hx hb dMd_result_10 (by decide) ?_
      refine xcv (va_runV ⟨hx, hb, hml, hown, hts⟩ (ktMd_fail l D cA cB bd N _ mThrown mReached mForm mSlot mOver mFailed 1 _ hw) (cwV 1 hts (goodV kw_1277 kw_1279 ks_5_7 kw_11 kw_1280) rfl rfl rfl (by decide +kernel) ⟨Nat.le_of_ble_eq_true rfl, Nat.le_of_ble_eq_true rfl⟩) (xpreV hK hP hD hN [0, 1] rfl rfl 0 rfl rfl) rfl rfl hl.1 rfl (lv_room (Nat.le_of_ble_eq_true rfl)) dMd_result_11 ⟨Nat.le_of_ble_eq_true rfl, Nat.le_of_ble_eq_true rfl⟩) hP hD hS hA [0, 1] [] rfl rfl rfl rfl [0, 1] rfl (fun _ => rfl) (fun u H locs hw hP hD hS => ?_)
      obtain ⟨mOver_11, mFailed_11⟩ := u
      try dsimp only at hw
      have hP : va_P D vwCl (wdMd_result cA cB bd N mThrown mReached mForm mSlot mOver_11 mFailed_11) H := hP
      have hD : va_D A (wdMd_result cA cB bd N mThrown mReached mForm mSlot mOver_11 mFailed_11) := hD
      refine lv_iconst (v := 0) hx hb dMd_result_14 (by decide) ?_
      exact hend 0 mOver_11 mFailed_11 _ _ _ _ dMd_result_15 hP hD hS hw
abbrev wdMd_doSteps (cA : ClassId) (cB : ClassId) (bd : Nat → Nat) (N : Nat) (mThrown : Int32) (mReached : Int32) (mForm : Bool) (mSlot : Int32) (mOver : Bool) (mMany : Nat → Int32) (mKinds : Nat → Int32) (mVs : Nat → Int32) (mWs : Nat → Int32) (mXs : Nat → Int32) (mSet : Nat → Int32) (mUseW : Nat → Int32) (mUseX : Nat → Int32) (mGone : Nat → Bool) (mSaid : Nat → Int32) (mSaidCount : Nat → Int32) (mFailed : Nat → Int32) (mValues : Nat → Int32) : va_W := [((bd 0), .inr (7, [.int mThrown, .int (nI N), .ref (bd 1), .ref (bd 2), .ref (bd 3), .ref (bd 4), .ref (bd 5), .ref (bd 6), .ref (bd 7), .ref (bd 8), .ref (bd 9), .ref (bd 10), .int mReached, .ref (bd 11), .int (bI mForm), .ref (bd 12), .ref (bd 13), .ref (bd 14), .ref (bd 15), .ref (bd 16), .ref (bd 17), .ref (bd 18), .ref (bd 19), .ref (bd 20), .ref (bd 21), .ref (bd 22), .ref (bd 23), .ref (bd 24), .ref (bd 25), .ref (bd 26), .ref (bd 27), .ref (bd 28), .int mSlot, .int (bI mOver)])), ((bd 1), .inl (cA, 12, .inl mMany)), ((bd 2), .inl (cA, 72, .inl mKinds)), ((bd 3), .inl (cA, 72, .inl mVs)), ((bd 4), .inl (cA, 72, .inl mWs)), ((bd 5), .inl (cA, 72, .inl mXs)), ((bd 14), .inl (cA, 72, .inl mSet)), ((bd 15), .inl (cA, 72, .inl mUseW)), ((bd 16), .inl (cA, 72, .inl mUseX)), ((bd 18), .inl (cB, 72, .inl (fun j => bI (mGone j)))), ((bd 23), .inl (cA, 150, .inl mSaid)), ((bd 24), .inl (cA, 3, .inl mSaidCount)), ((bd 25), .inl (cA, 3, .inl mFailed)), ((bd 26), .inl (cA, 600, .inl mValues))]
abbrev qcMd_doSteps (D : va_G) (cA : ClassId) (cB : ClassId) (bd : Nat → Nat) (N : Nat) (mThrown : Int32) (mReached : Int32) (mForm : Bool) (mSlot : Int32) (mOver : Bool) (mMany : Nat → Int32) (mKinds : Nat → Int32) (mVs : Nat → Int32) (mWs : Nat → Int32) (mXs : Nat → Int32) (mSet : Nat → Int32) (mUseW : Nat → Int32) (mUseX : Nat → Int32) (mGone : Nat → Bool) (mSaid : Nat → Int32) (mSaidCount : Nat → Int32) (mFailed : Nat → Int32) (mValues : Nat → Int32) (post : Bool → (Nat → Int32) → (Nat → Int32) → (Nat → Int32) → (Nat → Int32) → Prop) (A : Nat → Prop) : Array Value → State → Outcome → State → Prop := va_Qv (S := (Bool) × (Nat → Int32) × (Nat → Int32) × (Nat → Int32) × (Nat → Int32)) (fun u => post u.1 u.2.1 u.2.2.1 u.2.2.2.1 u.2.2.2.2) (fun u t => xB D [(cA, .int), (cB, .boolean)] A (wdMd_doSteps cA cB bd N mThrown mReached mForm mSlot u.1 mMany mKinds mVs mWs mXs mSet mUseW mUseX mGone u.2.1 u.2.2.1 u.2.2.2.1 u.2.2.2.2) t) A
abbrev rmMd_doSteps : Room := { frames := 2, cells := 0, slots := 0, locals := 44 }
set_option maxHeartbeats 4000000 in
set_option maxRecDepth 100000 in
theorem ktMd_doSteps (l : Launch) (D : va_G) (cA : ClassId) (cB : ClassId) (bd : Nat → Nat) (N : Nat) (sz : Nat) (mThrown : Int32) (mReached : Int32) (mForm : Bool) (mSlot : Int32) (mOver : Bool) (mMany : Nat → Int32) (mKinds : Nat → Int32) (mVs : Nat → Int32) (mWs : Nat → Int32) (mXs : Nat → Int32) (mSet : Nat → Int32) (mUseW : Nat → Int32) (mUseX : Nat → Int32) (mGone : Nat → Bool) (mSaid : Nat → Int32) (mSaidCount : Nat → Int32) (mFailed : Nat → Int32) (mValues : Nat → Int32) (v1 : Int32) (v2 : Bool) (post : Bool → (Nat → Int32) → (Nat → Int32) → (Nat → Int32) → (Nat → Int32) → Prop) (hw : wpMd_doSteps mSlot mOver mMany mKinds mVs mWs mXs mSet mUseW mUseX mGone mSaid mSaidCount mFailed mValues v1 v2 post) : Met l yMd_doSteps (Cond.code yMd_doSteps cMd_doSteps 7 none :: xW) rmMd_doSteps (va_Pc [.ref (bd 0), .int v1, .int (bI v2)] (xPc D [(cA, .int), (cB, .boolean)] (wdMd_doSteps cA cB bd N mThrown mReached mForm mSlot mOver mMany mKinds mVs mWs mXs mSet mUseW mUseX mGone mSaid mSaidCount mFailed mValues) sz)) (qcMd_doSteps D cA cB bd N mThrown mReached mForm mSlot mOver mMany mKinds mVs mWs mXs mSet mUseW mUseX mGone mSaid mSaidCount mFailed mValues post (va_A (wdMd_doSteps cA cB bd N mThrown mReached mForm mSlot mOver mMany mKinds mVs mWs mXs mSet mUseW mUseX mGone mSaid mSaidCount mFailed mValues) sz)) 0 0 (va_A (wdMd_doSteps cA cB bd N mThrown mReached mForm mSlot mOver mMany mKinds mVs mWs mXs mSet mUseW mUseX mGone mSaid mSaidCount mFailed mValues) sz) := by
  refine Met.ofW (cc := cMd_doSteps) (maxL := 7) (ret := none) (by decide) rfl ?_
  intro p e s m args below meth c s₁ B hml hv
  obtain ⟨rfl, hsz, hP, hK, hD0, hN⟩ := hv
  have hx := B.exec
  have hb := B.bytes
  have hr := B.returns
  have hts := atoms_spec (ws := (Cond.code yMd_doSteps cMd_doSteps 7 none :: xW)) B.pre
  have hown : s.vm.findClass "OnceNamedModel" = some m.cls := findClass_of_methodNamed B.named
  have hlocks := B.notSynchronized
  subst hsz
  have hD := hD0.self (sz := s.heap.size)
  generalize hAe : va_A (wdMd_doSteps cA cB bd N mThrown mReached mForm mSlot mOver mMany mKinds mVs mWs mXs mSet mUseW mUseX mGone mSaid mSaidCount mFailed mValues) s.heap.size = A at hD ⊢
  have hA : ∀ q : Nat, s.heap.size ≤ q → A q := fun q h => by rw [← hAe]; exact Or.inr h
  have hS : va_S A s.heap s.heap [] := va_S.rf
  have hend : ∀ (u0 : Bool) (u1 : Nat → Int32) (u2 : Nat → Int32) (u3 : Nat → Int32) (u4 : Nat → Int32) (H : Heap) (locs : List Loc) (pc : Nat) (ls : Array Slot), decode cMd_doSteps pc = .ok (.return_, 1) → va_P D vwCl (wdMd_doSteps cA cB bd N mThrown mReached mForm mSlot u0 mMany mKinds mVs mWs mXs mSet mUseW mUseX mGone u1 u2 u3 u4) H → va_D A (wdMd_doSteps cA cB bd N mThrown mReached mForm mSlot u0 mMany mKinds mVs mWs mXs mSet mUseW mUseX mGone u1 u2 u3 u4) → va_S A s.heap H locs → post u0 u1 u2 u3 u4 → W p l e (headSpec (Cond.code yMd_doSteps cMd_doSteps 7 none :: xW) rmMd_doSteps).room s m ([.ref (bd 0), .int v1, .int (bI v2)] : List Value).toArray below meth c H locs 0 0 (MQ below (qcMd_doSteps D cA cB bd N mThrown mReached mForm mSlot mOver mMany mKinds mVs mWs mXs mSet mUseW mUseX mGone mSaid mSaidCount mFailed mValues post A) ([.ref (bd 0), .int v1, .int (bI v2)] : List Value).toArray s 0 0 A) (F0 m pc ls []) := fun u0 u1 u2 u3 u4 H locs pc ls hd hP hD hS hw => W.vret hx hb hr (fun t ht hW => ⟨⟨(u0, u1, u2, u3, u4), rfl, hw, ⟨by rw [ht]; exact hP, va_K.moved hW.alike hK, hD⟩⟩, hS.F ht⟩) hS.2.2 hd
  generalize hQ : MQ below (qcMd_doSteps D cA cB bd N mThrown mReached mForm mSlot mOver mMany mKinds mVs mWs mXs mSet mUseW mUseX mGone mSaid mSaidCount mFailed mValues post A) ([.ref (bd 0), .int v1, .int (bI v2)] : List Value).toArray s 0 0 A = Q at hend ⊢
  have hl := lv_entry ([.ref (bd 0), .int v1, .int (bI v2)]) (n := 7) (Nat.le_of_ble_eq_true rfl)
  rw [lg_entry_eq]
  generalize (lg_sl ([.ref (bd 0), .int v1, .int (bI v2)]) ++ List.replicate (7 - (lg_sl ([.ref (bd 0), .int v1, .int (bI v2)])).length) Slot.unset).toArray = ls at hl ⊢
  have hl : lv_has ls 7 [(0, .ref (bd 0)), (1, .int v1), (2, .int (bI v2))] := hl
  unfold wpMd_doSteps at hw
  refine lv_bipush (v := 6) hx hb dMd_doSteps_0 (by decide) ?_
  refine lv_iload_n hx hb dMd_doSteps_2 rfl (lv_at hl 1 rfl) ?_
  refine lv_imul hx hb dMd_doSteps_3 ?_
  refine lv_topi (fun v3_4 e_v3_4 => ?_)
  have hw := hw v3_4 e_v3_4
  refine lv_istore_n (lv' := [(3, .int v3_4), (0, .ref (bd 0)), (1, .int v1), (2, .int (bI v2))]) hx hb dMd_doSteps_4 rfl hl (by decide) rfl (fun ls hl => ?_)
  obtain ⟨k5, hw⟩ := hw
  have hlp5 : ∀ (k : Nat), ∀ (v3_L5 : Int32) (mOver_L5 : Bool) (mSaid_L5 : Nat → Int32) (mSaidCount_L5 : Nat → Int32) (mFailed_L5 : Nat → Int32) (mValues_L5 : Nat → Int32) (ls : Array Slot) (H : Heap) (locs : List Loc), lv_has ls 7 [(0, .ref (bd 0)), (1, .int v1), (2, .int (bI v2)), (3, .int v3_L5)] → va_P D vwCl (wdMd_doSteps cA cB bd N mThrown mReached mForm mSlot mOver_L5 mMany mKinds mVs mWs mXs mSet mUseW mUseX mGone mSaid_L5 mSaidCount_L5 mFailed_L5 mValues_L5) H → va_D A (wdMd_doSteps cA cB bd N mThrown mReached mForm mSlot mOver_L5 mMany mKinds mVs mWs mXs mSet mUseW mUseX mGone mSaid_L5 mSaidCount_L5 mFailed_L5 mValues_L5) → va_S A s.heap H locs → lpMd_doSteps_5 v1 v2 mSlot mMany mKinds mVs mWs mXs mSet mUseW mUseX mGone post k v3_L5 mOver_L5 mSaid_L5 mSaidCount_L5 mFailed_L5 mValues_L5 → W p l e (headSpec (Cond.code yMd_doSteps cMd_doSteps 7 none :: xW) rmMd_doSteps).room s m ([.ref (bd 0), .int v1, .int (bI v2)] : List Value).toArray below meth c H locs 0 0 Q (F0 m 5 ls []) := by
    intro k
    induction k with
    | zero => intro v3_L5 mOver_L5 mSaid_L5 mSaidCount_L5 mFailed_L5 mValues_L5 ls H locs hl hP hD hS hw; exact False.elim hw
    | succ k ih =>
      intro v3_L5 mOver_L5 mSaid_L5 mSaidCount_L5 mFailed_L5 mValues_L5 ls H locs hl hP hD hS hw
      refine lv_iload_n hx hb dMd_doSteps_5 rfl (lv_at hl 3 rfl) ?_
      refine lv_bipush (v := 6) hx hb dMd_doSteps_6 (by decide) ?_
      refine lv_iload_n hx hb dMd_doSteps_8 rfl (lv_at hl 1 rfl) ?_
      refine lv_imul hx hb dMd_doSteps_9 ?_
      refine lv_aload_n hx hb dMd_doSteps_10 rfl (lv_at hl 0 rfl) ?_
      refine va_get (D := D) (ci := 7) (v := .ref (bd 1)) (C := "OnceNamedModel") (T := TX7) (N := 34) hx hb hts (fun w h => List.mem_cons_of_mem _ (inX7 w h)) hown hK hP 0 rfl rfl 2 (by decide) (hts _ (List.mem_cons_of_mem _ kw_987)) (fun _ h9 => h9) rfl dMd_doSteps_11 ?_
      refine lv_iload_n hx hb dMd_doSteps_14 rfl (lv_at hl 1 rfl) ?_
      have ho := hw.1
      have hw := hw.2
      refine va_iald hx hb hK hP 1 0 rfl rfl ho dMd_doSteps_15 ?_
      refine lv_iadd hx hb dMd_doSteps_16 ?_
      refine lv_icmp_ge (tgt := 232) hx hb dMd_doSteps_17 rfl (fun hc => ?_) (fun hc => ?_)
      · have hw := hw.1 hc
        exact hend mOver_L5 mSaid_L5 mSaidCount_L5 mFailed_L5 mValues_L5 _ _ _ _ dMd_doSteps_232 hP hD hS hw
      · have hw := hw.2 hc
        refine lv_aload_n hx hb dMd_doSteps_20 rfl (lv_at hl 0 rfl) ?_
        refine va_get (D := D) (ci := 7) (v := .int (bI mOver_L5)) (C := "OnceNamedModel") (T := TX7) (N := 34) hx hb hts (fun w h => List.mem_cons_of_mem _ (inX7 w h)) hown hK hP 0 rfl rfl 33 (by decide) (hts _ (List.mem_cons_of_mem _ kw_1018)) (fun _ h9 => h9) rfl dMd_doSteps_21 ?_
        refine lv_if_ne (tgt := 232) hx hb dMd_doSteps_24 rfl (fun hc => ?_) (fun hc => ?_)
        · have hw := hw.1 (bI_1 hc)
          exact hend mOver_L5 mSaid_L5 mSaidCount_L5 mFailed_L5 mValues_L5 _ _ _ _ dMd_doSteps_232 hP hD hS hw
        · have hw := hw.2 (bI_0 hc)
          refine lv_iload_n hx hb dMd_doSteps_27 rfl (lv_at hl 2 rfl) ?_
          obtain ⟨J40, hJ40, hw⟩ := hw
          have hj40 : ∀  (ls : Array Slot) (H : Heap) (locs : List Loc), lv_has ls 7 [(0, .ref (bd 0)), (1, .int v1), (2, .int (bI v2)), (3, .int v3_L5)] → va_P D vwCl (wdMd_doSteps cA cB bd N mThrown mReached mForm mSlot mOver_L5 mMany mKinds mVs mWs mXs mSet mUseW mUseX mGone mSaid_L5 mSaidCount_L5 mFailed_L5 mValues_L5) H → va_D A (wdMd_doSteps cA cB bd N mThrown mReached mForm mSlot mOver_L5 mMany mKinds mVs mWs mXs mSet mUseW mUseX mGone mSaid_L5 mSaidCount_L5 mFailed_L5 mValues_L5) → va_S A s.heap H locs → J40 → W p l e (headSpec (Cond.code yMd_doSteps cMd_doSteps 7 none :: xW) rmMd_doSteps).room s m ([.ref (bd 0), .int v1, .int (bI v2)] : List Value).toArray below meth c H locs 0 0 Q (F0 m 40 ls []) := by
            intro  ls H locs hl hP hD hS hw
            have hw := hJ40  hw
            refine lv_aload_n hx hb dMd_doSteps_40 rfl (lv_at hl 0 rfl) ?_
            refine va_get (D := D) (ci := 7) (v := .ref (bd 2)) (C := "OnceNamedModel") (T := TX7) (N := 34) hx hb hts (fun w h => List.mem_cons_of_mem _ (inX7 w h)) hown hK hP 0 rfl rfl 3 (by decide) (hts _ (List.mem_cons_of_mem _ kw_988)) (fun _ h9 => h9) rfl dMd_doSteps_41 ?_
            refine lv_iload_n hx hb dMd_doSteps_44 rfl (lv_at hl 3 rfl) ?_
            have ho := hw.1
            have hw := hw.2
            refine va_iald hx hb hK hP 2 0 rfl rfl ho dMd_doSteps_45 ?_
            obtain ⟨J80, hJ80, hw⟩ := hw
            have hj80 : ∀ (t80_0 : Int32) (ls : Array Slot) (H : Heap) (locs : List Loc), lv_has ls 7 [(0, .ref (bd 0)), (1, .int v1), (2, .int (bI v2)), (3, .int v3_L5)] → va_P D vwCl (wdMd_doSteps cA cB bd N mThrown mReached mForm mSlot mOver_L5 mMany mKinds mVs mWs mXs mSet mUseW mUseX mGone mSaid_L5 mSaidCount_L5 mFailed_L5 mValues_L5) H → va_D A (wdMd_doSteps cA cB bd N mThrown mReached mForm mSlot mOver_L5 mMany mKinds mVs mWs mXs mSet mUseW mUseX mGone mSaid_L5 mSaidCount_L5 mFailed_L5 mValues_L5) → va_S A s.heap H locs → J80 t80_0 → W p l e (headSpec (Cond.code yMd_doSteps cMd_doSteps 7 none :: xW) rmMd_doSteps).room s m ([.ref (bd 0), .int v1, .int (bI v2)] : List Value).toArray below meth c H locs 0 0 Q (F0 m 80 ls [.int t80_0]) := by
              intro t80_0 ls H locs hl hP hD hS hw
              have hw := hJ80 t80_0 hw
              refine lv_istore (lv' := [(4, .int t80_0), (0, .ref (bd 0)), (1, .int v1), (2, .int (bI v2)), (3, .int v3_L5)]) hx hb dMd_doSteps_80 hl (by decide) rfl (fun ls hl => ?_)
              refine lv_aload_n hx hb dMd_doSteps_82 rfl (lv_at hl 1 rfl) ?_
              refine va_get (D := D) (ci := 7) (v := .ref (bd 2)) (C := "OnceNamedModel") (T := TX7) (N := 34) hx hb hts (fun w h => List.mem_cons_of_mem _ (inX7 w h)) hown hK hP 0 rfl rfl 3 (by decide) (hts _ (List.mem_cons_of_mem _ kw_988)) (fun _ h9 => h9) rfl dMd_doSteps_83 ?_
              refine lv_iload_n hx hb dMd_doSteps_86 rfl (lv_at hl 4 rfl) ?_
              have ho := hw.1
              have hw := hw.2
              refine va_iald hx hb hK hP 2 0 rfl rfl ho dMd_doSteps_87 ?_
              refine lv_iconst (v := 1) hx hb dMd_doSteps_88 (by decide) ?_
              obtain ⟨J134, hJ134, hw⟩ := hw
              have hj134 : ∀ (t134_0 : Int32) (ls : Array Slot) (H : Heap) (locs : List Loc), lv_has ls 7 [(0, .ref (bd 0)), (1, .int v1), (2, .int (bI v2)), (3, .int v3_L5), (4, .int t80_0)] → va_P D vwCl (wdMd_doSteps cA cB bd N mThrown mReached mForm mSlot mOver_L5 mMany mKinds mVs mWs mXs mSet mUseW mUseX mGone mSaid_L5 mSaidCount_L5 mFailed_L5 mValues_L5) H → va_D A (wdMd_doSteps cA cB bd N mThrown mReached mForm mSlot mOver_L5 mMany mKinds mVs mWs mXs mSet mUseW mUseX mGone mSaid_L5 mSaidCount_L5 mFailed_L5 mValues_L5) → va_S A s.heap H locs → J134 t134_0 → W p l e (headSpec (Cond.code yMd_doSteps cMd_doSteps 7 none :: xW) rmMd_doSteps).room s m ([.ref (bd 0), .int v1, .int (bI v2)] : List Value).toArray below meth c H locs 0 0 Q (F0 m 134 ls [.int t134_0]) := by
                intro t134_0 ls H locs hl hP hD hS hw
                have hw := hJ134 t134_0 hw
                refine lv_istore (lv' := [(5, .int t134_0), (0, .ref (bd 0)), (1, .int v1), (2, .int (bI v2)), (3, .int v3_L5), (4, .int t80_0)]) hx hb dMd_doSteps_134 hl (by decide) rfl (fun ls hl => ?_)
                refine lv_aload_n hx hb dMd_doSteps_136 rfl (lv_at hl 1 rfl) ?_
                refine va_get (D := D) (ci := 7) (v := .ref (bd 2)) (C := "OnceNamedModel") (T := TX7) (N := 34) hx hb hts (fun w h => List.mem_cons_of_mem _ (inX7 w h)) hown hK hP 0 rfl rfl 3 (by decide) (hts _ (List.mem_cons_of_mem _ kw_988)) (fun _ h9 => h9) rfl dMd_doSteps_137 ?_
                refine lv_iload_n hx hb dMd_doSteps_140 rfl (lv_at hl 4 rfl) ?_
                have ho := hw.1
                have hw := hw.2
                refine va_iald hx hb hK hP 2 0 rfl rfl ho dMd_doSteps_141 ?_
                refine lv_bipush (v := 7) hx hb dMd_doSteps_142 (by decide) ?_
                refine lv_icmp_ne (tgt := 156) hx hb dMd_doSteps_144 rfl (fun hc => ?_) (fun hc => ?_)
                · have hw := hw.1 hc
                  refine lv_aload_n hx hb dMd_doSteps_156 rfl (lv_at hl 1 rfl) ?_
                  refine va_get (D := D) (ci := 7) (v := .ref (bd 2)) (C := "OnceNamedModel") (T := TX7) (N := 34) hx hb hts (fun w h => List.mem_cons_of_mem _ (inX7 w h)) hown hK hP 0 rfl rfl 3 (by decide) (hts _ (List.mem_cons_of_mem _ kw_988)) (fun _ h9 => h9) rfl dMd_doSteps_157 ?_
                  refine lv_iload_n hx hb dMd_doSteps_160 rfl (lv_at hl 4 rfl) ?_
                  have ho := hw.1
                  have hw := hw.2
                  refine va_iald hx hb hK hP 2 0 rfl rfl ho dMd_doSteps_161 ?_
                  obtain ⟨J188, hJ188, hw⟩ := hw
                  have hj188 : ∀ (t188_0 : Int32) (mOver_j188 : Bool) (mFailed_j188 : Nat → Int32) (ls : Array Slot) (H : Heap) (locs : List Loc), lv_has ls 7 [(0, .ref (bd 0)), (1, .int v1), (2, .int (bI v2)), (3, .int v3_L5), (4, .int t80_0), (5, .int t134_0)] → va_P D vwCl (wdMd_doSteps cA cB bd N mThrown mReached mForm mSlot mOver_j188 mMany mKinds mVs mWs mXs mSet mUseW mUseX mGone mSaid_L5 mSaidCount_L5 mFailed_j188 mValues_L5) H → va_D A (wdMd_doSteps cA cB bd N mThrown mReached mForm mSlot mOver_j188 mMany mKinds mVs mWs mXs mSet mUseW mUseX mGone mSaid_L5 mSaidCount_L5 mFailed_j188 mValues_L5) → va_S A s.heap H locs → J188 t188_0 mOver_j188 mFailed_j188 → W p l e (headSpec (Cond.code yMd_doSteps cMd_doSteps 7 none :: xW) rmMd_doSteps).room s m ([.ref (bd 0), .int v1, .int (bI v2)] : List Value).toArray below meth c H locs 0 0 Q (F0 m 188 ls [.int t188_0]) := by
                    intro t188_0 mOver_j188 mFailed_j188 ls H locs hl hP hD hS hw
                    have hw := hJ188 t188_0 mOver_j188 mFailed_j188 hw
                    refine lv_istore (lv' := [(6, .int t188_0), (0, .ref (bd 0)), (1, .int v1), (2, .int (bI v2)), (3, .int v3_L5), (4, .int t80_0), (5, .int t134_0)]) hx hb dMd_doSteps_188 hl (by decide) rfl (fun ls hl => ?_)
                    refine lv_aload_n hx hb dMd_doSteps_190 rfl (lv_at hl 1 rfl) ?_
                    refine va_get (D := D) (ci := 7) (v := .int (bI mOver_j188)) (C := "OnceNamedModel") (T := TX7) (N := 34) hx hb hts (fun w h => List.mem_cons_of_mem _ (inX7 w h)) hown hK hP 0 rfl rfl 33 (by decide) (hts _ (List.mem_cons_of_mem _ kw_1018)) (fun _ h9 => h9) rfl dMd_doSteps_191 ?_
                    refine lv_if_ne (tgt := 226) hx hb dMd_doSteps_194 rfl (fun hc => ?_) (fun hc => ?_)
                    · have hw := hw.1 (bI_1 hc)
                      refine lv_iinc (k := 4) (v := (v3_L5 + 1)) (lv' := [(3, .int (v3_L5 + 1)), (6, .int t188_0), (0, .ref (bd 0)), (1, .int v1), (2, .int (bI v2)), (4, .int t80_0), (5, .int t134_0)]) hx hb dMd_doSteps_226 hl rfl rfl (by decide) rfl (fun ls hl => ?_)
                      refine lv_goto (tgt := 5) hx hb dMd_doSteps_229 rfl ?_
                      exact ih (v3_L5 + 1) mOver_j188 mSaid_L5 mSaidCount_L5 mFailed_j188 mValues_L5 _ _ _ (lv_sub hl [2, 3, 4, 0] rfl) hP hD hS hw
                    · have hw := hw.2 (bI_0 hc)
                      refine lv_aload_n hx hb dMd_doSteps_197 rfl (lv_at hl 1 rfl) ?_
                      refine va_get (D := D) (ci := 7) (v := .ref (bd 26)) (C := "OnceNamedModel") (T := TX7) (N := 34) hx hb hts (fun w h => List.mem_cons_of_mem _ (inX7 w h)) hown hK hP 0 rfl rfl 29 (by decide) (hts _ (List.mem_cons_of_mem _ kw_1014)) (fun _ h9 => h9) rfl dMd_doSteps_198 ?_
                      refine lv_iload_n hx hb dMd_doSteps_201 rfl (lv_at hl 3 rfl) ?_
                      refine lv_if_eq (tgt := 214) hx hb dMd_doSteps_202 rfl (fun hc => ?_) (fun hc => ?_)
                      · have hw := hw.1 (bI_0 hc)
                        refine lv_bipush (v := 100) hx hb dMd_doSteps_214 (by decide) ?_
                        refine lv_aload_n hx hb dMd_doSteps_216 rfl (lv_at hl 1 rfl) ?_
                        refine va_get (D := D) (ci := 7) (v := .ref (bd 3)) (C := "OnceNamedModel") (T := TX7) (N := 34) hx hb hts (fun w h => List.mem_cons_of_mem _ (inX7 w h)) hown hK hP 0 rfl rfl 4 (by decide) (hts _ (List.mem_cons_of_mem _ kw_989)) (fun _ h9 => h9) rfl dMd_doSteps_217 ?_
                        refine lv_iload_n hx hb dMd_doSteps_220 rfl (lv_at hl 4 rfl) ?_
                        have ho := hw.1
                        have hw := hw.2
                        refine va_iald hx hb hK hP 3 0 rfl rfl ho dMd_doSteps_221 ?_
                        refine lv_imul hx hb dMd_doSteps_222 ?_
                        refine lv_iload hx hb dMd_doSteps_223 (lv_at hl 0 rfl) ?_
                        have ho := hw.1
                        have hw := hw.2
                        refine va_iast hx hb hK hP hD hS 13 0 rfl rfl ho dMd_doSteps_225 (fun H locs hP hD hS => ?_)
                        have hP : va_P D vwCl (wdMd_doSteps cA cB bd N mThrown mReached mForm mSlot mOver_j188 mMany mKinds mVs mWs mXs mSet mUseW mUseX mGone mSaid_L5 mSaidCount_L5 mFailed_j188 (upd mValues_L5 (Int32.toNatClampNeg (100 * (mVs (Int32.toNatClampNeg v3_L5)))) t188_0)) H := hP
                        have hD : va_D A (wdMd_doSteps cA cB bd N mThrown mReached mForm mSlot mOver_j188 mMany mKinds mVs mWs mXs mSet mUseW mUseX mGone mSaid_L5 mSaidCount_L5 mFailed_j188 (upd mValues_L5 (Int32.toNatClampNeg (100 * (mVs (Int32.toNatClampNeg v3_L5)))) t188_0)) := hD
                        refine lv_iinc (k := 4) (v := (v3_L5 + 1)) (lv' := [(3, .int (v3_L5 + 1)), (6, .int t188_0), (0, .ref (bd 0)), (1, .int v1), (2, .int (bI v2)), (4, .int t80_0), (5, .int t134_0)]) hx hb dMd_doSteps_226 hl rfl rfl (by decide) rfl (fun ls hl => ?_)
                        refine lv_goto (tgt := 5) hx hb dMd_doSteps_229 rfl ?_
                        exact ih (v3_L5 + 1) mOver_j188 mSaid_L5 mSaidCount_L5 mFailed_j188 (upd mValues_L5 (Int32.toNatClampNeg (100 * (mVs (Int32.toNatClampNeg v3_L5)))) t188_0) _ _ _ (lv_sub hl [2, 3, 4, 0] rfl) hP hD hS hw
                      · have hw := hw.2 (bI_1 hc)
                        refine lv_aload_n hx hb dMd_doSteps_205 rfl (lv_at hl 1 rfl) ?_
                        refine va_get (D := D) (ci := 7) (v := .ref (bd 14)) (C := "OnceNamedModel") (T := TX7) (N := 34) hx hb hts (fun w h => List.mem_cons_of_mem _ (inX7 w h)) hown hK hP 0 rfl rfl 17 (by decide) (hts _ (List.mem_cons_of_mem _ kw_1002)) (fun _ h9 => h9) rfl dMd_doSteps_206 ?_
                        refine lv_iload_n hx hb dMd_doSteps_209 rfl (lv_at hl 4 rfl) ?_
                        have ho := hw.1
                        have hw := hw.2
                        refine va_iald hx hb hK hP 6 0 rfl rfl ho dMd_doSteps_210 ?_
                        refine lv_goto (tgt := 223) hx hb dMd_doSteps_211 rfl ?_
                        refine lv_iload hx hb dMd_doSteps_223 (lv_at hl 0 rfl) ?_
                        have ho := hw.1
                        have hw := hw.2
                        refine va_iast hx hb hK hP hD hS 13 0 rfl rfl ho dMd_doSteps_225 (fun H locs hP hD hS => ?_)
                        have hP : va_P D vwCl (wdMd_doSteps cA cB bd N mThrown mReached mForm mSlot mOver_j188 mMany mKinds mVs mWs mXs mSet mUseW mUseX mGone mSaid_L5 mSaidCount_L5 mFailed_j188 (upd mValues_L5 (Int32.toNatClampNeg (mSet (Int32.toNatClampNeg v3_L5))) t188_0)) H := hP
                        have hD : va_D A (wdMd_doSteps cA cB bd N mThrown mReached mForm mSlot mOver_j188 mMany mKinds mVs mWs mXs mSet mUseW mUseX mGone mSaid_L5 mSaidCount_L5 mFailed_j188 (upd mValues_L5 (Int32.toNatClampNeg (mSet (Int32.toNatClampNeg v3_L5))) t188_0)) := hD
                        refine lv_iinc (k := 4) (v := (v3_L5 + 1)) (lv' := [(3, .int (v3_L5 + 1)), (6, .int t188_0), (0, .ref (bd 0)), (1, .int v1), (2, .int (bI v2)), (4, .int t80_0), (5, .int t134_0)]) hx hb dMd_doSteps_226 hl rfl rfl (by decide) rfl (fun ls hl => ?_)
                        refine lv_goto (tgt := 5) hx hb dMd_doSteps_229 rfl ?_
                        exact ih (v3_L5 + 1) mOver_j188 mSaid_L5 mSaidCount_L5 mFailed_j188 (upd mValues_L5 (Int32.toNatClampNeg (mSet (Int32.toNatClampNeg v3_L5))) t188_0) _ _ _ (lv_sub hl [2, 3, 4, 0] rfl) hP hD hS hw
                  refine lv_if_ne (tgt := 174) hx hb dMd_doSteps_162 rfl (fun hc => ?_) (fun hc => ?_)
                  · have hw := hw.1 hc
                    refine lv_aload_n hx hb dMd_doSteps_174 rfl (lv_at hl 1 rfl) ?_
                    refine lv_aload_n hx hb dMd_doSteps_175 rfl (lv_at hl 1 rfl) ?_
                    refine va_get (D := D) (ci := 7) (v := .ref (bd 2)) (C := "OnceNamedModel") (T := TX7) (N := 34) hx hb hts (fun w h => List.mem_cons_of_mem _ (inX7 w h)) hown hK hP 0 rfl rfl 3 (by decide) (hts _ (List.mem_cons_of_mem _ kw_988)) (fun _ h9 => h9) rfl dMd_doSteps_176 ?_
                    refine lv_iload_n hx hb dMd_doSteps_179 rfl (lv_at hl 4 rfl) ?_
                    have ho := hw.1
                    have hw := hw.2
                    refine va_iald hx hb hK hP 2 0 rfl rfl ho dMd_doSteps_180 ?_
                    refine lv_iload hx hb dMd_doSteps_181 (lv_at hl 5 rfl) ?_
                    refine lv_iload hx hb dMd_doSteps_183 (lv_at hl 0 rfl) ?_
                    refine xci (va_runV ⟨hx, hb, hml, hown, hts⟩ (ktMd_result l D cA cB bd N _ mThrown mReached mForm mSlot mOver_L5 mFailed_L5 (mKinds (Int32.toNatClampNeg v3_L5)) t80_0 t134_0 _ hw) (cwV 3 hts (goodV kw_1293 kw_1295 ks_5_11 kw_11 kw_1296) rfl rfl rfl (by decide +kernel) ⟨Nat.le_of_ble_eq_true rfl, Nat.le_of_ble_eq_true rfl⟩) (xpreV hK hP hD hN [0, 12] rfl rfl 0 rfl rfl) rfl rfl hl.1 rfl (lv_room (Nat.le_of_ble_eq_true rfl)) dMd_doSteps_185 ⟨Nat.le_of_ble_eq_true rfl, Nat.le_of_ble_eq_true rfl⟩) hP hD hS hA [0, 12] [1, 2, 3, 4, 5, 6, 7, 8, 9, 10, 11, 13] rfl rfl rfl rfl [12, 0, 1, 2, 3, 4, 5, 6, 7, 8, 9, 10, 13, 11] rfl (fun _ => rfl) (fun r185 u H locs hw hP hD hS => ?_)
                    obtain ⟨mOver_185, mFailed_185⟩ := u
                    try dsimp only at hw
                    have hP : va_P D vwCl (wdMd_doSteps cA cB bd N mThrown mReached mForm mSlot mOver_185 mMany mKinds mVs mWs mXs mSet mUseW mUseX mGone mSaid_L5 mSaidCount_L5 mFailed_185 mValues_L5) H := hP
                    have hD : va_D A (wdMd_doSteps cA cB bd N mThrown mReached mForm mSlot mOver_185 mMany mKinds mVs mWs mXs mSet mUseW mUseX mGone mSaid_L5 mSaidCount_L5 mFailed_185 mValues_L5) := hD
                    exact hj188 r185 mOver_185 mFailed_185 _ _ _ (lv_sub hl [1, 2, 3, 4, 5, 0] rfl) hP hD hS hw
                  · have hw := hw.2 hc
                    refine lv_aload_n hx hb dMd_doSteps_165 rfl (lv_at hl 1 rfl) ?_
                    refine va_get (D := D) (ci := 7) (v := .ref (bd 4)) (C := "OnceNamedModel") (T := TX7) (N := 34) hx hb hts (fun w h => List.mem_cons_of_mem _ (inX7 w h)) hown hK hP 0 rfl rfl 5 (by decide) (hts _ (List.mem_cons_of_mem _ kw_990)) (fun _ h9 => h9) rfl dMd_doSteps_166 ?_
                    refine lv_iload_n hx hb dMd_doSteps_169 rfl (lv_at hl 4 rfl) ?_
                    have ho := hw.1
                    have hw := hw.2
                    refine va_iald hx hb hK hP 4 0 rfl rfl ho dMd_doSteps_170 ?_
                    refine lv_goto (tgt := 188) hx hb dMd_doSteps_171 rfl ?_
                    exact hj188 (mWs (Int32.toNatClampNeg v3_L5)) mOver_L5 mFailed_L5 _ _ _ (lv_sub hl [1, 2, 3, 4, 5, 0] rfl) hP hD hS hw
                · have hw := hw.2 hc
                  refine lv_aload_n hx hb dMd_doSteps_147 rfl (lv_at hl 1 rfl) ?_
                  refine lv_iload hx hb dMd_doSteps_148 (lv_at hl 5 rfl) ?_
                  refine xcv (va_runV ⟨hx, hb, hml, hown, hts⟩ (ktMd_say l D cA cB bd N _ mThrown mReached mForm mSlot mOver_L5 mSaid_L5 mSaidCount_L5 mFailed_L5 t80_0 _ hw) (cwV 1 hts (goodV kw_1289 kw_1291 ks_5_10 kw_11 kw_1292) rfl rfl rfl (by decide +kernel) ⟨Nat.le_of_ble_eq_true rfl, Nat.le_of_ble_eq_true rfl⟩) (xpreV hK hP hD hN [0, 10, 11, 12] rfl rfl 0 rfl rfl) rfl rfl hl.1 rfl (lv_room (Nat.le_of_ble_eq_true rfl)) dMd_doSteps_150 ⟨Nat.le_of_ble_eq_true rfl, Nat.le_of_ble_eq_true rfl⟩) hP hD hS hA [0, 10, 11, 12] [1, 2, 3, 4, 5, 6, 7, 8, 9, 13] rfl rfl rfl rfl [10, 0, 1, 2, 3, 4, 5, 6, 7, 8, 11, 12, 13, 9] rfl (fun _ => rfl) (fun u H locs hw hP hD hS => ?_)
                  obtain ⟨mOver_150, mSaid_150, mSaidCount_150, mFailed_150⟩ := u
                  try dsimp only at hw
                  have hP : va_P D vwCl (wdMd_doSteps cA cB bd N mThrown mReached mForm mSlot mOver_150 mMany mKinds mVs mWs mXs mSet mUseW mUseX mGone mSaid_150 mSaidCount_150 mFailed_150 mValues_L5) H := hP
                  have hD : va_D A (wdMd_doSteps cA cB bd N mThrown mReached mForm mSlot mOver_150 mMany mKinds mVs mWs mXs mSet mUseW mUseX mGone mSaid_150 mSaidCount_150 mFailed_150 mValues_L5) := hD
                  refine lv_goto (tgt := 226) hx hb dMd_doSteps_153 rfl ?_
                  refine lv_iinc (k := 4) (v := (v3_L5 + 1)) (lv' := [(3, .int (v3_L5 + 1)), (5, .int t134_0), (0, .ref (bd 0)), (1, .int v1), (2, .int (bI v2)), (4, .int t80_0)]) hx hb dMd_doSteps_226 hl rfl rfl (by decide) rfl (fun ls hl => ?_)
                  refine lv_goto (tgt := 5) hx hb dMd_doSteps_229 rfl ?_
                  exact ih (v3_L5 + 1) mOver_150 mSaid_150 mSaidCount_150 mFailed_150 mValues_L5 _ _ _ (lv_sub hl [2, 3, 4, 0] rfl) hP hD hS hw
              obtain ⟨J133, hJ133, hw⟩ := hw
              have hj133 : ∀  (ls : Array Slot) (H : Heap) (locs : List Loc), lv_has ls 7 [(0, .ref (bd 0)), (1, .int v1), (2, .int (bI v2)), (3, .int v3_L5), (4, .int t80_0)] → va_P D vwCl (wdMd_doSteps cA cB bd N mThrown mReached mForm mSlot mOver_L5 mMany mKinds mVs mWs mXs mSet mUseW mUseX mGone mSaid_L5 mSaidCount_L5 mFailed_L5 mValues_L5) H → va_D A (wdMd_doSteps cA cB bd N mThrown mReached mForm mSlot mOver_L5 mMany mKinds mVs mWs mXs mSet mUseW mUseX mGone mSaid_L5 mSaidCount_L5 mFailed_L5 mValues_L5) → va_S A s.heap H locs → J133 → W p l e (headSpec (Cond.code yMd_doSteps cMd_doSteps 7 none :: xW) rmMd_doSteps).room s m ([.ref (bd 0), .int v1, .int (bI v2)] : List Value).toArray below meth c H locs 0 0 Q (F0 m 133 ls []) := by
                intro  ls H locs hl hP hD hS hw
                have hw := hJ133  hw
                refine lv_iconst (v := 0) hx hb dMd_doSteps_133 (by decide) ?_
                exact hj134 0 _ _ _ (lv_sub hl [0, 1, 2, 3, 4] rfl) hP hD hS hw
              refine lv_icmp_le (tgt := 133) hx hb dMd_doSteps_89 rfl (fun hc => ?_) (fun hc => ?_)
              · have hw := hw.1 hc
                exact hj133  _ _ _ (lv_sub hl [1, 2, 3, 4, 0] rfl) hP hD hS hw
              · have hw := hw.2 hc
                refine lv_aload_n hx hb dMd_doSteps_92 rfl (lv_at hl 1 rfl) ?_
                refine va_get (D := D) (ci := 7) (v := .ref (bd 2)) (C := "OnceNamedModel") (T := TX7) (N := 34) hx hb hts (fun w h => List.mem_cons_of_mem _ (inX7 w h)) hown hK hP 0 rfl rfl 3 (by decide) (hts _ (List.mem_cons_of_mem _ kw_988)) (fun _ h9 => h9) rfl dMd_doSteps_93 ?_
                refine lv_iload_n hx hb dMd_doSteps_96 rfl (lv_at hl 4 rfl) ?_
                have ho := hw.1
                have hw := hw.2
                refine va_iald hx hb hK hP 2 0 rfl rfl ho dMd_doSteps_97 ?_
                refine lv_bipush (v := 7) hx hb dMd_doSteps_98 (by decide) ?_
                refine lv_icmp_ge (tgt := 133) hx hb dMd_doSteps_100 rfl (fun hc => ?_) (fun hc => ?_)
                · have hw := hw.1 hc
                  exact hj133  _ _ _ (lv_sub hl [1, 2, 3, 4, 0] rfl) hP hD hS hw
                · have hw := hw.2 hc
                  refine lv_aload_n hx hb dMd_doSteps_103 rfl (lv_at hl 1 rfl) ?_
                  refine va_get (D := D) (ci := 7) (v := .ref (bd 26)) (C := "OnceNamedModel") (T := TX7) (N := 34) hx hb hts (fun w h => List.mem_cons_of_mem _ (inX7 w h)) hown hK hP 0 rfl rfl 29 (by decide) (hts _ (List.mem_cons_of_mem _ kw_1014)) (fun _ h9 => h9) rfl dMd_doSteps_104 ?_
                  refine lv_iload_n hx hb dMd_doSteps_107 rfl (lv_at hl 3 rfl) ?_
                  refine lv_if_eq (tgt := 120) hx hb dMd_doSteps_108 rfl (fun hc => ?_) (fun hc => ?_)
                  · have hw := hw.1 (bI_0 hc)
                    refine lv_bipush (v := 100) hx hb dMd_doSteps_120 (by decide) ?_
                    refine lv_aload_n hx hb dMd_doSteps_122 rfl (lv_at hl 1 rfl) ?_
                    refine va_get (D := D) (ci := 7) (v := .ref (bd 5)) (C := "OnceNamedModel") (T := TX7) (N := 34) hx hb hts (fun w h => List.mem_cons_of_mem _ (inX7 w h)) hown hK hP 0 rfl rfl 6 (by decide) (hts _ (List.mem_cons_of_mem _ kw_991)) (fun _ h9 => h9) rfl dMd_doSteps_123 ?_
                    refine lv_iload_n hx hb dMd_doSteps_126 rfl (lv_at hl 4 rfl) ?_
                    have ho := hw.1
                    have hw := hw.2
                    refine va_iald hx hb hK hP 5 0 rfl rfl ho dMd_doSteps_127 ?_
                    refine lv_imul hx hb dMd_doSteps_128 ?_
                    have ho := hw.1
                    have hw := hw.2
                    refine va_iald hx hb hK hP 13 0 rfl rfl ho dMd_doSteps_129 ?_
                    refine lv_goto (tgt := 134) hx hb dMd_doSteps_130 rfl ?_
                    exact hj134 (mValues_L5 (Int32.toNatClampNeg (100 * (mXs (Int32.toNatClampNeg v3_L5))))) _ _ _ (lv_sub hl [1, 2, 3, 4, 0] rfl) hP hD hS hw
                  · have hw := hw.2 (bI_1 hc)
                    refine lv_aload_n hx hb dMd_doSteps_111 rfl (lv_at hl 1 rfl) ?_
                    refine va_get (D := D) (ci := 7) (v := .ref (bd 16)) (C := "OnceNamedModel") (T := TX7) (N := 34) hx hb hts (fun w h => List.mem_cons_of_mem _ (inX7 w h)) hown hK hP 0 rfl rfl 19 (by decide) (hts _ (List.mem_cons_of_mem _ kw_1004)) (fun _ h9 => h9) rfl dMd_doSteps_112 ?_
                    refine lv_iload_n hx hb dMd_doSteps_115 rfl (lv_at hl 4 rfl) ?_
                    have ho := hw.1
                    have hw := hw.2
                    refine va_iald hx hb hK hP 8 0 rfl rfl ho dMd_doSteps_116 ?_
                    refine lv_goto (tgt := 129) hx hb dMd_doSteps_117 rfl ?_
                    have ho := hw.1
                    have hw := hw.2
                    refine va_iald hx hb hK hP 13 0 rfl rfl ho dMd_doSteps_129 ?_
                    refine lv_goto (tgt := 134) hx hb dMd_doSteps_130 rfl ?_
                    exact hj134 (mValues_L5 (Int32.toNatClampNeg (mUseX (Int32.toNatClampNeg v3_L5)))) _ _ _ (lv_sub hl [1, 2, 3, 4, 0] rfl) hP hD hS hw
            refine lv_if_le (tgt := 79) hx hb dMd_doSteps_46 rfl (fun hc => ?_) (fun hc => ?_)
            · have hw := hw.1 hc
              refine lv_iconst (v := 0) hx hb dMd_doSteps_79 (by decide) ?_
              exact hj80 0 _ _ _ (lv_sub hl [0, 1, 2, 3] rfl) hP hD hS hw
            · have hw := hw.2 hc
              refine lv_aload_n hx hb dMd_doSteps_49 rfl (lv_at hl 0 rfl) ?_
              refine va_get (D := D) (ci := 7) (v := .ref (bd 26)) (C := "OnceNamedModel") (T := TX7) (N := 34) hx hb hts (fun w h => List.mem_cons_of_mem _ (inX7 w h)) hown hK hP 0 rfl rfl 29 (by decide) (hts _ (List.mem_cons_of_mem _ kw_1014)) (fun _ h9 => h9) rfl dMd_doSteps_50 ?_
              refine lv_iload_n hx hb dMd_doSteps_53 rfl (lv_at hl 2 rfl) ?_
              refine lv_if_eq (tgt := 66) hx hb dMd_doSteps_54 rfl (fun hc => ?_) (fun hc => ?_)
              · have hw := hw.1 (bI_0 hc)
                refine lv_bipush (v := 100) hx hb dMd_doSteps_66 (by decide) ?_
                refine lv_aload_n hx hb dMd_doSteps_68 rfl (lv_at hl 0 rfl) ?_
                refine va_get (D := D) (ci := 7) (v := .ref (bd 4)) (C := "OnceNamedModel") (T := TX7) (N := 34) hx hb hts (fun w h => List.mem_cons_of_mem _ (inX7 w h)) hown hK hP 0 rfl rfl 5 (by decide) (hts _ (List.mem_cons_of_mem _ kw_990)) (fun _ h9 => h9) rfl dMd_doSteps_69 ?_
                refine lv_iload_n hx hb dMd_doSteps_72 rfl (lv_at hl 3 rfl) ?_
                have ho := hw.1
                have hw := hw.2
                refine va_iald hx hb hK hP 4 0 rfl rfl ho dMd_doSteps_73 ?_
                refine lv_imul hx hb dMd_doSteps_74 ?_
                have ho := hw.1
                have hw := hw.2
                refine va_iald hx hb hK hP 13 0 rfl rfl ho dMd_doSteps_75 ?_
                refine lv_goto (tgt := 80) hx hb dMd_doSteps_76 rfl ?_
                exact hj80 (mValues_L5 (Int32.toNatClampNeg (100 * (mWs (Int32.toNatClampNeg v3_L5))))) _ _ _ (lv_sub hl [0, 1, 2, 3] rfl) hP hD hS hw
              · have hw := hw.2 (bI_1 hc)
                refine lv_aload_n hx hb dMd_doSteps_57 rfl (lv_at hl 0 rfl) ?_
                refine va_get (D := D) (ci := 7) (v := .ref (bd 15)) (C := "OnceNamedModel") (T := TX7) (N := 34) hx hb hts (fun w h => List.mem_cons_of_mem _ (inX7 w h)) hown hK hP 0 rfl rfl 18 (by decide) (hts _ (List.mem_cons_of_mem _ kw_1003)) (fun _ h9 => h9) rfl dMd_doSteps_58 ?_
                refine lv_iload_n hx hb dMd_doSteps_61 rfl (lv_at hl 3 rfl) ?_
                have ho := hw.1
                have hw := hw.2
                refine va_iald hx hb hK hP 7 0 rfl rfl ho dMd_doSteps_62 ?_
                refine lv_goto (tgt := 75) hx hb dMd_doSteps_63 rfl ?_
                have ho := hw.1
                have hw := hw.2
                refine va_iald hx hb hK hP 13 0 rfl rfl ho dMd_doSteps_75 ?_
                refine lv_goto (tgt := 80) hx hb dMd_doSteps_76 rfl ?_
                exact hj80 (mValues_L5 (Int32.toNatClampNeg (mUseW (Int32.toNatClampNeg v3_L5)))) _ _ _ (lv_sub hl [0, 1, 2, 3] rfl) hP hD hS hw
          refine lv_if_eq (tgt := 40) hx hb dMd_doSteps_28 rfl (fun hc => ?_) (fun hc => ?_)
          · have hw := hw.1 (bI_0 hc)
            exact hj40  _ _ _ (lv_sub hl [0, 1, 2, 3] rfl) hP hD hS hw
          · have hw := hw.2 (bI_1 hc)
            refine lv_aload_n hx hb dMd_doSteps_31 rfl (lv_at hl 0 rfl) ?_
            refine va_get (D := D) (ci := 7) (v := .ref (bd 18)) (C := "OnceNamedModel") (T := TX7) (N := 34) hx hb hts (fun w h => List.mem_cons_of_mem _ (inX7 w h)) hown hK hP 0 rfl rfl 21 (by decide) (hts _ (List.mem_cons_of_mem _ kw_1006)) (fun _ h9 => h9) rfl dMd_doSteps_32 ?_
            refine lv_iload_n hx hb dMd_doSteps_35 rfl (lv_at hl 3 rfl) ?_
            have ho := hw.1
            have hw := hw.2
            refine xzald hx hb hK hP 9 1 rfl rfl ho dMd_doSteps_36 ?_
            refine lv_if_ne (tgt := 226) hx hb dMd_doSteps_37 rfl (fun hc => ?_) (fun hc => ?_)
            · have hw := hw.1 (bI_1 hc)
              refine lv_iinc (k := 3) (v := (v3_L5 + 1)) (lv' := [(3, .int (v3_L5 + 1)), (0, .ref (bd 0)), (1, .int v1), (2, .int (bI v2))]) hx hb dMd_doSteps_226 hl rfl rfl (by decide) rfl (fun ls hl => ?_)
              refine lv_goto (tgt := 5) hx hb dMd_doSteps_229 rfl ?_
              exact ih (v3_L5 + 1) mOver_L5 mSaid_L5 mSaidCount_L5 mFailed_L5 mValues_L5 _ _ _ (lv_sub hl [1, 2, 3, 0] rfl) hP hD hS hw
            · have hw := hw.2 (bI_0 hc)
              exact hj40  _ _ _ (lv_sub hl [0, 1, 2, 3] rfl) hP hD hS hw
  refine hlp5 k5 v3_4 mOver mSaid mSaidCount mFailed mValues _ _ _ (lv_sub hl [1, 2, 3, 0] rfl) hP hD hS hw
abbrev wdMd_meet (cA : ClassId) (cB : ClassId) (bd : Nat → Nat) (N : Nat) (mThrown : Int32) (mReached : Int32) (mForm : Bool) (mSlot : Int32) (mOver : Bool) (mMeets : Nat → Int32) (mSources : Nat → Int32) (mValues : Nat → Int32) (mNextValues : Nat → Int32) : va_W := [((bd 0), .inr (7, [.int mThrown, .int (nI N), .ref (bd 1), .ref (bd 2), .ref (bd 3), .ref (bd 4), .ref (bd 5), .ref (bd 6), .ref (bd 7), .ref (bd 8), .ref (bd 9), .ref (bd 10), .int mReached, .ref (bd 11), .int (bI mForm), .ref (bd 12), .ref (bd 13), .ref (bd 14), .ref (bd 15), .ref (bd 16), .ref (bd 17), .ref (bd 18), .ref (bd 19), .ref (bd 20), .ref (bd 21), .ref (bd 22), .ref (bd 23), .ref (bd 24), .ref (bd 25), .ref (bd 26), .ref (bd 27), .ref (bd 28), .int mSlot, .int (bI mOver)])), ((bd 12), .inl (cA, 72, .inl mMeets)), ((bd 13), .inl (cA, 936, .inl mSources)), ((bd 26), .inl (cA, 600, .inl mValues)), ((bd 27), .inl (cA, 6, .inl mNextValues))]
abbrev qcMd_meet (D : va_G) (cA : ClassId) (cB : ClassId) (bd : Nat → Nat) (N : Nat) (mThrown : Int32) (mReached : Int32) (mForm : Bool) (mSlot : Int32) (mOver : Bool) (mMeets : Nat → Int32) (mSources : Nat → Int32) (mValues : Nat → Int32) (mNextValues : Nat → Int32) (post : (Nat → Int32) → (Nat → Int32) → Prop) (A : Nat → Prop) : Array Value → State → Outcome → State → Prop := va_Qv (S := (Nat → Int32) × (Nat → Int32)) (fun u => post u.1 u.2) (fun u t => xB D [(cA, .int), (cB, .boolean)] A (wdMd_meet cA cB bd N mThrown mReached mForm mSlot mOver mMeets mSources u.1 u.2) t) A
abbrev rmMd_meet : Room := { frames := 1, cells := 0, slots := 0, locals := 23 }
set_option maxHeartbeats 4000000 in
set_option maxRecDepth 100000 in
theorem ktMd_meet (l : Launch) (D : va_G) (cA : ClassId) (cB : ClassId) (bd : Nat → Nat) (N : Nat) (sz : Nat) (mThrown : Int32) (mReached : Int32) (mForm : Bool) (mSlot : Int32) (mOver : Bool) (mMeets : Nat → Int32) (mSources : Nat → Int32) (mValues : Nat → Int32) (mNextValues : Nat → Int32) (v1 : Int32) (v2 : Int32) (post : (Nat → Int32) → (Nat → Int32) → Prop) (hw : wpMd_meet mMeets mSources mValues mNextValues v1 v2 post) : Met l yMd_meet (Cond.code yMd_meet cMd_meet 5 none :: xW) rmMd_meet (va_Pc [.ref (bd 0), .int v1, .int v2] (xPc D [(cA, .int), (cB, .boolean)] (wdMd_meet cA cB bd N mThrown mReached mForm mSlot mOver mMeets mSources mValues mNextValues) sz)) (qcMd_meet D cA cB bd N mThrown mReached mForm mSlot mOver mMeets mSources mValues mNextValues post (va_A (wdMd_meet cA cB bd N mThrown mReached mForm mSlot mOver mMeets mSources mValues mNextValues) sz)) 0 0 (va_A (wdMd_meet cA cB bd N mThrown mReached mForm mSlot mOver mMeets mSources mValues mNextValues) sz) := by
  refine Met.ofW (cc := cMd_meet) (maxL := 5) (ret := none) (by decide) rfl ?_
  intro p e s m args below meth c s₁ B hml hv
  obtain ⟨rfl, hsz, hP, hK, hD0, hN⟩ := hv
  have hx := B.exec
  have hb := B.bytes
  have hr := B.returns
  have hts := atoms_spec (ws := (Cond.code yMd_meet cMd_meet 5 none :: xW)) B.pre
  have hown : s.vm.findClass "OnceNamedModel" = some m.cls := findClass_of_methodNamed B.named
  have hlocks := B.notSynchronized
  subst hsz
  have hD := hD0.self (sz := s.heap.size)
  generalize hAe : va_A (wdMd_meet cA cB bd N mThrown mReached mForm mSlot mOver mMeets mSources mValues mNextValues) s.heap.size = A at hD ⊢
  have hA : ∀ q : Nat, s.heap.size ≤ q → A q := fun q h => by rw [← hAe]; exact Or.inr h
  have hS : va_S A s.heap s.heap [] := va_S.rf
  have hend : ∀ (u0 : Nat → Int32) (u1 : Nat → Int32) (H : Heap) (locs : List Loc) (pc : Nat) (ls : Array Slot), decode cMd_meet pc = .ok (.return_, 1) → va_P D vwCl (wdMd_meet cA cB bd N mThrown mReached mForm mSlot mOver mMeets mSources u0 u1) H → va_D A (wdMd_meet cA cB bd N mThrown mReached mForm mSlot mOver mMeets mSources u0 u1) → va_S A s.heap H locs → post u0 u1 → W p l e (headSpec (Cond.code yMd_meet cMd_meet 5 none :: xW) rmMd_meet).room s m ([.ref (bd 0), .int v1, .int v2] : List Value).toArray below meth c H locs 0 0 (MQ below (qcMd_meet D cA cB bd N mThrown mReached mForm mSlot mOver mMeets mSources mValues mNextValues post A) ([.ref (bd 0), .int v1, .int v2] : List Value).toArray s 0 0 A) (F0 m pc ls []) := fun u0 u1 H locs pc ls hd hP hD hS hw => W.vret hx hb hr (fun t ht hW => ⟨⟨(u0, u1), rfl, hw, ⟨by rw [ht]; exact hP, va_K.moved hW.alike hK, hD⟩⟩, hS.F ht⟩) hS.2.2 hd
  generalize hQ : MQ below (qcMd_meet D cA cB bd N mThrown mReached mForm mSlot mOver mMeets mSources mValues mNextValues post A) ([.ref (bd 0), .int v1, .int v2] : List Value).toArray s 0 0 A = Q at hend ⊢
  have hl := lv_entry ([.ref (bd 0), .int v1, .int v2]) (n := 5) (Nat.le_of_ble_eq_true rfl)
  rw [lg_entry_eq]
  generalize (lg_sl ([.ref (bd 0), .int v1, .int v2]) ++ List.replicate (5 - (lg_sl ([.ref (bd 0), .int v1, .int v2])).length) Slot.unset).toArray = ls at hl ⊢
  have hl : lv_has ls 5 [(0, .ref (bd 0)), (1, .int v1), (2, .int v2)] := hl
  unfold wpMd_meet at hw
  refine lv_iconst (v := 0) hx hb dMd_meet_0 (by decide) ?_
  refine lv_istore_n (lv' := [(3, .int 0), (0, .ref (bd 0)), (1, .int v1), (2, .int v2)]) hx hb dMd_meet_1 rfl hl (by decide) rfl (fun ls hl => ?_)
  obtain ⟨k2, hw⟩ := hw
  have hlp2 : ∀ (K45 : Int32 → (Nat → Int32) → Prop), (∀ (v3_x45 : Int32) (mNextValues_x45 : Nat → Int32) (ls : Array Slot) (H : Heap) (locs : List Loc), lv_has ls 5 [(0, .ref (bd 0)), (1, .int v1), (2, .int v2), (3, .int v3_x45)] → va_P D vwCl (wdMd_meet cA cB bd N mThrown mReached mForm mSlot mOver mMeets mSources mValues mNextValues_x45) H → va_D A (wdMd_meet cA cB bd N mThrown mReached mForm mSlot mOver mMeets mSources mValues mNextValues_x45) → va_S A s.heap H locs → K45 v3_x45 mNextValues_x45 → W p l e (headSpec (Cond.code yMd_meet cMd_meet 5 none :: xW) rmMd_meet).room s m ([.ref (bd 0), .int v1, .int v2] : List Value).toArray below meth c H locs 0 0 Q (F0 m 45 ls [])) → ∀ (k : Nat), ∀ (v3_L2 : Int32) (mNextValues_L2 : Nat → Int32) (ls : Array Slot) (H : Heap) (locs : List Loc), lv_has ls 5 [(0, .ref (bd 0)), (1, .int v1), (2, .int v2), (3, .int v3_L2)] → va_P D vwCl (wdMd_meet cA cB bd N mThrown mReached mForm mSlot mOver mMeets mSources mValues mNextValues_L2) H → va_D A (wdMd_meet cA cB bd N mThrown mReached mForm mSlot mOver mMeets mSources mValues mNextValues_L2) → va_S A s.heap H locs → lpMd_meet_2 v1 v2 mMeets mSources mValues K45 k v3_L2 mNextValues_L2 → W p l e (headSpec (Cond.code yMd_meet cMd_meet 5 none :: xW) rmMd_meet).room s m ([.ref (bd 0), .int v1, .int v2] : List Value).toArray below meth c H locs 0 0 Q (F0 m 2 ls []) := by
    intro K45 hK45 k
    induction k with
    | zero => intro v3_L2 mNextValues_L2 ls H locs hl hP hD hS hw; exact False.elim hw
    | succ k ih =>
      intro v3_L2 mNextValues_L2 ls H locs hl hP hD hS hw
      refine lv_iload_n hx hb dMd_meet_2 rfl (lv_at hl 3 rfl) ?_
      refine lv_bipush (v := 6) hx hb dMd_meet_3 (by decide) ?_
      refine lv_icmp_ge (tgt := 45) hx hb dMd_meet_5 rfl (fun hc => ?_) (fun hc => ?_)
      · have hw := hw.1 hc
        exact hK45 v3_L2 mNextValues_L2 _ _ _ (lv_sub hl [0, 1, 2, 3] rfl) hP hD hS hw
      · have hw := hw.2 hc
        refine lv_aload_n hx hb dMd_meet_8 rfl (lv_at hl 0 rfl) ?_
        refine lv_iload_n hx hb dMd_meet_9 rfl (lv_at hl 1 rfl) ?_
        refine lv_iload_n hx hb dMd_meet_10 rfl (lv_at hl 3 rfl) ?_
        refine lv_iload_n hx hb dMd_meet_11 rfl (lv_at hl 2 rfl) ?_
        refine xci (va_runV ⟨hx, hb, hml, hown, hts⟩ (ktMd_sourceOf l D cA cB bd N _ mThrown mReached mForm mSlot mOver mMeets mSources v1 v3_L2 v2 _ hw) (cwV 3 hts (goodV kw_1225 kw_1227 ks_5_0 kw_11 kw_1228) rfl rfl rfl (by decide +kernel) ⟨Nat.le_of_ble_eq_true rfl, Nat.le_of_ble_eq_true rfl⟩) (xpreV hK hP hD hN [0, 1, 2] rfl rfl 0 rfl rfl) rfl rfl hl.1 rfl (lv_room (Nat.le_of_ble_eq_true rfl)) dMd_meet_12 ⟨Nat.le_of_ble_eq_true rfl, Nat.le_of_ble_eq_true rfl⟩) hP hD hS hA [0, 1, 2] [3, 4] rfl rfl rfl rfl [2, 3, 4, 0, 1] rfl (fun _ => rfl) (fun r12 u H locs hw hP hD hS => ?_)
        have hP : va_P D vwCl (wdMd_meet cA cB bd N mThrown mReached mForm mSlot mOver mMeets mSources mValues mNextValues_L2) H := hP
        have hD : va_D A (wdMd_meet cA cB bd N mThrown mReached mForm mSlot mOver mMeets mSources mValues mNextValues_L2) := hD
        refine lv_istore (lv' := [(4, .int r12), (0, .ref (bd 0)), (1, .int v1), (2, .int v2), (3, .int v3_L2)]) hx hb dMd_meet_15 hl (by decide) rfl (fun ls hl => ?_)
        refine lv_aload_n hx hb dMd_meet_17 rfl (lv_at hl 1 rfl) ?_
        refine va_get (D := D) (ci := 7) (v := .ref (bd 27)) (C := "OnceNamedModel") (T := TX7) (N := 34) hx hb hts (fun w h => List.mem_cons_of_mem _ (inX7 w h)) hown hK hP 0 rfl rfl 30 (by decide) (hts _ (List.mem_cons_of_mem _ kw_1015)) (fun _ h9 => h9) rfl dMd_meet_18 ?_
        refine lv_iload_n hx hb dMd_meet_21 rfl (lv_at hl 4 rfl) ?_
        refine lv_iload hx hb dMd_meet_22 (lv_at hl 0 rfl) ?_
        refine lv_if_ge (tgt := 31) hx hb dMd_meet_24 rfl (fun hc => ?_) (fun hc => ?_)
        · have hw := hw.1 hc
          refine lv_aload_n hx hb dMd_meet_31 rfl (lv_at hl 1 rfl) ?_
          refine va_get (D := D) (ci := 7) (v := .ref (bd 26)) (C := "OnceNamedModel") (T := TX7) (N := 34) hx hb hts (fun w h => List.mem_cons_of_mem _ (inX7 w h)) hown hK hP 0 rfl rfl 29 (by decide) (hts _ (List.mem_cons_of_mem _ kw_1014)) (fun _ h9 => h9) rfl dMd_meet_32 ?_
          refine lv_iload hx hb dMd_meet_35 (lv_at hl 0 rfl) ?_
          have ho := hw.1
          have hw := hw.2
          refine va_iald hx hb hK hP 3 0 rfl rfl ho dMd_meet_37 ?_
          have ho := hw.1
          have hw := hw.2
          refine va_iast hx hb hK hP hD hS 4 0 rfl rfl ho dMd_meet_38 (fun H locs hP hD hS => ?_)
          have hP : va_P D vwCl (wdMd_meet cA cB bd N mThrown mReached mForm mSlot mOver mMeets mSources mValues (upd mNextValues_L2 (Int32.toNatClampNeg v3_L2) (mValues (Int32.toNatClampNeg r12)))) H := hP
          have hD : va_D A (wdMd_meet cA cB bd N mThrown mReached mForm mSlot mOver mMeets mSources mValues (upd mNextValues_L2 (Int32.toNatClampNeg v3_L2) (mValues (Int32.toNatClampNeg r12)))) := hD
          refine lv_iinc (k := 4) (v := (v3_L2 + 1)) (lv' := [(3, .int (v3_L2 + 1)), (4, .int r12), (0, .ref (bd 0)), (1, .int v1), (2, .int v2)]) hx hb dMd_meet_39 hl rfl rfl (by decide) rfl (fun ls hl => ?_)
          refine lv_goto (tgt := 2) hx hb dMd_meet_42 rfl ?_
          exact ih (v3_L2 + 1) (upd mNextValues_L2 (Int32.toNatClampNeg v3_L2) (mValues (Int32.toNatClampNeg r12))) _ _ _ (lv_sub hl [2, 3, 4, 0] rfl) hP hD hS hw
        · have hw := hw.2 hc
          refine lv_iconst (v := 0) hx hb dMd_meet_27 (by decide) ?_
          refine lv_goto (tgt := 38) hx hb dMd_meet_28 rfl ?_
          have ho := hw.1
          have hw := hw.2
          refine va_iast hx hb hK hP hD hS 4 0 rfl rfl ho dMd_meet_38 (fun H locs hP hD hS => ?_)
          have hP : va_P D vwCl (wdMd_meet cA cB bd N mThrown mReached mForm mSlot mOver mMeets mSources mValues (upd mNextValues_L2 (Int32.toNatClampNeg v3_L2) 0)) H := hP
          have hD : va_D A (wdMd_meet cA cB bd N mThrown mReached mForm mSlot mOver mMeets mSources mValues (upd mNextValues_L2 (Int32.toNatClampNeg v3_L2) 0)) := hD
          refine lv_iinc (k := 4) (v := (v3_L2 + 1)) (lv' := [(3, .int (v3_L2 + 1)), (4, .int r12), (0, .ref (bd 0)), (1, .int v1), (2, .int v2)]) hx hb dMd_meet_39 hl rfl rfl (by decide) rfl (fun ls hl => ?_)
          refine lv_goto (tgt := 2) hx hb dMd_meet_42 rfl ?_
          exact ih (v3_L2 + 1) (upd mNextValues_L2 (Int32.toNatClampNeg v3_L2) 0) _ _ _ (lv_sub hl [2, 3, 4, 0] rfl) hP hD hS hw
  refine hlp2 _ ?_ k2 0 mNextValues _ _ _ (lv_sub hl [1, 2, 3, 0] rfl) hP hD hS hw
  intro v3_x45 mNextValues_x45 ls H locs hl hP hD hS hw
  try dsimp only at hw
  refine lv_iconst (v := 0) hx hb dMd_meet_45 (by decide) ?_
  refine lv_istore_n (lv' := [(3, .int 0), (0, .ref (bd 0)), (1, .int v1), (2, .int v2)]) hx hb dMd_meet_46 rfl hl (by decide) rfl (fun ls hl => ?_)
  obtain ⟨k47, hw⟩ := hw
  have hlp47 : ∀ (k : Nat), ∀ (v3_L47 : Int32) (mValues_L47 : Nat → Int32) (ls : Array Slot) (H : Heap) (locs : List Loc), lv_has ls 5 [(0, .ref (bd 0)), (1, .int v1), (2, .int v2), (3, .int v3_L47)] → va_P D vwCl (wdMd_meet cA cB bd N mThrown mReached mForm mSlot mOver mMeets mSources mValues_L47 mNextValues_x45) H → va_D A (wdMd_meet cA cB bd N mThrown mReached mForm mSlot mOver mMeets mSources mValues_L47 mNextValues_x45) → va_S A s.heap H locs → lpMd_meet_47 v1 mMeets mNextValues_x45 post k v3_L47 mValues_L47 → W p l e (headSpec (Cond.code yMd_meet cMd_meet 5 none :: xW) rmMd_meet).room s m ([.ref (bd 0), .int v1, .int v2] : List Value).toArray below meth c H locs 0 0 Q (F0 m 47 ls []) := by
    intro k
    induction k with
    | zero => intro v3_L47 mValues_L47 ls H locs hl hP hD hS hw; exact False.elim hw
    | succ k ih =>
      intro v3_L47 mValues_L47 ls H locs hl hP hD hS hw
      refine lv_iload_n hx hb dMd_meet_47 rfl (lv_at hl 3 rfl) ?_
      refine lv_bipush (v := 6) hx hb dMd_meet_48 (by decide) ?_
      refine lv_icmp_ge (tgt := 95) hx hb dMd_meet_50 rfl (fun hc => ?_) (fun hc => ?_)
      · have hw := hw.1 hc
        exact hend mValues_L47 mNextValues_x45 _ _ _ _ dMd_meet_95 hP hD hS hw
      · have hw := hw.2 hc
        refine lv_aload_n hx hb dMd_meet_53 rfl (lv_at hl 0 rfl) ?_
        refine va_get (D := D) (ci := 7) (v := .ref (bd 12)) (C := "OnceNamedModel") (T := TX7) (N := 34) hx hb hts (fun w h => List.mem_cons_of_mem _ (inX7 w h)) hown hK hP 0 rfl rfl 15 (by decide) (hts _ (List.mem_cons_of_mem _ kw_1000)) (fun _ h9 => h9) rfl dMd_meet_54 ?_
        refine lv_bipush (v := 6) hx hb dMd_meet_57 (by decide) ?_
        refine lv_iload_n hx hb dMd_meet_59 rfl (lv_at hl 1 rfl) ?_
        refine lv_imul hx hb dMd_meet_60 ?_
        refine lv_iload_n hx hb dMd_meet_61 rfl (lv_at hl 3 rfl) ?_
        refine lv_iadd hx hb dMd_meet_62 ?_
        have ho := hw.1
        have hw := hw.2
        refine va_iald hx hb hK hP 1 0 rfl rfl ho dMd_meet_63 ?_
        refine lv_if_lt (tgt := 89) hx hb dMd_meet_64 rfl (fun hc => ?_) (fun hc => ?_)
        · have hw := hw.1 hc
          refine lv_iinc (k := 3) (v := (v3_L47 + 1)) (lv' := [(3, .int (v3_L47 + 1)), (0, .ref (bd 0)), (1, .int v1), (2, .int v2)]) hx hb dMd_meet_89 hl rfl rfl (by decide) rfl (fun ls hl => ?_)
          refine lv_goto (tgt := 47) hx hb dMd_meet_92 rfl ?_
          exact ih (v3_L47 + 1) mValues_L47 _ _ _ (lv_sub hl [1, 2, 3, 0] rfl) hP hD hS hw
        · have hw := hw.2 hc
          refine lv_aload_n hx hb dMd_meet_67 rfl (lv_at hl 0 rfl) ?_
          refine va_get (D := D) (ci := 7) (v := .ref (bd 26)) (C := "OnceNamedModel") (T := TX7) (N := 34) hx hb hts (fun w h => List.mem_cons_of_mem _ (inX7 w h)) hown hK hP 0 rfl rfl 29 (by decide) (hts _ (List.mem_cons_of_mem _ kw_1014)) (fun _ h9 => h9) rfl dMd_meet_68 ?_
          refine lv_aload_n hx hb dMd_meet_71 rfl (lv_at hl 0 rfl) ?_
          refine va_get (D := D) (ci := 7) (v := .ref (bd 12)) (C := "OnceNamedModel") (T := TX7) (N := 34) hx hb hts (fun w h => List.mem_cons_of_mem _ (inX7 w h)) hown hK hP 0 rfl rfl 15 (by decide) (hts _ (List.mem_cons_of_mem _ kw_1000)) (fun _ h9 => h9) rfl dMd_meet_72 ?_
          refine lv_bipush (v := 6) hx hb dMd_meet_75 (by decide) ?_
          refine lv_iload_n hx hb dMd_meet_77 rfl (lv_at hl 1 rfl) ?_
          refine lv_imul hx hb dMd_meet_78 ?_
          refine lv_iload_n hx hb dMd_meet_79 rfl (lv_at hl 3 rfl) ?_
          refine lv_iadd hx hb dMd_meet_80 ?_
          have ho := hw.1
          have hw := hw.2
          refine va_iald hx hb hK hP 1 0 rfl rfl ho dMd_meet_81 ?_
          refine lv_aload_n hx hb dMd_meet_82 rfl (lv_at hl 0 rfl) ?_
          refine va_get (D := D) (ci := 7) (v := .ref (bd 27)) (C := "OnceNamedModel") (T := TX7) (N := 34) hx hb hts (fun w h => List.mem_cons_of_mem _ (inX7 w h)) hown hK hP 0 rfl rfl 30 (by decide) (hts _ (List.mem_cons_of_mem _ kw_1015)) (fun _ h9 => h9) rfl dMd_meet_83 ?_
          refine lv_iload_n hx hb dMd_meet_86 rfl (lv_at hl 3 rfl) ?_
          have ho := hw.1
          have hw := hw.2
          refine va_iald hx hb hK hP 4 0 rfl rfl ho dMd_meet_87 ?_
          have ho := hw.1
          have hw := hw.2
          refine va_iast hx hb hK hP hD hS 3 0 rfl rfl ho dMd_meet_88 (fun H locs hP hD hS => ?_)
          have hP : va_P D vwCl (wdMd_meet cA cB bd N mThrown mReached mForm mSlot mOver mMeets mSources (upd mValues_L47 (Int32.toNatClampNeg (mMeets (Int32.toNatClampNeg ((6 * v1) + v3_L47)))) (mNextValues_x45 (Int32.toNatClampNeg v3_L47))) mNextValues_x45) H := hP
          have hD : va_D A (wdMd_meet cA cB bd N mThrown mReached mForm mSlot mOver mMeets mSources (upd mValues_L47 (Int32.toNatClampNeg (mMeets (Int32.toNatClampNeg ((6 * v1) + v3_L47)))) (mNextValues_x45 (Int32.toNatClampNeg v3_L47))) mNextValues_x45) := hD
          refine lv_iinc (k := 3) (v := (v3_L47 + 1)) (lv' := [(3, .int (v3_L47 + 1)), (0, .ref (bd 0)), (1, .int v1), (2, .int v2)]) hx hb dMd_meet_89 hl rfl rfl (by decide) rfl (fun ls hl => ?_)
          refine lv_goto (tgt := 47) hx hb dMd_meet_92 rfl ?_
          exact ih (v3_L47 + 1) (upd mValues_L47 (Int32.toNatClampNeg (mMeets (Int32.toNatClampNeg ((6 * v1) + v3_L47)))) (mNextValues_x45 (Int32.toNatClampNeg v3_L47))) _ _ _ (lv_sub hl [1, 2, 3, 0] rfl) hP hD hS hw
  refine hlp47 k47 0 mValues _ _ _ (lv_sub hl [1, 2, 3, 0] rfl) hP hD hS hw
abbrev wdMd_runInto (cA : ClassId) (cB : ClassId) (bd : Nat → Nat) (N : Nat) (mThrown : Int32) (mReached : Int32) (mForm : Bool) (mSlot : Int32) (mOver : Bool) (mMany : Nat → Int32) (mKinds : Nat → Int32) (mVs : Nat → Int32) (mWs : Nat → Int32) (mXs : Nat → Int32) (mEnds : Nat → Int32) (mEndVariable : Nat → Int32) (mYes : Nat → Int32) (mNo : Nat → Int32) (mStarts : Nat → Int32) (mMeets : Nat → Int32) (mSources : Nat → Int32) (mSet : Nat → Int32) (mUseW : Nat → Int32) (mUseX : Nat → Int32) (mEndUse : Nat → Int32) (mGone : Nat → Bool) (mSaid : Nat → Int32) (mSaidCount : Nat → Int32) (mFailed : Nat → Int32) (mValues : Nat → Int32) (mNextValues : Nat → Int32) : va_W := [((bd 0), .inr (7, [.int mThrown, .int (nI N), .ref (bd 1), .ref (bd 2), .ref (bd 3), .ref (bd 4), .ref (bd 5), .ref (bd 6), .ref (bd 7), .ref (bd 8), .ref (bd 9), .ref (bd 10), .int mReached, .ref (bd 11), .int (bI mForm), .ref (bd 12), .ref (bd 13), .ref (bd 14), .ref (bd 15), .ref (bd 16), .ref (bd 17), .ref (bd 18), .ref (bd 19), .ref (bd 20), .ref (bd 21), .ref (bd 22), .ref (bd 23), .ref (bd 24), .ref (bd 25), .ref (bd 26), .ref (bd 27), .ref (bd 28), .int mSlot, .int (bI mOver)])), ((bd 1), .inl (cA, 12, .inl mMany)), ((bd 2), .inl (cA, 72, .inl mKinds)), ((bd 3), .inl (cA, 72, .inl mVs)), ((bd 4), .inl (cA, 72, .inl mWs)), ((bd 5), .inl (cA, 72, .inl mXs)), ((bd 6), .inl (cA, 12, .inl mEnds)), ((bd 7), .inl (cA, 12, .inl mEndVariable)), ((bd 8), .inl (cA, 12, .inl mYes)), ((bd 9), .inl (cA, 12, .inl mNo)), ((bd 10), .inl (cA, 6, .inl mStarts)), ((bd 12), .inl (cA, 72, .inl mMeets)), ((bd 13), .inl (cA, 936, .inl mSources)), ((bd 14), .inl (cA, 72, .inl mSet)), ((bd 15), .inl (cA, 72, .inl mUseW)), ((bd 16), .inl (cA, 72, .inl mUseX)), ((bd 17), .inl (cA, 12, .inl mEndUse)), ((bd 18), .inl (cB, 72, .inl (fun j => bI (mGone j)))), ((bd 23), .inl (cA, 150, .inl mSaid)), ((bd 24), .inl (cA, 3, .inl mSaidCount)), ((bd 25), .inl (cA, 3, .inl mFailed)), ((bd 26), .inl (cA, 600, .inl mValues)), ((bd 27), .inl (cA, 6, .inl mNextValues))]
abbrev qcMd_runInto (D : va_G) (cA : ClassId) (cB : ClassId) (bd : Nat → Nat) (N : Nat) (mThrown : Int32) (mReached : Int32) (mForm : Bool) (mSlot : Int32) (mOver : Bool) (mMany : Nat → Int32) (mKinds : Nat → Int32) (mVs : Nat → Int32) (mWs : Nat → Int32) (mXs : Nat → Int32) (mEnds : Nat → Int32) (mEndVariable : Nat → Int32) (mYes : Nat → Int32) (mNo : Nat → Int32) (mStarts : Nat → Int32) (mMeets : Nat → Int32) (mSources : Nat → Int32) (mSet : Nat → Int32) (mUseW : Nat → Int32) (mUseX : Nat → Int32) (mEndUse : Nat → Int32) (mGone : Nat → Bool) (mSaid : Nat → Int32) (mSaidCount : Nat → Int32) (mFailed : Nat → Int32) (mValues : Nat → Int32) (mNextValues : Nat → Int32) (post : Int32 → Bool → (Nat → Int32) → (Nat → Int32) → (Nat → Int32) → (Nat → Int32) → (Nat → Int32) → Prop) (A : Nat → Prop) : Array Value → State → Outcome → State → Prop := va_Qv (S := (Int32) × (Bool) × (Nat → Int32) × (Nat → Int32) × (Nat → Int32) × (Nat → Int32) × (Nat → Int32)) (fun u => post u.1 u.2.1 u.2.2.1 u.2.2.2.1 u.2.2.2.2.1 u.2.2.2.2.2.1 u.2.2.2.2.2.2) (fun u t => xB D [(cA, .int), (cB, .boolean)] A (wdMd_runInto cA cB bd N mThrown mReached mForm u.1 u.2.1 mMany mKinds mVs mWs mXs mEnds mEndVariable mYes mNo mStarts mMeets mSources mSet mUseW mUseX mEndUse mGone u.2.2.1 u.2.2.2.1 u.2.2.2.2.1 u.2.2.2.2.2.1 u.2.2.2.2.2.2) t) A
abbrev rmMd_runInto : Room := { frames := 3, cells := 0, slots := 0, locals := 70 }
set_option maxHeartbeats 4000000 in
set_option maxRecDepth 100000 in
theorem ktMd_runInto (l : Launch) (D : va_G) (cA : ClassId) (cB : ClassId) (bd : Nat → Nat) (N : Nat) (sz : Nat) (mThrown : Int32) (mReached : Int32) (mForm : Bool) (mSlot : Int32) (mOver : Bool) (mMany : Nat → Int32) (mKinds : Nat → Int32) (mVs : Nat → Int32) (mWs : Nat → Int32) (mXs : Nat → Int32) (mEnds : Nat → Int32) (mEndVariable : Nat → Int32) (mYes : Nat → Int32) (mNo : Nat → Int32) (mStarts : Nat → Int32) (mMeets : Nat → Int32) (mSources : Nat → Int32) (mSet : Nat → Int32) (mUseW : Nat → Int32) (mUseX : Nat → Int32) (mEndUse : Nat → Int32) (mGone : Nat → Bool) (mSaid : Nat → Int32) (mSaidCount : Nat → Int32) (mFailed : Nat → Int32) (mValues : Nat → Int32) (mNextValues : Nat → Int32) (v1 : Int32) (v2 : Bool) (post : Int32 → Bool → (Nat → Int32) → (Nat → Int32) → (Nat → Int32) → (Nat → Int32) → (Nat → Int32) → Prop) (hw : wpMd_runInto N mMany mKinds mVs mWs mXs mEnds mEndVariable mYes mNo mStarts mMeets mSources mSet mUseW mUseX mEndUse mGone mSaid mSaidCount mFailed mValues mNextValues v1 v2 post) : Met l yMd_runInto (Cond.code yMd_runInto cMd_runInto 7 none :: xW) rmMd_runInto (va_Pc [.ref (bd 0), .int v1, .int (bI v2)] (xPc D [(cA, .int), (cB, .boolean)] (wdMd_runInto cA cB bd N mThrown mReached mForm mSlot mOver mMany mKinds mVs mWs mXs mEnds mEndVariable mYes mNo mStarts mMeets mSources mSet mUseW mUseX mEndUse mGone mSaid mSaidCount mFailed mValues mNextValues) sz)) (qcMd_runInto D cA cB bd N mThrown mReached mForm mSlot mOver mMany mKinds mVs mWs mXs mEnds mEndVariable mYes mNo mStarts mMeets mSources mSet mUseW mUseX mEndUse mGone mSaid mSaidCount mFailed mValues mNextValues post (va_A (wdMd_runInto cA cB bd N mThrown mReached mForm mSlot mOver mMany mKinds mVs mWs mXs mEnds mEndVariable mYes mNo mStarts mMeets mSources mSet mUseW mUseX mEndUse mGone mSaid mSaidCount mFailed mValues mNextValues) sz)) 0 0 (va_A (wdMd_runInto cA cB bd N mThrown mReached mForm mSlot mOver mMany mKinds mVs mWs mXs mEnds mEndVariable mYes mNo mStarts mMeets mSources mSet mUseW mUseX mEndUse mGone mSaid mSaidCount mFailed mValues mNextValues) sz) := by
  refine Met.ofW (cc := cMd_runInto) (maxL := 7) (ret := none) (by decide) rfl ?_
  intro p e s m args below meth c s₁ B hml hv
  obtain ⟨rfl, hsz, hP, hK, hD0, hN⟩ := hv
  have hx := B.exec
  have hb := B.bytes
  have hr := B.returns
  have hts := atoms_spec (ws := (Cond.code yMd_runInto cMd_runInto 7 none :: xW)) B.pre
  have hown : s.vm.findClass "OnceNamedModel" = some m.cls := findClass_of_methodNamed B.named
  have hlocks := B.notSynchronized
  subst hsz
  have hD := hD0.self (sz := s.heap.size)
  generalize hAe : va_A (wdMd_runInto cA cB bd N mThrown mReached mForm mSlot mOver mMany mKinds mVs mWs mXs mEnds mEndVariable mYes mNo mStarts mMeets mSources mSet mUseW mUseX mEndUse mGone mSaid mSaidCount mFailed mValues mNextValues) s.heap.size = A at hD ⊢
  have hA : ∀ q : Nat, s.heap.size ≤ q → A q := fun q h => by rw [← hAe]; exact Or.inr h
  have hS : va_S A s.heap s.heap [] := va_S.rf
  have hend : ∀ (u0 : Int32) (u1 : Bool) (u2 : Nat → Int32) (u3 : Nat → Int32) (u4 : Nat → Int32) (u5 : Nat → Int32) (u6 : Nat → Int32) (H : Heap) (locs : List Loc) (pc : Nat) (ls : Array Slot), decode cMd_runInto pc = .ok (.return_, 1) → va_P D vwCl (wdMd_runInto cA cB bd N mThrown mReached mForm u0 u1 mMany mKinds mVs mWs mXs mEnds mEndVariable mYes mNo mStarts mMeets mSources mSet mUseW mUseX mEndUse mGone u2 u3 u4 u5 u6) H → va_D A (wdMd_runInto cA cB bd N mThrown mReached mForm u0 u1 mMany mKinds mVs mWs mXs mEnds mEndVariable mYes mNo mStarts mMeets mSources mSet mUseW mUseX mEndUse mGone u2 u3 u4 u5 u6) → va_S A s.heap H locs → post u0 u1 u2 u3 u4 u5 u6 → W p l e (headSpec (Cond.code yMd_runInto cMd_runInto 7 none :: xW) rmMd_runInto).room s m ([.ref (bd 0), .int v1, .int (bI v2)] : List Value).toArray below meth c H locs 0 0 (MQ below (qcMd_runInto D cA cB bd N mThrown mReached mForm mSlot mOver mMany mKinds mVs mWs mXs mEnds mEndVariable mYes mNo mStarts mMeets mSources mSet mUseW mUseX mEndUse mGone mSaid mSaidCount mFailed mValues mNextValues post A) ([.ref (bd 0), .int v1, .int (bI v2)] : List Value).toArray s 0 0 A) (F0 m pc ls []) := fun u0 u1 u2 u3 u4 u5 u6 H locs pc ls hd hP hD hS hw => W.vret hx hb hr (fun t ht hW => ⟨⟨(u0, u1, u2, u3, u4, u5, u6), rfl, hw, ⟨by rw [ht]; exact hP, va_K.moved hW.alike hK, hD⟩⟩, hS.F ht⟩) hS.2.2 hd
  generalize hQ : MQ below (qcMd_runInto D cA cB bd N mThrown mReached mForm mSlot mOver mMany mKinds mVs mWs mXs mEnds mEndVariable mYes mNo mStarts mMeets mSources mSet mUseW mUseX mEndUse mGone mSaid mSaidCount mFailed mValues mNextValues post A) ([.ref (bd 0), .int v1, .int (bI v2)] : List Value).toArray s 0 0 A = Q at hend ⊢
  have hl := lv_entry ([.ref (bd 0), .int v1, .int (bI v2)]) (n := 7) (Nat.le_of_ble_eq_true rfl)
  rw [lg_entry_eq]
  generalize (lg_sl ([.ref (bd 0), .int v1, .int (bI v2)]) ++ List.replicate (7 - (lg_sl ([.ref (bd 0), .int v1, .int (bI v2)])).length) Slot.unset).toArray = ls at hl ⊢
  have hl : lv_has ls 7 [(0, .ref (bd 0)), (1, .int v1), (2, .int (bI v2))] := hl
  unfold wpMd_runInto at hw
  refine lv_aload_n hx hb dMd_runInto_0 rfl (lv_at hl 0 rfl) ?_
  refine lv_iload_n hx hb dMd_runInto_1 rfl (lv_at hl 1 rfl) ?_
  refine va_put (D := D) (ci := 7) (v := .int v1) (ty := .int) (C := "OnceNamedModel") (T := TX7) (N := 34) hx hb hts (fun w h => List.mem_cons_of_mem _ (inX7 w h)) tyX7 tyX7_ok nmX7 hown hK hP hD hS 0 rfl rfl 32 (by decide) (hts _ (List.mem_cons_of_mem _ kw_1017)) (fun _ h9 => h9) rfl (by decide +kernel) rfl rfl (Nat.le_of_ble_eq_true rfl) dMd_runInto_2 (fun H locs hP hD hS => ?_)
  have hP : va_P D vwCl (wdMd_runInto cA cB bd N mThrown mReached mForm v1 mOver mMany mKinds mVs mWs mXs mEnds mEndVariable mYes mNo mStarts mMeets mSources mSet mUseW mUseX mEndUse mGone mSaid mSaidCount mFailed mValues mNextValues) H := hP
  have hD : va_D A (wdMd_runInto cA cB bd N mThrown mReached mForm v1 mOver mMany mKinds mVs mWs mXs mEnds mEndVariable mYes mNo mStarts mMeets mSources mSet mUseW mUseX mEndUse mGone mSaid mSaidCount mFailed mValues mNextValues) := hD
  refine lv_aload_n hx hb dMd_runInto_5 rfl (lv_at hl 0 rfl) ?_
  refine lv_iconst (v := 0) hx hb dMd_runInto_6 (by decide) ?_
  refine va_put (D := D) (ci := 7) (v := .int (bI false)) (ty := .boolean) (C := "OnceNamedModel") (T := TX7) (N := 34) hx hb hts (fun w h => List.mem_cons_of_mem _ (inX7 w h)) tyX7 tyX7_ok nmX7 hown hK hP hD hS 0 rfl rfl 33 (by decide) (hts _ (List.mem_cons_of_mem _ kw_1018)) (fun _ h9 => h9) rfl (by decide +kernel) (bI_nar _) (bI_fit _) (Nat.le_of_ble_eq_true rfl) dMd_runInto_7 (fun H locs hP hD hS => ?_)
  have hP : va_P D vwCl (wdMd_runInto cA cB bd N mThrown mReached mForm v1 false mMany mKinds mVs mWs mXs mEnds mEndVariable mYes mNo mStarts mMeets mSources mSet mUseW mUseX mEndUse mGone mSaid mSaidCount mFailed mValues mNextValues) H := hP
  have hD : va_D A (wdMd_runInto cA cB bd N mThrown mReached mForm v1 false mMany mKinds mVs mWs mXs mEnds mEndVariable mYes mNo mStarts mMeets mSources mSet mUseW mUseX mEndUse mGone mSaid mSaidCount mFailed mValues mNextValues) := hD
  refine lv_aload_n hx hb dMd_runInto_10 rfl (lv_at hl 0 rfl) ?_
  refine va_get (D := D) (ci := 7) (v := .ref (bd 24)) (C := "OnceNamedModel") (T := TX7) (N := 34) hx hb hts (fun w h => List.mem_cons_of_mem _ (inX7 w h)) hown hK hP 0 rfl rfl 27 (by decide) (hts _ (List.mem_cons_of_mem _ kw_1012)) (fun _ h9 => h9) rfl dMd_runInto_11 ?_
  refine lv_iload_n hx hb dMd_runInto_14 rfl (lv_at hl 1 rfl) ?_
  refine lv_iconst (v := 0) hx hb dMd_runInto_15 (by decide) ?_
  have ho := hw.1
  have hw := hw.2
  refine va_iast hx hb hK hP hD hS 19 0 rfl rfl ho dMd_runInto_16 (fun H locs hP hD hS => ?_)
  have hP : va_P D vwCl (wdMd_runInto cA cB bd N mThrown mReached mForm v1 false mMany mKinds mVs mWs mXs mEnds mEndVariable mYes mNo mStarts mMeets mSources mSet mUseW mUseX mEndUse mGone mSaid (upd mSaidCount (Int32.toNatClampNeg v1) 0) mFailed mValues mNextValues) H := hP
  have hD : va_D A (wdMd_runInto cA cB bd N mThrown mReached mForm v1 false mMany mKinds mVs mWs mXs mEnds mEndVariable mYes mNo mStarts mMeets mSources mSet mUseW mUseX mEndUse mGone mSaid (upd mSaidCount (Int32.toNatClampNeg v1) 0) mFailed mValues mNextValues) := hD
  refine lv_aload_n hx hb dMd_runInto_17 rfl (lv_at hl 0 rfl) ?_
  refine va_get (D := D) (ci := 7) (v := .ref (bd 25)) (C := "OnceNamedModel") (T := TX7) (N := 34) hx hb hts (fun w h => List.mem_cons_of_mem _ (inX7 w h)) hown hK hP 0 rfl rfl 28 (by decide) (hts _ (List.mem_cons_of_mem _ kw_1013)) (fun _ h9 => h9) rfl dMd_runInto_18 ?_
  refine lv_iload_n hx hb dMd_runInto_21 rfl (lv_at hl 1 rfl) ?_
  refine lv_iconst (v := 0) hx hb dMd_runInto_22 (by decide) ?_
  have ho := hw.1
  have hw := hw.2
  refine va_iast hx hb hK hP hD hS 20 0 rfl rfl ho dMd_runInto_23 (fun H locs hP hD hS => ?_)
  have hP : va_P D vwCl (wdMd_runInto cA cB bd N mThrown mReached mForm v1 false mMany mKinds mVs mWs mXs mEnds mEndVariable mYes mNo mStarts mMeets mSources mSet mUseW mUseX mEndUse mGone mSaid (upd mSaidCount (Int32.toNatClampNeg v1) 0) (upd mFailed (Int32.toNatClampNeg v1) 0) mValues mNextValues) H := hP
  have hD : va_D A (wdMd_runInto cA cB bd N mThrown mReached mForm v1 false mMany mKinds mVs mWs mXs mEnds mEndVariable mYes mNo mStarts mMeets mSources mSet mUseW mUseX mEndUse mGone mSaid (upd mSaidCount (Int32.toNatClampNeg v1) 0) (upd mFailed (Int32.toNatClampNeg v1) 0) mValues mNextValues) := hD
  refine lv_iconst (v := 0) hx hb dMd_runInto_24 (by decide) ?_
  refine lv_istore_n (lv' := [(3, .int 0), (0, .ref (bd 0)), (1, .int v1), (2, .int (bI v2))]) hx hb dMd_runInto_25 rfl hl (by decide) rfl (fun ls hl => ?_)
  obtain ⟨k26, hw⟩ := hw
  have hlp26 : ∀ (K46 : Int32 → (Nat → Int32) → Prop), (∀ (v3_x46 : Int32) (mValues_x46 : Nat → Int32) (ls : Array Slot) (H : Heap) (locs : List Loc), lv_has ls 7 [(0, .ref (bd 0)), (1, .int v1), (2, .int (bI v2)), (3, .int v3_x46)] → va_P D vwCl (wdMd_runInto cA cB bd N mThrown mReached mForm v1 false mMany mKinds mVs mWs mXs mEnds mEndVariable mYes mNo mStarts mMeets mSources mSet mUseW mUseX mEndUse mGone mSaid (upd mSaidCount (Int32.toNatClampNeg v1) 0) (upd mFailed (Int32.toNatClampNeg v1) 0) mValues_x46 mNextValues) H → va_D A (wdMd_runInto cA cB bd N mThrown mReached mForm v1 false mMany mKinds mVs mWs mXs mEnds mEndVariable mYes mNo mStarts mMeets mSources mSet mUseW mUseX mEndUse mGone mSaid (upd mSaidCount (Int32.toNatClampNeg v1) 0) (upd mFailed (Int32.toNatClampNeg v1) 0) mValues_x46 mNextValues) → va_S A s.heap H locs → K46 v3_x46 mValues_x46 → W p l e (headSpec (Cond.code yMd_runInto cMd_runInto 7 none :: xW) rmMd_runInto).room s m ([.ref (bd 0), .int v1, .int (bI v2)] : List Value).toArray below meth c H locs 0 0 Q (F0 m 46 ls [])) → ∀ (k : Nat), ∀ (v3_L26 : Int32) (mValues_L26 : Nat → Int32) (ls : Array Slot) (H : Heap) (locs : List Loc), lv_has ls 7 [(0, .ref (bd 0)), (1, .int v1), (2, .int (bI v2)), (3, .int v3_L26)] → va_P D vwCl (wdMd_runInto cA cB bd N mThrown mReached mForm v1 false mMany mKinds mVs mWs mXs mEnds mEndVariable mYes mNo mStarts mMeets mSources mSet mUseW mUseX mEndUse mGone mSaid (upd mSaidCount (Int32.toNatClampNeg v1) 0) (upd mFailed (Int32.toNatClampNeg v1) 0) mValues_L26 mNextValues) H → va_D A (wdMd_runInto cA cB bd N mThrown mReached mForm v1 false mMany mKinds mVs mWs mXs mEnds mEndVariable mYes mNo mStarts mMeets mSources mSet mUseW mUseX mEndUse mGone mSaid (upd mSaidCount (Int32.toNatClampNeg v1) 0) (upd mFailed (Int32.toNatClampNeg v1) 0) mValues_L26 mNextValues) → va_S A s.heap H locs → lpMd_runInto_26 K46 k v3_L26 mValues_L26 → W p l e (headSpec (Cond.code yMd_runInto cMd_runInto 7 none :: xW) rmMd_runInto).room s m ([.ref (bd 0), .int v1, .int (bI v2)] : List Value).toArray below meth c H locs 0 0 Q (F0 m 26 ls []) := by
    intro K46 hK46 k
    induction k with
    | zero => intro v3_L26 mValues_L26 ls H locs hl hP hD hS hw; exact False.elim hw
    | succ k ih =>
      intro v3_L26 mValues_L26 ls H locs hl hP hD hS hw
      refine lv_iload_n hx hb dMd_runInto_26 rfl (lv_at hl 3 rfl) ?_
      refine lv_sipush (v := 600) hx hb dMd_runInto_27 (by decide) ?_
      refine lv_icmp_ge (tgt := 46) hx hb dMd_runInto_30 rfl (fun hc => ?_) (fun hc => ?_)
      · have hw := hw.1 hc
        exact hK46 v3_L26 mValues_L26 _ _ _ (lv_sub hl [0, 1, 2, 3] rfl) hP hD hS hw
      · have hw := hw.2 hc
        refine lv_aload_n hx hb dMd_runInto_33 rfl (lv_at hl 0 rfl) ?_
        refine va_get (D := D) (ci := 7) (v := .ref (bd 26)) (C := "OnceNamedModel") (T := TX7) (N := 34) hx hb hts (fun w h => List.mem_cons_of_mem _ (inX7 w h)) hown hK hP 0 rfl rfl 29 (by decide) (hts _ (List.mem_cons_of_mem _ kw_1014)) (fun _ h9 => h9) rfl dMd_runInto_34 ?_
        refine lv_iload_n hx hb dMd_runInto_37 rfl (lv_at hl 3 rfl) ?_
        refine lv_iconst (v := 0) hx hb dMd_runInto_38 (by decide) ?_
        have ho := hw.1
        have hw := hw.2
        refine va_iast hx hb hK hP hD hS 21 0 rfl rfl ho dMd_runInto_39 (fun H locs hP hD hS => ?_)
        have hP : va_P D vwCl (wdMd_runInto cA cB bd N mThrown mReached mForm v1 false mMany mKinds mVs mWs mXs mEnds mEndVariable mYes mNo mStarts mMeets mSources mSet mUseW mUseX mEndUse mGone mSaid (upd mSaidCount (Int32.toNatClampNeg v1) 0) (upd mFailed (Int32.toNatClampNeg v1) 0) (upd mValues_L26 (Int32.toNatClampNeg v3_L26) 0) mNextValues) H := hP
        have hD : va_D A (wdMd_runInto cA cB bd N mThrown mReached mForm v1 false mMany mKinds mVs mWs mXs mEnds mEndVariable mYes mNo mStarts mMeets mSources mSet mUseW mUseX mEndUse mGone mSaid (upd mSaidCount (Int32.toNatClampNeg v1) 0) (upd mFailed (Int32.toNatClampNeg v1) 0) (upd mValues_L26 (Int32.toNatClampNeg v3_L26) 0) mNextValues) := hD
        refine lv_iinc (k := 3) (v := (v3_L26 + 1)) (lv' := [(3, .int (v3_L26 + 1)), (0, .ref (bd 0)), (1, .int v1), (2, .int (bI v2))]) hx hb dMd_runInto_40 hl rfl rfl (by decide) rfl (fun ls hl => ?_)
        refine lv_goto (tgt := 26) hx hb dMd_runInto_43 rfl ?_
        exact ih (v3_L26 + 1) (upd mValues_L26 (Int32.toNatClampNeg v3_L26) 0) _ _ _ (lv_sub hl [1, 2, 3, 0] rfl) hP hD hS hw
  refine hlp26 _ ?_ k26 0 mValues _ _ _ (lv_sub hl [1, 2, 3, 0] rfl) hP hD hS hw
  intro v3_x46 mValues_x46 ls H locs hl hP hD hS hw
  try dsimp only at hw
  refine lv_iconst (v := 0) hx hb dMd_runInto_46 (by decide) ?_
  refine lv_istore_n (lv' := [(3, .int 0), (0, .ref (bd 0)), (1, .int v1), (2, .int (bI v2))]) hx hb dMd_runInto_47 rfl hl (by decide) rfl (fun ls hl => ?_)
  obtain ⟨k48, hw⟩ := hw
  have hlp48 : ∀ (K75 : Int32 → (Nat → Int32) → Prop), (∀ (v3_x75 : Int32) (mValues_x75 : Nat → Int32) (ls : Array Slot) (H : Heap) (locs : List Loc), lv_has ls 7 [(0, .ref (bd 0)), (1, .int v1), (2, .int (bI v2)), (3, .int v3_x75)] → va_P D vwCl (wdMd_runInto cA cB bd N mThrown mReached mForm v1 false mMany mKinds mVs mWs mXs mEnds mEndVariable mYes mNo mStarts mMeets mSources mSet mUseW mUseX mEndUse mGone mSaid (upd mSaidCount (Int32.toNatClampNeg v1) 0) (upd mFailed (Int32.toNatClampNeg v1) 0) mValues_x75 mNextValues) H → va_D A (wdMd_runInto cA cB bd N mThrown mReached mForm v1 false mMany mKinds mVs mWs mXs mEnds mEndVariable mYes mNo mStarts mMeets mSources mSet mUseW mUseX mEndUse mGone mSaid (upd mSaidCount (Int32.toNatClampNeg v1) 0) (upd mFailed (Int32.toNatClampNeg v1) 0) mValues_x75 mNextValues) → va_S A s.heap H locs → K75 v3_x75 mValues_x75 → W p l e (headSpec (Cond.code yMd_runInto cMd_runInto 7 none :: xW) rmMd_runInto).room s m ([.ref (bd 0), .int v1, .int (bI v2)] : List Value).toArray below meth c H locs 0 0 Q (F0 m 75 ls [])) → ∀ (k : Nat), ∀ (v3_L48 : Int32) (mValues_L48 : Nat → Int32) (ls : Array Slot) (H : Heap) (locs : List Loc), lv_has ls 7 [(0, .ref (bd 0)), (1, .int v1), (2, .int (bI v2)), (3, .int v3_L48)] → va_P D vwCl (wdMd_runInto cA cB bd N mThrown mReached mForm v1 false mMany mKinds mVs mWs mXs mEnds mEndVariable mYes mNo mStarts mMeets mSources mSet mUseW mUseX mEndUse mGone mSaid (upd mSaidCount (Int32.toNatClampNeg v1) 0) (upd mFailed (Int32.toNatClampNeg v1) 0) mValues_L48 mNextValues) H → va_D A (wdMd_runInto cA cB bd N mThrown mReached mForm v1 false mMany mKinds mVs mWs mXs mEnds mEndVariable mYes mNo mStarts mMeets mSources mSet mUseW mUseX mEndUse mGone mSaid (upd mSaidCount (Int32.toNatClampNeg v1) 0) (upd mFailed (Int32.toNatClampNeg v1) 0) mValues_L48 mNextValues) → va_S A s.heap H locs → lpMd_runInto_48 mStarts K75 k v3_L48 mValues_L48 → W p l e (headSpec (Cond.code yMd_runInto cMd_runInto 7 none :: xW) rmMd_runInto).room s m ([.ref (bd 0), .int v1, .int (bI v2)] : List Value).toArray below meth c H locs 0 0 Q (F0 m 48 ls []) := by
    intro K75 hK75 k
    induction k with
    | zero => intro v3_L48 mValues_L48 ls H locs hl hP hD hS hw; exact False.elim hw
    | succ k ih =>
      intro v3_L48 mValues_L48 ls H locs hl hP hD hS hw
      refine lv_iload_n hx hb dMd_runInto_48 rfl (lv_at hl 3 rfl) ?_
      refine lv_bipush (v := 6) hx hb dMd_runInto_49 (by decide) ?_
      refine lv_icmp_ge (tgt := 75) hx hb dMd_runInto_51 rfl (fun hc => ?_) (fun hc => ?_)
      · have hw := hw.1 hc
        exact hK75 v3_L48 mValues_L48 _ _ _ (lv_sub hl [0, 1, 2, 3] rfl) hP hD hS hw
      · have hw := hw.2 hc
        refine lv_aload_n hx hb dMd_runInto_54 rfl (lv_at hl 0 rfl) ?_
        refine va_get (D := D) (ci := 7) (v := .ref (bd 26)) (C := "OnceNamedModel") (T := TX7) (N := 34) hx hb hts (fun w h => List.mem_cons_of_mem _ (inX7 w h)) hown hK hP 0 rfl rfl 29 (by decide) (hts _ (List.mem_cons_of_mem _ kw_1014)) (fun _ h9 => h9) rfl dMd_runInto_55 ?_
        refine lv_bipush (v := 100) hx hb dMd_runInto_58 (by decide) ?_
        refine lv_iload_n hx hb dMd_runInto_60 rfl (lv_at hl 3 rfl) ?_
        refine lv_imul hx hb dMd_runInto_61 ?_
        refine lv_aload_n hx hb dMd_runInto_62 rfl (lv_at hl 0 rfl) ?_
        refine va_get (D := D) (ci := 7) (v := .ref (bd 10)) (C := "OnceNamedModel") (T := TX7) (N := 34) hx hb hts (fun w h => List.mem_cons_of_mem _ (inX7 w h)) hown hK hP 0 rfl rfl 11 (by decide) (hts _ (List.mem_cons_of_mem _ kw_996)) (fun _ h9 => h9) rfl dMd_runInto_63 ?_
        refine lv_iload_n hx hb dMd_runInto_66 rfl (lv_at hl 3 rfl) ?_
        have ho := hw.1
        have hw := hw.2
        refine va_iald hx hb hK hP 10 0 rfl rfl ho dMd_runInto_67 ?_
        have ho := hw.1
        have hw := hw.2
        refine va_iast hx hb hK hP hD hS 21 0 rfl rfl ho dMd_runInto_68 (fun H locs hP hD hS => ?_)
        have hP : va_P D vwCl (wdMd_runInto cA cB bd N mThrown mReached mForm v1 false mMany mKinds mVs mWs mXs mEnds mEndVariable mYes mNo mStarts mMeets mSources mSet mUseW mUseX mEndUse mGone mSaid (upd mSaidCount (Int32.toNatClampNeg v1) 0) (upd mFailed (Int32.toNatClampNeg v1) 0) (upd mValues_L48 (Int32.toNatClampNeg (100 * v3_L48)) (mStarts (Int32.toNatClampNeg v3_L48))) mNextValues) H := hP
        have hD : va_D A (wdMd_runInto cA cB bd N mThrown mReached mForm v1 false mMany mKinds mVs mWs mXs mEnds mEndVariable mYes mNo mStarts mMeets mSources mSet mUseW mUseX mEndUse mGone mSaid (upd mSaidCount (Int32.toNatClampNeg v1) 0) (upd mFailed (Int32.toNatClampNeg v1) 0) (upd mValues_L48 (Int32.toNatClampNeg (100 * v3_L48)) (mStarts (Int32.toNatClampNeg v3_L48))) mNextValues) := hD
        refine lv_iinc (k := 3) (v := (v3_L48 + 1)) (lv' := [(3, .int (v3_L48 + 1)), (0, .ref (bd 0)), (1, .int v1), (2, .int (bI v2))]) hx hb dMd_runInto_69 hl rfl rfl (by decide) rfl (fun ls hl => ?_)
        refine lv_goto (tgt := 48) hx hb dMd_runInto_72 rfl ?_
        exact ih (v3_L48 + 1) (upd mValues_L48 (Int32.toNatClampNeg (100 * v3_L48)) (mStarts (Int32.toNatClampNeg v3_L48))) _ _ _ (lv_sub hl [1, 2, 3, 0] rfl) hP hD hS hw
  refine hlp48 _ ?_ k48 0 mValues_x46 _ _ _ (lv_sub hl [1, 2, 3, 0] rfl) hP hD hS hw
  intro v3_x75 mValues_x75 ls H locs hl hP hD hS hw
  try dsimp only at hw
  refine lv_aload_n hx hb dMd_runInto_75 rfl (lv_at hl 0 rfl) ?_
  refine va_get (D := D) (ci := 7) (v := .int (nI N)) (C := "OnceNamedModel") (T := TX7) (N := 34) hx hb hts (fun w h => List.mem_cons_of_mem _ (inX7 w h)) hown hK hP 0 rfl rfl 1 (by decide) (hts _ (List.mem_cons_of_mem _ kw_986)) (fun _ h9 => h9) rfl dMd_runInto_76 ?_
  refine lv_topi (fun v3_79 e_v3_79 => ?_)
  have hw := hw v3_79 e_v3_79
  refine lv_istore_n (lv' := [(3, .int v3_79), (0, .ref (bd 0)), (1, .int v1), (2, .int (bI v2))]) hx hb dMd_runInto_79 rfl hl (by decide) rfl (fun ls hl => ?_)
  refine lv_iconst (v := 0) hx hb dMd_runInto_80 (by decide) ?_
  refine lv_istore (lv' := [(4, .int 0), (3, .int v3_79), (0, .ref (bd 0)), (1, .int v1), (2, .int (bI v2))]) hx hb dMd_runInto_81 hl (by decide) rfl (fun ls hl => ?_)
  refine lv_iconst (v := 0) hx hb dMd_runInto_83 (by decide) ?_
  refine lv_istore (lv' := [(5, .int 0), (4, .int 0), (3, .int v3_79), (0, .ref (bd 0)), (1, .int v1), (2, .int (bI v2))]) hx hb dMd_runInto_84 hl (by decide) rfl (fun ls hl => ?_)
  obtain ⟨k86, hw⟩ := hw
  have hlp86 : ∀ (k : Nat), ∀ (v3_L86 : Int32) (v4_L86 : Int32) (v5_L86 : Int32) (mOver_L86 : Bool) (mSaid_L86 : Nat → Int32) (mSaidCount_L86 : Nat → Int32) (mFailed_L86 : Nat → Int32) (mValues_L86 : Nat → Int32) (mNextValues_L86 : Nat → Int32) (ls : Array Slot) (H : Heap) (locs : List Loc), lv_has ls 7 [(0, .ref (bd 0)), (1, .int v1), (2, .int (bI v2)), (3, .int v3_L86), (4, .int v4_L86), (5, .int v5_L86)] → va_P D vwCl (wdMd_runInto cA cB bd N mThrown mReached mForm v1 mOver_L86 mMany mKinds mVs mWs mXs mEnds mEndVariable mYes mNo mStarts mMeets mSources mSet mUseW mUseX mEndUse mGone mSaid_L86 mSaidCount_L86 mFailed_L86 mValues_L86 mNextValues_L86) H → va_D A (wdMd_runInto cA cB bd N mThrown mReached mForm v1 mOver_L86 mMany mKinds mVs mWs mXs mEnds mEndVariable mYes mNo mStarts mMeets mSources mSet mUseW mUseX mEndUse mGone mSaid_L86 mSaidCount_L86 mFailed_L86 mValues_L86 mNextValues_L86) → va_S A s.heap H locs → lpMd_runInto_86 v2 v1 mMany mKinds mVs mWs mXs mEnds mEndVariable mYes mNo mMeets mSources mSet mUseW mUseX mEndUse mGone post k v3_L86 v4_L86 v5_L86 mOver_L86 mSaid_L86 mSaidCount_L86 mFailed_L86 mValues_L86 mNextValues_L86 → W p l e (headSpec (Cond.code yMd_runInto cMd_runInto 7 none :: xW) rmMd_runInto).room s m ([.ref (bd 0), .int v1, .int (bI v2)] : List Value).toArray below meth c H locs 0 0 Q (F0 m 86 ls []) := by
    intro k
    induction k with
    | zero => intro v3_L86 v4_L86 v5_L86 mOver_L86 mSaid_L86 mSaidCount_L86 mFailed_L86 mValues_L86 mNextValues_L86 ls H locs hl hP hD hS hw; exact False.elim hw
    | succ k ih =>
      intro v3_L86 v4_L86 v5_L86 mOver_L86 mSaid_L86 mSaidCount_L86 mFailed_L86 mValues_L86 mNextValues_L86 ls H locs hl hP hD hS hw
      refine lv_iload hx hb dMd_runInto_86 (lv_at hl 4 rfl) ?_
      refine lv_if_lt (tgt := 222) hx hb dMd_runInto_88 rfl (fun hc => ?_) (fun hc => ?_)
      · have hw := hw.1 hc
        exact hend v1 mOver_L86 mSaid_L86 mSaidCount_L86 mFailed_L86 mValues_L86 mNextValues_L86 _ _ _ _ dMd_runInto_222 hP hD hS hw
      · have hw := hw.2 hc
        refine lv_aload_n hx hb dMd_runInto_91 rfl (lv_at hl 0 rfl) ?_
        refine va_get (D := D) (ci := 7) (v := .int (bI mOver_L86)) (C := "OnceNamedModel") (T := TX7) (N := 34) hx hb hts (fun w h => List.mem_cons_of_mem _ (inX7 w h)) hown hK hP 0 rfl rfl 33 (by decide) (hts _ (List.mem_cons_of_mem _ kw_1018)) (fun _ h9 => h9) rfl dMd_runInto_92 ?_
        refine lv_if_ne (tgt := 222) hx hb dMd_runInto_95 rfl (fun hc => ?_) (fun hc => ?_)
        · have hw := hw.1 (bI_1 hc)
          exact hend v1 mOver_L86 mSaid_L86 mSaidCount_L86 mFailed_L86 mValues_L86 mNextValues_L86 _ _ _ _ dMd_runInto_222 hP hD hS hw
        · have hw := hw.2 (bI_0 hc)
          refine lv_iinc (k := 5) (v := (v5_L86 + 1)) (lv' := [(5, .int (v5_L86 + 1)), (0, .ref (bd 0)), (1, .int v1), (2, .int (bI v2)), (3, .int v3_L86), (4, .int v4_L86)]) hx hb dMd_runInto_98 hl rfl rfl (by decide) rfl (fun ls hl => ?_)
          refine lv_iload hx hb dMd_runInto_101 (lv_at hl 0 rfl) ?_
          refine lv_bipush (v := 100) hx hb dMd_runInto_103 (by decide) ?_
          refine lv_icmp_le (tgt := 114) hx hb dMd_runInto_105 rfl (fun hc => ?_) (fun hc => ?_)
          · have hw := hw.1 hc
            refine lv_iload_n hx hb dMd_runInto_114 rfl (lv_at hl 3 rfl) ?_
            obtain ⟨J125, hJ125, hw⟩ := hw
            have hj125 : ∀ (mValues_j125 : Nat → Int32) (mNextValues_j125 : Nat → Int32) (ls : Array Slot) (H : Heap) (locs : List Loc), lv_has ls 7 [(0, .ref (bd 0)), (1, .int v1), (2, .int (bI v2)), (3, .int v3_L86), (4, .int v4_L86), (5, .int (v5_L86 + 1))] → va_P D vwCl (wdMd_runInto cA cB bd N mThrown mReached mForm v1 mOver_L86 mMany mKinds mVs mWs mXs mEnds mEndVariable mYes mNo mStarts mMeets mSources mSet mUseW mUseX mEndUse mGone mSaid_L86 mSaidCount_L86 mFailed_L86 mValues_j125 mNextValues_j125) H → va_D A (wdMd_runInto cA cB bd N mThrown mReached mForm v1 mOver_L86 mMany mKinds mVs mWs mXs mEnds mEndVariable mYes mNo mStarts mMeets mSources mSet mUseW mUseX mEndUse mGone mSaid_L86 mSaidCount_L86 mFailed_L86 mValues_j125 mNextValues_j125) → va_S A s.heap H locs → J125 mValues_j125 mNextValues_j125 → W p l e (headSpec (Cond.code yMd_runInto cMd_runInto 7 none :: xW) rmMd_runInto).room s m ([.ref (bd 0), .int v1, .int (bI v2)] : List Value).toArray below meth c H locs 0 0 Q (F0 m 125 ls []) := by
              intro mValues_j125 mNextValues_j125 ls H locs hl hP hD hS hw
              have hw := hJ125 mValues_j125 mNextValues_j125 hw
              refine lv_aload_n hx hb dMd_runInto_125 rfl (lv_at hl 0 rfl) ?_
              refine lv_iload hx hb dMd_runInto_126 (lv_at hl 4 rfl) ?_
              refine lv_iload_n hx hb dMd_runInto_128 rfl (lv_at hl 2 rfl) ?_
              refine xcv (va_runV ⟨hx, hb, hml, hown, hts⟩ (ktMd_doSteps l D cA cB bd N _ mThrown mReached mForm v1 mOver_L86 mMany mKinds mVs mWs mXs mSet mUseW mUseX mGone mSaid_L86 mSaidCount_L86 mFailed_L86 mValues_j125 v4_L86 v2 _ hw) (cwV 2 hts (goodV kw_1285 kw_1287 ks_5_9 kw_11 kw_1288) rfl rfl rfl (by decide +kernel) ⟨Nat.le_of_ble_eq_true rfl, Nat.le_of_ble_eq_true rfl⟩) (xpreV hK hP hD hN [0, 1, 2, 3, 4, 5, 13, 14, 15, 17, 18, 19, 20, 21] rfl rfl 0 rfl rfl) rfl rfl hl.1 rfl (lv_room (Nat.le_of_ble_eq_true rfl)) dMd_runInto_129 ⟨Nat.le_of_ble_eq_true rfl, Nat.le_of_ble_eq_true rfl⟩) hP hD hS hA [0, 1, 2, 3, 4, 5, 13, 14, 15, 17, 18, 19, 20, 21] [6, 7, 8, 9, 10, 11, 12, 16, 22] rfl rfl rfl rfl [9, 10, 11, 12, 13, 14, 0, 1, 2, 3, 4, 5, 6, 15, 16, 17, 7, 18, 19, 20, 21, 22, 8] rfl (fun _ => rfl) (fun u H locs hw hP hD hS => ?_)
              obtain ⟨mOver_129, mSaid_129, mSaidCount_129, mFailed_129, mValues_129⟩ := u
              try dsimp only at hw
              have hP : va_P D vwCl (wdMd_runInto cA cB bd N mThrown mReached mForm v1 mOver_129 mMany mKinds mVs mWs mXs mEnds mEndVariable mYes mNo mStarts mMeets mSources mSet mUseW mUseX mEndUse mGone mSaid_129 mSaidCount_129 mFailed_129 mValues_129 mNextValues_j125) H := hP
              have hD : va_D A (wdMd_runInto cA cB bd N mThrown mReached mForm v1 mOver_129 mMany mKinds mVs mWs mXs mEnds mEndVariable mYes mNo mStarts mMeets mSources mSet mUseW mUseX mEndUse mGone mSaid_129 mSaidCount_129 mFailed_129 mValues_129 mNextValues_j125) := hD
              refine lv_iload hx hb dMd_runInto_132 (lv_at hl 4 rfl) ?_
              refine lv_istore_n (lv' := [(3, .int v4_L86), (0, .ref (bd 0)), (1, .int v1), (2, .int (bI v2)), (4, .int v4_L86), (5, .int (v5_L86 + 1))]) hx hb dMd_runInto_134 rfl hl (by decide) rfl (fun ls hl => ?_)
              refine lv_aload_n hx hb dMd_runInto_135 rfl (lv_at hl 1 rfl) ?_
              refine va_get (D := D) (ci := 7) (v := .ref (bd 6)) (C := "OnceNamedModel") (T := TX7) (N := 34) hx hb hts (fun w h => List.mem_cons_of_mem _ (inX7 w h)) hown hK hP 0 rfl rfl 7 (by decide) (hts _ (List.mem_cons_of_mem _ kw_992)) (fun _ h9 => h9) rfl dMd_runInto_136 ?_
              refine lv_iload hx hb dMd_runInto_139 (lv_at hl 4 rfl) ?_
              have ho := hw.1
              have hw := hw.2
              refine va_iald hx hb hK hP 6 0 rfl rfl ho dMd_runInto_141 ?_
              refine lv_iconst (v := 2) hx hb dMd_runInto_142 (by decide) ?_
              obtain ⟨J179, hJ179, hw⟩ := hw
              have hj179 : ∀ (t179_0 : Int32) (ls : Array Slot) (H : Heap) (locs : List Loc), lv_has ls 7 [(0, .ref (bd 0)), (1, .int v1), (2, .int (bI v2)), (3, .int v4_L86), (4, .int v4_L86), (5, .int (v5_L86 + 1))] → va_P D vwCl (wdMd_runInto cA cB bd N mThrown mReached mForm v1 mOver_129 mMany mKinds mVs mWs mXs mEnds mEndVariable mYes mNo mStarts mMeets mSources mSet mUseW mUseX mEndUse mGone mSaid_129 mSaidCount_129 mFailed_129 mValues_129 mNextValues_j125) H → va_D A (wdMd_runInto cA cB bd N mThrown mReached mForm v1 mOver_129 mMany mKinds mVs mWs mXs mEnds mEndVariable mYes mNo mStarts mMeets mSources mSet mUseW mUseX mEndUse mGone mSaid_129 mSaidCount_129 mFailed_129 mValues_129 mNextValues_j125) → va_S A s.heap H locs → J179 t179_0 → W p l e (headSpec (Cond.code yMd_runInto cMd_runInto 7 none :: xW) rmMd_runInto).room s m ([.ref (bd 0), .int v1, .int (bI v2)] : List Value).toArray below meth c H locs 0 0 Q (F0 m 179 ls [.int t179_0]) := by
                intro t179_0 ls H locs hl hP hD hS hw
                have hw := hJ179 t179_0 hw
                refine lv_istore (lv' := [(6, .int t179_0), (0, .ref (bd 0)), (1, .int v1), (2, .int (bI v2)), (3, .int v4_L86), (4, .int v4_L86), (5, .int (v5_L86 + 1))]) hx hb dMd_runInto_179 hl (by decide) rfl (fun ls hl => ?_)
                refine lv_aload_n hx hb dMd_runInto_181 rfl (lv_at hl 1 rfl) ?_
                refine va_get (D := D) (ci := 7) (v := .ref (bd 6)) (C := "OnceNamedModel") (T := TX7) (N := 34) hx hb hts (fun w h => List.mem_cons_of_mem _ (inX7 w h)) hown hK hP 0 rfl rfl 7 (by decide) (hts _ (List.mem_cons_of_mem _ kw_992)) (fun _ h9 => h9) rfl dMd_runInto_182 ?_
                refine lv_iload hx hb dMd_runInto_185 (lv_at hl 5 rfl) ?_
                have ho := hw.1
                have hw := hw.2
                refine va_iald hx hb hK hP 6 0 rfl rfl ho dMd_runInto_187 ?_
                refine lv_if_ne (tgt := 195) hx hb dMd_runInto_188 rfl (fun hc => ?_) (fun hc => ?_)
                · have hw := hw.1 hc
                  refine lv_iload hx hb dMd_runInto_195 (lv_at hl 0 rfl) ?_
                  refine lv_if_eq (tgt := 210) hx hb dMd_runInto_197 rfl (fun hc => ?_) (fun hc => ?_)
                  · have hw := hw.1 hc
                    refine lv_aload_n hx hb dMd_runInto_210 rfl (lv_at hl 1 rfl) ?_
                    refine va_get (D := D) (ci := 7) (v := .ref (bd 9)) (C := "OnceNamedModel") (T := TX7) (N := 34) hx hb hts (fun w h => List.mem_cons_of_mem _ (inX7 w h)) hown hK hP 0 rfl rfl 10 (by decide) (hts _ (List.mem_cons_of_mem _ kw_995)) (fun _ h9 => h9) rfl dMd_runInto_211 ?_
                    refine lv_iload hx hb dMd_runInto_214 (lv_at hl 5 rfl) ?_
                    have ho := hw.1
                    have hw := hw.2
                    refine va_iald hx hb hK hP 9 0 rfl rfl ho dMd_runInto_216 ?_
                    refine lv_topi (fun v4_217 e_v4_217 => ?_)
                    have hw := hw v4_217 e_v4_217
                    refine lv_istore (lv' := [(4, .int v4_217), (6, .int t179_0), (0, .ref (bd 0)), (1, .int v1), (2, .int (bI v2)), (3, .int v4_L86), (5, .int (v5_L86 + 1))]) hx hb dMd_runInto_217 hl (by decide) rfl (fun ls hl => ?_)
                    refine lv_goto (tgt := 86) hx hb dMd_runInto_219 rfl ?_
                    exact ih v4_L86 v4_217 (v5_L86 + 1) mOver_129 mSaid_129 mSaidCount_129 mFailed_129 mValues_129 mNextValues_j125 _ _ _ (lv_sub hl [2, 3, 4, 5, 0, 6] rfl) hP hD hS hw
                  · have hw := hw.2 hc
                    refine lv_aload_n hx hb dMd_runInto_200 rfl (lv_at hl 1 rfl) ?_
                    refine va_get (D := D) (ci := 7) (v := .ref (bd 8)) (C := "OnceNamedModel") (T := TX7) (N := 34) hx hb hts (fun w h => List.mem_cons_of_mem _ (inX7 w h)) hown hK hP 0 rfl rfl 9 (by decide) (hts _ (List.mem_cons_of_mem _ kw_994)) (fun _ h9 => h9) rfl dMd_runInto_201 ?_
                    refine lv_iload hx hb dMd_runInto_204 (lv_at hl 5 rfl) ?_
                    have ho := hw.1
                    have hw := hw.2
                    refine va_iald hx hb hK hP 8 0 rfl rfl ho dMd_runInto_206 ?_
                    refine lv_goto (tgt := 217) hx hb dMd_runInto_207 rfl ?_
                    refine lv_topi (fun v4_217 e_v4_217 => ?_)
                    have hw := hw v4_217 e_v4_217
                    refine lv_istore (lv' := [(4, .int v4_217), (6, .int t179_0), (0, .ref (bd 0)), (1, .int v1), (2, .int (bI v2)), (3, .int v4_L86), (5, .int (v5_L86 + 1))]) hx hb dMd_runInto_217 hl (by decide) rfl (fun ls hl => ?_)
                    refine lv_goto (tgt := 86) hx hb dMd_runInto_219 rfl ?_
                    exact ih v4_L86 v4_217 (v5_L86 + 1) mOver_129 mSaid_129 mSaidCount_129 mFailed_129 mValues_129 mNextValues_j125 _ _ _ (lv_sub hl [2, 3, 4, 5, 0, 6] rfl) hP hD hS hw
                · have hw := hw.2 hc
                  refine lv_iconst (v := (-1)) hx hb dMd_runInto_191 (by decide) ?_
                  refine lv_goto (tgt := 217) hx hb dMd_runInto_192 rfl ?_
                  refine lv_istore (lv' := [(4, .int (-1)), (6, .int t179_0), (0, .ref (bd 0)), (1, .int v1), (2, .int (bI v2)), (3, .int v4_L86), (5, .int (v5_L86 + 1))]) hx hb dMd_runInto_217 hl (by decide) rfl (fun ls hl => ?_)
                  refine lv_goto (tgt := 86) hx hb dMd_runInto_219 rfl ?_
                  exact ih v4_L86 (-1) (v5_L86 + 1) mOver_129 mSaid_129 mSaidCount_129 mFailed_129 mValues_129 mNextValues_j125 _ _ _ (lv_sub hl [2, 3, 4, 5, 0, 6] rfl) hP hD hS hw
              refine lv_icmp_ne (tgt := 178) hx hb dMd_runInto_143 rfl (fun hc => ?_) (fun hc => ?_)
              · have hw := hw.1 hc
                refine lv_iconst (v := 0) hx hb dMd_runInto_178 (by decide) ?_
                exact hj179 0 _ _ _ (lv_sub hl [1, 2, 3, 0, 4, 5] rfl) hP hD hS hw
              · have hw := hw.2 hc
                refine lv_aload_n hx hb dMd_runInto_146 rfl (lv_at hl 1 rfl) ?_
                refine va_get (D := D) (ci := 7) (v := .ref (bd 26)) (C := "OnceNamedModel") (T := TX7) (N := 34) hx hb hts (fun w h => List.mem_cons_of_mem _ (inX7 w h)) hown hK hP 0 rfl rfl 29 (by decide) (hts _ (List.mem_cons_of_mem _ kw_1014)) (fun _ h9 => h9) rfl dMd_runInto_147 ?_
                refine lv_iload_n hx hb dMd_runInto_150 rfl (lv_at hl 3 rfl) ?_
                refine lv_if_eq (tgt := 164) hx hb dMd_runInto_151 rfl (fun hc => ?_) (fun hc => ?_)
                · have hw := hw.1 (bI_0 hc)
                  refine lv_bipush (v := 100) hx hb dMd_runInto_164 (by decide) ?_
                  refine lv_aload_n hx hb dMd_runInto_166 rfl (lv_at hl 1 rfl) ?_
                  refine va_get (D := D) (ci := 7) (v := .ref (bd 7)) (C := "OnceNamedModel") (T := TX7) (N := 34) hx hb hts (fun w h => List.mem_cons_of_mem _ (inX7 w h)) hown hK hP 0 rfl rfl 8 (by decide) (hts _ (List.mem_cons_of_mem _ kw_993)) (fun _ h9 => h9) rfl dMd_runInto_167 ?_
                  refine lv_iload hx hb dMd_runInto_170 (lv_at hl 4 rfl) ?_
                  have ho := hw.1
                  have hw := hw.2
                  refine va_iald hx hb hK hP 7 0 rfl rfl ho dMd_runInto_172 ?_
                  refine lv_imul hx hb dMd_runInto_173 ?_
                  have ho := hw.1
                  have hw := hw.2
                  refine va_iald hx hb hK hP 21 0 rfl rfl ho dMd_runInto_174 ?_
                  refine lv_goto (tgt := 179) hx hb dMd_runInto_175 rfl ?_
                  exact hj179 (mValues_129 (Int32.toNatClampNeg (100 * (mEndVariable (Int32.toNatClampNeg v4_L86))))) _ _ _ (lv_sub hl [1, 2, 3, 0, 4, 5] rfl) hP hD hS hw
                · have hw := hw.2 (bI_1 hc)
                  refine lv_aload_n hx hb dMd_runInto_154 rfl (lv_at hl 1 rfl) ?_
                  refine va_get (D := D) (ci := 7) (v := .ref (bd 17)) (C := "OnceNamedModel") (T := TX7) (N := 34) hx hb hts (fun w h => List.mem_cons_of_mem _ (inX7 w h)) hown hK hP 0 rfl rfl 20 (by decide) (hts _ (List.mem_cons_of_mem _ kw_1005)) (fun _ h9 => h9) rfl dMd_runInto_155 ?_
                  refine lv_iload hx hb dMd_runInto_158 (lv_at hl 4 rfl) ?_
                  have ho := hw.1
                  have hw := hw.2
                  refine va_iald hx hb hK hP 16 0 rfl rfl ho dMd_runInto_160 ?_
                  refine lv_goto (tgt := 174) hx hb dMd_runInto_161 rfl ?_
                  have ho := hw.1
                  have hw := hw.2
                  refine va_iald hx hb hK hP 21 0 rfl rfl ho dMd_runInto_174 ?_
                  refine lv_goto (tgt := 179) hx hb dMd_runInto_175 rfl ?_
                  exact hj179 (mValues_129 (Int32.toNatClampNeg (mEndUse (Int32.toNatClampNeg v4_L86)))) _ _ _ (lv_sub hl [1, 2, 3, 0, 4, 5] rfl) hP hD hS hw
            refine lv_if_eq (tgt := 125) hx hb dMd_runInto_115 rfl (fun hc => ?_) (fun hc => ?_)
            · have hw := hw.1 (bI_0 hc)
              exact hj125 mValues_L86 mNextValues_L86 _ _ _ (lv_sub hl [1, 2, 3, 4, 5, 0] rfl) hP hD hS hw
            · have hw := hw.2 (bI_1 hc)
              refine lv_aload_n hx hb dMd_runInto_118 rfl (lv_at hl 1 rfl) ?_
              refine lv_iload hx hb dMd_runInto_119 (lv_at hl 5 rfl) ?_
              refine lv_iload_n hx hb dMd_runInto_121 rfl (lv_at hl 4 rfl) ?_
              refine xcv (va_runV ⟨hx, hb, hml, hown, hts⟩ (ktMd_meet l D cA cB bd N _ mThrown mReached mForm v1 mOver_L86 mMeets mSources mValues_L86 mNextValues_L86 v4_L86 v3_L86 _ hw) (cwV 2 hts (goodV kw_1281 kw_1283 ks_5_8 kw_11 kw_1284) rfl rfl rfl (by decide +kernel) ⟨Nat.le_of_ble_eq_true rfl, Nat.le_of_ble_eq_true rfl⟩) (xpreV hK hP hD hN [0, 11, 12, 21, 22] rfl rfl 0 rfl rfl) rfl rfl hl.1 rfl (lv_room (Nat.le_of_ble_eq_true rfl)) dMd_runInto_122 ⟨Nat.le_of_ble_eq_true rfl, Nat.le_of_ble_eq_true rfl⟩) hP hD hS hA [0, 11, 12, 21, 22] [1, 2, 3, 4, 5, 6, 7, 8, 9, 10, 13, 14, 15, 16, 17, 18, 19, 20] rfl rfl rfl rfl [18, 0, 1, 2, 3, 4, 5, 6, 7, 8, 9, 19, 20, 10, 11, 12, 13, 14, 15, 16, 17, 21, 22] rfl (fun _ => rfl) (fun u H locs hw hP hD hS => ?_)
              obtain ⟨mValues_122, mNextValues_122⟩ := u
              try dsimp only at hw
              have hP : va_P D vwCl (wdMd_runInto cA cB bd N mThrown mReached mForm v1 mOver_L86 mMany mKinds mVs mWs mXs mEnds mEndVariable mYes mNo mStarts mMeets mSources mSet mUseW mUseX mEndUse mGone mSaid_L86 mSaidCount_L86 mFailed_L86 mValues_122 mNextValues_122) H := hP
              have hD : va_D A (wdMd_runInto cA cB bd N mThrown mReached mForm v1 mOver_L86 mMany mKinds mVs mWs mXs mEnds mEndVariable mYes mNo mStarts mMeets mSources mSet mUseW mUseX mEndUse mGone mSaid_L86 mSaidCount_L86 mFailed_L86 mValues_122 mNextValues_122) := hD
              exact hj125 mValues_122 mNextValues_122 _ _ _ (lv_sub hl [1, 2, 3, 4, 5, 0] rfl) hP hD hS hw
          · have hw := hw.2 hc
            refine lv_aload_n hx hb dMd_runInto_108 rfl (lv_at hl 1 rfl) ?_
            refine lv_iconst (v := 2) hx hb dMd_runInto_109 (by decide) ?_
            refine xcv (va_runV ⟨hx, hb, hml, hown, hts⟩ (ktMd_fail l D cA cB bd N _ mThrown mReached mForm v1 mOver_L86 mFailed_L86 2 _ hw) (cwV 1 hts (goodV kw_1277 kw_1279 ks_5_7 kw_11 kw_1280) rfl rfl rfl (by decide +kernel) ⟨Nat.le_of_ble_eq_true rfl, Nat.le_of_ble_eq_true rfl⟩) (xpreV hK hP hD hN [0, 20] rfl rfl 0 rfl rfl) rfl rfl hl.1 rfl (lv_room (Nat.le_of_ble_eq_true rfl)) dMd_runInto_110 ⟨Nat.le_of_ble_eq_true rfl, Nat.le_of_ble_eq_true rfl⟩) hP hD hS hA [0, 20] [1, 2, 3, 4, 5, 6, 7, 8, 9, 10, 11, 12, 13, 14, 15, 16, 17, 18, 19, 21, 22] rfl rfl rfl rfl [21, 0, 1, 2, 3, 4, 5, 6, 7, 8, 9, 10, 11, 12, 13, 14, 15, 16, 17, 18, 22, 19, 20] rfl (fun _ => rfl) (fun u H locs hw hP hD hS => ?_)
            obtain ⟨mOver_110, mFailed_110⟩ := u
            try dsimp only at hw
            have hP : va_P D vwCl (wdMd_runInto cA cB bd N mThrown mReached mForm v1 mOver_110 mMany mKinds mVs mWs mXs mEnds mEndVariable mYes mNo mStarts mMeets mSources mSet mUseW mUseX mEndUse mGone mSaid_L86 mSaidCount_L86 mFailed_110 mValues_L86 mNextValues_L86) H := hP
            have hD : va_D A (wdMd_runInto cA cB bd N mThrown mReached mForm v1 mOver_110 mMany mKinds mVs mWs mXs mEnds mEndVariable mYes mNo mStarts mMeets mSources mSet mUseW mUseX mEndUse mGone mSaid_L86 mSaidCount_L86 mFailed_110 mValues_L86 mNextValues_L86) := hD
            exact hend v1 mOver_110 mSaid_L86 mSaidCount_L86 mFailed_110 mValues_L86 mNextValues_L86 _ _ _ _ dMd_runInto_113 hP hD hS hw
  refine hlp86 k86 v3_79 0 0 false mSaid (upd mSaidCount (Int32.toNatClampNeg v1) 0) (upd mFailed (Int32.toNatClampNeg v1) 0) mValues_x75 mNextValues _ _ _ (lv_sub hl [3, 4, 5, 2, 1, 0] rfl) hP hD hS hw
