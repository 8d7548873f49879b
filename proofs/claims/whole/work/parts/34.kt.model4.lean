abbrev wdMd_nameBlockOf (cA : ClassId) (cB : ClassId) (bd : Nat → Nat) (N : Nat) (mThrown : Int32) (mReached : Int32) (mForm : Bool) (mSlot : Int32) (mOver : Bool) (mMany : Nat → Int32) (mKinds : Nat → Int32) (mVs : Nat → Int32) (mMeets : Nat → Int32) (mSet : Nat → Int32) (mIsName : Nat → Bool) (mNameBlock : Nat → Int32) (mNameStep : Nat → Int32) (mNumbers : Nat → Int32) : va_W := [((bd 0), .inr (7, [.int mThrown, .int (nI N), .ref (bd 1), .ref (bd 2), .ref (bd 3), .ref (bd 4), .ref (bd 5), .ref (bd 6), .ref (bd 7), .ref (bd 8), .ref (bd 9), .ref (bd 10), .int mReached, .ref (bd 11), .int (bI mForm), .ref (bd 12), .ref (bd 13), .ref (bd 14), .ref (bd 15), .ref (bd 16), .ref (bd 17), .ref (bd 18), .ref (bd 19), .ref (bd 20), .ref (bd 21), .ref (bd 22), .ref (bd 23), .ref (bd 24), .ref (bd 25), .ref (bd 26), .ref (bd 27), .ref (bd 28), .int mSlot, .int (bI mOver)])), ((bd 1), .inl (cA, 12, .inl mMany)), ((bd 2), .inl (cA, 72, .inl mKinds)), ((bd 3), .inl (cA, 72, .inl mVs)), ((bd 12), .inl (cA, 72, .inl mMeets)), ((bd 14), .inl (cA, 72, .inl mSet)), ((bd 19), .inl (cB, 600, .inl (fun j => bI (mIsName j)))), ((bd 20), .inl (cA, 600, .inl mNameBlock)), ((bd 21), .inl (cA, 600, .inl mNameStep)), ((bd 22), .inl (cA, 6, .inl mNumbers))]
abbrev qcMd_nameBlockOf (D : va_G) (cA : ClassId) (cB : ClassId) (bd : Nat → Nat) (N : Nat) (mThrown : Int32) (mReached : Int32) (mForm : Bool) (mSlot : Int32) (mOver : Bool) (mMany : Nat → Int32) (mKinds : Nat → Int32) (mVs : Nat → Int32) (mMeets : Nat → Int32) (mSet : Nat → Int32) (mIsName : Nat → Bool) (mNameBlock : Nat → Int32) (mNameStep : Nat → Int32) (mNumbers : Nat → Int32) (post : (Nat → Int32) → (Nat → Int32) → (Nat → Bool) → (Nat → Int32) → (Nat → Int32) → (Nat → Int32) → Prop) (A : Nat → Prop) : Array Value → State → Outcome → State → Prop := va_Qv (S := (Nat → Int32) × (Nat → Int32) × (Nat → Bool) × (Nat → Int32) × (Nat → Int32) × (Nat → Int32)) (fun u => post u.1 u.2.1 u.2.2.1 u.2.2.2.1 u.2.2.2.2.1 u.2.2.2.2.2) (fun u t => xB D [(cA, .int), (cB, .boolean)] A (wdMd_nameBlockOf cA cB bd N mThrown mReached mForm mSlot mOver mMany mKinds mVs u.1 u.2.1 u.2.2.1 u.2.2.2.1 u.2.2.2.2.1 u.2.2.2.2.2) t) A
abbrev rmMd_nameBlockOf : Room := { frames := 1, cells := 0, slots := 0, locals := 24 }
set_option maxHeartbeats 4000000 in
set_option maxRecDepth 100000 in
theorem ktMd_nameBlockOf (l : Launch) (D : va_G) (cA : ClassId) (cB : ClassId) (bd : Nat → Nat) (N : Nat) (sz : Nat) (mThrown : Int32) (mReached : Int32) (mForm : Bool) (mSlot : Int32) (mOver : Bool) (mMany : Nat → Int32) (mKinds : Nat → Int32) (mVs : Nat → Int32) (mMeets : Nat → Int32) (mSet : Nat → Int32) (mIsName : Nat → Bool) (mNameBlock : Nat → Int32) (mNameStep : Nat → Int32) (mNumbers : Nat → Int32) (v1 : Int32) (post : (Nat → Int32) → (Nat → Int32) → (Nat → Bool) → (Nat → Int32) → (Nat → Int32) → (Nat → Int32) → Prop) (hw : wpMd_nameBlockOf mMany mKinds mVs mMeets mSet mIsName mNameBlock mNameStep mNumbers v1 post) : Met l yMd_nameBlockOf (Cond.code yMd_nameBlockOf cMd_nameBlockOf 4 none :: xW) rmMd_nameBlockOf (va_Pc [.ref (bd 0), .int v1] (xPc D [(cA, .int), (cB, .boolean)] (wdMd_nameBlockOf cA cB bd N mThrown mReached mForm mSlot mOver mMany mKinds mVs mMeets mSet mIsName mNameBlock mNameStep mNumbers) sz)) (qcMd_nameBlockOf D cA cB bd N mThrown mReached mForm mSlot mOver mMany mKinds mVs mMeets mSet mIsName mNameBlock mNameStep mNumbers post (va_A (wdMd_nameBlockOf cA cB bd N mThrown mReached mForm mSlot mOver mMany mKinds mVs mMeets mSet mIsName mNameBlock mNameStep mNumbers) sz)) 0 0 (va_A (wdMd_nameBlockOf cA cB bd N mThrown mReached mForm mSlot mOver mMany mKinds mVs mMeets mSet mIsName mNameBlock mNameStep mNumbers) sz) := by
  refine Met.ofW (cc := cMd_nameBlockOf) (maxL := 4) (ret := none) (by decide) rfl ?_
  intro p e s m args below meth c s₁ B hml hv
  obtain ⟨rfl, hsz, hP, hK, hD0, hN⟩ := hv
  have hx := B.exec
  have hb := B.bytes
  have hr := B.returns
  have hts := atoms_spec (ws := (Cond.code yMd_nameBlockOf cMd_nameBlockOf 4 none :: xW)) B.pre
  have hown : s.vm.findClass "OnceNamedModel" = some m.cls := findClass_of_methodNamed B.named
  have hlocks := B.notSynchronized
  subst hsz
  have hD := hD0.self (sz := s.heap.size)
  generalize hAe : va_A (wdMd_nameBlockOf cA cB bd N mThrown mReached mForm mSlot mOver mMany mKinds mVs mMeets mSet mIsName mNameBlock mNameStep mNumbers) s.heap.size = A at hD ⊢
  have hA : ∀ q : Nat, s.heap.size ≤ q → A q := fun q h => by rw [← hAe]; exact Or.inr h
  have hS : va_S A s.heap s.heap [] := va_S.rf
  have hend : ∀ (u0 : Nat → Int32) (u1 : Nat → Int32) (u2 : Nat → Bool) (u3 : Nat → Int32) (u4 : Nat → Int32) (u5 : Nat → Int32) (H : Heap) (locs : List Loc) (pc : Nat) (ls : Array Slot), decode cMd_nameBlockOf pc = .ok (.return_, 1) → va_P D vwCl (wdMd_nameBlockOf cA cB bd N mThrown mReached mForm mSlot mOver mMany mKinds mVs u0 u1 u2 u3 u4 u5) H → va_D A (wdMd_nameBlockOf cA cB bd N mThrown mReached mForm mSlot mOver mMany mKinds mVs u0 u1 u2 u3 u4 u5) → va_S A s.heap H locs → post u0 u1 u2 u3 u4 u5 → W p l e (headSpec (Cond.code yMd_nameBlockOf cMd_nameBlockOf 4 none :: xW) rmMd_nameBlockOf).room s m ([.ref (bd 0), .int v1] : List Value).toArray below meth c H locs 0 0 (MQ below (qcMd_nameBlockOf D cA cB bd N mThrown mReached mForm mSlot mOver mMany mKinds mVs mMeets mSet mIsName mNameBlock mNameStep mNumbers post A) ([.ref (bd 0), .int v1] : List Value).toArray s 0 0 A) (F0 m pc ls []) := fun u0 u1 u2 u3 u4 u5 H locs pc ls hd hP hD hS hw => W.vret hx hb hr (fun t ht hW => ⟨⟨(u0, u1, u2, u3, u4, u5), rfl, hw, ⟨by rw [ht]; exact hP, va_K.moved hW.alike hK, hD⟩⟩, hS.F ht⟩) hS.2.2 hd
  generalize hQ : MQ below (qcMd_nameBlockOf D cA cB bd N mThrown mReached mForm mSlot mOver mMany mKinds mVs mMeets mSet mIsName mNameBlock mNameStep mNumbers post A) ([.ref (bd 0), .int v1] : List Value).toArray s 0 0 A = Q at hend ⊢
  have hl := lv_entry ([.ref (bd 0), .int v1]) (n := 4) (Nat.le_of_ble_eq_true rfl)
  rw [lg_entry_eq]
  generalize (lg_sl ([.ref (bd 0), .int v1]) ++ List.replicate (4 - (lg_sl ([.ref (bd 0), .int v1])).length) Slot.unset).toArray = ls at hl ⊢
  have hl : lv_has ls 4 [(0, .ref (bd 0)), (1, .int v1)] := hl
  unfold wpMd_nameBlockOf at hw
  refine lv_iconst (v := 0) hx hb dMd_nameBlockOf_0 (by decide) ?_
  refine lv_istore_n (lv' := [(2, .int 0), (0, .ref (bd 0)), (1, .int v1)]) hx hb dMd_nameBlockOf_1 rfl hl (by decide) rfl (fun ls hl => ?_)
  obtain ⟨k2, hw⟩ := hw
  have hlp2 : ∀ (K46 : Int32 → (Nat → Int32) → (Nat → Bool) → (Nat → Int32) → (Nat → Int32) → (Nat → Int32) → Prop), (∀ (v2_x46 : Int32) (mMeets_x46 : Nat → Int32) (mIsName_x46 : Nat → Bool) (mNameBlock_x46 : Nat → Int32) (mNameStep_x46 : Nat → Int32) (mNumbers_x46 : Nat → Int32) (ls : Array Slot) (H : Heap) (locs : List Loc), lv_has ls 4 [(0, .ref (bd 0)), (1, .int v1), (2, .int v2_x46)] → va_P D vwCl (wdMd_nameBlockOf cA cB bd N mThrown mReached mForm mSlot mOver mMany mKinds mVs mMeets_x46 mSet mIsName_x46 mNameBlock_x46 mNameStep_x46 mNumbers_x46) H → va_D A (wdMd_nameBlockOf cA cB bd N mThrown mReached mForm mSlot mOver mMany mKinds mVs mMeets_x46 mSet mIsName_x46 mNameBlock_x46 mNameStep_x46 mNumbers_x46) → va_S A s.heap H locs → K46 v2_x46 mMeets_x46 mIsName_x46 mNameBlock_x46 mNameStep_x46 mNumbers_x46 → W p l e (headSpec (Cond.code yMd_nameBlockOf cMd_nameBlockOf 4 none :: xW) rmMd_nameBlockOf).room s m ([.ref (bd 0), .int v1] : List Value).toArray below meth c H locs 0 0 Q (F0 m 46 ls [])) → ∀ (k : Nat), ∀ (v2_L2 : Int32) (mMeets_L2 : Nat → Int32) (mIsName_L2 : Nat → Bool) (mNameBlock_L2 : Nat → Int32) (mNameStep_L2 : Nat → Int32) (mNumbers_L2 : Nat → Int32) (ls : Array Slot) (H : Heap) (locs : List Loc), lv_has ls 4 [(0, .ref (bd 0)), (1, .int v1), (2, .int v2_L2)] → va_P D vwCl (wdMd_nameBlockOf cA cB bd N mThrown mReached mForm mSlot mOver mMany mKinds mVs mMeets_L2 mSet mIsName_L2 mNameBlock_L2 mNameStep_L2 mNumbers_L2) H → va_D A (wdMd_nameBlockOf cA cB bd N mThrown mReached mForm mSlot mOver mMany mKinds mVs mMeets_L2 mSet mIsName_L2 mNameBlock_L2 mNameStep_L2 mNumbers_L2) → va_S A s.heap H locs → lpMd_nameBlockOf_2 v1 K46 k v2_L2 mMeets_L2 mIsName_L2 mNameBlock_L2 mNameStep_L2 mNumbers_L2 → W p l e (headSpec (Cond.code yMd_nameBlockOf cMd_nameBlockOf 4 none :: xW) rmMd_nameBlockOf).room s m ([.ref (bd 0), .int v1] : List Value).toArray below meth c H locs 0 0 Q (F0 m 2 ls []) := by
    intro K46 hK46 k
    induction k with
    | zero => intro v2_L2 mMeets_L2 mIsName_L2 mNameBlock_L2 mNameStep_L2 mNumbers_L2 ls H locs hl hP hD hS hw; exact False.elim hw
    | succ k ih =>
      intro v2_L2 mMeets_L2 mIsName_L2 mNameBlock_L2 mNameStep_L2 mNumbers_L2 ls H locs hl hP hD hS hw
      refine lv_iload_n hx hb dMd_nameBlockOf_2 rfl (lv_at hl 2 rfl) ?_
      refine lv_bipush (v := 6) hx hb dMd_nameBlockOf_3 (by decide) ?_
      refine lv_icmp_ge (tgt := 46) hx hb dMd_nameBlockOf_5 rfl (fun hc => ?_) (fun hc => ?_)
      · have hw := hw.1 hc
        exact hK46 v2_L2 mMeets_L2 mIsName_L2 mNameBlock_L2 mNameStep_L2 mNumbers_L2 _ _ _ (lv_sub hl [0, 1, 2] rfl) hP hD hS hw
      · have hw := hw.2 hc
        refine lv_aload_n hx hb dMd_nameBlockOf_8 rfl (lv_at hl 0 rfl) ?_
        refine va_get (D := D) (ci := 7) (v := .ref (bd 12)) (C := "OnceNamedModel") (T := TX7) (N := 34) hx hb hts (fun w h => List.mem_cons_of_mem _ (inX7 w h)) hown hK hP 0 rfl rfl 15 (by decide) (hts _ (List.mem_cons_of_mem _ kw_1000)) (fun _ h9 => h9) rfl dMd_nameBlockOf_9 ?_
        refine lv_bipush (v := 6) hx hb dMd_nameBlockOf_12 (by decide) ?_
        refine lv_iload_n hx hb dMd_nameBlockOf_14 rfl (lv_at hl 1 rfl) ?_
        refine lv_imul hx hb dMd_nameBlockOf_15 ?_
        refine lv_iload_n hx hb dMd_nameBlockOf_16 rfl (lv_at hl 2 rfl) ?_
        refine lv_iadd hx hb dMd_nameBlockOf_17 ?_
        have ho := hw.1
        have hw := hw.2
        refine va_iald hx hb hK hP 4 0 rfl rfl ho dMd_nameBlockOf_18 ?_
        refine lv_if_lt (tgt := 40) hx hb dMd_nameBlockOf_19 rfl (fun hc => ?_) (fun hc => ?_)
        · have hw := hw.1 hc
          refine lv_iinc (k := 2) (v := (v2_L2 + 1)) (lv' := [(2, .int (v2_L2 + 1)), (0, .ref (bd 0)), (1, .int v1)]) hx hb dMd_nameBlockOf_40 hl rfl rfl (by decide) rfl (fun ls hl => ?_)
          refine lv_goto (tgt := 2) hx hb dMd_nameBlockOf_43 rfl ?_
          exact ih (v2_L2 + 1) mMeets_L2 mIsName_L2 mNameBlock_L2 mNameStep_L2 mNumbers_L2 _ _ _ (lv_sub hl [1, 2, 0] rfl) hP hD hS hw
        · have hw := hw.2 hc
          refine lv_aload_n hx hb dMd_nameBlockOf_22 rfl (lv_at hl 0 rfl) ?_
          refine va_get (D := D) (ci := 7) (v := .ref (bd 12)) (C := "OnceNamedModel") (T := TX7) (N := 34) hx hb hts (fun w h => List.mem_cons_of_mem _ (inX7 w h)) hown hK hP 0 rfl rfl 15 (by decide) (hts _ (List.mem_cons_of_mem _ kw_1000)) (fun _ h9 => h9) rfl dMd_nameBlockOf_23 ?_
          refine lv_bipush (v := 6) hx hb dMd_nameBlockOf_26 (by decide) ?_
          refine lv_iload_n hx hb dMd_nameBlockOf_28 rfl (lv_at hl 1 rfl) ?_
          refine lv_imul hx hb dMd_nameBlockOf_29 ?_
          refine lv_iload_n hx hb dMd_nameBlockOf_30 rfl (lv_at hl 2 rfl) ?_
          refine lv_iadd hx hb dMd_nameBlockOf_31 ?_
          refine lv_aload_n hx hb dMd_nameBlockOf_32 rfl (lv_at hl 0 rfl) ?_
          refine lv_iload_n hx hb dMd_nameBlockOf_33 rfl (lv_at hl 2 rfl) ?_
          refine lv_iload_n hx hb dMd_nameBlockOf_34 rfl (lv_at hl 1 rfl) ?_
          refine lv_iconst (v := (-1)) hx hb dMd_nameBlockOf_35 (by decide) ?_
          refine xci (va_runV ⟨hx, hb, hml, hown, hts⟩ (ktMd_newName l D cA cB bd N _ mThrown mReached mForm mSlot mOver mIsName_L2 mNameBlock_L2 mNameStep_L2 mNumbers_L2 v2_L2 v1 (-1) _ hw) (cwV 3 hts (goodV kw_1181 kw_1183 ks_4_9 kw_11 kw_1184) rfl rfl rfl (by decide +kernel) ⟨Nat.le_of_ble_eq_true rfl, Nat.le_of_ble_eq_true rfl⟩) (xpreV hK hP hD hN [0, 6, 7, 8, 9] rfl rfl 0 rfl rfl) rfl rfl hl.1 rfl (lv_room (Nat.le_of_ble_eq_true rfl)) dMd_nameBlockOf_36 ⟨Nat.le_of_ble_eq_true rfl, Nat.le_of_ble_eq_true rfl⟩) hP hD hS hA [0, 6, 7, 8, 9] [1, 2, 3, 4, 5] rfl rfl rfl rfl [5, 0, 1, 2, 3, 4, 6, 7, 8, 9] rfl (fun _ => rfl) (fun r36 u H locs hw hP hD hS => ?_)
          obtain ⟨mIsName_36, mNameBlock_36, mNameStep_36, mNumbers_36⟩ := u
          try dsimp only at hw
          have hP : va_P D vwCl (wdMd_nameBlockOf cA cB bd N mThrown mReached mForm mSlot mOver mMany mKinds mVs mMeets_L2 mSet mIsName_36 mNameBlock_36 mNameStep_36 mNumbers_36) H := hP
          have hD : va_D A (wdMd_nameBlockOf cA cB bd N mThrown mReached mForm mSlot mOver mMany mKinds mVs mMeets_L2 mSet mIsName_36 mNameBlock_36 mNameStep_36 mNumbers_36) := hD
          have ho := hw.1
          have hw := hw.2
          refine va_iast hx hb hK hP hD hS 4 0 rfl rfl ho dMd_nameBlockOf_39 (fun H locs hP hD hS => ?_)
          have hP : va_P D vwCl (wdMd_nameBlockOf cA cB bd N mThrown mReached mForm mSlot mOver mMany mKinds mVs (upd mMeets_L2 (Int32.toNatClampNeg ((6 * v1) + v2_L2)) r36) mSet mIsName_36 mNameBlock_36 mNameStep_36 mNumbers_36) H := hP
          have hD : va_D A (wdMd_nameBlockOf cA cB bd N mThrown mReached mForm mSlot mOver mMany mKinds mVs (upd mMeets_L2 (Int32.toNatClampNeg ((6 * v1) + v2_L2)) r36) mSet mIsName_36 mNameBlock_36 mNameStep_36 mNumbers_36) := hD
          refine lv_iinc (k := 2) (v := (v2_L2 + 1)) (lv' := [(2, .int (v2_L2 + 1)), (0, .ref (bd 0)), (1, .int v1)]) hx hb dMd_nameBlockOf_40 hl rfl rfl (by decide) rfl (fun ls hl => ?_)
          refine lv_goto (tgt := 2) hx hb dMd_nameBlockOf_43 rfl ?_
          exact ih (v2_L2 + 1) (upd mMeets_L2 (Int32.toNatClampNeg ((6 * v1) + v2_L2)) r36) mIsName_36 mNameBlock_36 mNameStep_36 mNumbers_36 _ _ _ (lv_sub hl [1, 2, 0] rfl) hP hD hS hw
  refine hlp2 _ ?_ k2 0 mMeets mIsName mNameBlock mNameStep mNumbers _ _ _ (lv_sub hl [1, 2, 0] rfl) hP hD hS hw
  intro v2_x46 mMeets_x46 mIsName_x46 mNameBlock_x46 mNameStep_x46 mNumbers_x46 ls H locs hl hP hD hS hw
  try dsimp only at hw
  refine lv_iconst (v := 0) hx hb dMd_nameBlockOf_46 (by decide) ?_
  refine lv_istore_n (lv' := [(2, .int 0), (0, .ref (bd 0)), (1, .int v1)]) hx hb dMd_nameBlockOf_47 rfl hl (by decide) rfl (fun ls hl => ?_)
  obtain ⟨k48, hw⟩ := hw
  have hlp48 : ∀ (k : Nat), ∀ (v2_L48 : Int32) (mSet_L48 : Nat → Int32) (mIsName_L48 : Nat → Bool) (mNameBlock_L48 : Nat → Int32) (mNameStep_L48 : Nat → Int32) (mNumbers_L48 : Nat → Int32) (ls : Array Slot) (H : Heap) (locs : List Loc), lv_has ls 4 [(0, .ref (bd 0)), (1, .int v1), (2, .int v2_L48)] → va_P D vwCl (wdMd_nameBlockOf cA cB bd N mThrown mReached mForm mSlot mOver mMany mKinds mVs mMeets_x46 mSet_L48 mIsName_L48 mNameBlock_L48 mNameStep_L48 mNumbers_L48) H → va_D A (wdMd_nameBlockOf cA cB bd N mThrown mReached mForm mSlot mOver mMany mKinds mVs mMeets_x46 mSet_L48 mIsName_L48 mNameBlock_L48 mNameStep_L48 mNumbers_L48) → va_S A s.heap H locs → lpMd_nameBlockOf_48 v1 mMany mKinds mVs mMeets_x46 post k v2_L48 mSet_L48 mIsName_L48 mNameBlock_L48 mNameStep_L48 mNumbers_L48 → W p l e (headSpec (Cond.code yMd_nameBlockOf cMd_nameBlockOf 4 none :: xW) rmMd_nameBlockOf).room s m ([.ref (bd 0), .int v1] : List Value).toArray below meth c H locs 0 0 Q (F0 m 48 ls []) := by
    intro k
    induction k with
    | zero => intro v2_L48 mSet_L48 mIsName_L48 mNameBlock_L48 mNameStep_L48 mNumbers_L48 ls H locs hl hP hD hS hw; exact False.elim hw
    | succ k ih =>
      intro v2_L48 mSet_L48 mIsName_L48 mNameBlock_L48 mNameStep_L48 mNumbers_L48 ls H locs hl hP hD hS hw
      refine lv_iload_n hx hb dMd_nameBlockOf_48 rfl (lv_at hl 2 rfl) ?_
      refine lv_aload_n hx hb dMd_nameBlockOf_49 rfl (lv_at hl 0 rfl) ?_
      refine va_get (D := D) (ci := 7) (v := .ref (bd 1)) (C := "OnceNamedModel") (T := TX7) (N := 34) hx hb hts (fun w h => List.mem_cons_of_mem _ (inX7 w h)) hown hK hP 0 rfl rfl 2 (by decide) (hts _ (List.mem_cons_of_mem _ kw_987)) (fun _ h9 => h9) rfl dMd_nameBlockOf_50 ?_
      refine lv_iload_n hx hb dMd_nameBlockOf_53 rfl (lv_at hl 1 rfl) ?_
      have ho := hw.1
      have hw := hw.2
      refine va_iald hx hb hK hP 1 0 rfl rfl ho dMd_nameBlockOf_54 ?_
      refine lv_icmp_ge (tgt := 104) hx hb dMd_nameBlockOf_55 rfl (fun hc => ?_) (fun hc => ?_)
      · have hw := hw.1 hc
        exact hend mMeets_x46 mSet_L48 mIsName_L48 mNameBlock_L48 mNameStep_L48 mNumbers_L48 _ _ _ _ dMd_nameBlockOf_104 hP hD hS hw
      · have hw := hw.2 hc
        refine lv_bipush (v := 6) hx hb dMd_nameBlockOf_58 (by decide) ?_
        refine lv_iload_n hx hb dMd_nameBlockOf_60 rfl (lv_at hl 1 rfl) ?_
        refine lv_imul hx hb dMd_nameBlockOf_61 ?_
        refine lv_iload_n hx hb dMd_nameBlockOf_62 rfl (lv_at hl 2 rfl) ?_
        refine lv_iadd hx hb dMd_nameBlockOf_63 ?_
        refine lv_topi (fun v3_64 e_v3_64 => ?_)
        have hw := hw v3_64 e_v3_64
        refine lv_istore_n (lv' := [(3, .int v3_64), (0, .ref (bd 0)), (1, .int v1), (2, .int v2_L48)]) hx hb dMd_nameBlockOf_64 rfl hl (by decide) rfl (fun ls hl => ?_)
        refine lv_aload_n hx hb dMd_nameBlockOf_65 rfl (lv_at hl 1 rfl) ?_
        refine va_get (D := D) (ci := 7) (v := .ref (bd 14)) (C := "OnceNamedModel") (T := TX7) (N := 34) hx hb hts (fun w h => List.mem_cons_of_mem _ (inX7 w h)) hown hK hP 0 rfl rfl 17 (by decide) (hts _ (List.mem_cons_of_mem _ kw_1002)) (fun _ h9 => h9) rfl dMd_nameBlockOf_66 ?_
        refine lv_iload_n hx hb dMd_nameBlockOf_69 rfl (lv_at hl 0 rfl) ?_
        refine lv_aload_n hx hb dMd_nameBlockOf_70 rfl (lv_at hl 1 rfl) ?_
        refine va_get (D := D) (ci := 7) (v := .ref (bd 2)) (C := "OnceNamedModel") (T := TX7) (N := 34) hx hb hts (fun w h => List.mem_cons_of_mem _ (inX7 w h)) hown hK hP 0 rfl rfl 3 (by decide) (hts _ (List.mem_cons_of_mem _ kw_988)) (fun _ h9 => h9) rfl dMd_nameBlockOf_71 ?_
        refine lv_iload_n hx hb dMd_nameBlockOf_74 rfl (lv_at hl 0 rfl) ?_
        have ho := hw.1
        have hw := hw.2
        refine va_iald hx hb hK hP 2 0 rfl rfl ho dMd_nameBlockOf_75 ?_
        refine lv_bipush (v := 7) hx hb dMd_nameBlockOf_76 (by decide) ?_
        refine lv_icmp_ge (tgt := 96) hx hb dMd_nameBlockOf_78 rfl (fun hc => ?_) (fun hc => ?_)
        · have hw := hw.1 hc
          refine lv_iconst (v := (-1)) hx hb dMd_nameBlockOf_96 (by decide) ?_
          have ho := hw.1
          have hw := hw.2
          refine va_iast hx hb hK hP hD hS 5 0 rfl rfl ho dMd_nameBlockOf_97 (fun H locs hP hD hS => ?_)
          have hP : va_P D vwCl (wdMd_nameBlockOf cA cB bd N mThrown mReached mForm mSlot mOver mMany mKinds mVs mMeets_x46 (upd mSet_L48 (Int32.toNatClampNeg v3_64) (-1)) mIsName_L48 mNameBlock_L48 mNameStep_L48 mNumbers_L48) H := hP
          have hD : va_D A (wdMd_nameBlockOf cA cB bd N mThrown mReached mForm mSlot mOver mMany mKinds mVs mMeets_x46 (upd mSet_L48 (Int32.toNatClampNeg v3_64) (-1)) mIsName_L48 mNameBlock_L48 mNameStep_L48 mNumbers_L48) := hD
          refine lv_iinc (k := 3) (v := (v2_L48 + 1)) (lv' := [(2, .int (v2_L48 + 1)), (3, .int v3_64), (0, .ref (bd 0)), (1, .int v1)]) hx hb dMd_nameBlockOf_98 hl rfl rfl (by decide) rfl (fun ls hl => ?_)
          refine lv_goto (tgt := 48) hx hb dMd_nameBlockOf_101 rfl ?_
          exact ih (v2_L48 + 1) (upd mSet_L48 (Int32.toNatClampNeg v3_64) (-1)) mIsName_L48 mNameBlock_L48 mNameStep_L48 mNumbers_L48 _ _ _ (lv_sub hl [2, 3, 0] rfl) hP hD hS hw
        · have hw := hw.2 hc
          refine lv_aload_n hx hb dMd_nameBlockOf_81 rfl (lv_at hl 1 rfl) ?_
          refine lv_aload_n hx hb dMd_nameBlockOf_82 rfl (lv_at hl 1 rfl) ?_
          refine va_get (D := D) (ci := 7) (v := .ref (bd 3)) (C := "OnceNamedModel") (T := TX7) (N := 34) hx hb hts (fun w h => List.mem_cons_of_mem _ (inX7 w h)) hown hK hP 0 rfl rfl 4 (by decide) (hts _ (List.mem_cons_of_mem _ kw_989)) (fun _ h9 => h9) rfl dMd_nameBlockOf_83 ?_
          refine lv_iload_n hx hb dMd_nameBlockOf_86 rfl (lv_at hl 0 rfl) ?_
          have ho := hw.1
          have hw := hw.2
          refine va_iald hx hb hK hP 3 0 rfl rfl ho dMd_nameBlockOf_87 ?_
          refine lv_iload_n hx hb dMd_nameBlockOf_88 rfl (lv_at hl 2 rfl) ?_
          refine lv_iload_n hx hb dMd_nameBlockOf_89 rfl (lv_at hl 3 rfl) ?_
          refine xci (va_runV ⟨hx, hb, hml, hown, hts⟩ (ktMd_newName l D cA cB bd N _ mThrown mReached mForm mSlot mOver mIsName_L48 mNameBlock_L48 mNameStep_L48 mNumbers_L48 (mVs (Int32.toNatClampNeg v3_64)) v1 v2_L48 _ hw) (cwV 3 hts (goodV kw_1181 kw_1183 ks_4_9 kw_11 kw_1184) rfl rfl rfl (by decide +kernel) ⟨Nat.le_of_ble_eq_true rfl, Nat.le_of_ble_eq_true rfl⟩) (xpreV hK hP hD hN [0, 6, 7, 8, 9] rfl rfl 0 rfl rfl) rfl rfl hl.1 rfl (lv_room (Nat.le_of_ble_eq_true rfl)) dMd_nameBlockOf_90 ⟨Nat.le_of_ble_eq_true rfl, Nat.le_of_ble_eq_true rfl⟩) hP hD hS hA [0, 6, 7, 8, 9] [1, 2, 3, 4, 5] rfl rfl rfl rfl [5, 0, 1, 2, 3, 4, 6, 7, 8, 9] rfl (fun _ => rfl) (fun r90 u H locs hw hP hD hS => ?_)
          obtain ⟨mIsName_90, mNameBlock_90, mNameStep_90, mNumbers_90⟩ := u
          try dsimp only at hw
          have hP : va_P D vwCl (wdMd_nameBlockOf cA cB bd N mThrown mReached mForm mSlot mOver mMany mKinds mVs mMeets_x46 mSet_L48 mIsName_90 mNameBlock_90 mNameStep_90 mNumbers_90) H := hP
          have hD : va_D A (wdMd_nameBlockOf cA cB bd N mThrown mReached mForm mSlot mOver mMany mKinds mVs mMeets_x46 mSet_L48 mIsName_90 mNameBlock_90 mNameStep_90 mNumbers_90) := hD
          refine lv_goto (tgt := 97) hx hb dMd_nameBlockOf_93 rfl ?_
          have ho := hw.1
          have hw := hw.2
          refine va_iast hx hb hK hP hD hS 5 0 rfl rfl ho dMd_nameBlockOf_97 (fun H locs hP hD hS => ?_)
          have hP : va_P D vwCl (wdMd_nameBlockOf cA cB bd N mThrown mReached mForm mSlot mOver mMany mKinds mVs mMeets_x46 (upd mSet_L48 (Int32.toNatClampNeg v3_64) r90) mIsName_90 mNameBlock_90 mNameStep_90 mNumbers_90) H := hP
          have hD : va_D A (wdMd_nameBlockOf cA cB bd N mThrown mReached mForm mSlot mOver mMany mKinds mVs mMeets_x46 (upd mSet_L48 (Int32.toNatClampNeg v3_64) r90) mIsName_90 mNameBlock_90 mNameStep_90 mNumbers_90) := hD
          refine lv_iinc (k := 3) (v := (v2_L48 + 1)) (lv' := [(2, .int (v2_L48 + 1)), (3, .int v3_64), (0, .ref (bd 0)), (1, .int v1)]) hx hb dMd_nameBlockOf_98 hl rfl rfl (by decide) rfl (fun ls hl => ?_)
          refine lv_goto (tgt := 48) hx hb dMd_nameBlockOf_101 rfl ?_
          exact ih (v2_L48 + 1) (upd mSet_L48 (Int32.toNatClampNeg v3_64) r90) mIsName_90 mNameBlock_90 mNameStep_90 mNumbers_90 _ _ _ (lv_sub hl [2, 3, 0] rfl) hP hD hS hw
  refine hlp48 k48 0 mSet mIsName_x46 mNameBlock_x46 mNameStep_x46 mNumbers_x46 _ _ _ (lv_sub hl [1, 2, 0] rfl) hP hD hS hw
abbrev wdMd_giveNames (cA : ClassId) (cB : ClassId) (bd : Nat → Nat) (N : Nat) (mThrown : Int32) (mReached : Int32) (mForm : Bool) (mSlot : Int32) (mOver : Bool) (mMany : Nat → Int32) (mKinds : Nat → Int32) (mVs : Nat → Int32) (mDominators : Nat → Int32) (mMeets : Nat → Int32) (mSet : Nat → Int32) (mGone : Nat → Bool) (mIsName : Nat → Bool) (mNameBlock : Nat → Int32) (mNameStep : Nat → Int32) (mNumbers : Nat → Int32) (mOpen : Nat → Int32) : va_W := [((bd 0), .inr (7, [.int mThrown, .int (nI N), .ref (bd 1), .ref (bd 2), .ref (bd 3), .ref (bd 4), .ref (bd 5), .ref (bd 6), .ref (bd 7), .ref (bd 8), .ref (bd 9), .ref (bd 10), .int mReached, .ref (bd 11), .int (bI mForm), .ref (bd 12), .ref (bd 13), .ref (bd 14), .ref (bd 15), .ref (bd 16), .ref (bd 17), .ref (bd 18), .ref (bd 19), .ref (bd 20), .ref (bd 21), .ref (bd 22), .ref (bd 23), .ref (bd 24), .ref (bd 25), .ref (bd 26), .ref (bd 27), .ref (bd 28), .int mSlot, .int (bI mOver)])), ((bd 1), .inl (cA, 12, .inl mMany)), ((bd 2), .inl (cA, 72, .inl mKinds)), ((bd 3), .inl (cA, 72, .inl mVs)), ((bd 11), .inl (cA, 12, .inl mDominators)), ((bd 12), .inl (cA, 72, .inl mMeets)), ((bd 14), .inl (cA, 72, .inl mSet)), ((bd 18), .inl (cB, 72, .inl (fun j => bI (mGone j)))), ((bd 19), .inl (cB, 600, .inl (fun j => bI (mIsName j)))), ((bd 20), .inl (cA, 600, .inl mNameBlock)), ((bd 21), .inl (cA, 600, .inl mNameStep)), ((bd 22), .inl (cA, 6, .inl mNumbers)), ((bd 28), .inl (cA, 80, .inl mOpen))]
abbrev qcMd_giveNames (D : va_G) (cA : ClassId) (cB : ClassId) (bd : Nat → Nat) (N : Nat) (mThrown : Int32) (mReached : Int32) (mForm : Bool) (mSlot : Int32) (mOver : Bool) (mMany : Nat → Int32) (mKinds : Nat → Int32) (mVs : Nat → Int32) (mDominators : Nat → Int32) (mMeets : Nat → Int32) (mSet : Nat → Int32) (mGone : Nat → Bool) (mIsName : Nat → Bool) (mNameBlock : Nat → Int32) (mNameStep : Nat → Int32) (mNumbers : Nat → Int32) (mOpen : Nat → Int32) (post : (Nat → Int32) → (Nat → Int32) → (Nat → Bool) → (Nat → Bool) → (Nat → Int32) → (Nat → Int32) → (Nat → Int32) → (Nat → Int32) → Prop) (A : Nat → Prop) : Array Value → State → Outcome → State → Prop := va_Qv (S := (Nat → Int32) × (Nat → Int32) × (Nat → Bool) × (Nat → Bool) × (Nat → Int32) × (Nat → Int32) × (Nat → Int32) × (Nat → Int32)) (fun u => post u.1 u.2.1 u.2.2.1 u.2.2.2.1 u.2.2.2.2.1 u.2.2.2.2.2.1 u.2.2.2.2.2.2.1 u.2.2.2.2.2.2.2) (fun u t => xB D [(cA, .int), (cB, .boolean)] A (wdMd_giveNames cA cB bd N mThrown mReached mForm mSlot mOver mMany mKinds mVs mDominators u.1 u.2.1 u.2.2.1 u.2.2.2.1 u.2.2.2.2.1 u.2.2.2.2.2.1 u.2.2.2.2.2.2.1 u.2.2.2.2.2.2.2) t) A
abbrev rmMd_giveNames : Room := { frames := 2, cells := 0, slots := 0, locals := 47 }
set_option maxHeartbeats 4000000 in
set_option maxRecDepth 100000 in
theorem ktMd_giveNames (l : Launch) (D : va_G) (cA : ClassId) (cB : ClassId) (bd : Nat → Nat) (N : Nat) (sz : Nat) (mThrown : Int32) (mReached : Int32) (mForm : Bool) (mSlot : Int32) (mOver : Bool) (mMany : Nat → Int32) (mKinds : Nat → Int32) (mVs : Nat → Int32) (mDominators : Nat → Int32) (mMeets : Nat → Int32) (mSet : Nat → Int32) (mGone : Nat → Bool) (mIsName : Nat → Bool) (mNameBlock : Nat → Int32) (mNameStep : Nat → Int32) (mNumbers : Nat → Int32) (mOpen : Nat → Int32)  (post : (Nat → Int32) → (Nat → Int32) → (Nat → Bool) → (Nat → Bool) → (Nat → Int32) → (Nat → Int32) → (Nat → Int32) → (Nat → Int32) → Prop) (hw : wpMd_giveNames N mReached mMany mKinds mVs mDominators mMeets mSet mGone mIsName mNameBlock mNameStep mNumbers mOpen post) : Met l yMd_giveNames (Cond.code yMd_giveNames cMd_giveNames 4 none :: xW) rmMd_giveNames (va_Pc [.ref (bd 0)] (xPc D [(cA, .int), (cB, .boolean)] (wdMd_giveNames cA cB bd N mThrown mReached mForm mSlot mOver mMany mKinds mVs mDominators mMeets mSet mGone mIsName mNameBlock mNameStep mNumbers mOpen) sz)) (qcMd_giveNames D cA cB bd N mThrown mReached mForm mSlot mOver mMany mKinds mVs mDominators mMeets mSet mGone mIsName mNameBlock mNameStep mNumbers mOpen post (va_A (wdMd_giveNames cA cB bd N mThrown mReached mForm mSlot mOver mMany mKinds mVs mDominators mMeets mSet mGone mIsName mNameBlock mNameStep mNumbers mOpen) sz)) 0 0 (va_A (wdMd_giveNames cA cB bd N mThrown mReached mForm mSlot mOver mMany mKinds mVs mDominators mMeets mSet mGone mIsName mNameBlock mNameStep mNumbers mOpen) sz) := by
  refine Met.ofW (cc := cMd_giveNames) (maxL := 4) (ret := none) (by decide) rfl ?_
  intro p e s m args below meth c s₁ B hml hv
  obtain ⟨rfl, hsz, hP, hK, hD0, hN⟩ := hv
  have hx := B.exec
  have hb := B.bytes
  have hr := B.returns
  have hts := atoms_spec (ws := (Cond.code yMd_giveNames cMd_giveNames 4 none :: xW)) B.pre
  have hown : s.vm.findClass "OnceNamedModel" = some m.cls := findClass_of_methodNamed B.named
  have hlocks := B.notSynchronized
  subst hsz
  have hD := hD0.self (sz := s.heap.size)
  generalize hAe : va_A (wdMd_giveNames cA cB bd N mThrown mReached mForm mSlot mOver mMany mKinds mVs mDominators mMeets mSet mGone mIsName mNameBlock mNameStep mNumbers mOpen) s.heap.size = A at hD ⊢
  have hA : ∀ q : Nat, s.heap.size ≤ q → A q := fun q h => by rw [← hAe]; exact Or.inr h
  have hS : va_S A s.heap s.heap [] := va_S.rf
  have hend : ∀ (u0 : Nat → Int32) (u1 : Nat → Int32) (u2 : Nat → Bool) (u3 : Nat → Bool) (u4 : Nat → Int32) (u5 : Nat → Int32) (u6 : Nat → Int32) (u7 : Nat → Int32) (H : Heap) (locs : List Loc) (pc : Nat) (ls : Array Slot), decode cMd_giveNames pc = .ok (.return_, 1) → va_P D vwCl (wdMd_giveNames cA cB bd N mThrown mReached mForm mSlot mOver mMany mKinds mVs mDominators u0 u1 u2 u3 u4 u5 u6 u7) H → va_D A (wdMd_giveNames cA cB bd N mThrown mReached mForm mSlot mOver mMany mKinds mVs mDominators u0 u1 u2 u3 u4 u5 u6 u7) → va_S A s.heap H locs → post u0 u1 u2 u3 u4 u5 u6 u7 → W p l e (headSpec (Cond.code yMd_giveNames cMd_giveNames 4 none :: xW) rmMd_giveNames).room s m ([.ref (bd 0)] : List Value).toArray below meth c H locs 0 0 (MQ below (qcMd_giveNames D cA cB bd N mThrown mReached mForm mSlot mOver mMany mKinds mVs mDominators mMeets mSet mGone mIsName mNameBlock mNameStep mNumbers mOpen post A) ([.ref (bd 0)] : List Value).toArray s 0 0 A) (F0 m pc ls []) := fun u0 u1 u2 u3 u4 u5 u6 u7 H locs pc ls hd hP hD hS hw => W.vret hx hb hr (fun t ht hW => ⟨⟨(u0, u1, u2, u3, u4, u5, u6, u7), rfl, hw, ⟨by rw [ht]; exact hP, va_K.moved hW.alike hK, hD⟩⟩, hS.F ht⟩) hS.2.2 hd
  generalize hQ : MQ below (qcMd_giveNames D cA cB bd N mThrown mReached mForm mSlot mOver mMany mKinds mVs mDominators mMeets mSet mGone mIsName mNameBlock mNameStep mNumbers mOpen post A) ([.ref (bd 0)] : List Value).toArray s 0 0 A = Q at hend ⊢
  have hl := lv_entry ([.ref (bd 0)]) (n := 4) (Nat.le_of_ble_eq_true rfl)
  rw [lg_entry_eq]
  generalize (lg_sl ([.ref (bd 0)]) ++ List.replicate (4 - (lg_sl ([.ref (bd 0)])).length) Slot.unset).toArray = ls at hl ⊢
  have hl : lv_has ls 4 [(0, .ref (bd 0))] := hl
  unfold wpMd_giveNames at hw
  refine lv_iconst (v := 0) hx hb dMd_giveNames_0 (by decide) ?_
  refine lv_istore_n (lv' := [(1, .int 0), (0, .ref (bd 0))]) hx hb dMd_giveNames_1 rfl hl (by decide) rfl (fun ls hl => ?_)
  obtain ⟨k2, hw⟩ := hw
  have hlp2 : ∀ (K22 : Int32 → (Nat → Bool) → Prop), (∀ (v1_x22 : Int32) (mIsName_x22 : Nat → Bool) (ls : Array Slot) (H : Heap) (locs : List Loc), lv_has ls 4 [(0, .ref (bd 0)), (1, .int v1_x22)] → va_P D vwCl (wdMd_giveNames cA cB bd N mThrown mReached mForm mSlot mOver mMany mKinds mVs mDominators mMeets mSet mGone mIsName_x22 mNameBlock mNameStep mNumbers mOpen) H → va_D A (wdMd_giveNames cA cB bd N mThrown mReached mForm mSlot mOver mMany mKinds mVs mDominators mMeets mSet mGone mIsName_x22 mNameBlock mNameStep mNumbers mOpen) → va_S A s.heap H locs → K22 v1_x22 mIsName_x22 → W p l e (headSpec (Cond.code yMd_giveNames cMd_giveNames 4 none :: xW) rmMd_giveNames).room s m ([.ref (bd 0)] : List Value).toArray below meth c H locs 0 0 Q (F0 m 22 ls [])) → ∀ (k : Nat), ∀ (v1_L2 : Int32) (mIsName_L2 : Nat → Bool) (ls : Array Slot) (H : Heap) (locs : List Loc), lv_has ls 4 [(0, .ref (bd 0)), (1, .int v1_L2)] → va_P D vwCl (wdMd_giveNames cA cB bd N mThrown mReached mForm mSlot mOver mMany mKinds mVs mDominators mMeets mSet mGone mIsName_L2 mNameBlock mNameStep mNumbers mOpen) H → va_D A (wdMd_giveNames cA cB bd N mThrown mReached mForm mSlot mOver mMany mKinds mVs mDominators mMeets mSet mGone mIsName_L2 mNameBlock mNameStep mNumbers mOpen) → va_S A s.heap H locs → lpMd_giveNames_2 K22 k v1_L2 mIsName_L2 → W p l e (headSpec (Cond.code yMd_giveNames cMd_giveNames 4 none :: xW) rmMd_giveNames).room s m ([.ref (bd 0)] : List Value).toArray below meth c H locs 0 0 Q (F0 m 2 ls []) := by
    intro K22 hK22 k
    induction k with
    | zero => intro v1_L2 mIsName_L2 ls H locs hl hP hD hS hw; exact False.elim hw
    | succ k ih =>
      intro v1_L2 mIsName_L2 ls H locs hl hP hD hS hw
      refine lv_iload_n hx hb dMd_giveNames_2 rfl (lv_at hl 1 rfl) ?_
      refine lv_sipush (v := 600) hx hb dMd_giveNames_3 (by decide) ?_
      refine lv_icmp_ge (tgt := 22) hx hb dMd_giveNames_6 rfl (fun hc => ?_) (fun hc => ?_)
      · have hw := hw.1 hc
        exact hK22 v1_L2 mIsName_L2 _ _ _ (lv_sub hl [0, 1] rfl) hP hD hS hw
      · have hw := hw.2 hc
        refine lv_aload_n hx hb dMd_giveNames_9 rfl (lv_at hl 0 rfl) ?_
        refine va_get (D := D) (ci := 7) (v := .ref (bd 19)) (C := "OnceNamedModel") (T := TX7) (N := 34) hx hb hts (fun w h => List.mem_cons_of_mem _ (inX7 w h)) hown hK hP 0 rfl rfl 22 (by decide) (hts _ (List.mem_cons_of_mem _ kw_1007)) (fun _ h9 => h9) rfl dMd_giveNames_10 ?_
        refine lv_iload_n hx hb dMd_giveNames_13 rfl (lv_at hl 1 rfl) ?_
        refine lv_iconst (v := 0) hx hb dMd_giveNames_14 (by decide) ?_
        have ho := hw.1
        have hw := hw.2
        refine xzast (z := false) hx hb hK hP hD hS 8 1 rfl rfl ho dMd_giveNames_15 (fun H locs hP hD hS => ?_)
        have hP : va_P D vwCl (wdMd_giveNames cA cB bd N mThrown mReached mForm mSlot mOver mMany mKinds mVs mDominators mMeets mSet mGone (updB mIsName_L2 (Int32.toNatClampNeg v1_L2) false) mNameBlock mNameStep mNumbers mOpen) H := hP
        have hD : va_D A (wdMd_giveNames cA cB bd N mThrown mReached mForm mSlot mOver mMany mKinds mVs mDominators mMeets mSet mGone (updB mIsName_L2 (Int32.toNatClampNeg v1_L2) false) mNameBlock mNameStep mNumbers mOpen) := hD
        refine lv_iinc (k := 1) (v := (v1_L2 + 1)) (lv' := [(1, .int (v1_L2 + 1)), (0, .ref (bd 0))]) hx hb dMd_giveNames_16 hl rfl rfl (by decide) rfl (fun ls hl => ?_)
        refine lv_goto (tgt := 2) hx hb dMd_giveNames_19 rfl ?_
        exact ih (v1_L2 + 1) (updB mIsName_L2 (Int32.toNatClampNeg v1_L2) false) _ _ _ (lv_sub hl [1, 0] rfl) hP hD hS hw
  refine hlp2 _ ?_ k2 0 mIsName _ _ _ (lv_sub hl [1, 0] rfl) hP hD hS hw
  intro v1_x22 mIsName_x22 ls H locs hl hP hD hS hw
  try dsimp only at hw
  refine lv_iconst (v := 0) hx hb dMd_giveNames_22 (by decide) ?_
  refine lv_istore_n (lv' := [(1, .int 0), (0, .ref (bd 0))]) hx hb dMd_giveNames_23 rfl hl (by decide) rfl (fun ls hl => ?_)
  obtain ⟨k24, hw⟩ := hw
  have hlp24 : ∀ (K50 : Int32 → (Nat → Int32) → (Nat → Bool) → Prop), (∀ (v1_x50 : Int32) (mSet_x50 : Nat → Int32) (mGone_x50 : Nat → Bool) (ls : Array Slot) (H : Heap) (locs : List Loc), lv_has ls 4 [(0, .ref (bd 0)), (1, .int v1_x50)] → va_P D vwCl (wdMd_giveNames cA cB bd N mThrown mReached mForm mSlot mOver mMany mKinds mVs mDominators mMeets mSet_x50 mGone_x50 mIsName_x22 mNameBlock mNameStep mNumbers mOpen) H → va_D A (wdMd_giveNames cA cB bd N mThrown mReached mForm mSlot mOver mMany mKinds mVs mDominators mMeets mSet_x50 mGone_x50 mIsName_x22 mNameBlock mNameStep mNumbers mOpen) → va_S A s.heap H locs → K50 v1_x50 mSet_x50 mGone_x50 → W p l e (headSpec (Cond.code yMd_giveNames cMd_giveNames 4 none :: xW) rmMd_giveNames).room s m ([.ref (bd 0)] : List Value).toArray below meth c H locs 0 0 Q (F0 m 50 ls [])) → ∀ (k : Nat), ∀ (v1_L24 : Int32) (mSet_L24 : Nat → Int32) (mGone_L24 : Nat → Bool) (ls : Array Slot) (H : Heap) (locs : List Loc), lv_has ls 4 [(0, .ref (bd 0)), (1, .int v1_L24)] → va_P D vwCl (wdMd_giveNames cA cB bd N mThrown mReached mForm mSlot mOver mMany mKinds mVs mDominators mMeets mSet_L24 mGone_L24 mIsName_x22 mNameBlock mNameStep mNumbers mOpen) H → va_D A (wdMd_giveNames cA cB bd N mThrown mReached mForm mSlot mOver mMany mKinds mVs mDominators mMeets mSet_L24 mGone_L24 mIsName_x22 mNameBlock mNameStep mNumbers mOpen) → va_S A s.heap H locs → lpMd_giveNames_24 K50 k v1_L24 mSet_L24 mGone_L24 → W p l e (headSpec (Cond.code yMd_giveNames cMd_giveNames 4 none :: xW) rmMd_giveNames).room s m ([.ref (bd 0)] : List Value).toArray below meth c H locs 0 0 Q (F0 m 24 ls []) := by
    intro K50 hK50 k
    induction k with
    | zero => intro v1_L24 mSet_L24 mGone_L24 ls H locs hl hP hD hS hw; exact False.elim hw
    | succ k ih =>
      intro v1_L24 mSet_L24 mGone_L24 ls H locs hl hP hD hS hw
      refine lv_iload_n hx hb dMd_giveNames_24 rfl (lv_at hl 1 rfl) ?_
      refine lv_bipush (v := 72) hx hb dMd_giveNames_25 (by decide) ?_
      refine lv_icmp_ge (tgt := 50) hx hb dMd_giveNames_27 rfl (fun hc => ?_) (fun hc => ?_)
      · have hw := hw.1 hc
        exact hK50 v1_L24 mSet_L24 mGone_L24 _ _ _ (lv_sub hl [0, 1] rfl) hP hD hS hw
      · have hw := hw.2 hc
        refine lv_aload_n hx hb dMd_giveNames_30 rfl (lv_at hl 0 rfl) ?_
        refine va_get (D := D) (ci := 7) (v := .ref (bd 14)) (C := "OnceNamedModel") (T := TX7) (N := 34) hx hb hts (fun w h => List.mem_cons_of_mem _ (inX7 w h)) hown hK hP 0 rfl rfl 17 (by decide) (hts _ (List.mem_cons_of_mem _ kw_1002)) (fun _ h9 => h9) rfl dMd_giveNames_31 ?_
        refine lv_iload_n hx hb dMd_giveNames_34 rfl (lv_at hl 1 rfl) ?_
        refine lv_iconst (v := (-1)) hx hb dMd_giveNames_35 (by decide) ?_
        have ho := hw.1
        have hw := hw.2
        refine va_iast hx hb hK hP hD hS 6 0 rfl rfl ho dMd_giveNames_36 (fun H locs hP hD hS => ?_)
        have hP : va_P D vwCl (wdMd_giveNames cA cB bd N mThrown mReached mForm mSlot mOver mMany mKinds mVs mDominators mMeets (upd mSet_L24 (Int32.toNatClampNeg v1_L24) (-1)) mGone_L24 mIsName_x22 mNameBlock mNameStep mNumbers mOpen) H := hP
        have hD : va_D A (wdMd_giveNames cA cB bd N mThrown mReached mForm mSlot mOver mMany mKinds mVs mDominators mMeets (upd mSet_L24 (Int32.toNatClampNeg v1_L24) (-1)) mGone_L24 mIsName_x22 mNameBlock mNameStep mNumbers mOpen) := hD
        refine lv_aload_n hx hb dMd_giveNames_37 rfl (lv_at hl 0 rfl) ?_
        refine va_get (D := D) (ci := 7) (v := .ref (bd 18)) (C := "OnceNamedModel") (T := TX7) (N := 34) hx hb hts (fun w h => List.mem_cons_of_mem _ (inX7 w h)) hown hK hP 0 rfl rfl 21 (by decide) (hts _ (List.mem_cons_of_mem _ kw_1006)) (fun _ h9 => h9) rfl dMd_giveNames_38 ?_
        refine lv_iload_n hx hb dMd_giveNames_41 rfl (lv_at hl 1 rfl) ?_
        refine lv_iconst (v := 0) hx hb dMd_giveNames_42 (by decide) ?_
        have ho := hw.1
        have hw := hw.2
        refine xzast (z := false) hx hb hK hP hD hS 7 1 rfl rfl ho dMd_giveNames_43 (fun H locs hP hD hS => ?_)
        have hP : va_P D vwCl (wdMd_giveNames cA cB bd N mThrown mReached mForm mSlot mOver mMany mKinds mVs mDominators mMeets (upd mSet_L24 (Int32.toNatClampNeg v1_L24) (-1)) (updB mGone_L24 (Int32.toNatClampNeg v1_L24) false) mIsName_x22 mNameBlock mNameStep mNumbers mOpen) H := hP
        have hD : va_D A (wdMd_giveNames cA cB bd N mThrown mReached mForm mSlot mOver mMany mKinds mVs mDominators mMeets (upd mSet_L24 (Int32.toNatClampNeg v1_L24) (-1)) (updB mGone_L24 (Int32.toNatClampNeg v1_L24) false) mIsName_x22 mNameBlock mNameStep mNumbers mOpen) := hD
        refine lv_iinc (k := 1) (v := (v1_L24 + 1)) (lv' := [(1, .int (v1_L24 + 1)), (0, .ref (bd 0))]) hx hb dMd_giveNames_44 hl rfl rfl (by decide) rfl (fun ls hl => ?_)
        refine lv_goto (tgt := 24) hx hb dMd_giveNames_47 rfl ?_
        exact ih (v1_L24 + 1) (upd mSet_L24 (Int32.toNatClampNeg v1_L24) (-1)) (updB mGone_L24 (Int32.toNatClampNeg v1_L24) false) _ _ _ (lv_sub hl [1, 0] rfl) hP hD hS hw
  refine hlp24 _ ?_ k24 0 mSet mGone _ _ _ (lv_sub hl [1, 0] rfl) hP hD hS hw
  intro v1_x50 mSet_x50 mGone_x50 ls H locs hl hP hD hS hw
  try dsimp only at hw
  refine lv_iconst (v := 0) hx hb dMd_giveNames_50 (by decide) ?_
  refine lv_istore_n (lv' := [(1, .int 0), (0, .ref (bd 0))]) hx hb dMd_giveNames_51 rfl hl (by decide) rfl (fun ls hl => ?_)
  obtain ⟨k52, hw⟩ := hw
  have hlp52 : ∀ (K82 : Int32 → (Nat → Bool) → (Nat → Int32) → (Nat → Int32) → (Nat → Int32) → Prop), (∀ (v1_x82 : Int32) (mIsName_x82 : Nat → Bool) (mNameBlock_x82 : Nat → Int32) (mNameStep_x82 : Nat → Int32) (mNumbers_x82 : Nat → Int32) (ls : Array Slot) (H : Heap) (locs : List Loc), lv_has ls 4 [(0, .ref (bd 0)), (1, .int v1_x82)] → va_P D vwCl (wdMd_giveNames cA cB bd N mThrown mReached mForm mSlot mOver mMany mKinds mVs mDominators mMeets mSet_x50 mGone_x50 mIsName_x82 mNameBlock_x82 mNameStep_x82 mNumbers_x82 mOpen) H → va_D A (wdMd_giveNames cA cB bd N mThrown mReached mForm mSlot mOver mMany mKinds mVs mDominators mMeets mSet_x50 mGone_x50 mIsName_x82 mNameBlock_x82 mNameStep_x82 mNumbers_x82 mOpen) → va_S A s.heap H locs → K82 v1_x82 mIsName_x82 mNameBlock_x82 mNameStep_x82 mNumbers_x82 → W p l e (headSpec (Cond.code yMd_giveNames cMd_giveNames 4 none :: xW) rmMd_giveNames).room s m ([.ref (bd 0)] : List Value).toArray below meth c H locs 0 0 Q (F0 m 82 ls [])) → ∀ (k : Nat), ∀ (v1_L52 : Int32) (mIsName_L52 : Nat → Bool) (mNameBlock_L52 : Nat → Int32) (mNameStep_L52 : Nat → Int32) (mNumbers_L52 : Nat → Int32) (ls : Array Slot) (H : Heap) (locs : List Loc), lv_has ls 4 [(0, .ref (bd 0)), (1, .int v1_L52)] → va_P D vwCl (wdMd_giveNames cA cB bd N mThrown mReached mForm mSlot mOver mMany mKinds mVs mDominators mMeets mSet_x50 mGone_x50 mIsName_L52 mNameBlock_L52 mNameStep_L52 mNumbers_L52 mOpen) H → va_D A (wdMd_giveNames cA cB bd N mThrown mReached mForm mSlot mOver mMany mKinds mVs mDominators mMeets mSet_x50 mGone_x50 mIsName_L52 mNameBlock_L52 mNameStep_L52 mNumbers_L52 mOpen) → va_S A s.heap H locs → lpMd_giveNames_52 N K82 k v1_L52 mIsName_L52 mNameBlock_L52 mNameStep_L52 mNumbers_L52 → W p l e (headSpec (Cond.code yMd_giveNames cMd_giveNames 4 none :: xW) rmMd_giveNames).room s m ([.ref (bd 0)] : List Value).toArray below meth c H locs 0 0 Q (F0 m 52 ls []) := by
    intro K82 hK82 k
    induction k with
    | zero => intro v1_L52 mIsName_L52 mNameBlock_L52 mNameStep_L52 mNumbers_L52 ls H locs hl hP hD hS hw; exact False.elim hw
    | succ k ih =>
      intro v1_L52 mIsName_L52 mNameBlock_L52 mNameStep_L52 mNumbers_L52 ls H locs hl hP hD hS hw
      refine lv_iload_n hx hb dMd_giveNames_52 rfl (lv_at hl 1 rfl) ?_
      refine lv_bipush (v := 6) hx hb dMd_giveNames_53 (by decide) ?_
      refine lv_icmp_ge (tgt := 82) hx hb dMd_giveNames_55 rfl (fun hc => ?_) (fun hc => ?_)
      · have hw := hw.1 hc
        exact hK82 v1_L52 mIsName_L52 mNameBlock_L52 mNameStep_L52 mNumbers_L52 _ _ _ (lv_sub hl [0, 1] rfl) hP hD hS hw
      · have hw := hw.2 hc
        refine lv_aload_n hx hb dMd_giveNames_58 rfl (lv_at hl 0 rfl) ?_
        refine va_get (D := D) (ci := 7) (v := .ref (bd 22)) (C := "OnceNamedModel") (T := TX7) (N := 34) hx hb hts (fun w h => List.mem_cons_of_mem _ (inX7 w h)) hown hK hP 0 rfl rfl 25 (by decide) (hts _ (List.mem_cons_of_mem _ kw_1010)) (fun _ h9 => h9) rfl dMd_giveNames_59 ?_
        refine lv_iload_n hx hb dMd_giveNames_62 rfl (lv_at hl 1 rfl) ?_
        refine lv_iconst (v := 0) hx hb dMd_giveNames_63 (by decide) ?_
        have ho := hw.1
        have hw := hw.2
        refine va_iast hx hb hK hP hD hS 11 0 rfl rfl ho dMd_giveNames_64 (fun H locs hP hD hS => ?_)
        have hP : va_P D vwCl (wdMd_giveNames cA cB bd N mThrown mReached mForm mSlot mOver mMany mKinds mVs mDominators mMeets mSet_x50 mGone_x50 mIsName_L52 mNameBlock_L52 mNameStep_L52 (upd mNumbers_L52 (Int32.toNatClampNeg v1_L52) 0) mOpen) H := hP
        have hD : va_D A (wdMd_giveNames cA cB bd N mThrown mReached mForm mSlot mOver mMany mKinds mVs mDominators mMeets mSet_x50 mGone_x50 mIsName_L52 mNameBlock_L52 mNameStep_L52 (upd mNumbers_L52 (Int32.toNatClampNeg v1_L52) 0) mOpen) := hD
        refine lv_aload_n hx hb dMd_giveNames_65 rfl (lv_at hl 0 rfl) ?_
        refine lv_iload_n hx hb dMd_giveNames_66 rfl (lv_at hl 1 rfl) ?_
        refine lv_aload_n hx hb dMd_giveNames_67 rfl (lv_at hl 0 rfl) ?_
        refine va_get (D := D) (ci := 7) (v := .int (nI N)) (C := "OnceNamedModel") (T := TX7) (N := 34) hx hb hts (fun w h => List.mem_cons_of_mem _ (inX7 w h)) hown hK hP 0 rfl rfl 1 (by decide) (hts _ (List.mem_cons_of_mem _ kw_986)) (fun _ h9 => h9) rfl dMd_giveNames_68 ?_
        refine lv_iconst (v := (-1)) hx hb dMd_giveNames_71 (by decide) ?_
        refine xci (va_runV ⟨hx, hb, hml, hown, hts⟩ (ktMd_newName l D cA cB bd N _ mThrown mReached mForm mSlot mOver mIsName_L52 mNameBlock_L52 mNameStep_L52 (upd mNumbers_L52 (Int32.toNatClampNeg v1_L52) 0) v1_L52 (nI N) (-1) _ hw) (cwV 3 hts (goodV kw_1181 kw_1183 ks_4_9 kw_11 kw_1184) rfl rfl rfl (by decide +kernel) ⟨Nat.le_of_ble_eq_true rfl, Nat.le_of_ble_eq_true rfl⟩) (xpreV hK hP hD hN [0, 8, 9, 10, 11] rfl rfl 0 rfl rfl) rfl rfl hl.1 rfl (lv_room (Nat.le_of_ble_eq_true rfl)) dMd_giveNames_72 ⟨Nat.le_of_ble_eq_true rfl, Nat.le_of_ble_eq_true rfl⟩) hP hD hS hA [0, 8, 9, 10, 11] [1, 2, 3, 4, 5, 6, 7, 12] rfl rfl rfl rfl [8, 0, 1, 2, 3, 4, 5, 6, 9, 10, 11, 12, 7] rfl (fun _ => rfl) (fun r72 u H locs hw hP hD hS => ?_)
        obtain ⟨mIsName_72, mNameBlock_72, mNameStep_72, mNumbers_72⟩ := u
        try dsimp only at hw
        have hP : va_P D vwCl (wdMd_giveNames cA cB bd N mThrown mReached mForm mSlot mOver mMany mKinds mVs mDominators mMeets mSet_x50 mGone_x50 mIsName_72 mNameBlock_72 mNameStep_72 mNumbers_72 mOpen) H := hP
        have hD : va_D A (wdMd_giveNames cA cB bd N mThrown mReached mForm mSlot mOver mMany mKinds mVs mDominators mMeets mSet_x50 mGone_x50 mIsName_72 mNameBlock_72 mNameStep_72 mNumbers_72 mOpen) := hD
        refine lv_istore_n (lv' := [(2, .int r72), (0, .ref (bd 0)), (1, .int v1_L52)]) hx hb dMd_giveNames_75 rfl hl (by decide) rfl (fun ls hl => ?_)
        refine lv_iinc (k := 2) (v := (v1_L52 + 1)) (lv' := [(1, .int (v1_L52 + 1)), (2, .int r72), (0, .ref (bd 0))]) hx hb dMd_giveNames_76 hl rfl rfl (by decide) rfl (fun ls hl => ?_)
        refine lv_goto (tgt := 52) hx hb dMd_giveNames_79 rfl ?_
        exact ih (v1_L52 + 1) mIsName_72 mNameBlock_72 mNameStep_72 mNumbers_72 _ _ _ (lv_sub hl [2, 0] rfl) hP hD hS hw
  refine hlp52 _ ?_ k52 0 mIsName_x22 mNameBlock mNameStep mNumbers _ _ _ (lv_sub hl [1, 0] rfl) hP hD hS hw
  intro v1_x82 mIsName_x82 mNameBlock_x82 mNameStep_x82 mNumbers_x82 ls H locs hl hP hD hS hw
  try dsimp only at hw
  refine lv_iconst (v := 1) hx hb dMd_giveNames_82 (by decide) ?_
  refine lv_istore_n (lv' := [(1, .int 1), (0, .ref (bd 0))]) hx hb dMd_giveNames_83 rfl hl (by decide) rfl (fun ls hl => ?_)
  refine lv_aload_n hx hb dMd_giveNames_84 rfl (lv_at hl 1 rfl) ?_
  refine va_get (D := D) (ci := 7) (v := .ref (bd 28)) (C := "OnceNamedModel") (T := TX7) (N := 34) hx hb hts (fun w h => List.mem_cons_of_mem _ (inX7 w h)) hown hK hP 0 rfl rfl 31 (by decide) (hts _ (List.mem_cons_of_mem _ kw_1016)) (fun _ h9 => h9) rfl dMd_giveNames_85 ?_
  refine lv_iconst (v := 0) hx hb dMd_giveNames_88 (by decide) ?_
  refine lv_aload_n hx hb dMd_giveNames_89 rfl (lv_at hl 1 rfl) ?_
  refine va_get (D := D) (ci := 7) (v := .int (nI N)) (C := "OnceNamedModel") (T := TX7) (N := 34) hx hb hts (fun w h => List.mem_cons_of_mem _ (inX7 w h)) hown hK hP 0 rfl rfl 1 (by decide) (hts _ (List.mem_cons_of_mem _ kw_986)) (fun _ h9 => h9) rfl dMd_giveNames_90 ?_
  have ho := hw.1
  have hw := hw.2
  refine va_iast hx hb hK hP hD hS 12 0 rfl rfl ho dMd_giveNames_93 (fun H locs hP hD hS => ?_)
  have hP : va_P D vwCl (wdMd_giveNames cA cB bd N mThrown mReached mForm mSlot mOver mMany mKinds mVs mDominators mMeets mSet_x50 mGone_x50 mIsName_x82 mNameBlock_x82 mNameStep_x82 mNumbers_x82 (upd mOpen (Int32.toNatClampNeg 0) (nI N))) H := hP
  have hD : va_D A (wdMd_giveNames cA cB bd N mThrown mReached mForm mSlot mOver mMany mKinds mVs mDominators mMeets mSet_x50 mGone_x50 mIsName_x82 mNameBlock_x82 mNameStep_x82 mNumbers_x82 (upd mOpen (Int32.toNatClampNeg 0) (nI N))) := hD
  obtain ⟨k94, hw⟩ := hw
  have hlp94 : ∀ (k : Nat), ∀ (v1_L94 : Int32) (mMeets_L94 : Nat → Int32) (mSet_L94 : Nat → Int32) (mIsName_L94 : Nat → Bool) (mNameBlock_L94 : Nat → Int32) (mNameStep_L94 : Nat → Int32) (mNumbers_L94 : Nat → Int32) (mOpen_L94 : Nat → Int32) (ls : Array Slot) (H : Heap) (locs : List Loc), lv_has ls 4 [(0, .ref (bd 0)), (1, .int v1_L94)] → va_P D vwCl (wdMd_giveNames cA cB bd N mThrown mReached mForm mSlot mOver mMany mKinds mVs mDominators mMeets_L94 mSet_L94 mGone_x50 mIsName_L94 mNameBlock_L94 mNameStep_L94 mNumbers_L94 mOpen_L94) H → va_D A (wdMd_giveNames cA cB bd N mThrown mReached mForm mSlot mOver mMany mKinds mVs mDominators mMeets_L94 mSet_L94 mGone_x50 mIsName_L94 mNameBlock_L94 mNameStep_L94 mNumbers_L94 mOpen_L94) → va_S A s.heap H locs → lpMd_giveNames_94 N mReached mMany mKinds mVs mDominators mGone_x50 post k v1_L94 mMeets_L94 mSet_L94 mIsName_L94 mNameBlock_L94 mNameStep_L94 mNumbers_L94 mOpen_L94 → W p l e (headSpec (Cond.code yMd_giveNames cMd_giveNames 4 none :: xW) rmMd_giveNames).room s m ([.ref (bd 0)] : List Value).toArray below meth c H locs 0 0 Q (F0 m 94 ls []) := by
    intro k
    induction k with
    | zero => intro v1_L94 mMeets_L94 mSet_L94 mIsName_L94 mNameBlock_L94 mNameStep_L94 mNumbers_L94 mOpen_L94 ls H locs hl hP hD hS hw; exact False.elim hw
    | succ k ih =>
      intro v1_L94 mMeets_L94 mSet_L94 mIsName_L94 mNameBlock_L94 mNameStep_L94 mNumbers_L94 mOpen_L94 ls H locs hl hP hD hS hw
      refine lv_iload_n hx hb dMd_giveNames_94 rfl (lv_at hl 1 rfl) ?_
      refine lv_if_le (tgt := 172) hx hb dMd_giveNames_95 rfl (fun hc => ?_) (fun hc => ?_)
      · have hw := hw.1 hc
        exact hend mMeets_L94 mSet_L94 mGone_x50 mIsName_L94 mNameBlock_L94 mNameStep_L94 mNumbers_L94 mOpen_L94 _ _ _ _ dMd_giveNames_172 hP hD hS hw
      · have hw := hw.2 hc
        refine lv_iinc (k := 1) (v := (v1_L94 + (-1))) (lv' := [(1, .int (v1_L94 + (-1))), (0, .ref (bd 0))]) hx hb dMd_giveNames_98 hl rfl rfl (by decide) rfl (fun ls hl => ?_)
        refine lv_aload_n hx hb dMd_giveNames_101 rfl (lv_at hl 1 rfl) ?_
        refine va_get (D := D) (ci := 7) (v := .ref (bd 28)) (C := "OnceNamedModel") (T := TX7) (N := 34) hx hb hts (fun w h => List.mem_cons_of_mem _ (inX7 w h)) hown hK hP 0 rfl rfl 31 (by decide) (hts _ (List.mem_cons_of_mem _ kw_1016)) (fun _ h9 => h9) rfl dMd_giveNames_102 ?_
        refine lv_iload_n hx hb dMd_giveNames_105 rfl (lv_at hl 0 rfl) ?_
        have ho := hw.1
        have hw := hw.2
        refine va_iald hx hb hK hP 12 0 rfl rfl ho dMd_giveNames_106 ?_
        refine lv_topi (fun v2_107 e_v2_107 => ?_)
        have hw := hw v2_107 e_v2_107
        refine lv_istore_n (lv' := [(2, .int v2_107), (1, .int (v1_L94 + (-1))), (0, .ref (bd 0))]) hx hb dMd_giveNames_107 rfl hl (by decide) rfl (fun ls hl => ?_)
        refine lv_iload_n hx hb dMd_giveNames_108 rfl (lv_at hl 0 rfl) ?_
        refine lv_aload_n hx hb dMd_giveNames_109 rfl (lv_at hl 2 rfl) ?_
        refine va_get (D := D) (ci := 7) (v := .int (nI N)) (C := "OnceNamedModel") (T := TX7) (N := 34) hx hb hts (fun w h => List.mem_cons_of_mem _ (inX7 w h)) hown hK hP 0 rfl rfl 1 (by decide) (hts _ (List.mem_cons_of_mem _ kw_986)) (fun _ h9 => h9) rfl dMd_giveNames_110 ?_
        obtain ⟨J121, hJ121, hw⟩ := hw
        have hj121 : ∀ (mMeets_j121 : Nat → Int32) (mSet_j121 : Nat → Int32) (mIsName_j121 : Nat → Bool) (mNameBlock_j121 : Nat → Int32) (mNameStep_j121 : Nat → Int32) (mNumbers_j121 : Nat → Int32) (ls : Array Slot) (H : Heap) (locs : List Loc), lv_has ls 4 [(0, .ref (bd 0)), (1, .int (v1_L94 + (-1))), (2, .int v2_107)] → va_P D vwCl (wdMd_giveNames cA cB bd N mThrown mReached mForm mSlot mOver mMany mKinds mVs mDominators mMeets_j121 mSet_j121 mGone_x50 mIsName_j121 mNameBlock_j121 mNameStep_j121 mNumbers_j121 mOpen_L94) H → va_D A (wdMd_giveNames cA cB bd N mThrown mReached mForm mSlot mOver mMany mKinds mVs mDominators mMeets_j121 mSet_j121 mGone_x50 mIsName_j121 mNameBlock_j121 mNameStep_j121 mNumbers_j121 mOpen_L94) → va_S A s.heap H locs → J121 mMeets_j121 mSet_j121 mIsName_j121 mNameBlock_j121 mNameStep_j121 mNumbers_j121 → W p l e (headSpec (Cond.code yMd_giveNames cMd_giveNames 4 none :: xW) rmMd_giveNames).room s m ([.ref (bd 0)] : List Value).toArray below meth c H locs 0 0 Q (F0 m 121 ls []) := by
          intro mMeets_j121 mSet_j121 mIsName_j121 mNameBlock_j121 mNameStep_j121 mNumbers_j121 ls H locs hl hP hD hS hw
          have hw := hJ121 mMeets_j121 mSet_j121 mIsName_j121 mNameBlock_j121 mNameStep_j121 mNumbers_j121 hw
          refine lv_aload_n hx hb dMd_giveNames_121 rfl (lv_at hl 0 rfl) ?_
          refine va_get (D := D) (ci := 7) (v := .int (nI N)) (C := "OnceNamedModel") (T := TX7) (N := 34) hx hb hts (fun w h => List.mem_cons_of_mem _ (inX7 w h)) hown hK hP 0 rfl rfl 1 (by decide) (hts _ (List.mem_cons_of_mem _ kw_986)) (fun _ h9 => h9) rfl dMd_giveNames_122 ?_
          refine lv_iconst (v := 1) hx hb dMd_giveNames_125 (by decide) ?_
          refine lv_isub hx hb dMd_giveNames_126 ?_
          refine lv_topi (fun v3_127 e_v3_127 => ?_)
          have hw := hw v3_127 e_v3_127
          refine lv_istore_n (lv' := [(3, .int v3_127), (0, .ref (bd 0)), (1, .int (v1_L94 + (-1))), (2, .int v2_107)]) hx hb dMd_giveNames_127 rfl hl (by decide) rfl (fun ls hl => ?_)
          obtain ⟨k128, hw⟩ := hw
          have hlp128 : ∀ (K169 : Int32 → Int32 → (Nat → Int32) → Prop), (∀ (v1_x169 : Int32) (v3_x169 : Int32) (mOpen_x169 : Nat → Int32) (ls : Array Slot) (H : Heap) (locs : List Loc), lv_has ls 4 [(0, .ref (bd 0)), (1, .int v1_x169), (2, .int v2_107), (3, .int v3_x169)] → va_P D vwCl (wdMd_giveNames cA cB bd N mThrown mReached mForm mSlot mOver mMany mKinds mVs mDominators mMeets_j121 mSet_j121 mGone_x50 mIsName_j121 mNameBlock_j121 mNameStep_j121 mNumbers_j121 mOpen_x169) H → va_D A (wdMd_giveNames cA cB bd N mThrown mReached mForm mSlot mOver mMany mKinds mVs mDominators mMeets_j121 mSet_j121 mGone_x50 mIsName_j121 mNameBlock_j121 mNameStep_j121 mNumbers_j121 mOpen_x169) → va_S A s.heap H locs → K169 v1_x169 v3_x169 mOpen_x169 → W p l e (headSpec (Cond.code yMd_giveNames cMd_giveNames 4 none :: xW) rmMd_giveNames).room s m ([.ref (bd 0)] : List Value).toArray below meth c H locs 0 0 Q (F0 m 169 ls [])) → ∀ (k : Nat), ∀ (v1_L128 : Int32) (v3_L128 : Int32) (mOpen_L128 : Nat → Int32) (ls : Array Slot) (H : Heap) (locs : List Loc), lv_has ls 4 [(0, .ref (bd 0)), (1, .int v1_L128), (2, .int v2_107), (3, .int v3_L128)] → va_P D vwCl (wdMd_giveNames cA cB bd N mThrown mReached mForm mSlot mOver mMany mKinds mVs mDominators mMeets_j121 mSet_j121 mGone_x50 mIsName_j121 mNameBlock_j121 mNameStep_j121 mNumbers_j121 mOpen_L128) H → va_D A (wdMd_giveNames cA cB bd N mThrown mReached mForm mSlot mOver mMany mKinds mVs mDominators mMeets_j121 mSet_j121 mGone_x50 mIsName_j121 mNameBlock_j121 mNameStep_j121 mNumbers_j121 mOpen_L128) → va_S A s.heap H locs → lpMd_giveNames_128 N v2_107 mReached mDominators K169 k v1_L128 v3_L128 mOpen_L128 → W p l e (headSpec (Cond.code yMd_giveNames cMd_giveNames 4 none :: xW) rmMd_giveNames).room s m ([.ref (bd 0)] : List Value).toArray below meth c H locs 0 0 Q (F0 m 128 ls []) := by
            intro K169 hK169 k
            induction k with
            | zero => intro v1_L128 v3_L128 mOpen_L128 ls H locs hl hP hD hS hw; exact False.elim hw
            | succ k ih =>
              intro v1_L128 v3_L128 mOpen_L128 ls H locs hl hP hD hS hw
              refine lv_iload_n hx hb dMd_giveNames_128 rfl (lv_at hl 3 rfl) ?_
              refine lv_if_lt (tgt := 169) hx hb dMd_giveNames_129 rfl (fun hc => ?_) (fun hc => ?_)
              · have hw := hw.1 hc
                exact hK169 v1_L128 v3_L128 mOpen_L128 _ _ _ (lv_sub hl [0, 1, 2, 3] rfl) hP hD hS hw
              · have hw := hw.2 hc
                refine lv_aload_n hx hb dMd_giveNames_132 rfl (lv_at hl 0 rfl) ?_
                refine lv_aload_n hx hb dMd_giveNames_133 rfl (lv_at hl 0 rfl) ?_
                refine va_get (D := D) (ci := 7) (v := .int mReached) (C := "OnceNamedModel") (T := TX7) (N := 34) hx hb hts (fun w h => List.mem_cons_of_mem _ (inX7 w h)) hown hK hP 0 rfl rfl 12 (by decide) (hts _ (List.mem_cons_of_mem _ kw_997)) (fun _ h9 => h9) rfl dMd_giveNames_134 ?_
                refine lv_iload_n hx hb dMd_giveNames_137 rfl (lv_at hl 3 rfl) ?_
                refine xci (va_runV ⟨hx, hb, hml, hown, hts⟩ (ktMd_has l D cA cB bd N _ mReached v3_L128 _ hw) (cwV 2 hts (goodV kw_1133 kw_1135 ks_4_0 kw_11 kw_1136) rfl rfl rfl (by decide +kernel) ⟨Nat.le_of_ble_eq_true rfl, Nat.le_of_ble_eq_true rfl⟩) (xpreV hK hP hD hN [] rfl rfl 0 rfl rfl) rfl rfl hl.1 rfl (lv_room (Nat.le_of_ble_eq_true rfl)) dMd_giveNames_138 ⟨Nat.le_of_ble_eq_true rfl, Nat.le_of_ble_eq_true rfl⟩) hP hD hS hA [] [0, 1, 2, 3, 4, 5, 6, 7, 8, 9, 10, 11, 12] rfl rfl rfl rfl [0, 1, 2, 3, 4, 5, 6, 7, 8, 9, 10, 11, 12] rfl (fun _ => rfl) (fun r138 u H locs hw hP hD hS => ?_)
                obtain ⟨r138, rfl, hw⟩ := hw
                have hP : va_P D vwCl (wdMd_giveNames cA cB bd N mThrown mReached mForm mSlot mOver mMany mKinds mVs mDominators mMeets_j121 mSet_j121 mGone_x50 mIsName_j121 mNameBlock_j121 mNameStep_j121 mNumbers_j121 mOpen_L128) H := hP
                have hD : va_D A (wdMd_giveNames cA cB bd N mThrown mReached mForm mSlot mOver mMany mKinds mVs mDominators mMeets_j121 mSet_j121 mGone_x50 mIsName_j121 mNameBlock_j121 mNameStep_j121 mNumbers_j121 mOpen_L128) := hD
                refine lv_if_eq (tgt := 163) hx hb dMd_giveNames_141 rfl (fun hc => ?_) (fun hc => ?_)
                · have hw := hw.1 (bI_0 hc)
                  refine lv_iinc (k := 3) (v := (v3_L128 + (-1))) (lv' := [(3, .int (v3_L128 + (-1))), (0, .ref (bd 0)), (1, .int v1_L128), (2, .int v2_107)]) hx hb dMd_giveNames_163 hl rfl rfl (by decide) rfl (fun ls hl => ?_)
                  refine lv_goto (tgt := 128) hx hb dMd_giveNames_166 rfl ?_
                  exact ih v1_L128 (v3_L128 + (-1)) mOpen_L128 _ _ _ (lv_sub hl [1, 2, 3, 0] rfl) hP hD hS hw
                · have hw := hw.2 (bI_1 hc)
                  refine lv_aload_n hx hb dMd_giveNames_144 rfl (lv_at hl 0 rfl) ?_
                  refine lv_iload_n hx hb dMd_giveNames_145 rfl (lv_at hl 3 rfl) ?_
                  refine xci (va_runV ⟨hx, hb, hml, hown, hts⟩ (ktMd_parentOf l D cA cB bd N _ mThrown mReached mForm mSlot mOver mDominators v3_L128 _ hw) (cwV 1 hts (goodV kw_1137 kw_1139 ks_4_1 kw_11 kw_1140) rfl rfl rfl (by decide +kernel) ⟨Nat.le_of_ble_eq_true rfl, Nat.le_of_ble_eq_true rfl⟩) (xpreV hK hP hD hN [0, 4] rfl rfl 0 rfl rfl) rfl rfl hl.1 rfl (lv_room (Nat.le_of_ble_eq_true rfl)) dMd_giveNames_146 ⟨Nat.le_of_ble_eq_true rfl, Nat.le_of_ble_eq_true rfl⟩) hP hD hS hA [0, 4] [1, 2, 3, 5, 6, 7, 8, 9, 10, 11, 12] rfl rfl rfl rfl [11, 0, 1, 2, 12, 3, 4, 5, 6, 7, 8, 9, 10] rfl (fun _ => rfl) (fun r146 u H locs hw hP hD hS => ?_)
                  have hP : va_P D vwCl (wdMd_giveNames cA cB bd N mThrown mReached mForm mSlot mOver mMany mKinds mVs mDominators mMeets_j121 mSet_j121 mGone_x50 mIsName_j121 mNameBlock_j121 mNameStep_j121 mNumbers_j121 mOpen_L128) H := hP
                  have hD : va_D A (wdMd_giveNames cA cB bd N mThrown mReached mForm mSlot mOver mMany mKinds mVs mDominators mMeets_j121 mSet_j121 mGone_x50 mIsName_j121 mNameBlock_j121 mNameStep_j121 mNumbers_j121 mOpen_L128) := hD
                  refine lv_iload_n hx hb dMd_giveNames_149 rfl (lv_at hl 2 rfl) ?_
                  refine lv_icmp_ne (tgt := 163) hx hb dMd_giveNames_150 rfl (fun hc => ?_) (fun hc => ?_)
                  · have hw := hw.1 hc
                    refine lv_iinc (k := 3) (v := (v3_L128 + (-1))) (lv' := [(3, .int (v3_L128 + (-1))), (0, .ref (bd 0)), (1, .int v1_L128), (2, .int v2_107)]) hx hb dMd_giveNames_163 hl rfl rfl (by decide) rfl (fun ls hl => ?_)
                    refine lv_goto (tgt := 128) hx hb dMd_giveNames_166 rfl ?_
                    exact ih v1_L128 (v3_L128 + (-1)) mOpen_L128 _ _ _ (lv_sub hl [1, 2, 3, 0] rfl) hP hD hS hw
                  · have hw := hw.2 hc
                    refine lv_aload_n hx hb dMd_giveNames_153 rfl (lv_at hl 0 rfl) ?_
                    refine va_get (D := D) (ci := 7) (v := .ref (bd 28)) (C := "OnceNamedModel") (T := TX7) (N := 34) hx hb hts (fun w h => List.mem_cons_of_mem _ (inX7 w h)) hown hK hP 0 rfl rfl 31 (by decide) (hts _ (List.mem_cons_of_mem _ kw_1016)) (fun _ h9 => h9) rfl dMd_giveNames_154 ?_
                    refine lv_iload_n hx hb dMd_giveNames_157 rfl (lv_at hl 1 rfl) ?_
                    refine lv_iload_n hx hb dMd_giveNames_158 rfl (lv_at hl 3 rfl) ?_
                    have ho := hw.1
                    have hw := hw.2
                    refine va_iast hx hb hK hP hD hS 12 0 rfl rfl ho dMd_giveNames_159 (fun H locs hP hD hS => ?_)
                    have hP : va_P D vwCl (wdMd_giveNames cA cB bd N mThrown mReached mForm mSlot mOver mMany mKinds mVs mDominators mMeets_j121 mSet_j121 mGone_x50 mIsName_j121 mNameBlock_j121 mNameStep_j121 mNumbers_j121 (upd mOpen_L128 (Int32.toNatClampNeg v1_L128) v3_L128)) H := hP
                    have hD : va_D A (wdMd_giveNames cA cB bd N mThrown mReached mForm mSlot mOver mMany mKinds mVs mDominators mMeets_j121 mSet_j121 mGone_x50 mIsName_j121 mNameBlock_j121 mNameStep_j121 mNumbers_j121 (upd mOpen_L128 (Int32.toNatClampNeg v1_L128) v3_L128)) := hD
                    refine lv_iinc (k := 1) (v := (v1_L128 + 1)) (lv' := [(1, .int (v1_L128 + 1)), (0, .ref (bd 0)), (2, .int v2_107), (3, .int v3_L128)]) hx hb dMd_giveNames_160 hl rfl rfl (by decide) rfl (fun ls hl => ?_)
                    refine lv_iinc (k := 3) (v := (v3_L128 + (-1))) (lv' := [(3, .int (v3_L128 + (-1))), (1, .int (v1_L128 + 1)), (0, .ref (bd 0)), (2, .int v2_107)]) hx hb dMd_giveNames_163 hl rfl rfl (by decide) rfl (fun ls hl => ?_)
                    refine lv_goto (tgt := 128) hx hb dMd_giveNames_166 rfl ?_
                    exact ih (v1_L128 + 1) (v3_L128 + (-1)) (upd mOpen_L128 (Int32.toNatClampNeg v1_L128) v3_L128) _ _ _ (lv_sub hl [2, 1, 3, 0] rfl) hP hD hS hw
          refine hlp128 _ ?_ k128 (v1_L94 + (-1)) v3_127 mOpen_L94 _ _ _ (lv_sub hl [1, 2, 3, 0] rfl) hP hD hS hw
          intro v1_x169 v3_x169 mOpen_x169 ls H locs hl hP hD hS hw
          try dsimp only at hw
          refine lv_goto (tgt := 94) hx hb dMd_giveNames_169 rfl ?_
          exact ih v1_x169 mMeets_j121 mSet_j121 mIsName_j121 mNameBlock_j121 mNameStep_j121 mNumbers_j121 mOpen_x169 _ _ _ (lv_sub hl [0, 1] rfl) hP hD hS hw
        refine lv_icmp_ge (tgt := 121) hx hb dMd_giveNames_113 rfl (fun hc => ?_) (fun hc => ?_)
        · have hw := hw.1 hc
          exact hj121 mMeets_L94 mSet_L94 mIsName_L94 mNameBlock_L94 mNameStep_L94 mNumbers_L94 _ _ _ (lv_sub hl [2, 1, 0] rfl) hP hD hS hw
        · have hw := hw.2 hc
          refine lv_aload_n hx hb dMd_giveNames_116 rfl (lv_at hl 2 rfl) ?_
          refine lv_iload_n hx hb dMd_giveNames_117 rfl (lv_at hl 0 rfl) ?_
          refine xcv (va_runV ⟨hx, hb, hml, hown, hts⟩ (ktMd_nameBlockOf l D cA cB bd N _ mThrown mReached mForm mSlot mOver mMany mKinds mVs mMeets_L94 mSet_L94 mIsName_L94 mNameBlock_L94 mNameStep_L94 mNumbers_L94 v2_107 _ hw) (cwV 1 hts (goodV kw_1185 kw_1187 ks_4_10 kw_11 kw_1188) rfl rfl rfl (by decide +kernel) ⟨Nat.le_of_ble_eq_true rfl, Nat.le_of_ble_eq_true rfl⟩) (xpreV hK hP hD hN [0, 1, 2, 3, 5, 6, 8, 9, 10, 11] rfl rfl 0 rfl rfl) rfl rfl hl.1 rfl (lv_room (Nat.le_of_ble_eq_true rfl)) dMd_giveNames_118 ⟨Nat.le_of_ble_eq_true rfl, Nat.le_of_ble_eq_true rfl⟩) hP hD hS hA [0, 1, 2, 3, 5, 6, 8, 9, 10, 11] [4, 7, 12] rfl rfl rfl rfl [3, 4, 5, 6, 0, 7, 8, 1, 9, 10, 11, 12, 2] rfl (fun _ => rfl) (fun u H locs hw hP hD hS => ?_)
          obtain ⟨mMeets_118, mSet_118, mIsName_118, mNameBlock_118, mNameStep_118, mNumbers_118⟩ := u
          try dsimp only at hw
          have hP : va_P D vwCl (wdMd_giveNames cA cB bd N mThrown mReached mForm mSlot mOver mMany mKinds mVs mDominators mMeets_118 mSet_118 mGone_x50 mIsName_118 mNameBlock_118 mNameStep_118 mNumbers_118 mOpen_L94) H := hP
          have hD : va_D A (wdMd_giveNames cA cB bd N mThrown mReached mForm mSlot mOver mMany mKinds mVs mDominators mMeets_118 mSet_118 mGone_x50 mIsName_118 mNameBlock_118 mNameStep_118 mNumbers_118 mOpen_L94) := hD
          exact hj121 mMeets_118 mSet_118 mIsName_118 mNameBlock_118 mNameStep_118 mNumbers_118 _ _ _ (lv_sub hl [2, 1, 0] rfl) hP hD hS hw
  refine hlp94 k94 1 mMeets mSet_x50 mIsName_x82 mNameBlock_x82 mNameStep_x82 mNumbers_x82 (upd mOpen (Int32.toNatClampNeg 0) (nI N)) _ _ _ (lv_sub hl [1, 0] rfl) hP hD hS hw
abbrev wdMd_latest (cA : ClassId) (cB : ClassId) (bd : Nat → Nat) (N : Nat) (mThrown : Int32) (mReached : Int32) (mForm : Bool) (mSlot : Int32) (mOver : Bool) (mMany : Nat → Int32) (mKinds : Nat → Int32) (mVs : Nat → Int32) (mDominators : Nat → Int32) (mMeets : Nat → Int32) (mSet : Nat → Int32) : va_W := [((bd 0), .inr (7, [.int mThrown, .int (nI N), .ref (bd 1), .ref (bd 2), .ref (bd 3), .ref (bd 4), .ref (bd 5), .ref (bd 6), .ref (bd 7), .ref (bd 8), .ref (bd 9), .ref (bd 10), .int mReached, .ref (bd 11), .int (bI mForm), .ref (bd 12), .ref (bd 13), .ref (bd 14), .ref (bd 15), .ref (bd 16), .ref (bd 17), .ref (bd 18), .ref (bd 19), .ref (bd 20), .ref (bd 21), .ref (bd 22), .ref (bd 23), .ref (bd 24), .ref (bd 25), .ref (bd 26), .ref (bd 27), .ref (bd 28), .int mSlot, .int (bI mOver)])), ((bd 1), .inl (cA, 12, .inl mMany)), ((bd 2), .inl (cA, 72, .inl mKinds)), ((bd 3), .inl (cA, 72, .inl mVs)), ((bd 11), .inl (cA, 12, .inl mDominators)), ((bd 12), .inl (cA, 72, .inl mMeets)), ((bd 14), .inl (cA, 72, .inl mSet))]
abbrev qcMd_latest (D : va_G) (cA : ClassId) (cB : ClassId) (bd : Nat → Nat) (N : Nat) (mThrown : Int32) (mReached : Int32) (mForm : Bool) (mSlot : Int32) (mOver : Bool) (mMany : Nat → Int32) (mKinds : Nat → Int32) (mVs : Nat → Int32) (mDominators : Nat → Int32) (mMeets : Nat → Int32) (mSet : Nat → Int32) (post : Int32 → Prop) (A : Nat → Prop) : Array Value → State → Outcome → State → Prop := va_Qi (S := Unit) (fun r u => post r ) (fun u t => xB D [(cA, .int), (cB, .boolean)] A (wdMd_latest cA cB bd N mThrown mReached mForm mSlot mOver mMany mKinds mVs mDominators mMeets mSet) t) A
abbrev rmMd_latest : Room := { frames := 2, cells := 0, slots := 0, locals := 47 }
set_option maxHeartbeats 4000000 in
set_option maxRecDepth 100000 in
theorem ktMd_latest (l : Launch) (D : va_G) (cA : ClassId) (cB : ClassId) (bd : Nat → Nat) (N : Nat) (sz : Nat) (mThrown : Int32) (mReached : Int32) (mForm : Bool) (mSlot : Int32) (mOver : Bool) (mMany : Nat → Int32) (mKinds : Nat → Int32) (mVs : Nat → Int32) (mDominators : Nat → Int32) (mMeets : Nat → Int32) (mSet : Nat → Int32) (v1 : Int32) (v2 : Int32) (v3 : Int32) (post : Int32 → Prop) (hw : wpMd_latest N mMany mKinds mVs mDominators mMeets mSet v1 v2 v3 post) : Met l yMd_latest (Cond.code yMd_latest cMd_latest 7 (some .int) :: xW) rmMd_latest (va_Pc [.ref (bd 0), .int v1, .int v2, .int v3] (xPc D [(cA, .int), (cB, .boolean)] (wdMd_latest cA cB bd N mThrown mReached mForm mSlot mOver mMany mKinds mVs mDominators mMeets mSet) sz)) (qcMd_latest D cA cB bd N mThrown mReached mForm mSlot mOver mMany mKinds mVs mDominators mMeets mSet post (va_A (wdMd_latest cA cB bd N mThrown mReached mForm mSlot mOver mMany mKinds mVs mDominators mMeets mSet) sz)) 0 0 (va_A (wdMd_latest cA cB bd N mThrown mReached mForm mSlot mOver mMany mKinds mVs mDominators mMeets mSet) sz) := by
  refine Met.ofW (cc := cMd_latest) (maxL := 7) (ret := (some .int)) (by decide) rfl ?_
  intro p e s m args below meth c s₁ B hml hv
  obtain ⟨rfl, hsz, hP, hK, hD0, hN⟩ := hv
  have hx := B.exec
  have hb := B.bytes
  have hr := B.returns
  have hts := atoms_spec (ws := (Cond.code yMd_latest cMd_latest 7 (some .int) :: xW)) B.pre
  have hown : s.vm.findClass "OnceNamedModel" = some m.cls := findClass_of_methodNamed B.named
  have hlocks := B.notSynchronized
  subst hsz
  have hD := hD0.self (sz := s.heap.size)
  generalize hAe : va_A (wdMd_latest cA cB bd N mThrown mReached mForm mSlot mOver mMany mKinds mVs mDominators mMeets mSet) s.heap.size = A at hD ⊢
  have hA : ∀ q : Nat, s.heap.size ≤ q → A q := fun q h => by rw [← hAe]; exact Or.inr h
  have hS : va_S A s.heap s.heap [] := va_S.rf
  have hend : ∀ (r : Int32)  (H : Heap) (locs : List Loc) (pc : Nat) (ls : Array Slot), decode cMd_latest pc = .ok (.ireturn, 1) → va_P D vwCl (wdMd_latest cA cB bd N mThrown mReached mForm mSlot mOver mMany mKinds mVs mDominators mMeets mSet) H → va_D A (wdMd_latest cA cB bd N mThrown mReached mForm mSlot mOver mMany mKinds mVs mDominators mMeets mSet) → va_S A s.heap H locs → post r  → W p l e (headSpec (Cond.code yMd_latest cMd_latest 7 (some .int) :: xW) rmMd_latest).room s m ([.ref (bd 0), .int v1, .int v2, .int v3] : List Value).toArray below meth c H locs 0 0 (MQ below (qcMd_latest D cA cB bd N mThrown mReached mForm mSlot mOver mMany mKinds mVs mDominators mMeets mSet post A) ([.ref (bd 0), .int v1, .int v2, .int v3] : List Value).toArray s 0 0 A) (F0 m pc ls [.int r]) := fun r  H locs pc ls hd hP hD hS hw => W.iret (v := r) hx hb hr (fun t ht hW => ⟨⟨r, (), rfl, hw, ⟨by rw [ht]; exact hP, va_K.moved hW.alike hK, hD⟩⟩, hS.F ht⟩) hS.2.2 hd
  generalize hQ : MQ below (qcMd_latest D cA cB bd N mThrown mReached mForm mSlot mOver mMany mKinds mVs mDominators mMeets mSet post A) ([.ref (bd 0), .int v1, .int v2, .int v3] : List Value).toArray s 0 0 A = Q at hend ⊢
  have hl := lv_entry ([.ref (bd 0), .int v1, .int v2, .int v3]) (n := 7) (Nat.le_of_ble_eq_true rfl)
  rw [lg_entry_eq]
  generalize (lg_sl ([.ref (bd 0), .int v1, .int v2, .int v3]) ++ List.replicate (7 - (lg_sl ([.ref (bd 0), .int v1, .int v2, .int v3])).length) Slot.unset).toArray = ls at hl ⊢
  have hl : lv_has ls 7 [(0, .ref (bd 0)), (1, .int v1), (2, .int v2), (3, .int v3)] := hl
  unfold wpMd_latest at hw
  refine lv_iload_n hx hb dMd_latest_0 rfl (lv_at hl 2 rfl) ?_
  refine lv_istore (lv' := [(4, .int v2), (0, .ref (bd 0)), (1, .int v1), (2, .int v2), (3, .int v3)]) hx hb dMd_latest_1 hl (by decide) rfl (fun ls hl => ?_)
  refine lv_iload_n hx hb dMd_latest_3 rfl (lv_at hl 4 rfl) ?_
  refine lv_istore (lv' := [(5, .int v3), (4, .int v2), (0, .ref (bd 0)), (1, .int v1), (2, .int v2), (3, .int v3)]) hx hb dMd_latest_4 hl (by decide) rfl (fun ls hl => ?_)
  obtain ⟨k6, hw⟩ := hw
  have hlp6 : ∀ (k : Nat), ∀ (v4_L6 : Int32) (v5_L6 : Int32) (ls : Array Slot) (H : Heap) (locs : List Loc), lv_has ls 7 [(0, .ref (bd 0)), (1, .int v1), (2, .int v2), (3, .int v3), (4, .int v4_L6), (5, .int v5_L6)] → va_P D vwCl (wdMd_latest cA cB bd N mThrown mReached mForm mSlot mOver mMany mKinds mVs mDominators mMeets mSet) H → va_D A (wdMd_latest cA cB bd N mThrown mReached mForm mSlot mOver mMany mKinds mVs mDominators mMeets mSet) → va_S A s.heap H locs → lpMd_latest_6 N v1 mMany mKinds mVs mDominators mMeets mSet post k v4_L6 v5_L6 → W p l e (headSpec (Cond.code yMd_latest cMd_latest 7 (some .int) :: xW) rmMd_latest).room s m ([.ref (bd 0), .int v1, .int v2, .int v3] : List Value).toArray below meth c H locs 0 0 Q (F0 m 6 ls []) := by
    intro k
    induction k with
    | zero => intro v4_L6 v5_L6 ls H locs hl hP hD hS hw; exact False.elim hw
    | succ k ih =>
      intro v4_L6 v5_L6 ls H locs hl hP hD hS hw
      refine lv_iload hx hb dMd_latest_6 (lv_at hl 4 rfl) ?_
      refine lv_aload_n hx hb dMd_latest_8 rfl (lv_at hl 0 rfl) ?_
      refine va_get (D := D) (ci := 7) (v := .int (nI N)) (C := "OnceNamedModel") (T := TX7) (N := 34) hx hb hts (fun w h => List.mem_cons_of_mem _ (inX7 w h)) hown hK hP 0 rfl rfl 1 (by decide) (hts _ (List.mem_cons_of_mem _ kw_986)) (fun _ h9 => h9) rfl dMd_latest_9 ?_
      refine lv_icmp_ge (tgt := 142) hx hb dMd_latest_12 rfl (fun hc => ?_) (fun hc => ?_)
      · have hw := hw.1 hc
        refine lv_bipush (v := 100) hx hb dMd_latest_142 (by decide) ?_
        refine lv_iload_n hx hb dMd_latest_144 rfl (lv_at hl 1 rfl) ?_
        refine lv_imul hx hb dMd_latest_145 ?_
        exact hend (100 * v1) _ _ _ _ dMd_latest_146 hP hD hS hw
      · have hw := hw.2 hc
        refine lv_iload hx hb dMd_latest_15 (lv_at hl 5 rfl) ?_
        refine lv_iconst (v := 1) hx hb dMd_latest_17 (by decide) ?_
        refine lv_isub hx hb dMd_latest_18 ?_
        refine lv_topi (fun v6_19 e_v6_19 => ?_)
        have hw := hw v6_19 e_v6_19
        refine lv_istore (lv' := [(6, .int v6_19), (0, .ref (bd 0)), (1, .int v1), (2, .int v2), (3, .int v3), (4, .int v4_L6), (5, .int v5_L6)]) hx hb dMd_latest_19 hl (by decide) rfl (fun ls hl => ?_)
        obtain ⟨k21, hw⟩ := hw
        have hlp21 : ∀ (K81 : Int32 → Prop), (∀ (v6_x81 : Int32) (ls : Array Slot) (H : Heap) (locs : List Loc), lv_has ls 7 [(0, .ref (bd 0)), (1, .int v1), (2, .int v2), (3, .int v3), (4, .int v4_L6), (5, .int v5_L6), (6, .int v6_x81)] → va_P D vwCl (wdMd_latest cA cB bd N mThrown mReached mForm mSlot mOver mMany mKinds mVs mDominators mMeets mSet) H → va_D A (wdMd_latest cA cB bd N mThrown mReached mForm mSlot mOver mMany mKinds mVs mDominators mMeets mSet) → va_S A s.heap H locs → K81 v6_x81 → W p l e (headSpec (Cond.code yMd_latest cMd_latest 7 (some .int) :: xW) rmMd_latest).room s m ([.ref (bd 0), .int v1, .int v2, .int v3] : List Value).toArray below meth c H locs 0 0 Q (F0 m 81 ls [])) → ∀ (k : Nat), ∀ (v6_L21 : Int32) (ls : Array Slot) (H : Heap) (locs : List Loc), lv_has ls 7 [(0, .ref (bd 0)), (1, .int v1), (2, .int v2), (3, .int v3), (4, .int v4_L6), (5, .int v5_L6), (6, .int v6_L21)] → va_P D vwCl (wdMd_latest cA cB bd N mThrown mReached mForm mSlot mOver mMany mKinds mVs mDominators mMeets mSet) H → va_D A (wdMd_latest cA cB bd N mThrown mReached mForm mSlot mOver mMany mKinds mVs mDominators mMeets mSet) → va_S A s.heap H locs → lpMd_latest_21 v1 v4_L6 mKinds mVs mSet post K81 k v6_L21 → W p l e (headSpec (Cond.code yMd_latest cMd_latest 7 (some .int) :: xW) rmMd_latest).room s m ([.ref (bd 0), .int v1, .int v2, .int v3] : List Value).toArray below meth c H locs 0 0 Q (F0 m 21 ls []) := by
          intro K81 hK81 k
          induction k with
          | zero => intro v6_L21 ls H locs hl hP hD hS hw; exact False.elim hw
          | succ k ih =>
            intro v6_L21 ls H locs hl hP hD hS hw
            refine lv_iload hx hb dMd_latest_21 (lv_at hl 6 rfl) ?_
            refine lv_if_lt (tgt := 81) hx hb dMd_latest_23 rfl (fun hc => ?_) (fun hc => ?_)
            · have hw := hw.1 hc
              exact hK81 v6_L21 _ _ _ (lv_sub hl [0, 1, 2, 3, 4, 5, 6] rfl) hP hD hS hw
            · have hw := hw.2 hc
              refine lv_aload_n hx hb dMd_latest_26 rfl (lv_at hl 0 rfl) ?_
              refine va_get (D := D) (ci := 7) (v := .ref (bd 2)) (C := "OnceNamedModel") (T := TX7) (N := 34) hx hb hts (fun w h => List.mem_cons_of_mem _ (inX7 w h)) hown hK hP 0 rfl rfl 3 (by decide) (hts _ (List.mem_cons_of_mem _ kw_988)) (fun _ h9 => h9) rfl dMd_latest_27 ?_
              refine lv_bipush (v := 6) hx hb dMd_latest_30 (by decide) ?_
              refine lv_iload hx hb dMd_latest_32 (lv_at hl 4 rfl) ?_
              refine lv_imul hx hb dMd_latest_34 ?_
              refine lv_iload hx hb dMd_latest_35 (lv_at hl 6 rfl) ?_
              refine lv_iadd hx hb dMd_latest_37 ?_
              have ho := hw.1
              have hw := hw.2
              refine va_iald hx hb hK hP 2 0 rfl rfl ho dMd_latest_38 ?_
              refine lv_bipush (v := 7) hx hb dMd_latest_39 (by decide) ?_
              refine lv_icmp_ge (tgt := 75) hx hb dMd_latest_41 rfl (fun hc => ?_) (fun hc => ?_)
              · have hw := hw.1 hc
                refine lv_iinc (k := 6) (v := (v6_L21 + (-1))) (lv' := [(6, .int (v6_L21 + (-1))), (0, .ref (bd 0)), (1, .int v1), (2, .int v2), (3, .int v3), (4, .int v4_L6), (5, .int v5_L6)]) hx hb dMd_latest_75 hl rfl rfl (by decide) rfl (fun ls hl => ?_)
                refine lv_goto (tgt := 21) hx hb dMd_latest_78 rfl ?_
                exact ih (v6_L21 + (-1)) _ _ _ (lv_sub hl [1, 2, 3, 4, 5, 6, 0] rfl) hP hD hS hw
              · have hw := hw.2 hc
                refine lv_aload_n hx hb dMd_latest_44 rfl (lv_at hl 0 rfl) ?_
                refine va_get (D := D) (ci := 7) (v := .ref (bd 3)) (C := "OnceNamedModel") (T := TX7) (N := 34) hx hb hts (fun w h => List.mem_cons_of_mem _ (inX7 w h)) hown hK hP 0 rfl rfl 4 (by decide) (hts _ (List.mem_cons_of_mem _ kw_989)) (fun _ h9 => h9) rfl dMd_latest_45 ?_
                refine lv_bipush (v := 6) hx hb dMd_latest_48 (by decide) ?_
                refine lv_iload hx hb dMd_latest_50 (lv_at hl 4 rfl) ?_
                refine lv_imul hx hb dMd_latest_52 ?_
                refine lv_iload hx hb dMd_latest_53 (lv_at hl 6 rfl) ?_
                refine lv_iadd hx hb dMd_latest_55 ?_
                have ho := hw.1
                have hw := hw.2
                refine va_iald hx hb hK hP 3 0 rfl rfl ho dMd_latest_56 ?_
                refine lv_iload_n hx hb dMd_latest_57 rfl (lv_at hl 1 rfl) ?_
                refine lv_icmp_ne (tgt := 75) hx hb dMd_latest_58 rfl (fun hc => ?_) (fun hc => ?_)
                · have hw := hw.1 hc
                  refine lv_iinc (k := 6) (v := (v6_L21 + (-1))) (lv' := [(6, .int (v6_L21 + (-1))), (0, .ref (bd 0)), (1, .int v1), (2, .int v2), (3, .int v3), (4, .int v4_L6), (5, .int v5_L6)]) hx hb dMd_latest_75 hl rfl rfl (by decide) rfl (fun ls hl => ?_)
                  refine lv_goto (tgt := 21) hx hb dMd_latest_78 rfl ?_
                  exact ih (v6_L21 + (-1)) _ _ _ (lv_sub hl [1, 2, 3, 4, 5, 6, 0] rfl) hP hD hS hw
                · have hw := hw.2 hc
                  refine lv_aload_n hx hb dMd_latest_61 rfl (lv_at hl 0 rfl) ?_
                  refine va_get (D := D) (ci := 7) (v := .ref (bd 14)) (C := "OnceNamedModel") (T := TX7) (N := 34) hx hb hts (fun w h => List.mem_cons_of_mem _ (inX7 w h)) hown hK hP 0 rfl rfl 17 (by decide) (hts _ (List.mem_cons_of_mem _ kw_1002)) (fun _ h9 => h9) rfl dMd_latest_62 ?_
                  refine lv_bipush (v := 6) hx hb dMd_latest_65 (by decide) ?_
                  refine lv_iload hx hb dMd_latest_67 (lv_at hl 4 rfl) ?_
                  refine lv_imul hx hb dMd_latest_69 ?_
                  refine lv_iload hx hb dMd_latest_70 (lv_at hl 6 rfl) ?_
                  refine lv_iadd hx hb dMd_latest_72 ?_
                  have ho := hw.1
                  have hw := hw.2
                  refine va_iald hx hb hK hP 6 0 rfl rfl ho dMd_latest_73 ?_
                  exact hend (mSet (Int32.toNatClampNeg ((6 * v4_L6) + v6_L21))) _ _ _ _ dMd_latest_74 hP hD hS hw
        refine hlp21 _ ?_ k21 v6_19 _ _ _ (lv_sub hl [1, 2, 3, 4, 5, 6, 0] rfl) hP hD hS hw
        intro v6_x81 ls H locs hl hP hD hS hw
        try dsimp only at hw
        refine lv_aload_n hx hb dMd_latest_81 rfl (lv_at hl 0 rfl) ?_
        refine va_get (D := D) (ci := 7) (v := .ref (bd 12)) (C := "OnceNamedModel") (T := TX7) (N := 34) hx hb hts (fun w h => List.mem_cons_of_mem _ (inX7 w h)) hown hK hP 0 rfl rfl 15 (by decide) (hts _ (List.mem_cons_of_mem _ kw_1000)) (fun _ h9 => h9) rfl dMd_latest_82 ?_
        refine lv_bipush (v := 6) hx hb dMd_latest_85 (by decide) ?_
        refine lv_iload hx hb dMd_latest_87 (lv_at hl 4 rfl) ?_
        refine lv_imul hx hb dMd_latest_89 ?_
        refine lv_iload_n hx hb dMd_latest_90 rfl (lv_at hl 1 rfl) ?_
        refine lv_iadd hx hb dMd_latest_91 ?_
        have ho := hw.1
        have hw := hw.2
        refine va_iald hx hb hK hP 5 0 rfl rfl ho dMd_latest_92 ?_
        refine lv_if_lt (tgt := 109) hx hb dMd_latest_93 rfl (fun hc => ?_) (fun hc => ?_)
        · have hw := hw.1 hc
          refine lv_aload_n hx hb dMd_latest_109 rfl (lv_at hl 0 rfl) ?_
          refine lv_iload hx hb dMd_latest_110 (lv_at hl 4 rfl) ?_
          refine xci (va_runV ⟨hx, hb, hml, hown, hts⟩ (ktMd_parentOf l D cA cB bd N _ mThrown mReached mForm mSlot mOver mDominators v4_L6 _ hw) (cwV 1 hts (goodV kw_1137 kw_1139 ks_4_1 kw_11 kw_1140) rfl rfl rfl (by decide +kernel) ⟨Nat.le_of_ble_eq_true rfl, Nat.le_of_ble_eq_true rfl⟩) (xpreV hK hP hD hN [0, 4] rfl rfl 0 rfl rfl) rfl rfl hl.1 rfl (lv_room (Nat.le_of_ble_eq_true rfl)) dMd_latest_112 ⟨Nat.le_of_ble_eq_true rfl, Nat.le_of_ble_eq_true rfl⟩) hP hD hS hA [0, 4] [1, 2, 3, 5, 6] rfl rfl rfl rfl [5, 0, 1, 2, 6, 3, 4] rfl (fun _ => rfl) (fun r112 u H locs hw hP hD hS => ?_)
          have hP : va_P D vwCl (wdMd_latest cA cB bd N mThrown mReached mForm mSlot mOver mMany mKinds mVs mDominators mMeets mSet) H := hP
          have hD : va_D A (wdMd_latest cA cB bd N mThrown mReached mForm mSlot mOver mMany mKinds mVs mDominators mMeets mSet) := hD
          refine lv_istore (lv' := [(4, .int r112), (0, .ref (bd 0)), (1, .int v1), (2, .int v2), (3, .int v3), (5, .int v5_L6), (6, .int v6_x81)]) hx hb dMd_latest_115 hl (by decide) rfl (fun ls hl => ?_)
          refine lv_iload hx hb dMd_latest_117 (lv_at hl 0 rfl) ?_
          refine lv_aload_n hx hb dMd_latest_119 rfl (lv_at hl 1 rfl) ?_
          refine va_get (D := D) (ci := 7) (v := .int (nI N)) (C := "OnceNamedModel") (T := TX7) (N := 34) hx hb hts (fun w h => List.mem_cons_of_mem _ (inX7 w h)) hown hK hP 0 rfl rfl 1 (by decide) (hts _ (List.mem_cons_of_mem _ kw_986)) (fun _ h9 => h9) rfl dMd_latest_120 ?_
          refine lv_icmp_ge (tgt := 136) hx hb dMd_latest_123 rfl (fun hc => ?_) (fun hc => ?_)
          · have hw := hw.1 hc
            refine lv_iconst (v := 0) hx hb dMd_latest_136 (by decide) ?_
            refine lv_istore (lv' := [(5, .int 0), (4, .int r112), (0, .ref (bd 0)), (1, .int v1), (2, .int v2), (3, .int v3), (6, .int v6_x81)]) hx hb dMd_latest_137 hl (by decide) rfl (fun ls hl => ?_)
            refine lv_goto (tgt := 6) hx hb dMd_latest_139 rfl ?_
            exact ih r112 0 _ _ _ (lv_sub hl [2, 3, 4, 5, 1, 0] rfl) hP hD hS hw
          · have hw := hw.2 hc
            refine lv_aload_n hx hb dMd_latest_126 rfl (lv_at hl 1 rfl) ?_
            refine va_get (D := D) (ci := 7) (v := .ref (bd 1)) (C := "OnceNamedModel") (T := TX7) (N := 34) hx hb hts (fun w h => List.mem_cons_of_mem _ (inX7 w h)) hown hK hP 0 rfl rfl 2 (by decide) (hts _ (List.mem_cons_of_mem _ kw_987)) (fun _ h9 => h9) rfl dMd_latest_127 ?_
            refine lv_iload hx hb dMd_latest_130 (lv_at hl 0 rfl) ?_
            have ho := hw.1
            have hw := hw.2
            refine va_iald hx hb hK hP 1 0 rfl rfl ho dMd_latest_132 ?_
            refine lv_goto (tgt := 137) hx hb dMd_latest_133 rfl ?_
            refine lv_topi (fun v5_137 e_v5_137 => ?_)
            have hw := hw v5_137 e_v5_137
            refine lv_istore (lv' := [(5, .int v5_137), (4, .int r112), (0, .ref (bd 0)), (1, .int v1), (2, .int v2), (3, .int v3), (6, .int v6_x81)]) hx hb dMd_latest_137 hl (by decide) rfl (fun ls hl => ?_)
            refine lv_goto (tgt := 6) hx hb dMd_latest_139 rfl ?_
            exact ih r112 v5_137 _ _ _ (lv_sub hl [2, 3, 4, 5, 1, 0] rfl) hP hD hS hw
        · have hw := hw.2 hc
          refine lv_aload_n hx hb dMd_latest_96 rfl (lv_at hl 0 rfl) ?_
          refine va_get (D := D) (ci := 7) (v := .ref (bd 12)) (C := "OnceNamedModel") (T := TX7) (N := 34) hx hb hts (fun w h => List.mem_cons_of_mem _ (inX7 w h)) hown hK hP 0 rfl rfl 15 (by decide) (hts _ (List.mem_cons_of_mem _ kw_1000)) (fun _ h9 => h9) rfl dMd_latest_97 ?_
          refine lv_bipush (v := 6) hx hb dMd_latest_100 (by decide) ?_
          refine lv_iload hx hb dMd_latest_102 (lv_at hl 4 rfl) ?_
          refine lv_imul hx hb dMd_latest_104 ?_
          refine lv_iload_n hx hb dMd_latest_105 rfl (lv_at hl 1 rfl) ?_
          refine lv_iadd hx hb dMd_latest_106 ?_
          have ho := hw.1
          have hw := hw.2
          refine va_iald hx hb hK hP 5 0 rfl rfl ho dMd_latest_107 ?_
          exact hend (mMeets (Int32.toNatClampNeg ((6 * v4_L6) + v1))) _ _ _ _ dMd_latest_108 hP hD hS hw
  refine hlp6 k6 v2 v3 _ _ _ (lv_sub hl [2, 3, 4, 5, 1, 0] rfl) hP hD hS hw
abbrev wdMd_giveUses (cA : ClassId) (cB : ClassId) (bd : Nat → Nat) (N : Nat) (mThrown : Int32) (mReached : Int32) (mForm : Bool) (mSlot : Int32) (mOver : Bool) (mMany : Nat → Int32) (mKinds : Nat → Int32) (mVs : Nat → Int32) (mWs : Nat → Int32) (mXs : Nat → Int32) (mEnds : Nat → Int32) (mEndVariable : Nat → Int32) (mYes : Nat → Int32) (mNo : Nat → Int32) (mDominators : Nat → Int32) (mMeets : Nat → Int32) (mSources : Nat → Int32) (mSet : Nat → Int32) (mUseW : Nat → Int32) (mUseX : Nat → Int32) (mEndUse : Nat → Int32) : va_W := [((bd 0), .inr (7, [.int mThrown, .int (nI N), .ref (bd 1), .ref (bd 2), .ref (bd 3), .ref (bd 4), .ref (bd 5), .ref (bd 6), .ref (bd 7), .ref (bd 8), .ref (bd 9), .ref (bd 10), .int mReached, .ref (bd 11), .int (bI mForm), .ref (bd 12), .ref (bd 13), .ref (bd 14), .ref (bd 15), .ref (bd 16), .ref (bd 17), .ref (bd 18), .ref (bd 19), .ref (bd 20), .ref (bd 21), .ref (bd 22), .ref (bd 23), .ref (bd 24), .ref (bd 25), .ref (bd 26), .ref (bd 27), .ref (bd 28), .int mSlot, .int (bI mOver)])), ((bd 1), .inl (cA, 12, .inl mMany)), ((bd 2), .inl (cA, 72, .inl mKinds)), ((bd 3), .inl (cA, 72, .inl mVs)), ((bd 4), .inl (cA, 72, .inl mWs)), ((bd 5), .inl (cA, 72, .inl mXs)), ((bd 6), .inl (cA, 12, .inl mEnds)), ((bd 7), .inl (cA, 12, .inl mEndVariable)), ((bd 8), .inl (cA, 12, .inl mYes)), ((bd 9), .inl (cA, 12, .inl mNo)), ((bd 11), .inl (cA, 12, .inl mDominators)), ((bd 12), .inl (cA, 72, .inl mMeets)), ((bd 13), .inl (cA, 936, .inl mSources)), ((bd 14), .inl (cA, 72, .inl mSet)), ((bd 15), .inl (cA, 72, .inl mUseW)), ((bd 16), .inl (cA, 72, .inl mUseX)), ((bd 17), .inl (cA, 12, .inl mEndUse))]
abbrev qcMd_giveUses (D : va_G) (cA : ClassId) (cB : ClassId) (bd : Nat → Nat) (N : Nat) (mThrown : Int32) (mReached : Int32) (mForm : Bool) (mSlot : Int32) (mOver : Bool) (mMany : Nat → Int32) (mKinds : Nat → Int32) (mVs : Nat → Int32) (mWs : Nat → Int32) (mXs : Nat → Int32) (mEnds : Nat → Int32) (mEndVariable : Nat → Int32) (mYes : Nat → Int32) (mNo : Nat → Int32) (mDominators : Nat → Int32) (mMeets : Nat → Int32) (mSources : Nat → Int32) (mSet : Nat → Int32) (mUseW : Nat → Int32) (mUseX : Nat → Int32) (mEndUse : Nat → Int32) (post : (Nat → Int32) → (Nat → Int32) → (Nat → Int32) → (Nat → Int32) → Prop) (A : Nat → Prop) : Array Value → State → Outcome → State → Prop := va_Qv (S := (Nat → Int32) × (Nat → Int32) × (Nat → Int32) × (Nat → Int32)) (fun u => post u.1 u.2.1 u.2.2.1 u.2.2.2) (fun u t => xB D [(cA, .int), (cB, .boolean)] A (wdMd_giveUses cA cB bd N mThrown mReached mForm mSlot mOver mMany mKinds mVs mWs mXs mEnds mEndVariable mYes mNo mDominators mMeets u.1 mSet u.2.1 u.2.2.1 u.2.2.2) t) A
abbrev rmMd_giveUses : Room := { frames := 3, cells := 0, slots := 0, locals := 73 }
set_option maxHeartbeats 4000000 in
set_option maxRecDepth 100000 in
theorem ktMd_giveUses (l : Launch) (D : va_G) (cA : ClassId) (cB : ClassId) (bd : Nat → Nat) (N : Nat) (sz : Nat) (mThrown : Int32) (mReached : Int32) (mForm : Bool) (mSlot : Int32) (mOver : Bool) (mMany : Nat → Int32) (mKinds : Nat → Int32) (mVs : Nat → Int32) (mWs : Nat → Int32) (mXs : Nat → Int32) (mEnds : Nat → Int32) (mEndVariable : Nat → Int32) (mYes : Nat → Int32) (mNo : Nat → Int32) (mDominators : Nat → Int32) (mMeets : Nat → Int32) (mSources : Nat → Int32) (mSet : Nat → Int32) (mUseW : Nat → Int32) (mUseX : Nat → Int32) (mEndUse : Nat → Int32) (v1 : Int32) (post : (Nat → Int32) → (Nat → Int32) → (Nat → Int32) → (Nat → Int32) → Prop) (hw : wpMd_giveUses N mReached mMany mKinds mVs mWs mXs mEnds mEndVariable mYes mNo mDominators mMeets mSources mSet mUseW mUseX mEndUse v1 post) : Met l yMd_giveUses (Cond.code yMd_giveUses cMd_giveUses 5 none :: xW) rmMd_giveUses (va_Pc [.ref (bd 0), .int v1] (xPc D [(cA, .int), (cB, .boolean)] (wdMd_giveUses cA cB bd N mThrown mReached mForm mSlot mOver mMany mKinds mVs mWs mXs mEnds mEndVariable mYes mNo mDominators mMeets mSources mSet mUseW mUseX mEndUse) sz)) (qcMd_giveUses D cA cB bd N mThrown mReached mForm mSlot mOver mMany mKinds mVs mWs mXs mEnds mEndVariable mYes mNo mDominators mMeets mSources mSet mUseW mUseX mEndUse post (va_A (wdMd_giveUses cA cB bd N mThrown mReached mForm mSlot mOver mMany mKinds mVs mWs mXs mEnds mEndVariable mYes mNo mDominators mMeets mSources mSet mUseW mUseX mEndUse) sz)) 0 0 (va_A (wdMd_giveUses cA cB bd N mThrown mReached mForm mSlot mOver mMany mKinds mVs mWs mXs mEnds mEndVariable mYes mNo mDominators mMeets mSources mSet mUseW mUseX mEndUse) sz) := by
  refine Met.ofW (cc := cMd_giveUses) (maxL := 5) (ret := none) (by decide) rfl ?_
  intro p e s m args below meth c s₁ B hml hv
  obtain ⟨rfl, hsz, hP, hK, hD0, hN⟩ := hv
  have hx := B.exec
  have hb := B.bytes
  have hr := B.returns
  have hts := atoms_spec (ws := (Cond.code yMd_giveUses cMd_giveUses 5 none :: xW)) B.pre
  have hown : s.vm.findClass "OnceNamedModel" = some m.cls := findClass_of_methodNamed B.named
  have hlocks := B.notSynchronized
  subst hsz
  have hD := hD0.self (sz := s.heap.size)
  generalize hAe : va_A (wdMd_giveUses cA cB bd N mThrown mReached mForm mSlot mOver mMany mKinds mVs mWs mXs mEnds mEndVariable mYes mNo mDominators mMeets mSources mSet mUseW mUseX mEndUse) s.heap.size = A at hD ⊢
  have hA : ∀ q : Nat, s.heap.size ≤ q → A q := fun q h => by rw [← hAe]; exact Or.inr h
  have hS : va_S A s.heap s.heap [] := va_S.rf
  have hend : ∀ (u0 : Nat → Int32) (u1 : Nat → Int32) (u2 : Nat → Int32) (u3 : Nat → Int32) (H : Heap) (locs : List Loc) (pc : Nat) (ls : Array Slot), decode cMd_giveUses pc = .ok (.return_, 1) → va_P D vwCl (wdMd_giveUses cA cB bd N mThrown mReached mForm mSlot mOver mMany mKinds mVs mWs mXs mEnds mEndVariable mYes mNo mDominators mMeets u0 mSet u1 u2 u3) H → va_D A (wdMd_giveUses cA cB bd N mThrown mReached mForm mSlot mOver mMany mKinds mVs mWs mXs mEnds mEndVariable mYes mNo mDominators mMeets u0 mSet u1 u2 u3) → va_S A s.heap H locs → post u0 u1 u2 u3 → W p l e (headSpec (Cond.code yMd_giveUses cMd_giveUses 5 none :: xW) rmMd_giveUses).room s m ([.ref (bd 0), .int v1] : List Value).toArray below meth c H locs 0 0 (MQ below (qcMd_giveUses D cA cB bd N mThrown mReached mForm mSlot mOver mMany mKinds mVs mWs mXs mEnds mEndVariable mYes mNo mDominators mMeets mSources mSet mUseW mUseX mEndUse post A) ([.ref (bd 0), .int v1] : List Value).toArray s 0 0 A) (F0 m pc ls []) := fun u0 u1 u2 u3 H locs pc ls hd hP hD hS hw => W.vret hx hb hr (fun t ht hW => ⟨⟨(u0, u1, u2, u3), rfl, hw, ⟨by rw [ht]; exact hP, va_K.moved hW.alike hK, hD⟩⟩, hS.F ht⟩) hS.2.2 hd
  generalize hQ : MQ below (qcMd_giveUses D cA cB bd N mThrown mReached mForm mSlot mOver mMany mKinds mVs mWs mXs mEnds mEndVariable mYes mNo mDominators mMeets mSources mSet mUseW mUseX mEndUse post A) ([.ref (bd 0), .int v1] : List Value).toArray s 0 0 A = Q at hend ⊢
  have hl := lv_entry ([.ref (bd 0), .int v1]) (n := 5) (Nat.le_of_ble_eq_true rfl)
  rw [lg_entry_eq]
  generalize (lg_sl ([.ref (bd 0), .int v1]) ++ List.replicate (5 - (lg_sl ([.ref (bd 0), .int v1])).length) Slot.unset).toArray = ls at hl ⊢
  have hl : lv_has ls 5 [(0, .ref (bd 0)), (1, .int v1)] := hl
  unfold wpMd_giveUses at hw
  refine lv_iconst (v := 0) hx hb dMd_giveUses_0 (by decide) ?_
  refine lv_istore_n (lv' := [(2, .int 0), (0, .ref (bd 0)), (1, .int v1)]) hx hb dMd_giveUses_1 rfl hl (by decide) rfl (fun ls hl => ?_)
  obtain ⟨k2, hw⟩ := hw
  have hlp2 : ∀ (K99 : Int32 → (Nat → Int32) → (Nat → Int32) → Prop), (∀ (v2_x99 : Int32) (mUseW_x99 : Nat → Int32) (mUseX_x99 : Nat → Int32) (ls : Array Slot) (H : Heap) (locs : List Loc), lv_has ls 5 [(0, .ref (bd 0)), (1, .int v1), (2, .int v2_x99)] → va_P D vwCl (wdMd_giveUses cA cB bd N mThrown mReached mForm mSlot mOver mMany mKinds mVs mWs mXs mEnds mEndVariable mYes mNo mDominators mMeets mSources mSet mUseW_x99 mUseX_x99 mEndUse) H → va_D A (wdMd_giveUses cA cB bd N mThrown mReached mForm mSlot mOver mMany mKinds mVs mWs mXs mEnds mEndVariable mYes mNo mDominators mMeets mSources mSet mUseW_x99 mUseX_x99 mEndUse) → va_S A s.heap H locs → K99 v2_x99 mUseW_x99 mUseX_x99 → W p l e (headSpec (Cond.code yMd_giveUses cMd_giveUses 5 none :: xW) rmMd_giveUses).room s m ([.ref (bd 0), .int v1] : List Value).toArray below meth c H locs 0 0 Q (F0 m 99 ls [])) → ∀ (k : Nat), ∀ (v2_L2 : Int32) (mUseW_L2 : Nat → Int32) (mUseX_L2 : Nat → Int32) (ls : Array Slot) (H : Heap) (locs : List Loc), lv_has ls 5 [(0, .ref (bd 0)), (1, .int v1), (2, .int v2_L2)] → va_P D vwCl (wdMd_giveUses cA cB bd N mThrown mReached mForm mSlot mOver mMany mKinds mVs mWs mXs mEnds mEndVariable mYes mNo mDominators mMeets mSources mSet mUseW_L2 mUseX_L2 mEndUse) H → va_D A (wdMd_giveUses cA cB bd N mThrown mReached mForm mSlot mOver mMany mKinds mVs mWs mXs mEnds mEndVariable mYes mNo mDominators mMeets mSources mSet mUseW_L2 mUseX_L2 mEndUse) → va_S A s.heap H locs → lpMd_giveUses_2 N v1 mMany mKinds mVs mWs mXs mDominators mMeets mSet K99 k v2_L2 mUseW_L2 mUseX_L2 → W p l e (headSpec (Cond.code yMd_giveUses cMd_giveUses 5 none :: xW) rmMd_giveUses).room s m ([.ref (bd 0), .int v1] : List Value).toArray below meth c H locs 0 0 Q (F0 m 2 ls []) := by
    intro K99 hK99 k
    induction k with
    | zero => intro v2_L2 mUseW_L2 mUseX_L2 ls H locs hl hP hD hS hw; exact False.elim hw
    | succ k ih =>
      intro v2_L2 mUseW_L2 mUseX_L2 ls H locs hl hP hD hS hw
      refine lv_iload_n hx hb dMd_giveUses_2 rfl (lv_at hl 2 rfl) ?_
      refine lv_aload_n hx hb dMd_giveUses_3 rfl (lv_at hl 0 rfl) ?_
      refine va_get (D := D) (ci := 7) (v := .ref (bd 1)) (C := "OnceNamedModel") (T := TX7) (N := 34) hx hb hts (fun w h => List.mem_cons_of_mem _ (inX7 w h)) hown hK hP 0 rfl rfl 2 (by decide) (hts _ (List.mem_cons_of_mem _ kw_987)) (fun _ h9 => h9) rfl dMd_giveUses_4 ?_
      refine lv_iload_n hx hb dMd_giveUses_7 rfl (lv_at hl 1 rfl) ?_
      have ho := hw.1
      have hw := hw.2
      refine va_iald hx hb hK hP 1 0 rfl rfl ho dMd_giveUses_8 ?_
      refine lv_icmp_ge (tgt := 99) hx hb dMd_giveUses_9 rfl (fun hc => ?_) (fun hc => ?_)
      · have hw := hw.1 hc
        exact hK99 v2_L2 mUseW_L2 mUseX_L2 _ _ _ (lv_sub hl [0, 1, 2] rfl) hP hD hS hw
      · have hw := hw.2 hc
        refine lv_bipush (v := 6) hx hb dMd_giveUses_12 (by decide) ?_
        refine lv_iload_n hx hb dMd_giveUses_14 rfl (lv_at hl 1 rfl) ?_
        refine lv_imul hx hb dMd_giveUses_15 ?_
        refine lv_iload_n hx hb dMd_giveUses_16 rfl (lv_at hl 2 rfl) ?_
        refine lv_iadd hx hb dMd_giveUses_17 ?_
        refine lv_topi (fun v3_18 e_v3_18 => ?_)
        have hw := hw v3_18 e_v3_18
        refine lv_istore_n (lv' := [(3, .int v3_18), (0, .ref (bd 0)), (1, .int v1), (2, .int v2_L2)]) hx hb dMd_giveUses_18 rfl hl (by decide) rfl (fun ls hl => ?_)
        refine lv_aload_n hx hb dMd_giveUses_19 rfl (lv_at hl 1 rfl) ?_
        refine va_get (D := D) (ci := 7) (v := .ref (bd 15)) (C := "OnceNamedModel") (T := TX7) (N := 34) hx hb hts (fun w h => List.mem_cons_of_mem _ (inX7 w h)) hown hK hP 0 rfl rfl 18 (by decide) (hts _ (List.mem_cons_of_mem _ kw_1003)) (fun _ h9 => h9) rfl dMd_giveUses_20 ?_
        refine lv_iload_n hx hb dMd_giveUses_23 rfl (lv_at hl 0 rfl) ?_
        refine lv_aload_n hx hb dMd_giveUses_24 rfl (lv_at hl 1 rfl) ?_
        refine va_get (D := D) (ci := 7) (v := .ref (bd 2)) (C := "OnceNamedModel") (T := TX7) (N := 34) hx hb hts (fun w h => List.mem_cons_of_mem _ (inX7 w h)) hown hK hP 0 rfl rfl 3 (by decide) (hts _ (List.mem_cons_of_mem _ kw_988)) (fun _ h9 => h9) rfl dMd_giveUses_25 ?_
        refine lv_iload_n hx hb dMd_giveUses_28 rfl (lv_at hl 0 rfl) ?_
        have ho := hw.1
        have hw := hw.2
        refine va_iald hx hb hK hP 2 0 rfl rfl ho dMd_giveUses_29 ?_
        obtain ⟨J49, hJ49, hw⟩ := hw
        have hj49 : ∀ (t49_0 : Int32) (ls : Array Slot) (H : Heap) (locs : List Loc), lv_has ls 5 [(0, .ref (bd 0)), (1, .int v1), (2, .int v2_L2), (3, .int v3_18)] → va_P D vwCl (wdMd_giveUses cA cB bd N mThrown mReached mForm mSlot mOver mMany mKinds mVs mWs mXs mEnds mEndVariable mYes mNo mDominators mMeets mSources mSet mUseW_L2 mUseX_L2 mEndUse) H → va_D A (wdMd_giveUses cA cB bd N mThrown mReached mForm mSlot mOver mMany mKinds mVs mWs mXs mEnds mEndVariable mYes mNo mDominators mMeets mSources mSet mUseW_L2 mUseX_L2 mEndUse) → va_S A s.heap H locs → J49 t49_0 → W p l e (headSpec (Cond.code yMd_giveUses cMd_giveUses 5 none :: xW) rmMd_giveUses).room s m ([.ref (bd 0), .int v1] : List Value).toArray below meth c H locs 0 0 Q (F0 m 49 ls [.int t49_0, .int v3_18, .ref (bd 15)]) := by
          intro t49_0 ls H locs hl hP hD hS hw
          have hw := hJ49 t49_0 hw
          have ho := hw.1
          have hw := hw.2
          refine va_iast hx hb hK hP hD hS 14 0 rfl rfl ho dMd_giveUses_49 (fun H locs hP hD hS => ?_)
          have hP : va_P D vwCl (wdMd_giveUses cA cB bd N mThrown mReached mForm mSlot mOver mMany mKinds mVs mWs mXs mEnds mEndVariable mYes mNo mDominators mMeets mSources mSet (upd mUseW_L2 (Int32.toNatClampNeg v3_18) t49_0) mUseX_L2 mEndUse) H := hP
          have hD : va_D A (wdMd_giveUses cA cB bd N mThrown mReached mForm mSlot mOver mMany mKinds mVs mWs mXs mEnds mEndVariable mYes mNo mDominators mMeets mSources mSet (upd mUseW_L2 (Int32.toNatClampNeg v3_18) t49_0) mUseX_L2 mEndUse) := hD
          refine lv_aload_n hx hb dMd_giveUses_50 rfl (lv_at hl 0 rfl) ?_
          refine va_get (D := D) (ci := 7) (v := .ref (bd 16)) (C := "OnceNamedModel") (T := TX7) (N := 34) hx hb hts (fun w h => List.mem_cons_of_mem _ (inX7 w h)) hown hK hP 0 rfl rfl 19 (by decide) (hts _ (List.mem_cons_of_mem _ kw_1004)) (fun _ h9 => h9) rfl dMd_giveUses_51 ?_
          refine lv_iload_n hx hb dMd_giveUses_54 rfl (lv_at hl 3 rfl) ?_
          refine lv_aload_n hx hb dMd_giveUses_55 rfl (lv_at hl 0 rfl) ?_
          refine va_get (D := D) (ci := 7) (v := .ref (bd 2)) (C := "OnceNamedModel") (T := TX7) (N := 34) hx hb hts (fun w h => List.mem_cons_of_mem _ (inX7 w h)) hown hK hP 0 rfl rfl 3 (by decide) (hts _ (List.mem_cons_of_mem _ kw_988)) (fun _ h9 => h9) rfl dMd_giveUses_56 ?_
          refine lv_iload_n hx hb dMd_giveUses_59 rfl (lv_at hl 3 rfl) ?_
          have ho := hw.1
          have hw := hw.2
          refine va_iald hx hb hK hP 2 0 rfl rfl ho dMd_giveUses_60 ?_
          refine lv_iconst (v := 1) hx hb dMd_giveUses_61 (by decide) ?_
          refine lv_icmp_le (tgt := 91) hx hb dMd_giveUses_62 rfl (fun hc => ?_) (fun hc => ?_)
          · have hw := hw.1 hc
            refine lv_iconst (v := (-1)) hx hb dMd_giveUses_91 (by decide) ?_
            have ho := hw.1
            have hw := hw.2
            refine va_iast hx hb hK hP hD hS 15 0 rfl rfl ho dMd_giveUses_92 (fun H locs hP hD hS => ?_)
            have hP : va_P D vwCl (wdMd_giveUses cA cB bd N mThrown mReached mForm mSlot mOver mMany mKinds mVs mWs mXs mEnds mEndVariable mYes mNo mDominators mMeets mSources mSet (upd mUseW_L2 (Int32.toNatClampNeg v3_18) t49_0) (upd mUseX_L2 (Int32.toNatClampNeg v3_18) (-1)) mEndUse) H := hP
            have hD : va_D A (wdMd_giveUses cA cB bd N mThrown mReached mForm mSlot mOver mMany mKinds mVs mWs mXs mEnds mEndVariable mYes mNo mDominators mMeets mSources mSet (upd mUseW_L2 (Int32.toNatClampNeg v3_18) t49_0) (upd mUseX_L2 (Int32.toNatClampNeg v3_18) (-1)) mEndUse) := hD
            refine lv_iinc (k := 2) (v := (v2_L2 + 1)) (lv' := [(2, .int (v2_L2 + 1)), (0, .ref (bd 0)), (1, .int v1), (3, .int v3_18)]) hx hb dMd_giveUses_93 hl rfl rfl (by decide) rfl (fun ls hl => ?_)
            refine lv_goto (tgt := 2) hx hb dMd_giveUses_96 rfl ?_
            exact ih (v2_L2 + 1) (upd mUseW_L2 (Int32.toNatClampNeg v3_18) t49_0) (upd mUseX_L2 (Int32.toNatClampNeg v3_18) (-1)) _ _ _ (lv_sub hl [1, 2, 0] rfl) hP hD hS hw
          · have hw := hw.2 hc
            refine lv_aload_n hx hb dMd_giveUses_65 rfl (lv_at hl 0 rfl) ?_
            refine va_get (D := D) (ci := 7) (v := .ref (bd 2)) (C := "OnceNamedModel") (T := TX7) (N := 34) hx hb hts (fun w h => List.mem_cons_of_mem _ (inX7 w h)) hown hK hP 0 rfl rfl 3 (by decide) (hts _ (List.mem_cons_of_mem _ kw_988)) (fun _ h9 => h9) rfl dMd_giveUses_66 ?_
            refine lv_iload_n hx hb dMd_giveUses_69 rfl (lv_at hl 3 rfl) ?_
            have ho := hw.1
            have hw := hw.2
            refine va_iald hx hb hK hP 2 0 rfl rfl ho dMd_giveUses_70 ?_
            refine lv_bipush (v := 7) hx hb dMd_giveUses_71 (by decide) ?_
            refine lv_icmp_ge (tgt := 91) hx hb dMd_giveUses_73 rfl (fun hc => ?_) (fun hc => ?_)
            · have hw := hw.1 hc
              refine lv_iconst (v := (-1)) hx hb dMd_giveUses_91 (by decide) ?_
              have ho := hw.1
              have hw := hw.2
              refine va_iast hx hb hK hP hD hS 15 0 rfl rfl ho dMd_giveUses_92 (fun H locs hP hD hS => ?_)
              have hP : va_P D vwCl (wdMd_giveUses cA cB bd N mThrown mReached mForm mSlot mOver mMany mKinds mVs mWs mXs mEnds mEndVariable mYes mNo mDominators mMeets mSources mSet (upd mUseW_L2 (Int32.toNatClampNeg v3_18) t49_0) (upd mUseX_L2 (Int32.toNatClampNeg v3_18) (-1)) mEndUse) H := hP
              have hD : va_D A (wdMd_giveUses cA cB bd N mThrown mReached mForm mSlot mOver mMany mKinds mVs mWs mXs mEnds mEndVariable mYes mNo mDominators mMeets mSources mSet (upd mUseW_L2 (Int32.toNatClampNeg v3_18) t49_0) (upd mUseX_L2 (Int32.toNatClampNeg v3_18) (-1)) mEndUse) := hD
              refine lv_iinc (k := 2) (v := (v2_L2 + 1)) (lv' := [(2, .int (v2_L2 + 1)), (0, .ref (bd 0)), (1, .int v1), (3, .int v3_18)]) hx hb dMd_giveUses_93 hl rfl rfl (by decide) rfl (fun ls hl => ?_)
              refine lv_goto (tgt := 2) hx hb dMd_giveUses_96 rfl ?_
              exact ih (v2_L2 + 1) (upd mUseW_L2 (Int32.toNatClampNeg v3_18) t49_0) (upd mUseX_L2 (Int32.toNatClampNeg v3_18) (-1)) _ _ _ (lv_sub hl [1, 2, 0] rfl) hP hD hS hw
            · have hw := hw.2 hc
              refine lv_aload_n hx hb dMd_giveUses_76 rfl (lv_at hl 0 rfl) ?_
              refine lv_aload_n hx hb dMd_giveUses_77 rfl (lv_at hl 0 rfl) ?_
              refine va_get (D := D) (ci := 7) (v := .ref (bd 5)) (C := "OnceNamedModel") (T := TX7) (N := 34) hx hb hts (fun w h => List.mem_cons_of_mem _ (inX7 w h)) hown hK hP 0 rfl rfl 6 (by decide) (hts _ (List.mem_cons_of_mem _ kw_991)) (fun _ h9 => h9) rfl dMd_giveUses_78 ?_
              refine lv_iload_n hx hb dMd_giveUses_81 rfl (lv_at hl 3 rfl) ?_
              have ho := hw.1
              have hw := hw.2
              refine va_iald hx hb hK hP 5 0 rfl rfl ho dMd_giveUses_82 ?_
              refine lv_iload_n hx hb dMd_giveUses_83 rfl (lv_at hl 1 rfl) ?_
              refine lv_iload_n hx hb dMd_giveUses_84 rfl (lv_at hl 2 rfl) ?_
              refine xci (va_runV ⟨hx, hb, hml, hown, hts⟩ (ktMd_latest l D cA cB bd N _ mThrown mReached mForm mSlot mOver mMany mKinds mVs mDominators mMeets mSet (mXs (Int32.toNatClampNeg v3_18)) v1 v2_L2 _ hw) (cwV 3 hts (goodV kw_1193 kw_1195 ks_4_12 kw_11 kw_1196) rfl rfl rfl (by decide +kernel) ⟨Nat.le_of_ble_eq_true rfl, Nat.le_of_ble_eq_true rfl⟩) (xpreV hK hP hD hN [0, 1, 2, 3, 10, 11, 13] rfl rfl 0 rfl rfl) rfl rfl hl.1 rfl (lv_room (Nat.le_of_ble_eq_true rfl)) dMd_giveUses_85 ⟨Nat.le_of_ble_eq_true rfl, Nat.le_of_ble_eq_true rfl⟩) hP hD hS hA [0, 1, 2, 3, 10, 11, 13] [4, 5, 6, 7, 8, 9, 12, 14, 15, 16] rfl rfl rfl rfl [10, 11, 12, 13, 0, 1, 2, 3, 4, 5, 14, 15, 6, 16, 7, 8, 9] rfl (fun _ => rfl) (fun r85 u H locs hw hP hD hS => ?_)
              have hP : va_P D vwCl (wdMd_giveUses cA cB bd N mThrown mReached mForm mSlot mOver mMany mKinds mVs mWs mXs mEnds mEndVariable mYes mNo mDominators mMeets mSources mSet (upd mUseW_L2 (Int32.toNatClampNeg v3_18) t49_0) mUseX_L2 mEndUse) H := hP
              have hD : va_D A (wdMd_giveUses cA cB bd N mThrown mReached mForm mSlot mOver mMany mKinds mVs mWs mXs mEnds mEndVariable mYes mNo mDominators mMeets mSources mSet (upd mUseW_L2 (Int32.toNatClampNeg v3_18) t49_0) mUseX_L2 mEndUse) := hD
              refine lv_goto (tgt := 92) hx hb dMd_giveUses_88 rfl ?_
              have ho := hw.1
              have hw := hw.2
              refine va_iast hx hb hK hP hD hS 15 0 rfl rfl ho dMd_giveUses_92 (fun H locs hP hD hS => ?_)
              have hP : va_P D vwCl (wdMd_giveUses cA cB bd N mThrown mReached mForm mSlot mOver mMany mKinds mVs mWs mXs mEnds mEndVariable mYes mNo mDominators mMeets mSources mSet (upd mUseW_L2 (Int32.toNatClampNeg v3_18) t49_0) (upd mUseX_L2 (Int32.toNatClampNeg v3_18) r85) mEndUse) H := hP
              have hD : va_D A (wdMd_giveUses cA cB bd N mThrown mReached mForm mSlot mOver mMany mKinds mVs mWs mXs mEnds mEndVariable mYes mNo mDominators mMeets mSources mSet (upd mUseW_L2 (Int32.toNatClampNeg v3_18) t49_0) (upd mUseX_L2 (Int32.toNatClampNeg v3_18) r85) mEndUse) := hD
              refine lv_iinc (k := 2) (v := (v2_L2 + 1)) (lv' := [(2, .int (v2_L2 + 1)), (0, .ref (bd 0)), (1, .int v1), (3, .int v3_18)]) hx hb dMd_giveUses_93 hl rfl rfl (by decide) rfl (fun ls hl => ?_)
              refine lv_goto (tgt := 2) hx hb dMd_giveUses_96 rfl ?_
              exact ih (v2_L2 + 1) (upd mUseW_L2 (Int32.toNatClampNeg v3_18) t49_0) (upd mUseX_L2 (Int32.toNatClampNeg v3_18) r85) _ _ _ (lv_sub hl [1, 2, 0] rfl) hP hD hS hw
        refine lv_if_le (tgt := 48) hx hb dMd_giveUses_30 rfl (fun hc => ?_) (fun hc => ?_)
        · have hw := hw.1 hc
          refine lv_iconst (v := (-1)) hx hb dMd_giveUses_48 (by decide) ?_
          exact hj49 (-1) _ _ _ (lv_sub hl [1, 2, 3, 0] rfl) hP hD hS hw
        · have hw := hw.2 hc
          refine lv_aload_n hx hb dMd_giveUses_33 rfl (lv_at hl 1 rfl) ?_
          refine lv_aload_n hx hb dMd_giveUses_34 rfl (lv_at hl 1 rfl) ?_
          refine va_get (D := D) (ci := 7) (v := .ref (bd 4)) (C := "OnceNamedModel") (T := TX7) (N := 34) hx hb hts (fun w h => List.mem_cons_of_mem _ (inX7 w h)) hown hK hP 0 rfl rfl 5 (by decide) (hts _ (List.mem_cons_of_mem _ kw_990)) (fun _ h9 => h9) rfl dMd_giveUses_35 ?_
          refine lv_iload_n hx hb dMd_giveUses_38 rfl (lv_at hl 0 rfl) ?_
          have ho := hw.1
          have hw := hw.2
          refine va_iald hx hb hK hP 4 0 rfl rfl ho dMd_giveUses_39 ?_
          refine lv_iload_n hx hb dMd_giveUses_40 rfl (lv_at hl 2 rfl) ?_
          refine lv_iload_n hx hb dMd_giveUses_41 rfl (lv_at hl 3 rfl) ?_
          refine xci (va_runV ⟨hx, hb, hml, hown, hts⟩ (ktMd_latest l D cA cB bd N _ mThrown mReached mForm mSlot mOver mMany mKinds mVs mDominators mMeets mSet (mWs (Int32.toNatClampNeg v3_18)) v1 v2_L2 _ hw) (cwV 3 hts (goodV kw_1193 kw_1195 ks_4_12 kw_11 kw_1196) rfl rfl rfl (by decide +kernel) ⟨Nat.le_of_ble_eq_true rfl, Nat.le_of_ble_eq_true rfl⟩) (xpreV hK hP hD hN [0, 1, 2, 3, 10, 11, 13] rfl rfl 0 rfl rfl) rfl rfl hl.1 rfl (lv_room (Nat.le_of_ble_eq_true rfl)) dMd_giveUses_42 ⟨Nat.le_of_ble_eq_true rfl, Nat.le_of_ble_eq_true rfl⟩) hP hD hS hA [0, 1, 2, 3, 10, 11, 13] [4, 5, 6, 7, 8, 9, 12, 14, 15, 16] rfl rfl rfl rfl [10, 11, 12, 13, 0, 1, 2, 3, 4, 5, 14, 15, 6, 16, 7, 8, 9] rfl (fun _ => rfl) (fun r42 u H locs hw hP hD hS => ?_)
          have hP : va_P D vwCl (wdMd_giveUses cA cB bd N mThrown mReached mForm mSlot mOver mMany mKinds mVs mWs mXs mEnds mEndVariable mYes mNo mDominators mMeets mSources mSet mUseW_L2 mUseX_L2 mEndUse) H := hP
          have hD : va_D A (wdMd_giveUses cA cB bd N mThrown mReached mForm mSlot mOver mMany mKinds mVs mWs mXs mEnds mEndVariable mYes mNo mDominators mMeets mSources mSet mUseW_L2 mUseX_L2 mEndUse) := hD
          refine lv_goto (tgt := 49) hx hb dMd_giveUses_45 rfl ?_
          exact hj49 r42 _ _ _ (lv_sub hl [1, 2, 3, 0] rfl) hP hD hS hw
  refine hlp2 _ ?_ k2 0 mUseW mUseX _ _ _ (lv_sub hl [1, 2, 0] rfl) hP hD hS hw
  intro v2_x99 mUseW_x99 mUseX_x99 ls H locs hl hP hD hS hw
  try dsimp only at hw
  refine lv_aload_n hx hb dMd_giveUses_99 rfl (lv_at hl 0 rfl) ?_
  refine va_get (D := D) (ci := 7) (v := .ref (bd 17)) (C := "OnceNamedModel") (T := TX7) (N := 34) hx hb hts (fun w h => List.mem_cons_of_mem _ (inX7 w h)) hown hK hP 0 rfl rfl 20 (by decide) (hts _ (List.mem_cons_of_mem _ kw_1005)) (fun _ h9 => h9) rfl dMd_giveUses_100 ?_
  refine lv_iload_n hx hb dMd_giveUses_103 rfl (lv_at hl 1 rfl) ?_
  refine lv_aload_n hx hb dMd_giveUses_104 rfl (lv_at hl 0 rfl) ?_
  refine va_get (D := D) (ci := 7) (v := .ref (bd 6)) (C := "OnceNamedModel") (T := TX7) (N := 34) hx hb hts (fun w h => List.mem_cons_of_mem _ (inX7 w h)) hown hK hP 0 rfl rfl 7 (by decide) (hts _ (List.mem_cons_of_mem _ kw_992)) (fun _ h9 => h9) rfl dMd_giveUses_105 ?_
  refine lv_iload_n hx hb dMd_giveUses_108 rfl (lv_at hl 1 rfl) ?_
  have ho := hw.1
  have hw := hw.2
  refine va_iald hx hb hK hP 6 0 rfl rfl ho dMd_giveUses_109 ?_
  refine lv_iconst (v := 2) hx hb dMd_giveUses_110 (by decide) ?_
  obtain ⟨J135, hJ135, hw⟩ := hw
  have hj135 : ∀ (t135_0 : Int32) (ls : Array Slot) (H : Heap) (locs : List Loc), lv_has ls 5 [(0, .ref (bd 0)), (1, .int v1), (2, .int v2_x99)] → va_P D vwCl (wdMd_giveUses cA cB bd N mThrown mReached mForm mSlot mOver mMany mKinds mVs mWs mXs mEnds mEndVariable mYes mNo mDominators mMeets mSources mSet mUseW_x99 mUseX_x99 mEndUse) H → va_D A (wdMd_giveUses cA cB bd N mThrown mReached mForm mSlot mOver mMany mKinds mVs mWs mXs mEnds mEndVariable mYes mNo mDominators mMeets mSources mSet mUseW_x99 mUseX_x99 mEndUse) → va_S A s.heap H locs → J135 t135_0 → W p l e (headSpec (Cond.code yMd_giveUses cMd_giveUses 5 none :: xW) rmMd_giveUses).room s m ([.ref (bd 0), .int v1] : List Value).toArray below meth c H locs 0 0 Q (F0 m 135 ls [.int t135_0, .int v1, .ref (bd 17)]) := by
    intro t135_0 ls H locs hl hP hD hS hw
    have hw := hJ135 t135_0 hw
    have ho := hw.1
    have hw := hw.2
    refine va_iast hx hb hK hP hD hS 16 0 rfl rfl ho dMd_giveUses_135 (fun H locs hP hD hS => ?_)
    have hP : va_P D vwCl (wdMd_giveUses cA cB bd N mThrown mReached mForm mSlot mOver mMany mKinds mVs mWs mXs mEnds mEndVariable mYes mNo mDominators mMeets mSources mSet mUseW_x99 mUseX_x99 (upd mEndUse (Int32.toNatClampNeg v1) t135_0)) H := hP
    have hD : va_D A (wdMd_giveUses cA cB bd N mThrown mReached mForm mSlot mOver mMany mKinds mVs mWs mXs mEnds mEndVariable mYes mNo mDominators mMeets mSources mSet mUseW_x99 mUseX_x99 (upd mEndUse (Int32.toNatClampNeg v1) t135_0)) := hD
    refine lv_iconst (v := 0) hx hb dMd_giveUses_136 (by decide) ?_
    refine lv_istore_n (lv' := [(2, .int 0), (0, .ref (bd 0)), (1, .int v1)]) hx hb dMd_giveUses_137 rfl hl (by decide) rfl (fun ls hl => ?_)
    obtain ⟨k138, hw⟩ := hw
    have hlp138 : ∀ (k : Nat), ∀ (v2_L138 : Int32) (mSources_L138 : Nat → Int32) (ls : Array Slot) (H : Heap) (locs : List Loc), lv_has ls 5 [(0, .ref (bd 0)), (1, .int v1), (2, .int v2_L138)] → va_P D vwCl (wdMd_giveUses cA cB bd N mThrown mReached mForm mSlot mOver mMany mKinds mVs mWs mXs mEnds mEndVariable mYes mNo mDominators mMeets mSources_L138 mSet mUseW_x99 mUseX_x99 (upd mEndUse (Int32.toNatClampNeg v1) t135_0)) H → va_D A (wdMd_giveUses cA cB bd N mThrown mReached mForm mSlot mOver mMany mKinds mVs mWs mXs mEnds mEndVariable mYes mNo mDominators mMeets mSources_L138 mSet mUseW_x99 mUseX_x99 (upd mEndUse (Int32.toNatClampNeg v1) t135_0)) → va_S A s.heap H locs → lpMd_giveUses_138 N v1 mReached mMany mKinds mVs mEnds mYes mNo mDominators mMeets mSet mUseW_x99 mUseX_x99 (upd mEndUse (Int32.toNatClampNeg v1) t135_0) post k v2_L138 mSources_L138 → W p l e (headSpec (Cond.code yMd_giveUses cMd_giveUses 5 none :: xW) rmMd_giveUses).room s m ([.ref (bd 0), .int v1] : List Value).toArray below meth c H locs 0 0 Q (F0 m 138 ls []) := by
      intro k
      induction k with
      | zero => intro v2_L138 mSources_L138 ls H locs hl hP hD hS hw; exact False.elim hw
      | succ k ih =>
        intro v2_L138 mSources_L138 ls H locs hl hP hD hS hw
        refine lv_iload_n hx hb dMd_giveUses_138 rfl (lv_at hl 2 rfl) ?_
        refine lv_bipush (v := 6) hx hb dMd_giveUses_139 (by decide) ?_
        refine lv_icmp_ge (tgt := 268) hx hb dMd_giveUses_141 rfl (fun hc => ?_) (fun hc => ?_)
        · have hw := hw.1 hc
          exact hend mSources_L138 mUseW_x99 mUseX_x99 (upd mEndUse (Int32.toNatClampNeg v1) t135_0) _ _ _ _ dMd_giveUses_268 hP hD hS hw
        · have hw := hw.2 hc
          refine lv_iconst (v := 0) hx hb dMd_giveUses_144 (by decide) ?_
          refine lv_istore_n (lv' := [(3, .int 0), (0, .ref (bd 0)), (1, .int v1), (2, .int v2_L138)]) hx hb dMd_giveUses_145 rfl hl (by decide) rfl (fun ls hl => ?_)
          obtain ⟨k146, hw⟩ := hw
          have hlp146 : ∀ (K262 : Int32 → (Nat → Int32) → Prop), (∀ (v3_x262 : Int32) (mSources_x262 : Nat → Int32) (ls : Array Slot) (H : Heap) (locs : List Loc), lv_has ls 5 [(0, .ref (bd 0)), (1, .int v1), (2, .int v2_L138), (3, .int v3_x262)] → va_P D vwCl (wdMd_giveUses cA cB bd N mThrown mReached mForm mSlot mOver mMany mKinds mVs mWs mXs mEnds mEndVariable mYes mNo mDominators mMeets mSources_x262 mSet mUseW_x99 mUseX_x99 (upd mEndUse (Int32.toNatClampNeg v1) t135_0)) H → va_D A (wdMd_giveUses cA cB bd N mThrown mReached mForm mSlot mOver mMany mKinds mVs mWs mXs mEnds mEndVariable mYes mNo mDominators mMeets mSources_x262 mSet mUseW_x99 mUseX_x99 (upd mEndUse (Int32.toNatClampNeg v1) t135_0)) → va_S A s.heap H locs → K262 v3_x262 mSources_x262 → W p l e (headSpec (Cond.code yMd_giveUses cMd_giveUses 5 none :: xW) rmMd_giveUses).room s m ([.ref (bd 0), .int v1] : List Value).toArray below meth c H locs 0 0 Q (F0 m 262 ls [])) → ∀ (k : Nat), ∀ (v3_L146 : Int32) (mSources_L146 : Nat → Int32) (ls : Array Slot) (H : Heap) (locs : List Loc), lv_has ls 5 [(0, .ref (bd 0)), (1, .int v1), (2, .int v2_L138), (3, .int v3_L146)] → va_P D vwCl (wdMd_giveUses cA cB bd N mThrown mReached mForm mSlot mOver mMany mKinds mVs mWs mXs mEnds mEndVariable mYes mNo mDominators mMeets mSources_L146 mSet mUseW_x99 mUseX_x99 (upd mEndUse (Int32.toNatClampNeg v1) t135_0)) H → va_D A (wdMd_giveUses cA cB bd N mThrown mReached mForm mSlot mOver mMany mKinds mVs mWs mXs mEnds mEndVariable mYes mNo mDominators mMeets mSources_L146 mSet mUseW_x99 mUseX_x99 (upd mEndUse (Int32.toNatClampNeg v1) t135_0)) → va_S A s.heap H locs → lpMd_giveUses_146 N v1 v2_L138 mReached mMany mKinds mVs mEnds mYes mNo mDominators mMeets mSet K262 k v3_L146 mSources_L146 → W p l e (headSpec (Cond.code yMd_giveUses cMd_giveUses 5 none :: xW) rmMd_giveUses).room s m ([.ref (bd 0), .int v1] : List Value).toArray below meth c H locs 0 0 Q (F0 m 146 ls []) := by
            intro K262 hK262 k
            induction k with
            | zero => intro v3_L146 mSources_L146 ls H locs hl hP hD hS hw; exact False.elim hw
            | succ k ih =>
              intro v3_L146 mSources_L146 ls H locs hl hP hD hS hw
              refine lv_iload_n hx hb dMd_giveUses_146 rfl (lv_at hl 3 rfl) ?_
              refine lv_aload_n hx hb dMd_giveUses_147 rfl (lv_at hl 0 rfl) ?_
              refine va_get (D := D) (ci := 7) (v := .int (nI N)) (C := "OnceNamedModel") (T := TX7) (N := 34) hx hb hts (fun w h => List.mem_cons_of_mem _ (inX7 w h)) hown hK hP 0 rfl rfl 1 (by decide) (hts _ (List.mem_cons_of_mem _ kw_986)) (fun _ h9 => h9) rfl dMd_giveUses_148 ?_
              refine lv_icmp_gt (tgt := 262) hx hb dMd_giveUses_151 rfl (fun hc => ?_) (fun hc => ?_)
              · have hw := hw.1 hc
                exact hK262 v3_L146 mSources_L146 _ _ _ (lv_sub hl [0, 1, 2, 3] rfl) hP hD hS hw
              · have hw := hw.2 hc
                refine lv_aload_n hx hb dMd_giveUses_154 rfl (lv_at hl 0 rfl) ?_
                refine va_get (D := D) (ci := 7) (v := .ref (bd 12)) (C := "OnceNamedModel") (T := TX7) (N := 34) hx hb hts (fun w h => List.mem_cons_of_mem _ (inX7 w h)) hown hK hP 0 rfl rfl 15 (by decide) (hts _ (List.mem_cons_of_mem _ kw_1000)) (fun _ h9 => h9) rfl dMd_giveUses_155 ?_
                refine lv_bipush (v := 6) hx hb dMd_giveUses_158 (by decide) ?_
                refine lv_iload_n hx hb dMd_giveUses_160 rfl (lv_at hl 1 rfl) ?_
                refine lv_imul hx hb dMd_giveUses_161 ?_
                refine lv_iload_n hx hb dMd_giveUses_162 rfl (lv_at hl 2 rfl) ?_
                refine lv_iadd hx hb dMd_giveUses_163 ?_
                have ho := hw.1
                have hw := hw.2
                refine va_iald hx hb hK hP 11 0 rfl rfl ho dMd_giveUses_164 ?_
                refine lv_if_lt (tgt := 262) hx hb dMd_giveUses_165 rfl (fun hc => ?_) (fun hc => ?_)
                · have hw := hw.1 hc
                  exact hK262 v3_L146 mSources_L146 _ _ _ (lv_sub hl [0, 1, 2, 3] rfl) hP hD hS hw
                · have hw := hw.2 hc
                  refine lv_aload_n hx hb dMd_giveUses_168 rfl (lv_at hl 0 rfl) ?_
                  refine lv_iload_n hx hb dMd_giveUses_169 rfl (lv_at hl 3 rfl) ?_
                  refine lv_iload_n hx hb dMd_giveUses_170 rfl (lv_at hl 1 rfl) ?_
                  refine xci (va_runV ⟨hx, hb, hml, hown, hts⟩ (ktMd_follows l D cA cB bd N _ mThrown mReached mForm mSlot mOver mEnds mYes mNo v3_L146 v1 _ hw) (cwV 2 hts (goodV kw_1161 kw_1163 ks_4_5 kw_11 kw_1164) rfl rfl rfl (by decide +kernel) ⟨Nat.le_of_ble_eq_true rfl, Nat.le_of_ble_eq_true rfl⟩) (xpreV hK hP hD hN [0, 6, 8, 9] rfl rfl 0 rfl rfl) rfl rfl hl.1 rfl (lv_room (Nat.le_of_ble_eq_true rfl)) dMd_giveUses_171 ⟨Nat.le_of_ble_eq_true rfl, Nat.le_of_ble_eq_true rfl⟩) hP hD hS hA [0, 6, 8, 9] [1, 2, 3, 4, 5, 7, 10, 11, 12, 13, 14, 15, 16] rfl rfl rfl rfl [13, 0, 1, 2, 3, 4, 14, 5, 15, 16, 6, 7, 8, 9, 10, 11, 12] rfl (fun _ => rfl) (fun r171 u H locs hw hP hD hS => ?_)
                  obtain ⟨r171, rfl, hw⟩ := hw
                  have hP : va_P D vwCl (wdMd_giveUses cA cB bd N mThrown mReached mForm mSlot mOver mMany mKinds mVs mWs mXs mEnds mEndVariable mYes mNo mDominators mMeets mSources_L146 mSet mUseW_x99 mUseX_x99 (upd mEndUse (Int32.toNatClampNeg v1) t135_0)) H := hP
                  have hD : va_D A (wdMd_giveUses cA cB bd N mThrown mReached mForm mSlot mOver mMany mKinds mVs mWs mXs mEnds mEndVariable mYes mNo mDominators mMeets mSources_L146 mSet mUseW_x99 mUseX_x99 (upd mEndUse (Int32.toNatClampNeg v1) t135_0)) := hD
                  obtain ⟨J202, hJ202, hw⟩ := hw
                  have hj202 : ∀ (t202_0 : Bool) (ls : Array Slot) (H : Heap) (locs : List Loc), lv_has ls 5 [(0, .ref (bd 0)), (1, .int v1), (2, .int v2_L138), (3, .int v3_L146)] → va_P D vwCl (wdMd_giveUses cA cB bd N mThrown mReached mForm mSlot mOver mMany mKinds mVs mWs mXs mEnds mEndVariable mYes mNo mDominators mMeets mSources_L146 mSet mUseW_x99 mUseX_x99 (upd mEndUse (Int32.toNatClampNeg v1) t135_0)) H → va_D A (wdMd_giveUses cA cB bd N mThrown mReached mForm mSlot mOver mMany mKinds mVs mWs mXs mEnds mEndVariable mYes mNo mDominators mMeets mSources_L146 mSet mUseW_x99 mUseX_x99 (upd mEndUse (Int32.toNatClampNeg v1) t135_0)) → va_S A s.heap H locs → J202 t202_0 → W p l e (headSpec (Cond.code yMd_giveUses cMd_giveUses 5 none :: xW) rmMd_giveUses).room s m ([.ref (bd 0), .int v1] : List Value).toArray below meth c H locs 0 0 Q (F0 m 202 ls [.int (bI t202_0)]) := by
                    intro t202_0 ls H locs hl hP hD hS hw
                    have hw := hJ202 t202_0 hw
                    refine lv_istore (lv' := [(4, .int (bI t202_0)), (0, .ref (bd 0)), (1, .int v1), (2, .int v2_L138), (3, .int v3_L146)]) hx hb dMd_giveUses_202 hl (by decide) rfl (fun ls hl => ?_)
                    refine lv_aload_n hx hb dMd_giveUses_204 rfl (lv_at hl 1 rfl) ?_
                    refine va_get (D := D) (ci := 7) (v := .ref (bd 13)) (C := "OnceNamedModel") (T := TX7) (N := 34) hx hb hts (fun w h => List.mem_cons_of_mem _ (inX7 w h)) hown hK hP 0 rfl rfl 16 (by decide) (hts _ (List.mem_cons_of_mem _ kw_1001)) (fun _ h9 => h9) rfl dMd_giveUses_205 ?_
                    refine lv_bipush (v := 13) hx hb dMd_giveUses_208 (by decide) ?_
                    refine lv_bipush (v := 6) hx hb dMd_giveUses_210 (by decide) ?_
                    refine lv_iload_n hx hb dMd_giveUses_212 rfl (lv_at hl 2 rfl) ?_
                    refine lv_imul hx hb dMd_giveUses_213 ?_
                    refine lv_iload_n hx hb dMd_giveUses_214 rfl (lv_at hl 3 rfl) ?_
                    refine lv_iadd hx hb dMd_giveUses_215 ?_
                    refine lv_imul hx hb dMd_giveUses_216 ?_
                    refine lv_iload_n hx hb dMd_giveUses_217 rfl (lv_at hl 4 rfl) ?_
                    refine lv_iadd hx hb dMd_giveUses_218 ?_
                    refine lv_iload hx hb dMd_giveUses_219 (lv_at hl 0 rfl) ?_
                    refine lv_if_ne (tgt := 228) hx hb dMd_giveUses_221 rfl (fun hc => ?_) (fun hc => ?_)
                    · have hw := hw.1 (bI_1 hc)
                      refine lv_iload_n hx hb dMd_giveUses_228 rfl (lv_at hl 4 rfl) ?_
                      refine lv_aload_n hx hb dMd_giveUses_229 rfl (lv_at hl 1 rfl) ?_
                      refine va_get (D := D) (ci := 7) (v := .int (nI N)) (C := "OnceNamedModel") (T := TX7) (N := 34) hx hb hts (fun w h => List.mem_cons_of_mem _ (inX7 w h)) hown hK hP 0 rfl rfl 1 (by decide) (hts _ (List.mem_cons_of_mem _ kw_986)) (fun _ h9 => h9) rfl dMd_giveUses_230 ?_
                      refine lv_icmp_ne (tgt := 243) hx hb dMd_giveUses_233 rfl (fun hc => ?_) (fun hc => ?_)
                      · have hw := hw.1 hc
                        refine lv_aload_n hx hb dMd_giveUses_243 rfl (lv_at hl 1 rfl) ?_
                        refine lv_iload_n hx hb dMd_giveUses_244 rfl (lv_at hl 3 rfl) ?_
                        refine lv_iload_n hx hb dMd_giveUses_245 rfl (lv_at hl 4 rfl) ?_
                        refine lv_aload_n hx hb dMd_giveUses_246 rfl (lv_at hl 1 rfl) ?_
                        refine va_get (D := D) (ci := 7) (v := .ref (bd 1)) (C := "OnceNamedModel") (T := TX7) (N := 34) hx hb hts (fun w h => List.mem_cons_of_mem _ (inX7 w h)) hown hK hP 0 rfl rfl 2 (by decide) (hts _ (List.mem_cons_of_mem _ kw_987)) (fun _ h9 => h9) rfl dMd_giveUses_247 ?_
                        refine lv_iload_n hx hb dMd_giveUses_250 rfl (lv_at hl 4 rfl) ?_
                        have ho := hw.1
                        have hw := hw.2
                        refine va_iald hx hb hK hP 1 0 rfl rfl ho dMd_giveUses_251 ?_
                        refine xci (va_runV ⟨hx, hb, hml, hown, hts⟩ (ktMd_latest l D cA cB bd N _ mThrown mReached mForm mSlot mOver mMany mKinds mVs mDominators mMeets mSet v2_L138 v3_L146 (mMany (Int32.toNatClampNeg v3_L146)) _ hw) (cwV 3 hts (goodV kw_1193 kw_1195 ks_4_12 kw_11 kw_1196) rfl rfl rfl (by decide +kernel) ⟨Nat.le_of_ble_eq_true rfl, Nat.le_of_ble_eq_true rfl⟩) (xpreV hK hP hD hN [0, 1, 2, 3, 10, 11, 13] rfl rfl 0 rfl rfl) rfl rfl hl.1 rfl (lv_room (Nat.le_of_ble_eq_true rfl)) dMd_giveUses_252 ⟨Nat.le_of_ble_eq_true rfl, Nat.le_of_ble_eq_true rfl⟩) hP hD hS hA [0, 1, 2, 3, 10, 11, 13] [4, 5, 6, 7, 8, 9, 12, 14, 15, 16] rfl rfl rfl rfl [10, 11, 12, 13, 0, 1, 2, 3, 4, 5, 14, 15, 6, 16, 7, 8, 9] rfl (fun _ => rfl) (fun r252 u H locs hw hP hD hS => ?_)
                        have hP : va_P D vwCl (wdMd_giveUses cA cB bd N mThrown mReached mForm mSlot mOver mMany mKinds mVs mWs mXs mEnds mEndVariable mYes mNo mDominators mMeets mSources_L146 mSet mUseW_x99 mUseX_x99 (upd mEndUse (Int32.toNatClampNeg v1) t135_0)) H := hP
                        have hD : va_D A (wdMd_giveUses cA cB bd N mThrown mReached mForm mSlot mOver mMany mKinds mVs mWs mXs mEnds mEndVariable mYes mNo mDominators mMeets mSources_L146 mSet mUseW_x99 mUseX_x99 (upd mEndUse (Int32.toNatClampNeg v1) t135_0)) := hD
                        have ho := hw.1
                        have hw := hw.2
                        refine va_iast hx hb hK hP hD hS 12 0 rfl rfl ho dMd_giveUses_255 (fun H locs hP hD hS => ?_)
                        have hP : va_P D vwCl (wdMd_giveUses cA cB bd N mThrown mReached mForm mSlot mOver mMany mKinds mVs mWs mXs mEnds mEndVariable mYes mNo mDominators mMeets (upd mSources_L146 (Int32.toNatClampNeg ((13 * ((6 * v1) + v2_L138)) + v3_L146)) r252) mSet mUseW_x99 mUseX_x99 (upd mEndUse (Int32.toNatClampNeg v1) t135_0)) H := hP
                        have hD : va_D A (wdMd_giveUses cA cB bd N mThrown mReached mForm mSlot mOver mMany mKinds mVs mWs mXs mEnds mEndVariable mYes mNo mDominators mMeets (upd mSources_L146 (Int32.toNatClampNeg ((13 * ((6 * v1) + v2_L138)) + v3_L146)) r252) mSet mUseW_x99 mUseX_x99 (upd mEndUse (Int32.toNatClampNeg v1) t135_0)) := hD
                        refine lv_iinc (k := 4) (v := (v3_L146 + 1)) (lv' := [(3, .int (v3_L146 + 1)), (4, .int (bI t202_0)), (0, .ref (bd 0)), (1, .int v1), (2, .int v2_L138)]) hx hb dMd_giveUses_256 hl rfl rfl (by decide) rfl (fun ls hl => ?_)
                        refine lv_goto (tgt := 146) hx hb dMd_giveUses_259 rfl ?_
                        exact ih (v3_L146 + 1) (upd mSources_L146 (Int32.toNatClampNeg ((13 * ((6 * v1) + v2_L138)) + v3_L146)) r252) _ _ _ (lv_sub hl [2, 3, 4, 0] rfl) hP hD hS hw
                      · have hw := hw.2 hc
                        refine lv_bipush (v := 100) hx hb dMd_giveUses_236 (by decide) ?_
                        refine lv_iload_n hx hb dMd_giveUses_238 rfl (lv_at hl 3 rfl) ?_
                        refine lv_imul hx hb dMd_giveUses_239 ?_
                        refine lv_goto (tgt := 255) hx hb dMd_giveUses_240 rfl ?_
                        have ho := hw.1
                        have hw := hw.2
                        refine va_iast hx hb hK hP hD hS 12 0 rfl rfl ho dMd_giveUses_255 (fun H locs hP hD hS => ?_)
                        have hP : va_P D vwCl (wdMd_giveUses cA cB bd N mThrown mReached mForm mSlot mOver mMany mKinds mVs mWs mXs mEnds mEndVariable mYes mNo mDominators mMeets (upd mSources_L146 (Int32.toNatClampNeg ((13 * ((6 * v1) + v2_L138)) + v3_L146)) (100 * v2_L138)) mSet mUseW_x99 mUseX_x99 (upd mEndUse (Int32.toNatClampNeg v1) t135_0)) H := hP
                        have hD : va_D A (wdMd_giveUses cA cB bd N mThrown mReached mForm mSlot mOver mMany mKinds mVs mWs mXs mEnds mEndVariable mYes mNo mDominators mMeets (upd mSources_L146 (Int32.toNatClampNeg ((13 * ((6 * v1) + v2_L138)) + v3_L146)) (100 * v2_L138)) mSet mUseW_x99 mUseX_x99 (upd mEndUse (Int32.toNatClampNeg v1) t135_0)) := hD
                        refine lv_iinc (k := 4) (v := (v3_L146 + 1)) (lv' := [(3, .int (v3_L146 + 1)), (4, .int (bI t202_0)), (0, .ref (bd 0)), (1, .int v1), (2, .int v2_L138)]) hx hb dMd_giveUses_256 hl rfl rfl (by decide) rfl (fun ls hl => ?_)
                        refine lv_goto (tgt := 146) hx hb dMd_giveUses_259 rfl ?_
                        exact ih (v3_L146 + 1) (upd mSources_L146 (Int32.toNatClampNeg ((13 * ((6 * v1) + v2_L138)) + v3_L146)) (100 * v2_L138)) _ _ _ (lv_sub hl [2, 3, 4, 0] rfl) hP hD hS hw
                    · have hw := hw.2 (bI_0 hc)
                      refine lv_iconst (v := (-1)) hx hb dMd_giveUses_224 (by decide) ?_
                      refine lv_goto (tgt := 255) hx hb dMd_giveUses_225 rfl ?_
                      have ho := hw.1
                      have hw := hw.2
                      refine va_iast hx hb hK hP hD hS 12 0 rfl rfl ho dMd_giveUses_255 (fun H locs hP hD hS => ?_)
                      have hP : va_P D vwCl (wdMd_giveUses cA cB bd N mThrown mReached mForm mSlot mOver mMany mKinds mVs mWs mXs mEnds mEndVariable mYes mNo mDominators mMeets (upd mSources_L146 (Int32.toNatClampNeg ((13 * ((6 * v1) + v2_L138)) + v3_L146)) (-1)) mSet mUseW_x99 mUseX_x99 (upd mEndUse (Int32.toNatClampNeg v1) t135_0)) H := hP
                      have hD : va_D A (wdMd_giveUses cA cB bd N mThrown mReached mForm mSlot mOver mMany mKinds mVs mWs mXs mEnds mEndVariable mYes mNo mDominators mMeets (upd mSources_L146 (Int32.toNatClampNeg ((13 * ((6 * v1) + v2_L138)) + v3_L146)) (-1)) mSet mUseW_x99 mUseX_x99 (upd mEndUse (Int32.toNatClampNeg v1) t135_0)) := hD
                      refine lv_iinc (k := 4) (v := (v3_L146 + 1)) (lv' := [(3, .int (v3_L146 + 1)), (4, .int (bI t202_0)), (0, .ref (bd 0)), (1, .int v1), (2, .int v2_L138)]) hx hb dMd_giveUses_256 hl rfl rfl (by decide) rfl (fun ls hl => ?_)
                      refine lv_goto (tgt := 146) hx hb dMd_giveUses_259 rfl ?_
                      exact ih (v3_L146 + 1) (upd mSources_L146 (Int32.toNatClampNeg ((13 * ((6 * v1) + v2_L138)) + v3_L146)) (-1)) _ _ _ (lv_sub hl [2, 3, 4, 0] rfl) hP hD hS hw
                  obtain ⟨J201, hJ201, hw⟩ := hw
                  have hj201 : ∀  (ls : Array Slot) (H : Heap) (locs : List Loc), lv_has ls 5 [(0, .ref (bd 0)), (1, .int v1), (2, .int v2_L138), (3, .int v3_L146)] → va_P D vwCl (wdMd_giveUses cA cB bd N mThrown mReached mForm mSlot mOver mMany mKinds mVs mWs mXs mEnds mEndVariable mYes mNo mDominators mMeets mSources_L146 mSet mUseW_x99 mUseX_x99 (upd mEndUse (Int32.toNatClampNeg v1) t135_0)) H → va_D A (wdMd_giveUses cA cB bd N mThrown mReached mForm mSlot mOver mMany mKinds mVs mWs mXs mEnds mEndVariable mYes mNo mDominators mMeets mSources_L146 mSet mUseW_x99 mUseX_x99 (upd mEndUse (Int32.toNatClampNeg v1) t135_0)) → va_S A s.heap H locs → J201 → W p l e (headSpec (Cond.code yMd_giveUses cMd_giveUses 5 none :: xW) rmMd_giveUses).room s m ([.ref (bd 0), .int v1] : List Value).toArray below meth c H locs 0 0 Q (F0 m 201 ls []) := by
                    intro  ls H locs hl hP hD hS hw
                    have hw := hJ201  hw
                    refine lv_iconst (v := 0) hx hb dMd_giveUses_201 (by decide) ?_
                    exact hj202 false _ _ _ (lv_sub hl [0, 1, 2, 3] rfl) hP hD hS hw
                  refine lv_if_eq (tgt := 201) hx hb dMd_giveUses_174 rfl (fun hc => ?_) (fun hc => ?_)
                  · have hw := hw.1 (bI_0 hc)
                    exact hj201  _ _ _ (lv_sub hl [0, 1, 2, 3] rfl) hP hD hS hw
                  · have hw := hw.2 (bI_1 hc)
                    refine lv_iload_n hx hb dMd_giveUses_177 rfl (lv_at hl 3 rfl) ?_
                    refine lv_aload_n hx hb dMd_giveUses_178 rfl (lv_at hl 0 rfl) ?_
                    refine va_get (D := D) (ci := 7) (v := .int (nI N)) (C := "OnceNamedModel") (T := TX7) (N := 34) hx hb hts (fun w h => List.mem_cons_of_mem _ (inX7 w h)) hown hK hP 0 rfl rfl 1 (by decide) (hts _ (List.mem_cons_of_mem _ kw_986)) (fun _ h9 => h9) rfl dMd_giveUses_179 ?_
                    refine lv_icmp_eq (tgt := 197) hx hb dMd_giveUses_182 rfl (fun hc => ?_) (fun hc => ?_)
                    · have hw := hw.1 hc
                      refine lv_iconst (v := 1) hx hb dMd_giveUses_197 (by decide) ?_
                      refine lv_goto (tgt := 202) hx hb dMd_giveUses_198 rfl ?_
                      exact hj202 true _ _ _ (lv_sub hl [0, 1, 2, 3] rfl) hP hD hS hw
                    · have hw := hw.2 hc
                      refine lv_aload_n hx hb dMd_giveUses_185 rfl (lv_at hl 0 rfl) ?_
                      refine lv_aload_n hx hb dMd_giveUses_186 rfl (lv_at hl 0 rfl) ?_
                      refine va_get (D := D) (ci := 7) (v := .int mReached) (C := "OnceNamedModel") (T := TX7) (N := 34) hx hb hts (fun w h => List.mem_cons_of_mem _ (inX7 w h)) hown hK hP 0 rfl rfl 12 (by decide) (hts _ (List.mem_cons_of_mem _ kw_997)) (fun _ h9 => h9) rfl dMd_giveUses_187 ?_
                      refine lv_iload_n hx hb dMd_giveUses_190 rfl (lv_at hl 3 rfl) ?_
                      refine xci (va_runV ⟨hx, hb, hml, hown, hts⟩ (ktMd_has l D cA cB bd N _ mReached v3_L146 _ hw) (cwV 2 hts (goodV kw_1133 kw_1135 ks_4_0 kw_11 kw_1136) rfl rfl rfl (by decide +kernel) ⟨Nat.le_of_ble_eq_true rfl, Nat.le_of_ble_eq_true rfl⟩) (xpreV hK hP hD hN [] rfl rfl 0 rfl rfl) rfl rfl hl.1 rfl (lv_room (Nat.le_of_ble_eq_true rfl)) dMd_giveUses_191 ⟨Nat.le_of_ble_eq_true rfl, Nat.le_of_ble_eq_true rfl⟩) hP hD hS hA [] [0, 1, 2, 3, 4, 5, 6, 7, 8, 9, 10, 11, 12, 13, 14, 15, 16] rfl rfl rfl rfl [0, 1, 2, 3, 4, 5, 6, 7, 8, 9, 10, 11, 12, 13, 14, 15, 16] rfl (fun _ => rfl) (fun r191 u H locs hw hP hD hS => ?_)
                      obtain ⟨r191, rfl, hw⟩ := hw
                      have hP : va_P D vwCl (wdMd_giveUses cA cB bd N mThrown mReached mForm mSlot mOver mMany mKinds mVs mWs mXs mEnds mEndVariable mYes mNo mDominators mMeets mSources_L146 mSet mUseW_x99 mUseX_x99 (upd mEndUse (Int32.toNatClampNeg v1) t135_0)) H := hP
                      have hD : va_D A (wdMd_giveUses cA cB bd N mThrown mReached mForm mSlot mOver mMany mKinds mVs mWs mXs mEnds mEndVariable mYes mNo mDominators mMeets mSources_L146 mSet mUseW_x99 mUseX_x99 (upd mEndUse (Int32.toNatClampNeg v1) t135_0)) := hD
                      refine lv_if_eq (tgt := 201) hx hb dMd_giveUses_194 rfl (fun hc => ?_) (fun hc => ?_)
                      · have hw := hw.1 (bI_0 hc)
                        exact hj201  _ _ _ (lv_sub hl [0, 1, 2, 3] rfl) hP hD hS hw
                      · have hw := hw.2 (bI_1 hc)
                        refine lv_iconst (v := 1) hx hb dMd_giveUses_197 (by decide) ?_
                        refine lv_goto (tgt := 202) hx hb dMd_giveUses_198 rfl ?_
                        exact hj202 true _ _ _ (lv_sub hl [0, 1, 2, 3] rfl) hP hD hS hw
          refine hlp146 _ ?_ k146 0 mSources_L138 _ _ _ (lv_sub hl [1, 2, 3, 0] rfl) hP hD hS hw
          intro v3_x262 mSources_x262 ls H locs hl hP hD hS hw
          try dsimp only at hw
          refine lv_iinc (k := 2) (v := (v2_L138 + 1)) (lv' := [(2, .int (v2_L138 + 1)), (0, .ref (bd 0)), (1, .int v1), (3, .int v3_x262)]) hx hb dMd_giveUses_262 hl rfl rfl (by decide) rfl (fun ls hl => ?_)
          refine lv_goto (tgt := 138) hx hb dMd_giveUses_265 rfl ?_
          exact ih (v2_L138 + 1) mSources_x262 _ _ _ (lv_sub hl [1, 2, 0] rfl) hP hD hS hw
    refine hlp138 k138 0 mSources _ _ _ (lv_sub hl [1, 2, 0] rfl) hP hD hS hw
  refine lv_icmp_ne (tgt := 134) hx hb dMd_giveUses_111 rfl (fun hc => ?_) (fun hc => ?_)
  · have hw := hw.1 hc
    refine lv_iconst (v := (-1)) hx hb dMd_giveUses_134 (by decide) ?_
    exact hj135 (-1) _ _ _ (lv_sub hl [0, 1, 2] rfl) hP hD hS hw
  · have hw := hw.2 hc
    refine lv_aload_n hx hb dMd_giveUses_114 rfl (lv_at hl 0 rfl) ?_
    refine lv_aload_n hx hb dMd_giveUses_115 rfl (lv_at hl 0 rfl) ?_
    refine va_get (D := D) (ci := 7) (v := .ref (bd 7)) (C := "OnceNamedModel") (T := TX7) (N := 34) hx hb hts (fun w h => List.mem_cons_of_mem _ (inX7 w h)) hown hK hP 0 rfl rfl 8 (by decide) (hts _ (List.mem_cons_of_mem _ kw_993)) (fun _ h9 => h9) rfl dMd_giveUses_116 ?_
    refine lv_iload_n hx hb dMd_giveUses_119 rfl (lv_at hl 1 rfl) ?_
    have ho := hw.1
    have hw := hw.2
    refine va_iald hx hb hK hP 7 0 rfl rfl ho dMd_giveUses_120 ?_
    refine lv_iload_n hx hb dMd_giveUses_121 rfl (lv_at hl 1 rfl) ?_
    refine lv_aload_n hx hb dMd_giveUses_122 rfl (lv_at hl 0 rfl) ?_
    refine va_get (D := D) (ci := 7) (v := .ref (bd 1)) (C := "OnceNamedModel") (T := TX7) (N := 34) hx hb hts (fun w h => List.mem_cons_of_mem _ (inX7 w h)) hown hK hP 0 rfl rfl 2 (by decide) (hts _ (List.mem_cons_of_mem _ kw_987)) (fun _ h9 => h9) rfl dMd_giveUses_123 ?_
    refine lv_iload_n hx hb dMd_giveUses_126 rfl (lv_at hl 1 rfl) ?_
    have ho := hw.1
    have hw := hw.2
    refine va_iald hx hb hK hP 1 0 rfl rfl ho dMd_giveUses_127 ?_
    refine xci (va_runV ⟨hx, hb, hml, hown, hts⟩ (ktMd_latest l D cA cB bd N _ mThrown mReached mForm mSlot mOver mMany mKinds mVs mDominators mMeets mSet (mEndVariable (Int32.toNatClampNeg v1)) v1 (mMany (Int32.toNatClampNeg v1)) _ hw) (cwV 3 hts (goodV kw_1193 kw_1195 ks_4_12 kw_11 kw_1196) rfl rfl rfl (by decide +kernel) ⟨Nat.le_of_ble_eq_true rfl, Nat.le_of_ble_eq_true rfl⟩) (xpreV hK hP hD hN [0, 1, 2, 3, 10, 11, 13] rfl rfl 0 rfl rfl) rfl rfl hl.1 rfl (lv_room (Nat.le_of_ble_eq_true rfl)) dMd_giveUses_128 ⟨Nat.le_of_ble_eq_true rfl, Nat.le_of_ble_eq_true rfl⟩) hP hD hS hA [0, 1, 2, 3, 10, 11, 13] [4, 5, 6, 7, 8, 9, 12, 14, 15, 16] rfl rfl rfl rfl [10, 11, 12, 13, 0, 1, 2, 3, 4, 5, 14, 15, 6, 16, 7, 8, 9] rfl (fun _ => rfl) (fun r128 u H locs hw hP hD hS => ?_)
    have hP : va_P D vwCl (wdMd_giveUses cA cB bd N mThrown mReached mForm mSlot mOver mMany mKinds mVs mWs mXs mEnds mEndVariable mYes mNo mDominators mMeets mSources mSet mUseW_x99 mUseX_x99 mEndUse) H := hP
    have hD : va_D A (wdMd_giveUses cA cB bd N mThrown mReached mForm mSlot mOver mMany mKinds mVs mWs mXs mEnds mEndVariable mYes mNo mDominators mMeets mSources mSet mUseW_x99 mUseX_x99 mEndUse) := hD
    refine lv_goto (tgt := 135) hx hb dMd_giveUses_131 rfl ?_
    exact hj135 r128 _ _ _ (lv_sub hl [0, 1, 2] rfl) hP hD hS hw
