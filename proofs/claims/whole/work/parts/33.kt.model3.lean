abbrev wdMd_parent (cA : ClassId) (cB : ClassId) (bd : Nat → Nat) (N : Nat) (mThrown : Int32) (mReached : Int32) (mForm : Bool) (mSlot : Int32) (mOver : Bool) (mEnds : Nat → Int32) (mYes : Nat → Int32) (mNo : Nat → Int32) (mDominators : Nat → Int32) : va_W := [((bd 0), .inr (7, [.int mThrown, .int (nI N), .ref (bd 1), .ref (bd 2), .ref (bd 3), .ref (bd 4), .ref (bd 5), .ref (bd 6), .ref (bd 7), .ref (bd 8), .ref (bd 9), .ref (bd 10), .int mReached, .ref (bd 11), .int (bI mForm), .ref (bd 12), .ref (bd 13), .ref (bd 14), .ref (bd 15), .ref (bd 16), .ref (bd 17), .ref (bd 18), .ref (bd 19), .ref (bd 20), .ref (bd 21), .ref (bd 22), .ref (bd 23), .ref (bd 24), .ref (bd 25), .ref (bd 26), .ref (bd 27), .ref (bd 28), .int mSlot, .int (bI mOver)])), ((bd 6), .inl (cA, 12, .inl mEnds)), ((bd 8), .inl (cA, 12, .inl mYes)), ((bd 9), .inl (cA, 12, .inl mNo)), ((bd 11), .inl (cA, 12, .inl mDominators))]
abbrev qcMd_parent (D : va_G) (cA : ClassId) (cB : ClassId) (bd : Nat → Nat) (N : Nat) (mThrown : Int32) (mReached : Int32) (mForm : Bool) (mSlot : Int32) (mOver : Bool) (mEnds : Nat → Int32) (mYes : Nat → Int32) (mNo : Nat → Int32) (mDominators : Nat → Int32) (post : Int32 → Int32 → Int32 → (Nat → Int32) → Prop) (A : Nat → Prop) : Array Value → State → Outcome → State → Prop := va_Qi (S := (Int32) × (Int32) × (Nat → Int32)) (fun r u => post r u.1 u.2.1 u.2.2) (fun u t => xB D [(cA, .int), (cB, .boolean)] A (wdMd_parent cA cB bd N u.1 u.2.1 mForm mSlot mOver mEnds mYes mNo u.2.2) t) A
abbrev rmMd_parent : Room := { frames := 3, cells := 0, slots := 0, locals := 69 }
set_option maxHeartbeats 4000000 in
set_option maxRecDepth 100000 in
theorem ktMd_parent (l : Launch) (D : va_G) (cA : ClassId) (cB : ClassId) (bd : Nat → Nat) (N : Nat) (sz : Nat) (mThrown : Int32) (mReached : Int32) (mForm : Bool) (mSlot : Int32) (mOver : Bool) (mEnds : Nat → Int32) (mYes : Nat → Int32) (mNo : Nat → Int32) (mDominators : Nat → Int32) (v1 : Int32) (post : Int32 → Int32 → Int32 → (Nat → Int32) → Prop) (hw : wpMd_parent N mReached mEnds mYes mNo mDominators v1 post) : Met l yMd_parent (Cond.code yMd_parent cMd_parent 2 (some .int) :: xW) rmMd_parent (va_Pc [.ref (bd 0), .int v1] (xPc D [(cA, .int), (cB, .boolean)] (wdMd_parent cA cB bd N mThrown mReached mForm mSlot mOver mEnds mYes mNo mDominators) sz)) (qcMd_parent D cA cB bd N mThrown mReached mForm mSlot mOver mEnds mYes mNo mDominators post (va_A (wdMd_parent cA cB bd N mThrown mReached mForm mSlot mOver mEnds mYes mNo mDominators) sz)) 0 0 (va_A (wdMd_parent cA cB bd N mThrown mReached mForm mSlot mOver mEnds mYes mNo mDominators) sz) := by
  refine Met.ofW (cc := cMd_parent) (maxL := 2) (ret := (some .int)) (by decide) rfl ?_
  intro p e s m args below meth c s₁ B hml hv
  obtain ⟨rfl, hsz, hP, hK, hD0, hN⟩ := hv
  have hx := B.exec
  have hb := B.bytes
  have hr := B.returns
  have hts := atoms_spec (ws := (Cond.code yMd_parent cMd_parent 2 (some .int) :: xW)) B.pre
  have hown : s.vm.findClass "OnceNamedModel" = some m.cls := findClass_of_methodNamed B.named
  have hlocks := B.notSynchronized
  subst hsz
  have hD := hD0.self (sz := s.heap.size)
  generalize hAe : va_A (wdMd_parent cA cB bd N mThrown mReached mForm mSlot mOver mEnds mYes mNo mDominators) s.heap.size = A at hD ⊢
  have hA : ∀ q : Nat, s.heap.size ≤ q → A q := fun q h => by rw [← hAe]; exact Or.inr h
  have hS : va_S A s.heap s.heap [] := va_S.rf
  have hend : ∀ (r : Int32) (u0 : Int32) (u1 : Int32) (u2 : Nat → Int32) (H : Heap) (locs : List Loc) (pc : Nat) (ls : Array Slot), decode cMd_parent pc = .ok (.ireturn, 1) → va_P D vwCl (wdMd_parent cA cB bd N u0 u1 mForm mSlot mOver mEnds mYes mNo u2) H → va_D A (wdMd_parent cA cB bd N u0 u1 mForm mSlot mOver mEnds mYes mNo u2) → va_S A s.heap H locs → post r u0 u1 u2 → W p l e (headSpec (Cond.code yMd_parent cMd_parent 2 (some .int) :: xW) rmMd_parent).room s m ([.ref (bd 0), .int v1] : List Value).toArray below meth c H locs 0 0 (MQ below (qcMd_parent D cA cB bd N mThrown mReached mForm mSlot mOver mEnds mYes mNo mDominators post A) ([.ref (bd 0), .int v1] : List Value).toArray s 0 0 A) (F0 m pc ls [.int r]) := fun r u0 u1 u2 H locs pc ls hd hP hD hS hw => W.iret (v := r) hx hb hr (fun t ht hW => ⟨⟨r, (u0, u1, u2), rfl, hw, ⟨by rw [ht]; exact hP, va_K.moved hW.alike hK, hD⟩⟩, hS.F ht⟩) hS.2.2 hd
  generalize hQ : MQ below (qcMd_parent D cA cB bd N mThrown mReached mForm mSlot mOver mEnds mYes mNo mDominators post A) ([.ref (bd 0), .int v1] : List Value).toArray s 0 0 A = Q at hend ⊢
  have hl := lv_entry ([.ref (bd 0), .int v1]) (n := 2) (Nat.le_of_ble_eq_true rfl)
  rw [lg_entry_eq]
  generalize (lg_sl ([.ref (bd 0), .int v1]) ++ List.replicate (2 - (lg_sl ([.ref (bd 0), .int v1])).length) Slot.unset).toArray = ls at hl ⊢
  have hl : lv_has ls 2 [(0, .ref (bd 0)), (1, .int v1)] := hl
  unfold wpMd_parent at hw
  refine lv_aload_n hx hb dMd_parent_0 rfl (lv_at hl 0 rfl) ?_
  refine lv_aload_n hx hb dMd_parent_1 rfl (lv_at hl 0 rfl) ?_
  refine lv_iload_n hx hb dMd_parent_2 rfl (lv_at hl 1 rfl) ?_
  refine xci (va_runV ⟨hx, hb, hml, hown, hts⟩ (ktMd_noBlock l D cA cB bd N _ mThrown mReached mForm mSlot mOver v1 _ hw) (cwV 1 hts (goodV kw_1097 kw_1099 ks_3_12 kw_11 kw_1100) rfl rfl rfl (by decide +kernel) ⟨Nat.le_of_ble_eq_true rfl, Nat.le_of_ble_eq_true rfl⟩) (xpreV hK hP hD hN [0] rfl rfl 0 rfl rfl) rfl rfl hl.1 rfl (lv_room (Nat.le_of_ble_eq_true rfl)) dMd_parent_3 ⟨Nat.le_of_ble_eq_true rfl, Nat.le_of_ble_eq_true rfl⟩) hP hD hS hA [0] [1, 2, 3, 4] rfl rfl rfl rfl [4, 0, 1, 2, 3] rfl (fun _ => rfl) (fun r3 u H locs hw hP hD hS => ?_)
  obtain ⟨r3, rfl, hw⟩ := hw
  have hP : va_P D vwCl (wdMd_parent cA cB bd N mThrown mReached mForm mSlot mOver mEnds mYes mNo mDominators) H := hP
  have hD : va_D A (wdMd_parent cA cB bd N mThrown mReached mForm mSlot mOver mEnds mYes mNo mDominators) := hD
  obtain ⟨J14, hJ14, hw⟩ := hw
  have hj14 : ∀ (t14_0 : Bool) (ls : Array Slot) (H : Heap) (locs : List Loc), lv_has ls 2 [(0, .ref (bd 0)), (1, .int v1)] → va_P D vwCl (wdMd_parent cA cB bd N mThrown mReached mForm mSlot mOver mEnds mYes mNo mDominators) H → va_D A (wdMd_parent cA cB bd N mThrown mReached mForm mSlot mOver mEnds mYes mNo mDominators) → va_S A s.heap H locs → J14 t14_0 → W p l e (headSpec (Cond.code yMd_parent cMd_parent 2 (some .int) :: xW) rmMd_parent).room s m ([.ref (bd 0), .int v1] : List Value).toArray below meth c H locs 0 0 Q (F0 m 14 ls [.int (bI t14_0), .ref (bd 0)]) := by
    intro t14_0 ls H locs hl hP hD hS hw
    have hw := hJ14 t14_0 hw
    refine va_put (D := D) (ci := 7) (v := .int (bI t14_0)) (ty := .int) (C := "OnceNamedModel") (T := TX7) (N := 34) hx hb hts (fun w h => List.mem_cons_of_mem _ (inX7 w h)) tyX7 tyX7_ok nmX7 hown hK hP hD hS 0 rfl rfl 0 (by decide) (hts _ (List.mem_cons_of_mem _ kw_985)) (fun _ h9 => h9) rfl (by decide +kernel) rfl rfl (Nat.le_of_ble_eq_true rfl) dMd_parent_14 (fun H locs hP hD hS => ?_)
    have hP : va_P D vwCl (wdMd_parent cA cB bd N (bI t14_0) mReached mForm mSlot mOver mEnds mYes mNo mDominators) H := hP
    have hD : va_D A (wdMd_parent cA cB bd N (bI t14_0) mReached mForm mSlot mOver mEnds mYes mNo mDominators) := hD
    refine lv_aload_n hx hb dMd_parent_17 rfl (lv_at hl 0 rfl) ?_
    refine va_get (D := D) (ci := 7) (v := .int (bI t14_0)) (C := "OnceNamedModel") (T := TX7) (N := 34) hx hb hts (fun w h => List.mem_cons_of_mem _ (inX7 w h)) hown hK hP 0 rfl rfl 0 (by decide) (hts _ (List.mem_cons_of_mem _ kw_985)) (fun _ h9 => h9) rfl dMd_parent_18 ?_
    refine lv_if_eq (tgt := 26) hx hb dMd_parent_21 rfl (fun hc => ?_) (fun hc => ?_)
    · have hw := hw.1 hc
      refine lv_aload_n hx hb dMd_parent_26 rfl (lv_at hl 0 rfl) ?_
      refine xcv (va_runV ⟨hx, hb, hml, hown, hts⟩ (ktMd_look l D cA cB bd N _ (bI t14_0) mReached mForm mSlot mOver mEnds mYes mNo mDominators _ hw) (cwV 0 hts (goodV kw_1125 kw_1127 ks_3_14 kw_11 kw_1128) rfl rfl rfl (by decide +kernel) ⟨Nat.le_of_ble_eq_true rfl, Nat.le_of_ble_eq_true rfl⟩) (xpreV hK hP hD hN [0, 1, 2, 3, 4] rfl rfl 0 rfl rfl) rfl rfl hl.1 rfl (lv_room (Nat.le_of_ble_eq_true rfl)) dMd_parent_27 ⟨Nat.le_of_ble_eq_true rfl, Nat.le_of_ble_eq_true rfl⟩) hP hD hS hA [0, 1, 2, 3, 4] [] rfl rfl rfl rfl [0, 1, 2, 3, 4] rfl (fun _ => rfl) (fun u H locs hw hP hD hS => ?_)
      obtain ⟨mReached_27, mDominators_27⟩ := u
      try dsimp only at hw
      have hP : va_P D vwCl (wdMd_parent cA cB bd N (bI t14_0) mReached_27 mForm mSlot mOver mEnds mYes mNo mDominators_27) H := hP
      have hD : va_D A (wdMd_parent cA cB bd N (bI t14_0) mReached_27 mForm mSlot mOver mEnds mYes mNo mDominators_27) := hD
      refine lv_aload_n hx hb dMd_parent_30 rfl (lv_at hl 0 rfl) ?_
      refine lv_aload_n hx hb dMd_parent_31 rfl (lv_at hl 0 rfl) ?_
      refine va_get (D := D) (ci := 7) (v := .int mReached_27) (C := "OnceNamedModel") (T := TX7) (N := 34) hx hb hts (fun w h => List.mem_cons_of_mem _ (inX7 w h)) hown hK hP 0 rfl rfl 12 (by decide) (hts _ (List.mem_cons_of_mem _ kw_997)) (fun _ h9 => h9) rfl dMd_parent_32 ?_
      refine lv_iload_n hx hb dMd_parent_35 rfl (lv_at hl 1 rfl) ?_
      refine xci (va_runV ⟨hx, hb, hml, hown, hts⟩ (ktMd_has l D cA cB bd N _ mReached_27 v1 _ hw) (cwV 2 hts (goodV kw_1133 kw_1135 ks_4_0 kw_11 kw_1136) rfl rfl rfl (by decide +kernel) ⟨Nat.le_of_ble_eq_true rfl, Nat.le_of_ble_eq_true rfl⟩) (xpreV hK hP hD hN [] rfl rfl 0 rfl rfl) rfl rfl hl.1 rfl (lv_room (Nat.le_of_ble_eq_true rfl)) dMd_parent_36 ⟨Nat.le_of_ble_eq_true rfl, Nat.le_of_ble_eq_true rfl⟩) hP hD hS hA [] [0, 1, 2, 3, 4] rfl rfl rfl rfl [0, 1, 2, 3, 4] rfl (fun _ => rfl) (fun r36 u H locs hw hP hD hS => ?_)
      obtain ⟨r36, rfl, hw⟩ := hw
      have hP : va_P D vwCl (wdMd_parent cA cB bd N (bI t14_0) mReached_27 mForm mSlot mOver mEnds mYes mNo mDominators_27) H := hP
      have hD : va_D A (wdMd_parent cA cB bd N (bI t14_0) mReached_27 mForm mSlot mOver mEnds mYes mNo mDominators_27) := hD
      refine lv_if_eq (tgt := 50) hx hb dMd_parent_39 rfl (fun hc => ?_) (fun hc => ?_)
      · have hw := hw.1 (bI_0 hc)
        refine lv_iconst (v := (-1)) hx hb dMd_parent_50 (by decide) ?_
        exact hend (-1) (bI t14_0) mReached_27 mDominators_27 _ _ _ _ dMd_parent_51 hP hD hS hw
      · have hw := hw.2 (bI_1 hc)
        refine lv_aload_n hx hb dMd_parent_42 rfl (lv_at hl 0 rfl) ?_
        refine lv_iload_n hx hb dMd_parent_43 rfl (lv_at hl 1 rfl) ?_
        refine xci (va_runV ⟨hx, hb, hml, hown, hts⟩ (ktMd_parentOf l D cA cB bd N _ (bI t14_0) mReached_27 mForm mSlot mOver mDominators_27 v1 _ hw) (cwV 1 hts (goodV kw_1137 kw_1139 ks_4_1 kw_11 kw_1140) rfl rfl rfl (by decide +kernel) ⟨Nat.le_of_ble_eq_true rfl, Nat.le_of_ble_eq_true rfl⟩) (xpreV hK hP hD hN [0, 4] rfl rfl 0 rfl rfl) rfl rfl hl.1 rfl (lv_room (Nat.le_of_ble_eq_true rfl)) dMd_parent_44 ⟨Nat.le_of_ble_eq_true rfl, Nat.le_of_ble_eq_true rfl⟩) hP hD hS hA [0, 4] [1, 2, 3] rfl rfl rfl rfl [3, 0, 1, 2, 4] rfl (fun _ => rfl) (fun r44 u H locs hw hP hD hS => ?_)
        have hP : va_P D vwCl (wdMd_parent cA cB bd N (bI t14_0) mReached_27 mForm mSlot mOver mEnds mYes mNo mDominators_27) H := hP
        have hD : va_D A (wdMd_parent cA cB bd N (bI t14_0) mReached_27 mForm mSlot mOver mEnds mYes mNo mDominators_27) := hD
        refine lv_goto (tgt := 51) hx hb dMd_parent_47 rfl ?_
        exact hend r44 (bI t14_0) mReached_27 mDominators_27 _ _ _ _ dMd_parent_51 hP hD hS hw
    · have hw := hw.2 hc
      refine lv_iconst (v := 0) hx hb dMd_parent_24 (by decide) ?_
      exact hend 0 (bI t14_0) mReached mDominators _ _ _ _ dMd_parent_25 hP hD hS hw
  refine lv_if_eq (tgt := 13) hx hb dMd_parent_6 rfl (fun hc => ?_) (fun hc => ?_)
  · have hw := hw.1 (bI_0 hc)
    refine lv_iconst (v := 0) hx hb dMd_parent_13 (by decide) ?_
    exact hj14 false _ _ _ (lv_sub hl [0, 1] rfl) hP hD hS hw
  · have hw := hw.2 (bI_1 hc)
    refine lv_iconst (v := 1) hx hb dMd_parent_9 (by decide) ?_
    refine lv_goto (tgt := 14) hx hb dMd_parent_10 rfl ?_
    exact hj14 true _ _ _ (lv_sub hl [0, 1] rfl) hP hD hS hw
abbrev wdMd_dominates (cA : ClassId) (cB : ClassId) (bd : Nat → Nat) (N : Nat) (mThrown : Int32) (mReached : Int32) (mForm : Bool) (mSlot : Int32) (mOver : Bool) (mEnds : Nat → Int32) (mYes : Nat → Int32) (mNo : Nat → Int32) (mDominators : Nat → Int32) : va_W := [((bd 0), .inr (7, [.int mThrown, .int (nI N), .ref (bd 1), .ref (bd 2), .ref (bd 3), .ref (bd 4), .ref (bd 5), .ref (bd 6), .ref (bd 7), .ref (bd 8), .ref (bd 9), .ref (bd 10), .int mReached, .ref (bd 11), .int (bI mForm), .ref (bd 12), .ref (bd 13), .ref (bd 14), .ref (bd 15), .ref (bd 16), .ref (bd 17), .ref (bd 18), .ref (bd 19), .ref (bd 20), .ref (bd 21), .ref (bd 22), .ref (bd 23), .ref (bd 24), .ref (bd 25), .ref (bd 26), .ref (bd 27), .ref (bd 28), .int mSlot, .int (bI mOver)])), ((bd 6), .inl (cA, 12, .inl mEnds)), ((bd 8), .inl (cA, 12, .inl mYes)), ((bd 9), .inl (cA, 12, .inl mNo)), ((bd 11), .inl (cA, 12, .inl mDominators))]
abbrev qcMd_dominates (D : va_G) (cA : ClassId) (cB : ClassId) (bd : Nat → Nat) (N : Nat) (mThrown : Int32) (mReached : Int32) (mForm : Bool) (mSlot : Int32) (mOver : Bool) (mEnds : Nat → Int32) (mYes : Nat → Int32) (mNo : Nat → Int32) (mDominators : Nat → Int32) (post : Bool → Int32 → Int32 → (Nat → Int32) → Prop) (A : Nat → Prop) : Array Value → State → Outcome → State → Prop := va_Qi (S := (Int32) × (Int32) × (Nat → Int32)) (fun r u => ∃ z : Bool, r = bI z ∧ post z u.1 u.2.1 u.2.2) (fun u t => xB D [(cA, .int), (cB, .boolean)] A (wdMd_dominates cA cB bd N u.1 u.2.1 mForm mSlot mOver mEnds mYes mNo u.2.2) t) A
abbrev rmMd_dominates : Room := { frames := 3, cells := 0, slots := 0, locals := 69 }
set_option maxHeartbeats 4000000 in
set_option maxRecDepth 100000 in
theorem ktMd_dominates (l : Launch) (D : va_G) (cA : ClassId) (cB : ClassId) (bd : Nat → Nat) (N : Nat) (sz : Nat) (mThrown : Int32) (mReached : Int32) (mForm : Bool) (mSlot : Int32) (mOver : Bool) (mEnds : Nat → Int32) (mYes : Nat → Int32) (mNo : Nat → Int32) (mDominators : Nat → Int32) (v1 : Int32) (v2 : Int32) (post : Bool → Int32 → Int32 → (Nat → Int32) → Prop) (hw : wpMd_dominates N mEnds mYes mNo mDominators v1 v2 post) : Met l yMd_dominates (Cond.code yMd_dominates cMd_dominates 3 (some .boolean) :: xW) rmMd_dominates (va_Pc [.ref (bd 0), .int v1, .int v2] (xPc D [(cA, .int), (cB, .boolean)] (wdMd_dominates cA cB bd N mThrown mReached mForm mSlot mOver mEnds mYes mNo mDominators) sz)) (qcMd_dominates D cA cB bd N mThrown mReached mForm mSlot mOver mEnds mYes mNo mDominators post (va_A (wdMd_dominates cA cB bd N mThrown mReached mForm mSlot mOver mEnds mYes mNo mDominators) sz)) 0 0 (va_A (wdMd_dominates cA cB bd N mThrown mReached mForm mSlot mOver mEnds mYes mNo mDominators) sz) := by
  refine Met.ofW (cc := cMd_dominates) (maxL := 3) (ret := (some .boolean)) (by decide) rfl ?_
  intro p e s m args below meth c s₁ B hml hv
  obtain ⟨rfl, hsz, hP, hK, hD0, hN⟩ := hv
  have hx := B.exec
  have hb := B.bytes
  have hr := B.returns
  have hts := atoms_spec (ws := (Cond.code yMd_dominates cMd_dominates 3 (some .boolean) :: xW)) B.pre
  have hown : s.vm.findClass "OnceNamedModel" = some m.cls := findClass_of_methodNamed B.named
  have hlocks := B.notSynchronized
  subst hsz
  have hD := hD0.self (sz := s.heap.size)
  generalize hAe : va_A (wdMd_dominates cA cB bd N mThrown mReached mForm mSlot mOver mEnds mYes mNo mDominators) s.heap.size = A at hD ⊢
  have hA : ∀ q : Nat, s.heap.size ≤ q → A q := fun q h => by rw [← hAe]; exact Or.inr h
  have hS : va_S A s.heap s.heap [] := va_S.rf
  have hend : ∀ (r : Bool) (u0 : Int32) (u1 : Int32) (u2 : Nat → Int32) (H : Heap) (locs : List Loc) (pc : Nat) (ls : Array Slot), decode cMd_dominates pc = .ok (.ireturn, 1) → va_P D vwCl (wdMd_dominates cA cB bd N u0 u1 mForm mSlot mOver mEnds mYes mNo u2) H → va_D A (wdMd_dominates cA cB bd N u0 u1 mForm mSlot mOver mEnds mYes mNo u2) → va_S A s.heap H locs → post r u0 u1 u2 → W p l e (headSpec (Cond.code yMd_dominates cMd_dominates 3 (some .boolean) :: xW) rmMd_dominates).room s m ([.ref (bd 0), .int v1, .int v2] : List Value).toArray below meth c H locs 0 0 (MQ below (qcMd_dominates D cA cB bd N mThrown mReached mForm mSlot mOver mEnds mYes mNo mDominators post A) ([.ref (bd 0), .int v1, .int v2] : List Value).toArray s 0 0 A) (F0 m pc ls [.int (bI r)]) := fun r u0 u1 u2 H locs pc ls hd hP hD hS hw => W.zret (v := bI r) hx hb hr (bI_nar r) (fun t ht hW => ⟨⟨bI r, (u0, u1, u2), rfl, ⟨r, rfl, hw⟩, ⟨by rw [ht]; exact hP, va_K.moved hW.alike hK, hD⟩⟩, hS.F ht⟩) hS.2.2 hd
  generalize hQ : MQ below (qcMd_dominates D cA cB bd N mThrown mReached mForm mSlot mOver mEnds mYes mNo mDominators post A) ([.ref (bd 0), .int v1, .int v2] : List Value).toArray s 0 0 A = Q at hend ⊢
  have hl := lv_entry ([.ref (bd 0), .int v1, .int v2]) (n := 3) (Nat.le_of_ble_eq_true rfl)
  rw [lg_entry_eq]
  generalize (lg_sl ([.ref (bd 0), .int v1, .int v2]) ++ List.replicate (3 - (lg_sl ([.ref (bd 0), .int v1, .int v2])).length) Slot.unset).toArray = ls at hl ⊢
  have hl : lv_has ls 3 [(0, .ref (bd 0)), (1, .int v1), (2, .int v2)] := hl
  unfold wpMd_dominates at hw
  refine lv_aload_n hx hb dMd_dominates_0 rfl (lv_at hl 0 rfl) ?_
  refine lv_aload_n hx hb dMd_dominates_1 rfl (lv_at hl 0 rfl) ?_
  refine lv_iload_n hx hb dMd_dominates_2 rfl (lv_at hl 1 rfl) ?_
  refine xci (va_runV ⟨hx, hb, hml, hown, hts⟩ (ktMd_noBlock l D cA cB bd N _ mThrown mReached mForm mSlot mOver v1 _ hw) (cwV 1 hts (goodV kw_1097 kw_1099 ks_3_12 kw_11 kw_1100) rfl rfl rfl (by decide +kernel) ⟨Nat.le_of_ble_eq_true rfl, Nat.le_of_ble_eq_true rfl⟩) (xpreV hK hP hD hN [0] rfl rfl 0 rfl rfl) rfl rfl hl.1 rfl (lv_room (Nat.le_of_ble_eq_true rfl)) dMd_dominates_3 ⟨Nat.le_of_ble_eq_true rfl, Nat.le_of_ble_eq_true rfl⟩) hP hD hS hA [0] [1, 2, 3, 4] rfl rfl rfl rfl [4, 0, 1, 2, 3] rfl (fun _ => rfl) (fun r3 u H locs hw hP hD hS => ?_)
  obtain ⟨r3, rfl, hw⟩ := hw
  have hP : va_P D vwCl (wdMd_dominates cA cB bd N mThrown mReached mForm mSlot mOver mEnds mYes mNo mDominators) H := hP
  have hD : va_D A (wdMd_dominates cA cB bd N mThrown mReached mForm mSlot mOver mEnds mYes mNo mDominators) := hD
  obtain ⟨J22, hJ22, hw⟩ := hw
  have hj22 : ∀ (t22_0 : Bool) (ls : Array Slot) (H : Heap) (locs : List Loc), lv_has ls 3 [(0, .ref (bd 0)), (1, .int v1), (2, .int v2)] → va_P D vwCl (wdMd_dominates cA cB bd N mThrown mReached mForm mSlot mOver mEnds mYes mNo mDominators) H → va_D A (wdMd_dominates cA cB bd N mThrown mReached mForm mSlot mOver mEnds mYes mNo mDominators) → va_S A s.heap H locs → J22 t22_0 → W p l e (headSpec (Cond.code yMd_dominates cMd_dominates 3 (some .boolean) :: xW) rmMd_dominates).room s m ([.ref (bd 0), .int v1, .int v2] : List Value).toArray below meth c H locs 0 0 Q (F0 m 22 ls [.int (bI t22_0), .ref (bd 0)]) := by
    intro t22_0 ls H locs hl hP hD hS hw
    have hw := hJ22 t22_0 hw
    refine va_put (D := D) (ci := 7) (v := .int (bI t22_0)) (ty := .int) (C := "OnceNamedModel") (T := TX7) (N := 34) hx hb hts (fun w h => List.mem_cons_of_mem _ (inX7 w h)) tyX7 tyX7_ok nmX7 hown hK hP hD hS 0 rfl rfl 0 (by decide) (hts _ (List.mem_cons_of_mem _ kw_985)) (fun _ h9 => h9) rfl (by decide +kernel) rfl rfl (Nat.le_of_ble_eq_true rfl) dMd_dominates_22 (fun H locs hP hD hS => ?_)
    have hP : va_P D vwCl (wdMd_dominates cA cB bd N (bI t22_0) mReached mForm mSlot mOver mEnds mYes mNo mDominators) H := hP
    have hD : va_D A (wdMd_dominates cA cB bd N (bI t22_0) mReached mForm mSlot mOver mEnds mYes mNo mDominators) := hD
    refine lv_aload_n hx hb dMd_dominates_25 rfl (lv_at hl 0 rfl) ?_
    refine xcv (va_runV ⟨hx, hb, hml, hown, hts⟩ (ktMd_look l D cA cB bd N _ (bI t22_0) mReached mForm mSlot mOver mEnds mYes mNo mDominators _ hw) (cwV 0 hts (goodV kw_1125 kw_1127 ks_3_14 kw_11 kw_1128) rfl rfl rfl (by decide +kernel) ⟨Nat.le_of_ble_eq_true rfl, Nat.le_of_ble_eq_true rfl⟩) (xpreV hK hP hD hN [0, 1, 2, 3, 4] rfl rfl 0 rfl rfl) rfl rfl hl.1 rfl (lv_room (Nat.le_of_ble_eq_true rfl)) dMd_dominates_26 ⟨Nat.le_of_ble_eq_true rfl, Nat.le_of_ble_eq_true rfl⟩) hP hD hS hA [0, 1, 2, 3, 4] [] rfl rfl rfl rfl [0, 1, 2, 3, 4] rfl (fun _ => rfl) (fun u H locs hw hP hD hS => ?_)
    obtain ⟨mReached_26, mDominators_26⟩ := u
    try dsimp only at hw
    have hP : va_P D vwCl (wdMd_dominates cA cB bd N (bI t22_0) mReached_26 mForm mSlot mOver mEnds mYes mNo mDominators_26) H := hP
    have hD : va_D A (wdMd_dominates cA cB bd N (bI t22_0) mReached_26 mForm mSlot mOver mEnds mYes mNo mDominators_26) := hD
    refine lv_aload_n hx hb dMd_dominates_29 rfl (lv_at hl 0 rfl) ?_
    refine va_get (D := D) (ci := 7) (v := .int (bI t22_0)) (C := "OnceNamedModel") (T := TX7) (N := 34) hx hb hts (fun w h => List.mem_cons_of_mem _ (inX7 w h)) hown hK hP 0 rfl rfl 0 (by decide) (hts _ (List.mem_cons_of_mem _ kw_985)) (fun _ h9 => h9) rfl dMd_dominates_30 ?_
    refine lv_if_ne (tgt := 78) hx hb dMd_dominates_33 rfl (fun hc => ?_) (fun hc => ?_)
    · have hw := hw.1 hc
      refine lv_iconst (v := 0) hx hb dMd_dominates_78 (by decide) ?_
      exact hend false (bI t22_0) mReached_26 mDominators_26 _ _ _ _ dMd_dominates_79 hP hD hS hw
    · have hw := hw.2 hc
      refine lv_aload_n hx hb dMd_dominates_36 rfl (lv_at hl 0 rfl) ?_
      refine lv_aload_n hx hb dMd_dominates_37 rfl (lv_at hl 0 rfl) ?_
      refine va_get (D := D) (ci := 7) (v := .int mReached_26) (C := "OnceNamedModel") (T := TX7) (N := 34) hx hb hts (fun w h => List.mem_cons_of_mem _ (inX7 w h)) hown hK hP 0 rfl rfl 12 (by decide) (hts _ (List.mem_cons_of_mem _ kw_997)) (fun _ h9 => h9) rfl dMd_dominates_38 ?_
      refine lv_iload_n hx hb dMd_dominates_41 rfl (lv_at hl 1 rfl) ?_
      refine xci (va_runV ⟨hx, hb, hml, hown, hts⟩ (ktMd_has l D cA cB bd N _ mReached_26 v1 _ hw) (cwV 2 hts (goodV kw_1133 kw_1135 ks_4_0 kw_11 kw_1136) rfl rfl rfl (by decide +kernel) ⟨Nat.le_of_ble_eq_true rfl, Nat.le_of_ble_eq_true rfl⟩) (xpreV hK hP hD hN [] rfl rfl 0 rfl rfl) rfl rfl hl.1 rfl (lv_room (Nat.le_of_ble_eq_true rfl)) dMd_dominates_42 ⟨Nat.le_of_ble_eq_true rfl, Nat.le_of_ble_eq_true rfl⟩) hP hD hS hA [] [0, 1, 2, 3, 4] rfl rfl rfl rfl [0, 1, 2, 3, 4] rfl (fun _ => rfl) (fun r42 u H locs hw hP hD hS => ?_)
      obtain ⟨r42, rfl, hw⟩ := hw
      have hP : va_P D vwCl (wdMd_dominates cA cB bd N (bI t22_0) mReached_26 mForm mSlot mOver mEnds mYes mNo mDominators_26) H := hP
      have hD : va_D A (wdMd_dominates cA cB bd N (bI t22_0) mReached_26 mForm mSlot mOver mEnds mYes mNo mDominators_26) := hD
      refine lv_if_eq (tgt := 78) hx hb dMd_dominates_45 rfl (fun hc => ?_) (fun hc => ?_)
      · have hw := hw.1 (bI_0 hc)
        refine lv_iconst (v := 0) hx hb dMd_dominates_78 (by decide) ?_
        exact hend false (bI t22_0) mReached_26 mDominators_26 _ _ _ _ dMd_dominates_79 hP hD hS hw
      · have hw := hw.2 (bI_1 hc)
        refine lv_aload_n hx hb dMd_dominates_48 rfl (lv_at hl 0 rfl) ?_
        refine lv_aload_n hx hb dMd_dominates_49 rfl (lv_at hl 0 rfl) ?_
        refine va_get (D := D) (ci := 7) (v := .int mReached_26) (C := "OnceNamedModel") (T := TX7) (N := 34) hx hb hts (fun w h => List.mem_cons_of_mem _ (inX7 w h)) hown hK hP 0 rfl rfl 12 (by decide) (hts _ (List.mem_cons_of_mem _ kw_997)) (fun _ h9 => h9) rfl dMd_dominates_50 ?_
        refine lv_iload_n hx hb dMd_dominates_53 rfl (lv_at hl 2 rfl) ?_
        refine xci (va_runV ⟨hx, hb, hml, hown, hts⟩ (ktMd_has l D cA cB bd N _ mReached_26 v2 _ hw) (cwV 2 hts (goodV kw_1133 kw_1135 ks_4_0 kw_11 kw_1136) rfl rfl rfl (by decide +kernel) ⟨Nat.le_of_ble_eq_true rfl, Nat.le_of_ble_eq_true rfl⟩) (xpreV hK hP hD hN [] rfl rfl 0 rfl rfl) rfl rfl hl.1 rfl (lv_room (Nat.le_of_ble_eq_true rfl)) dMd_dominates_54 ⟨Nat.le_of_ble_eq_true rfl, Nat.le_of_ble_eq_true rfl⟩) hP hD hS hA [] [0, 1, 2, 3, 4] rfl rfl rfl rfl [0, 1, 2, 3, 4] rfl (fun _ => rfl) (fun r54 u H locs hw hP hD hS => ?_)
        obtain ⟨r54, rfl, hw⟩ := hw
        have hP : va_P D vwCl (wdMd_dominates cA cB bd N (bI t22_0) mReached_26 mForm mSlot mOver mEnds mYes mNo mDominators_26) H := hP
        have hD : va_D A (wdMd_dominates cA cB bd N (bI t22_0) mReached_26 mForm mSlot mOver mEnds mYes mNo mDominators_26) := hD
        refine lv_if_eq (tgt := 78) hx hb dMd_dominates_57 rfl (fun hc => ?_) (fun hc => ?_)
        · have hw := hw.1 (bI_0 hc)
          refine lv_iconst (v := 0) hx hb dMd_dominates_78 (by decide) ?_
          exact hend false (bI t22_0) mReached_26 mDominators_26 _ _ _ _ dMd_dominates_79 hP hD hS hw
        · have hw := hw.2 (bI_1 hc)
          refine lv_aload_n hx hb dMd_dominates_60 rfl (lv_at hl 0 rfl) ?_
          refine lv_aload_n hx hb dMd_dominates_61 rfl (lv_at hl 0 rfl) ?_
          refine va_get (D := D) (ci := 7) (v := .ref (bd 11)) (C := "OnceNamedModel") (T := TX7) (N := 34) hx hb hts (fun w h => List.mem_cons_of_mem _ (inX7 w h)) hown hK hP 0 rfl rfl 13 (by decide) (hts _ (List.mem_cons_of_mem _ kw_998)) (fun _ h9 => h9) rfl dMd_dominates_62 ?_
          refine lv_iload_n hx hb dMd_dominates_65 rfl (lv_at hl 2 rfl) ?_
          have ho := hw.1
          have hw := hw.2
          refine va_iald hx hb hK hP 4 0 rfl rfl ho dMd_dominates_66 ?_
          refine lv_iload_n hx hb dMd_dominates_67 rfl (lv_at hl 1 rfl) ?_
          refine xci (va_runV ⟨hx, hb, hml, hown, hts⟩ (ktMd_has l D cA cB bd N _ (mDominators_26 (Int32.toNatClampNeg v2)) v1 _ hw) (cwV 2 hts (goodV kw_1133 kw_1135 ks_4_0 kw_11 kw_1136) rfl rfl rfl (by decide +kernel) ⟨Nat.le_of_ble_eq_true rfl, Nat.le_of_ble_eq_true rfl⟩) (xpreV hK hP hD hN [] rfl rfl 0 rfl rfl) rfl rfl hl.1 rfl (lv_room (Nat.le_of_ble_eq_true rfl)) dMd_dominates_68 ⟨Nat.le_of_ble_eq_true rfl, Nat.le_of_ble_eq_true rfl⟩) hP hD hS hA [] [0, 1, 2, 3, 4] rfl rfl rfl rfl [0, 1, 2, 3, 4] rfl (fun _ => rfl) (fun r68 u H locs hw hP hD hS => ?_)
          obtain ⟨r68, rfl, hw⟩ := hw
          have hP : va_P D vwCl (wdMd_dominates cA cB bd N (bI t22_0) mReached_26 mForm mSlot mOver mEnds mYes mNo mDominators_26) H := hP
          have hD : va_D A (wdMd_dominates cA cB bd N (bI t22_0) mReached_26 mForm mSlot mOver mEnds mYes mNo mDominators_26) := hD
          refine lv_if_eq (tgt := 78) hx hb dMd_dominates_71 rfl (fun hc => ?_) (fun hc => ?_)
          · have hw := hw.1 (bI_0 hc)
            refine lv_iconst (v := 0) hx hb dMd_dominates_78 (by decide) ?_
            exact hend false (bI t22_0) mReached_26 mDominators_26 _ _ _ _ dMd_dominates_79 hP hD hS hw
          · have hw := hw.2 (bI_1 hc)
            refine lv_iconst (v := 1) hx hb dMd_dominates_74 (by decide) ?_
            refine lv_goto (tgt := 79) hx hb dMd_dominates_75 rfl ?_
            exact hend true (bI t22_0) mReached_26 mDominators_26 _ _ _ _ dMd_dominates_79 hP hD hS hw
  obtain ⟨J17, hJ17, hw⟩ := hw
  have hj17 : ∀  (ls : Array Slot) (H : Heap) (locs : List Loc), lv_has ls 3 [(0, .ref (bd 0)), (1, .int v1), (2, .int v2)] → va_P D vwCl (wdMd_dominates cA cB bd N mThrown mReached mForm mSlot mOver mEnds mYes mNo mDominators) H → va_D A (wdMd_dominates cA cB bd N mThrown mReached mForm mSlot mOver mEnds mYes mNo mDominators) → va_S A s.heap H locs → J17 → W p l e (headSpec (Cond.code yMd_dominates cMd_dominates 3 (some .boolean) :: xW) rmMd_dominates).room s m ([.ref (bd 0), .int v1, .int v2] : List Value).toArray below meth c H locs 0 0 Q (F0 m 17 ls [.ref (bd 0)]) := by
    intro  ls H locs hl hP hD hS hw
    have hw := hJ17  hw
    refine lv_iconst (v := 1) hx hb dMd_dominates_17 (by decide) ?_
    refine lv_goto (tgt := 22) hx hb dMd_dominates_18 rfl ?_
    exact hj22 true _ _ _ (lv_sub hl [0, 1, 2] rfl) hP hD hS hw
  refine lv_if_ne (tgt := 17) hx hb dMd_dominates_6 rfl (fun hc => ?_) (fun hc => ?_)
  · have hw := hw.1 (bI_1 hc)
    exact hj17  _ _ _ (lv_sub hl [0, 1, 2] rfl) hP hD hS hw
  · have hw := hw.2 (bI_0 hc)
    refine lv_aload_n hx hb dMd_dominates_9 rfl (lv_at hl 0 rfl) ?_
    refine lv_iload_n hx hb dMd_dominates_10 rfl (lv_at hl 2 rfl) ?_
    refine xci (va_runV ⟨hx, hb, hml, hown, hts⟩ (ktMd_noBlock l D cA cB bd N _ mThrown mReached mForm mSlot mOver v2 _ hw) (cwV 1 hts (goodV kw_1097 kw_1099 ks_3_12 kw_11 kw_1100) rfl rfl rfl (by decide +kernel) ⟨Nat.le_of_ble_eq_true rfl, Nat.le_of_ble_eq_true rfl⟩) (xpreV hK hP hD hN [0] rfl rfl 0 rfl rfl) rfl rfl hl.1 rfl (lv_room (Nat.le_of_ble_eq_true rfl)) dMd_dominates_11 ⟨Nat.le_of_ble_eq_true rfl, Nat.le_of_ble_eq_true rfl⟩) hP hD hS hA [0] [1, 2, 3, 4] rfl rfl rfl rfl [4, 0, 1, 2, 3] rfl (fun _ => rfl) (fun r11 u H locs hw hP hD hS => ?_)
    obtain ⟨r11, rfl, hw⟩ := hw
    have hP : va_P D vwCl (wdMd_dominates cA cB bd N mThrown mReached mForm mSlot mOver mEnds mYes mNo mDominators) H := hP
    have hD : va_D A (wdMd_dominates cA cB bd N mThrown mReached mForm mSlot mOver mEnds mYes mNo mDominators) := hD
    refine lv_if_eq (tgt := 21) hx hb dMd_dominates_14 rfl (fun hc => ?_) (fun hc => ?_)
    · have hw := hw.1 (bI_0 hc)
      refine lv_iconst (v := 0) hx hb dMd_dominates_21 (by decide) ?_
      exact hj22 false _ _ _ (lv_sub hl [0, 1, 2] rfl) hP hD hS hw
    · have hw := hw.2 (bI_1 hc)
      exact hj17  _ _ _ (lv_sub hl [0, 1, 2] rfl) hP hD hS hw
abbrev wdMd_frontier (cA : ClassId) (cB : ClassId) (bd : Nat → Nat) (N : Nat) (mThrown : Int32) (mReached : Int32) (mForm : Bool) (mSlot : Int32) (mOver : Bool) (mEnds : Nat → Int32) (mYes : Nat → Int32) (mNo : Nat → Int32) (mDominators : Nat → Int32) : va_W := [((bd 0), .inr (7, [.int mThrown, .int (nI N), .ref (bd 1), .ref (bd 2), .ref (bd 3), .ref (bd 4), .ref (bd 5), .ref (bd 6), .ref (bd 7), .ref (bd 8), .ref (bd 9), .ref (bd 10), .int mReached, .ref (bd 11), .int (bI mForm), .ref (bd 12), .ref (bd 13), .ref (bd 14), .ref (bd 15), .ref (bd 16), .ref (bd 17), .ref (bd 18), .ref (bd 19), .ref (bd 20), .ref (bd 21), .ref (bd 22), .ref (bd 23), .ref (bd 24), .ref (bd 25), .ref (bd 26), .ref (bd 27), .ref (bd 28), .int mSlot, .int (bI mOver)])), ((bd 6), .inl (cA, 12, .inl mEnds)), ((bd 8), .inl (cA, 12, .inl mYes)), ((bd 9), .inl (cA, 12, .inl mNo)), ((bd 11), .inl (cA, 12, .inl mDominators))]
abbrev qcMd_frontier (D : va_G) (cA : ClassId) (cB : ClassId) (bd : Nat → Nat) (N : Nat) (mThrown : Int32) (mReached : Int32) (mForm : Bool) (mSlot : Int32) (mOver : Bool) (mEnds : Nat → Int32) (mYes : Nat → Int32) (mNo : Nat → Int32) (mDominators : Nat → Int32) (post : Bool → Int32 → Int32 → (Nat → Int32) → Prop) (A : Nat → Prop) : Array Value → State → Outcome → State → Prop := va_Qi (S := (Int32) × (Int32) × (Nat → Int32)) (fun r u => ∃ z : Bool, r = bI z ∧ post z u.1 u.2.1 u.2.2) (fun u t => xB D [(cA, .int), (cB, .boolean)] A (wdMd_frontier cA cB bd N u.1 u.2.1 mForm mSlot mOver mEnds mYes mNo u.2.2) t) A
abbrev rmMd_frontier : Room := { frames := 3, cells := 0, slots := 0, locals := 69 }
set_option maxHeartbeats 4000000 in
set_option maxRecDepth 100000 in
theorem ktMd_frontier (l : Launch) (D : va_G) (cA : ClassId) (cB : ClassId) (bd : Nat → Nat) (N : Nat) (sz : Nat) (mThrown : Int32) (mReached : Int32) (mForm : Bool) (mSlot : Int32) (mOver : Bool) (mEnds : Nat → Int32) (mYes : Nat → Int32) (mNo : Nat → Int32) (mDominators : Nat → Int32) (v1 : Int32) (v2 : Int32) (post : Bool → Int32 → Int32 → (Nat → Int32) → Prop) (hw : wpMd_frontier N mEnds mYes mNo mDominators v1 v2 post) : Met l yMd_frontier (Cond.code yMd_frontier cMd_frontier 3 (some .boolean) :: xW) rmMd_frontier (va_Pc [.ref (bd 0), .int v1, .int v2] (xPc D [(cA, .int), (cB, .boolean)] (wdMd_frontier cA cB bd N mThrown mReached mForm mSlot mOver mEnds mYes mNo mDominators) sz)) (qcMd_frontier D cA cB bd N mThrown mReached mForm mSlot mOver mEnds mYes mNo mDominators post (va_A (wdMd_frontier cA cB bd N mThrown mReached mForm mSlot mOver mEnds mYes mNo mDominators) sz)) 0 0 (va_A (wdMd_frontier cA cB bd N mThrown mReached mForm mSlot mOver mEnds mYes mNo mDominators) sz) := by
  refine Met.ofW (cc := cMd_frontier) (maxL := 3) (ret := (some .boolean)) (by decide) rfl ?_
  intro p e s m args below meth c s₁ B hml hv
  obtain ⟨rfl, hsz, hP, hK, hD0, hN⟩ := hv
  have hx := B.exec
  have hb := B.bytes
  have hr := B.returns
  have hts := atoms_spec (ws := (Cond.code yMd_frontier cMd_frontier 3 (some .boolean) :: xW)) B.pre
  have hown : s.vm.findClass "OnceNamedModel" = some m.cls := findClass_of_methodNamed B.named
  have hlocks := B.notSynchronized
  subst hsz
  have hD := hD0.self (sz := s.heap.size)
  generalize hAe : va_A (wdMd_frontier cA cB bd N mThrown mReached mForm mSlot mOver mEnds mYes mNo mDominators) s.heap.size = A at hD ⊢
  have hA : ∀ q : Nat, s.heap.size ≤ q → A q := fun q h => by rw [← hAe]; exact Or.inr h
  have hS : va_S A s.heap s.heap [] := va_S.rf
  have hend : ∀ (r : Bool) (u0 : Int32) (u1 : Int32) (u2 : Nat → Int32) (H : Heap) (locs : List Loc) (pc : Nat) (ls : Array Slot), decode cMd_frontier pc = .ok (.ireturn, 1) → va_P D vwCl (wdMd_frontier cA cB bd N u0 u1 mForm mSlot mOver mEnds mYes mNo u2) H → va_D A (wdMd_frontier cA cB bd N u0 u1 mForm mSlot mOver mEnds mYes mNo u2) → va_S A s.heap H locs → post r u0 u1 u2 → W p l e (headSpec (Cond.code yMd_frontier cMd_frontier 3 (some .boolean) :: xW) rmMd_frontier).room s m ([.ref (bd 0), .int v1, .int v2] : List Value).toArray below meth c H locs 0 0 (MQ below (qcMd_frontier D cA cB bd N mThrown mReached mForm mSlot mOver mEnds mYes mNo mDominators post A) ([.ref (bd 0), .int v1, .int v2] : List Value).toArray s 0 0 A) (F0 m pc ls [.int (bI r)]) := fun r u0 u1 u2 H locs pc ls hd hP hD hS hw => W.zret (v := bI r) hx hb hr (bI_nar r) (fun t ht hW => ⟨⟨bI r, (u0, u1, u2), rfl, ⟨r, rfl, hw⟩, ⟨by rw [ht]; exact hP, va_K.moved hW.alike hK, hD⟩⟩, hS.F ht⟩) hS.2.2 hd
  generalize hQ : MQ below (qcMd_frontier D cA cB bd N mThrown mReached mForm mSlot mOver mEnds mYes mNo mDominators post A) ([.ref (bd 0), .int v1, .int v2] : List Value).toArray s 0 0 A = Q at hend ⊢
  have hl := lv_entry ([.ref (bd 0), .int v1, .int v2]) (n := 3) (Nat.le_of_ble_eq_true rfl)
  rw [lg_entry_eq]
  generalize (lg_sl ([.ref (bd 0), .int v1, .int v2]) ++ List.replicate (3 - (lg_sl ([.ref (bd 0), .int v1, .int v2])).length) Slot.unset).toArray = ls at hl ⊢
  have hl : lv_has ls 3 [(0, .ref (bd 0)), (1, .int v1), (2, .int v2)] := hl
  unfold wpMd_frontier at hw
  refine lv_aload_n hx hb dMd_frontier_0 rfl (lv_at hl 0 rfl) ?_
  refine lv_aload_n hx hb dMd_frontier_1 rfl (lv_at hl 0 rfl) ?_
  refine lv_iload_n hx hb dMd_frontier_2 rfl (lv_at hl 1 rfl) ?_
  refine xci (va_runV ⟨hx, hb, hml, hown, hts⟩ (ktMd_noBlock l D cA cB bd N _ mThrown mReached mForm mSlot mOver v1 _ hw) (cwV 1 hts (goodV kw_1097 kw_1099 ks_3_12 kw_11 kw_1100) rfl rfl rfl (by decide +kernel) ⟨Nat.le_of_ble_eq_true rfl, Nat.le_of_ble_eq_true rfl⟩) (xpreV hK hP hD hN [0] rfl rfl 0 rfl rfl) rfl rfl hl.1 rfl (lv_room (Nat.le_of_ble_eq_true rfl)) dMd_frontier_3 ⟨Nat.le_of_ble_eq_true rfl, Nat.le_of_ble_eq_true rfl⟩) hP hD hS hA [0] [1, 2, 3, 4] rfl rfl rfl rfl [4, 0, 1, 2, 3] rfl (fun _ => rfl) (fun r3 u H locs hw hP hD hS => ?_)
  obtain ⟨r3, rfl, hw⟩ := hw
  have hP : va_P D vwCl (wdMd_frontier cA cB bd N mThrown mReached mForm mSlot mOver mEnds mYes mNo mDominators) H := hP
  have hD : va_D A (wdMd_frontier cA cB bd N mThrown mReached mForm mSlot mOver mEnds mYes mNo mDominators) := hD
  obtain ⟨J22, hJ22, hw⟩ := hw
  have hj22 : ∀ (t22_0 : Bool) (ls : Array Slot) (H : Heap) (locs : List Loc), lv_has ls 3 [(0, .ref (bd 0)), (1, .int v1), (2, .int v2)] → va_P D vwCl (wdMd_frontier cA cB bd N mThrown mReached mForm mSlot mOver mEnds mYes mNo mDominators) H → va_D A (wdMd_frontier cA cB bd N mThrown mReached mForm mSlot mOver mEnds mYes mNo mDominators) → va_S A s.heap H locs → J22 t22_0 → W p l e (headSpec (Cond.code yMd_frontier cMd_frontier 3 (some .boolean) :: xW) rmMd_frontier).room s m ([.ref (bd 0), .int v1, .int v2] : List Value).toArray below meth c H locs 0 0 Q (F0 m 22 ls [.int (bI t22_0), .ref (bd 0)]) := by
    intro t22_0 ls H locs hl hP hD hS hw
    have hw := hJ22 t22_0 hw
    refine va_put (D := D) (ci := 7) (v := .int (bI t22_0)) (ty := .int) (C := "OnceNamedModel") (T := TX7) (N := 34) hx hb hts (fun w h => List.mem_cons_of_mem _ (inX7 w h)) tyX7 tyX7_ok nmX7 hown hK hP hD hS 0 rfl rfl 0 (by decide) (hts _ (List.mem_cons_of_mem _ kw_985)) (fun _ h9 => h9) rfl (by decide +kernel) rfl rfl (Nat.le_of_ble_eq_true rfl) dMd_frontier_22 (fun H locs hP hD hS => ?_)
    have hP : va_P D vwCl (wdMd_frontier cA cB bd N (bI t22_0) mReached mForm mSlot mOver mEnds mYes mNo mDominators) H := hP
    have hD : va_D A (wdMd_frontier cA cB bd N (bI t22_0) mReached mForm mSlot mOver mEnds mYes mNo mDominators) := hD
    refine lv_aload_n hx hb dMd_frontier_25 rfl (lv_at hl 0 rfl) ?_
    refine xcv (va_runV ⟨hx, hb, hml, hown, hts⟩ (ktMd_look l D cA cB bd N _ (bI t22_0) mReached mForm mSlot mOver mEnds mYes mNo mDominators _ hw) (cwV 0 hts (goodV kw_1125 kw_1127 ks_3_14 kw_11 kw_1128) rfl rfl rfl (by decide +kernel) ⟨Nat.le_of_ble_eq_true rfl, Nat.le_of_ble_eq_true rfl⟩) (xpreV hK hP hD hN [0, 1, 2, 3, 4] rfl rfl 0 rfl rfl) rfl rfl hl.1 rfl (lv_room (Nat.le_of_ble_eq_true rfl)) dMd_frontier_26 ⟨Nat.le_of_ble_eq_true rfl, Nat.le_of_ble_eq_true rfl⟩) hP hD hS hA [0, 1, 2, 3, 4] [] rfl rfl rfl rfl [0, 1, 2, 3, 4] rfl (fun _ => rfl) (fun u H locs hw hP hD hS => ?_)
    obtain ⟨mReached_26, mDominators_26⟩ := u
    try dsimp only at hw
    have hP : va_P D vwCl (wdMd_frontier cA cB bd N (bI t22_0) mReached_26 mForm mSlot mOver mEnds mYes mNo mDominators_26) H := hP
    have hD : va_D A (wdMd_frontier cA cB bd N (bI t22_0) mReached_26 mForm mSlot mOver mEnds mYes mNo mDominators_26) := hD
    refine lv_aload_n hx hb dMd_frontier_29 rfl (lv_at hl 0 rfl) ?_
    refine va_get (D := D) (ci := 7) (v := .int (bI t22_0)) (C := "OnceNamedModel") (T := TX7) (N := 34) hx hb hts (fun w h => List.mem_cons_of_mem _ (inX7 w h)) hown hK hP 0 rfl rfl 0 (by decide) (hts _ (List.mem_cons_of_mem _ kw_985)) (fun _ h9 => h9) rfl dMd_frontier_30 ?_
    refine lv_if_ne (tgt := 49) hx hb dMd_frontier_33 rfl (fun hc => ?_) (fun hc => ?_)
    · have hw := hw.1 hc
      refine lv_iconst (v := 0) hx hb dMd_frontier_49 (by decide) ?_
      exact hend false (bI t22_0) mReached_26 mDominators_26 _ _ _ _ dMd_frontier_50 hP hD hS hw
    · have hw := hw.2 hc
      refine lv_aload_n hx hb dMd_frontier_36 rfl (lv_at hl 0 rfl) ?_
      refine lv_iload_n hx hb dMd_frontier_37 rfl (lv_at hl 1 rfl) ?_
      refine lv_iload_n hx hb dMd_frontier_38 rfl (lv_at hl 2 rfl) ?_
      refine xci (va_runV ⟨hx, hb, hml, hown, hts⟩ (ktMd_inFrontier l D cA cB bd N _ (bI t22_0) mReached_26 mForm mSlot mOver mEnds mYes mNo mDominators_26 v1 v2 _ hw) (cwV 2 hts (goodV kw_1153 kw_1155 ks_4_3 kw_11 kw_1156) rfl rfl rfl (by decide +kernel) ⟨Nat.le_of_ble_eq_true rfl, Nat.le_of_ble_eq_true rfl⟩) (xpreV hK hP hD hN [0, 1, 2, 3, 4] rfl rfl 0 rfl rfl) rfl rfl hl.1 rfl (lv_room (Nat.le_of_ble_eq_true rfl)) dMd_frontier_39 ⟨Nat.le_of_ble_eq_true rfl, Nat.le_of_ble_eq_true rfl⟩) hP hD hS hA [0, 1, 2, 3, 4] [] rfl rfl rfl rfl [0, 1, 2, 3, 4] rfl (fun _ => rfl) (fun r39 u H locs hw hP hD hS => ?_)
      obtain ⟨r39, rfl, hw⟩ := hw
      have hP : va_P D vwCl (wdMd_frontier cA cB bd N (bI t22_0) mReached_26 mForm mSlot mOver mEnds mYes mNo mDominators_26) H := hP
      have hD : va_D A (wdMd_frontier cA cB bd N (bI t22_0) mReached_26 mForm mSlot mOver mEnds mYes mNo mDominators_26) := hD
      refine lv_if_eq (tgt := 49) hx hb dMd_frontier_42 rfl (fun hc => ?_) (fun hc => ?_)
      · have hw := hw.1 (bI_0 hc)
        refine lv_iconst (v := 0) hx hb dMd_frontier_49 (by decide) ?_
        exact hend false (bI t22_0) mReached_26 mDominators_26 _ _ _ _ dMd_frontier_50 hP hD hS hw
      · have hw := hw.2 (bI_1 hc)
        refine lv_iconst (v := 1) hx hb dMd_frontier_45 (by decide) ?_
        refine lv_goto (tgt := 50) hx hb dMd_frontier_46 rfl ?_
        exact hend true (bI t22_0) mReached_26 mDominators_26 _ _ _ _ dMd_frontier_50 hP hD hS hw
  obtain ⟨J17, hJ17, hw⟩ := hw
  have hj17 : ∀  (ls : Array Slot) (H : Heap) (locs : List Loc), lv_has ls 3 [(0, .ref (bd 0)), (1, .int v1), (2, .int v2)] → va_P D vwCl (wdMd_frontier cA cB bd N mThrown mReached mForm mSlot mOver mEnds mYes mNo mDominators) H → va_D A (wdMd_frontier cA cB bd N mThrown mReached mForm mSlot mOver mEnds mYes mNo mDominators) → va_S A s.heap H locs → J17 → W p l e (headSpec (Cond.code yMd_frontier cMd_frontier 3 (some .boolean) :: xW) rmMd_frontier).room s m ([.ref (bd 0), .int v1, .int v2] : List Value).toArray below meth c H locs 0 0 Q (F0 m 17 ls [.ref (bd 0)]) := by
    intro  ls H locs hl hP hD hS hw
    have hw := hJ17  hw
    refine lv_iconst (v := 1) hx hb dMd_frontier_17 (by decide) ?_
    refine lv_goto (tgt := 22) hx hb dMd_frontier_18 rfl ?_
    exact hj22 true _ _ _ (lv_sub hl [0, 1, 2] rfl) hP hD hS hw
  refine lv_if_ne (tgt := 17) hx hb dMd_frontier_6 rfl (fun hc => ?_) (fun hc => ?_)
  · have hw := hw.1 (bI_1 hc)
    exact hj17  _ _ _ (lv_sub hl [0, 1, 2] rfl) hP hD hS hw
  · have hw := hw.2 (bI_0 hc)
    refine lv_aload_n hx hb dMd_frontier_9 rfl (lv_at hl 0 rfl) ?_
    refine lv_iload_n hx hb dMd_frontier_10 rfl (lv_at hl 2 rfl) ?_
    refine xci (va_runV ⟨hx, hb, hml, hown, hts⟩ (ktMd_noBlock l D cA cB bd N _ mThrown mReached mForm mSlot mOver v2 _ hw) (cwV 1 hts (goodV kw_1097 kw_1099 ks_3_12 kw_11 kw_1100) rfl rfl rfl (by decide +kernel) ⟨Nat.le_of_ble_eq_true rfl, Nat.le_of_ble_eq_true rfl⟩) (xpreV hK hP hD hN [0] rfl rfl 0 rfl rfl) rfl rfl hl.1 rfl (lv_room (Nat.le_of_ble_eq_true rfl)) dMd_frontier_11 ⟨Nat.le_of_ble_eq_true rfl, Nat.le_of_ble_eq_true rfl⟩) hP hD hS hA [0] [1, 2, 3, 4] rfl rfl rfl rfl [4, 0, 1, 2, 3] rfl (fun _ => rfl) (fun r11 u H locs hw hP hD hS => ?_)
    obtain ⟨r11, rfl, hw⟩ := hw
    have hP : va_P D vwCl (wdMd_frontier cA cB bd N mThrown mReached mForm mSlot mOver mEnds mYes mNo mDominators) H := hP
    have hD : va_D A (wdMd_frontier cA cB bd N mThrown mReached mForm mSlot mOver mEnds mYes mNo mDominators) := hD
    refine lv_if_eq (tgt := 21) hx hb dMd_frontier_14 rfl (fun hc => ?_) (fun hc => ?_)
    · have hw := hw.1 (bI_0 hc)
      refine lv_iconst (v := 0) hx hb dMd_frontier_21 (by decide) ?_
      exact hj22 false _ _ _ (lv_sub hl [0, 1, 2] rfl) hP hD hS hw
    · have hw := hw.2 (bI_1 hc)
      exact hj17  _ _ _ (lv_sub hl [0, 1, 2] rfl) hP hD hS hw
abbrev wdMd_setsVariable (cA : ClassId) (cB : ClassId) (bd : Nat → Nat) (N : Nat) (mThrown : Int32) (mReached : Int32) (mForm : Bool) (mSlot : Int32) (mOver : Bool) (mMany : Nat → Int32) (mKinds : Nat → Int32) (mVs : Nat → Int32) : va_W := [((bd 0), .inr (7, [.int mThrown, .int (nI N), .ref (bd 1), .ref (bd 2), .ref (bd 3), .ref (bd 4), .ref (bd 5), .ref (bd 6), .ref (bd 7), .ref (bd 8), .ref (bd 9), .ref (bd 10), .int mReached, .ref (bd 11), .int (bI mForm), .ref (bd 12), .ref (bd 13), .ref (bd 14), .ref (bd 15), .ref (bd 16), .ref (bd 17), .ref (bd 18), .ref (bd 19), .ref (bd 20), .ref (bd 21), .ref (bd 22), .ref (bd 23), .ref (bd 24), .ref (bd 25), .ref (bd 26), .ref (bd 27), .ref (bd 28), .int mSlot, .int (bI mOver)])), ((bd 1), .inl (cA, 12, .inl mMany)), ((bd 2), .inl (cA, 72, .inl mKinds)), ((bd 3), .inl (cA, 72, .inl mVs))]
abbrev qcMd_setsVariable (D : va_G) (cA : ClassId) (cB : ClassId) (bd : Nat → Nat) (N : Nat) (mThrown : Int32) (mReached : Int32) (mForm : Bool) (mSlot : Int32) (mOver : Bool) (mMany : Nat → Int32) (mKinds : Nat → Int32) (mVs : Nat → Int32) (post : Bool → Prop) (A : Nat → Prop) : Array Value → State → Outcome → State → Prop := va_Qi (S := Unit) (fun r u => ∃ z : Bool, r = bI z ∧ post z ) (fun u t => xB D [(cA, .int), (cB, .boolean)] A (wdMd_setsVariable cA cB bd N mThrown mReached mForm mSlot mOver mMany mKinds mVs) t) A
abbrev rmMd_setsVariable : Room := { frames := 0, cells := 0, slots := 0, locals := 0 }
set_option maxHeartbeats 4000000 in
set_option maxRecDepth 100000 in
theorem ktMd_setsVariable (l : Launch) (D : va_G) (cA : ClassId) (cB : ClassId) (bd : Nat → Nat) (N : Nat) (sz : Nat) (mThrown : Int32) (mReached : Int32) (mForm : Bool) (mSlot : Int32) (mOver : Bool) (mMany : Nat → Int32) (mKinds : Nat → Int32) (mVs : Nat → Int32) (v1 : Int32) (v2 : Int32) (post : Bool → Prop) (hw : wpMd_setsVariable mMany mKinds mVs v1 v2 post) : Met l yMd_setsVariable (Cond.code yMd_setsVariable cMd_setsVariable 5 (some .boolean) :: xW) rmMd_setsVariable (va_Pc [.ref (bd 0), .int v1, .int v2] (xPc D [(cA, .int), (cB, .boolean)] (wdMd_setsVariable cA cB bd N mThrown mReached mForm mSlot mOver mMany mKinds mVs) sz)) (qcMd_setsVariable D cA cB bd N mThrown mReached mForm mSlot mOver mMany mKinds mVs post (va_A (wdMd_setsVariable cA cB bd N mThrown mReached mForm mSlot mOver mMany mKinds mVs) sz)) 0 0 (va_A (wdMd_setsVariable cA cB bd N mThrown mReached mForm mSlot mOver mMany mKinds mVs) sz) := by
  refine Met.ofW (cc := cMd_setsVariable) (maxL := 5) (ret := (some .boolean)) (by decide) rfl ?_
  intro p e s m args below meth c s₁ B hml hv
  obtain ⟨rfl, hsz, hP, hK, hD0, hN⟩ := hv
  have hx := B.exec
  have hb := B.bytes
  have hr := B.returns
  have hts := atoms_spec (ws := (Cond.code yMd_setsVariable cMd_setsVariable 5 (some .boolean) :: xW)) B.pre
  have hown : s.vm.findClass "OnceNamedModel" = some m.cls := findClass_of_methodNamed B.named
  have hlocks := B.notSynchronized
  subst hsz
  have hD := hD0.self (sz := s.heap.size)
  generalize hAe : va_A (wdMd_setsVariable cA cB bd N mThrown mReached mForm mSlot mOver mMany mKinds mVs) s.heap.size = A at hD ⊢
  have hA : ∀ q : Nat, s.heap.size ≤ q → A q := fun q h => by rw [← hAe]; exact Or.inr h
  have hS : va_S A s.heap s.heap [] := va_S.rf
  have hend : ∀ (r : Bool)  (H : Heap) (locs : List Loc) (pc : Nat) (ls : Array Slot), decode cMd_setsVariable pc = .ok (.ireturn, 1) → va_P D vwCl (wdMd_setsVariable cA cB bd N mThrown mReached mForm mSlot mOver mMany mKinds mVs) H → va_D A (wdMd_setsVariable cA cB bd N mThrown mReached mForm mSlot mOver mMany mKinds mVs) → va_S A s.heap H locs → post r  → W p l e (headSpec (Cond.code yMd_setsVariable cMd_setsVariable 5 (some .boolean) :: xW) rmMd_setsVariable).room s m ([.ref (bd 0), .int v1, .int v2] : List Value).toArray below meth c H locs 0 0 (MQ below (qcMd_setsVariable D cA cB bd N mThrown mReached mForm mSlot mOver mMany mKinds mVs post A) ([.ref (bd 0), .int v1, .int v2] : List Value).toArray s 0 0 A) (F0 m pc ls [.int (bI r)]) := fun r  H locs pc ls hd hP hD hS hw => W.zret (v := bI r) hx hb hr (bI_nar r) (fun t ht hW => ⟨⟨bI r, (), rfl, ⟨r, rfl, hw⟩, ⟨by rw [ht]; exact hP, va_K.moved hW.alike hK, hD⟩⟩, hS.F ht⟩) hS.2.2 hd
  generalize hQ : MQ below (qcMd_setsVariable D cA cB bd N mThrown mReached mForm mSlot mOver mMany mKinds mVs post A) ([.ref (bd 0), .int v1, .int v2] : List Value).toArray s 0 0 A = Q at hend ⊢
  have hl := lv_entry ([.ref (bd 0), .int v1, .int v2]) (n := 5) (Nat.le_of_ble_eq_true rfl)
  rw [lg_entry_eq]
  generalize (lg_sl ([.ref (bd 0), .int v1, .int v2]) ++ List.replicate (5 - (lg_sl ([.ref (bd 0), .int v1, .int v2])).length) Slot.unset).toArray = ls at hl ⊢
  have hl : lv_has ls 5 [(0, .ref (bd 0)), (1, .int v1), (2, .int v2)] := hl
  unfold wpMd_setsVariable at hw
  refine lv_iconst (v := 0) hx hb dMd_setsVariable_0 (by decide) ?_
  refine lv_istore_n (lv' := [(3, .int 0), (0, .ref (bd 0)), (1, .int v1), (2, .int v2)]) hx hb dMd_setsVariable_1 rfl hl (by decide) rfl (fun ls hl => ?_)
  refine lv_bipush (v := 6) hx hb dMd_setsVariable_2 (by decide) ?_
  refine lv_iload_n hx hb dMd_setsVariable_4 rfl (lv_at hl 2 rfl) ?_
  refine lv_imul hx hb dMd_setsVariable_5 ?_
  refine lv_topi (fun v4_6 e_v4_6 => ?_)
  have hw := hw v4_6 e_v4_6
  refine lv_istore (lv' := [(4, .int v4_6), (3, .int 0), (0, .ref (bd 0)), (1, .int v1), (2, .int v2)]) hx hb dMd_setsVariable_6 hl (by decide) rfl (fun ls hl => ?_)
  obtain ⟨k8, hw⟩ := hw
  have hlp8 : ∀ (k : Nat), ∀ (v3_L8 : Bool) (v4_L8 : Int32) (ls : Array Slot) (H : Heap) (locs : List Loc), lv_has ls 5 [(0, .ref (bd 0)), (1, .int v1), (2, .int v2), (3, .int (bI v3_L8)), (4, .int v4_L8)] → va_P D vwCl (wdMd_setsVariable cA cB bd N mThrown mReached mForm mSlot mOver mMany mKinds mVs) H → va_D A (wdMd_setsVariable cA cB bd N mThrown mReached mForm mSlot mOver mMany mKinds mVs) → va_S A s.heap H locs → lpMd_setsVariable_8 v1 v2 mMany mKinds mVs post k v3_L8 v4_L8 → W p l e (headSpec (Cond.code yMd_setsVariable cMd_setsVariable 5 (some .boolean) :: xW) rmMd_setsVariable).room s m ([.ref (bd 0), .int v1, .int v2] : List Value).toArray below meth c H locs 0 0 Q (F0 m 8 ls []) := by
    intro k
    induction k with
    | zero => intro v3_L8 v4_L8 ls H locs hl hP hD hS hw; exact False.elim hw
    | succ k ih =>
      intro v3_L8 v4_L8 ls H locs hl hP hD hS hw
      refine lv_iload hx hb dMd_setsVariable_8 (lv_at hl 4 rfl) ?_
      refine lv_bipush (v := 6) hx hb dMd_setsVariable_10 (by decide) ?_
      refine lv_iload_n hx hb dMd_setsVariable_12 rfl (lv_at hl 1 rfl) ?_
      refine lv_imul hx hb dMd_setsVariable_13 ?_
      refine lv_aload_n hx hb dMd_setsVariable_14 rfl (lv_at hl 0 rfl) ?_
      refine va_get (D := D) (ci := 7) (v := .ref (bd 1)) (C := "OnceNamedModel") (T := TX7) (N := 34) hx hb hts (fun w h => List.mem_cons_of_mem _ (inX7 w h)) hown hK hP 0 rfl rfl 2 (by decide) (hts _ (List.mem_cons_of_mem _ kw_987)) (fun _ h9 => h9) rfl dMd_setsVariable_15 ?_
      refine lv_iload_n hx hb dMd_setsVariable_18 rfl (lv_at hl 1 rfl) ?_
      have ho := hw.1
      have hw := hw.2
      refine va_iald hx hb hK hP 1 0 rfl rfl ho dMd_setsVariable_19 ?_
      refine lv_iadd hx hb dMd_setsVariable_20 ?_
      refine lv_icmp_ge (tgt := 63) hx hb dMd_setsVariable_21 rfl (fun hc => ?_) (fun hc => ?_)
      · have hw := hw.1 hc
        refine lv_iload_n hx hb dMd_setsVariable_63 rfl (lv_at hl 3 rfl) ?_
        exact hend v3_L8 _ _ _ _ dMd_setsVariable_64 hP hD hS hw
      · have hw := hw.2 hc
        refine lv_iload_n hx hb dMd_setsVariable_24 rfl (lv_at hl 3 rfl) ?_
        refine lv_if_ne (tgt := 51) hx hb dMd_setsVariable_25 rfl (fun hc => ?_) (fun hc => ?_)
        · have hw := hw.1 (bI_1 hc)
          refine lv_iconst (v := 1) hx hb dMd_setsVariable_51 (by decide) ?_
          refine lv_goto (tgt := 56) hx hb dMd_setsVariable_52 rfl ?_
          refine lv_istore_n (lv' := [(3, .int 1), (0, .ref (bd 0)), (1, .int v1), (2, .int v2), (4, .int v4_L8)]) hx hb dMd_setsVariable_56 rfl hl (by decide) rfl (fun ls hl => ?_)
          refine lv_iinc (k := 4) (v := (v4_L8 + 1)) (lv' := [(4, .int (v4_L8 + 1)), (3, .int 1), (0, .ref (bd 0)), (1, .int v1), (2, .int v2)]) hx hb dMd_setsVariable_57 hl rfl rfl (by decide) rfl (fun ls hl => ?_)
          refine lv_goto (tgt := 8) hx hb dMd_setsVariable_60 rfl ?_
          exact ih true (v4_L8 + 1) _ _ _ (lv_sub hl [2, 3, 4, 1, 0] rfl) hP hD hS hw
        · have hw := hw.2 (bI_0 hc)
          refine lv_aload_n hx hb dMd_setsVariable_28 rfl (lv_at hl 0 rfl) ?_
          refine va_get (D := D) (ci := 7) (v := .ref (bd 2)) (C := "OnceNamedModel") (T := TX7) (N := 34) hx hb hts (fun w h => List.mem_cons_of_mem _ (inX7 w h)) hown hK hP 0 rfl rfl 3 (by decide) (hts _ (List.mem_cons_of_mem _ kw_988)) (fun _ h9 => h9) rfl dMd_setsVariable_29 ?_
          refine lv_iload hx hb dMd_setsVariable_32 (lv_at hl 4 rfl) ?_
          have ho := hw.1
          have hw := hw.2
          refine va_iald hx hb hK hP 2 0 rfl rfl ho dMd_setsVariable_34 ?_
          refine lv_bipush (v := 7) hx hb dMd_setsVariable_35 (by decide) ?_
          refine lv_icmp_ge (tgt := 55) hx hb dMd_setsVariable_37 rfl (fun hc => ?_) (fun hc => ?_)
          · have hw := hw.1 hc
            refine lv_iconst (v := 0) hx hb dMd_setsVariable_55 (by decide) ?_
            refine lv_istore_n (lv' := [(3, .int 0), (0, .ref (bd 0)), (1, .int v1), (2, .int v2), (4, .int v4_L8)]) hx hb dMd_setsVariable_56 rfl hl (by decide) rfl (fun ls hl => ?_)
            refine lv_iinc (k := 4) (v := (v4_L8 + 1)) (lv' := [(4, .int (v4_L8 + 1)), (3, .int 0), (0, .ref (bd 0)), (1, .int v1), (2, .int v2)]) hx hb dMd_setsVariable_57 hl rfl rfl (by decide) rfl (fun ls hl => ?_)
            refine lv_goto (tgt := 8) hx hb dMd_setsVariable_60 rfl ?_
            exact ih false (v4_L8 + 1) _ _ _ (lv_sub hl [2, 3, 4, 1, 0] rfl) hP hD hS hw
          · have hw := hw.2 hc
            refine lv_aload_n hx hb dMd_setsVariable_40 rfl (lv_at hl 0 rfl) ?_
            refine va_get (D := D) (ci := 7) (v := .ref (bd 3)) (C := "OnceNamedModel") (T := TX7) (N := 34) hx hb hts (fun w h => List.mem_cons_of_mem _ (inX7 w h)) hown hK hP 0 rfl rfl 4 (by decide) (hts _ (List.mem_cons_of_mem _ kw_989)) (fun _ h9 => h9) rfl dMd_setsVariable_41 ?_
            refine lv_iload hx hb dMd_setsVariable_44 (lv_at hl 4 rfl) ?_
            have ho := hw.1
            have hw := hw.2
            refine va_iald hx hb hK hP 3 0 rfl rfl ho dMd_setsVariable_46 ?_
            refine lv_iload_n hx hb dMd_setsVariable_47 rfl (lv_at hl 2 rfl) ?_
            refine lv_icmp_ne (tgt := 55) hx hb dMd_setsVariable_48 rfl (fun hc => ?_) (fun hc => ?_)
            · have hw := hw.1 hc
              refine lv_iconst (v := 0) hx hb dMd_setsVariable_55 (by decide) ?_
              refine lv_istore_n (lv' := [(3, .int 0), (0, .ref (bd 0)), (1, .int v1), (2, .int v2), (4, .int v4_L8)]) hx hb dMd_setsVariable_56 rfl hl (by decide) rfl (fun ls hl => ?_)
              refine lv_iinc (k := 4) (v := (v4_L8 + 1)) (lv' := [(4, .int (v4_L8 + 1)), (3, .int 0), (0, .ref (bd 0)), (1, .int v1), (2, .int v2)]) hx hb dMd_setsVariable_57 hl rfl rfl (by decide) rfl (fun ls hl => ?_)
              refine lv_goto (tgt := 8) hx hb dMd_setsVariable_60 rfl ?_
              exact ih false (v4_L8 + 1) _ _ _ (lv_sub hl [2, 3, 4, 1, 0] rfl) hP hD hS hw
            · have hw := hw.2 hc
              refine lv_iconst (v := 1) hx hb dMd_setsVariable_51 (by decide) ?_
              refine lv_goto (tgt := 56) hx hb dMd_setsVariable_52 rfl ?_
              refine lv_istore_n (lv' := [(3, .int 1), (0, .ref (bd 0)), (1, .int v1), (2, .int v2), (4, .int v4_L8)]) hx hb dMd_setsVariable_56 rfl hl (by decide) rfl (fun ls hl => ?_)
              refine lv_iinc (k := 4) (v := (v4_L8 + 1)) (lv' := [(4, .int (v4_L8 + 1)), (3, .int 1), (0, .ref (bd 0)), (1, .int v1), (2, .int v2)]) hx hb dMd_setsVariable_57 hl rfl rfl (by decide) rfl (fun ls hl => ?_)
              refine lv_goto (tgt := 8) hx hb dMd_setsVariable_60 rfl ?_
              exact ih true (v4_L8 + 1) _ _ _ (lv_sub hl [2, 3, 4, 1, 0] rfl) hP hD hS hw
  refine hlp8 k8 false v4_6 _ _ _ (lv_sub hl [2, 3, 4, 1, 0] rfl) hP hD hS hw
abbrev wdMd_findMeetings (cA : ClassId) (cB : ClassId) (bd : Nat → Nat) (N : Nat) (mThrown : Int32) (mReached : Int32) (mForm : Bool) (mSlot : Int32) (mOver : Bool) (mMany : Nat → Int32) (mKinds : Nat → Int32) (mVs : Nat → Int32) (mEnds : Nat → Int32) (mYes : Nat → Int32) (mNo : Nat → Int32) (mDominators : Nat → Int32) (mMeets : Nat → Int32) : va_W := [((bd 0), .inr (7, [.int mThrown, .int (nI N), .ref (bd 1), .ref (bd 2), .ref (bd 3), .ref (bd 4), .ref (bd 5), .ref (bd 6), .ref (bd 7), .ref (bd 8), .ref (bd 9), .ref (bd 10), .int mReached, .ref (bd 11), .int (bI mForm), .ref (bd 12), .ref (bd 13), .ref (bd 14), .ref (bd 15), .ref (bd 16), .ref (bd 17), .ref (bd 18), .ref (bd 19), .ref (bd 20), .ref (bd 21), .ref (bd 22), .ref (bd 23), .ref (bd 24), .ref (bd 25), .ref (bd 26), .ref (bd 27), .ref (bd 28), .int mSlot, .int (bI mOver)])), ((bd 1), .inl (cA, 12, .inl mMany)), ((bd 2), .inl (cA, 72, .inl mKinds)), ((bd 3), .inl (cA, 72, .inl mVs)), ((bd 6), .inl (cA, 12, .inl mEnds)), ((bd 8), .inl (cA, 12, .inl mYes)), ((bd 9), .inl (cA, 12, .inl mNo)), ((bd 11), .inl (cA, 12, .inl mDominators)), ((bd 12), .inl (cA, 72, .inl mMeets))]
abbrev qcMd_findMeetings (D : va_G) (cA : ClassId) (cB : ClassId) (bd : Nat → Nat) (N : Nat) (mThrown : Int32) (mReached : Int32) (mForm : Bool) (mSlot : Int32) (mOver : Bool) (mMany : Nat → Int32) (mKinds : Nat → Int32) (mVs : Nat → Int32) (mEnds : Nat → Int32) (mYes : Nat → Int32) (mNo : Nat → Int32) (mDominators : Nat → Int32) (mMeets : Nat → Int32) (post : (Nat → Int32) → Prop) (A : Nat → Prop) : Array Value → State → Outcome → State → Prop := va_Qv (S := (Nat → Int32)) (fun u => post u) (fun u t => xB D [(cA, .int), (cB, .boolean)] A (wdMd_findMeetings cA cB bd N mThrown mReached mForm mSlot mOver mMany mKinds mVs mEnds mYes mNo mDominators u) t) A
abbrev rmMd_findMeetings : Room := { frames := 3, cells := 0, slots := 0, locals := 68 }
set_option maxHeartbeats 4000000 in
set_option maxRecDepth 100000 in
theorem ktMd_findMeetings (l : Launch) (D : va_G) (cA : ClassId) (cB : ClassId) (bd : Nat → Nat) (N : Nat) (sz : Nat) (mThrown : Int32) (mReached : Int32) (mForm : Bool) (mSlot : Int32) (mOver : Bool) (mMany : Nat → Int32) (mKinds : Nat → Int32) (mVs : Nat → Int32) (mEnds : Nat → Int32) (mYes : Nat → Int32) (mNo : Nat → Int32) (mDominators : Nat → Int32) (mMeets : Nat → Int32)  (post : (Nat → Int32) → Prop) (hw : wpMd_findMeetings N mReached mMany mKinds mVs mEnds mYes mNo mDominators mMeets post) : Met l yMd_findMeetings (Cond.code yMd_findMeetings cMd_findMeetings 6 none :: xW) rmMd_findMeetings (va_Pc [.ref (bd 0)] (xPc D [(cA, .int), (cB, .boolean)] (wdMd_findMeetings cA cB bd N mThrown mReached mForm mSlot mOver mMany mKinds mVs mEnds mYes mNo mDominators mMeets) sz)) (qcMd_findMeetings D cA cB bd N mThrown mReached mForm mSlot mOver mMany mKinds mVs mEnds mYes mNo mDominators mMeets post (va_A (wdMd_findMeetings cA cB bd N mThrown mReached mForm mSlot mOver mMany mKinds mVs mEnds mYes mNo mDominators mMeets) sz)) 0 0 (va_A (wdMd_findMeetings cA cB bd N mThrown mReached mForm mSlot mOver mMany mKinds mVs mEnds mYes mNo mDominators mMeets) sz) := by
  refine Met.ofW (cc := cMd_findMeetings) (maxL := 6) (ret := none) (by decide) rfl ?_
  intro p e s m args below meth c s₁ B hml hv
  obtain ⟨rfl, hsz, hP, hK, hD0, hN⟩ := hv
  have hx := B.exec
  have hb := B.bytes
  have hr := B.returns
  have hts := atoms_spec (ws := (Cond.code yMd_findMeetings cMd_findMeetings 6 none :: xW)) B.pre
  have hown : s.vm.findClass "OnceNamedModel" = some m.cls := findClass_of_methodNamed B.named
  have hlocks := B.notSynchronized
  subst hsz
  have hD := hD0.self (sz := s.heap.size)
  generalize hAe : va_A (wdMd_findMeetings cA cB bd N mThrown mReached mForm mSlot mOver mMany mKinds mVs mEnds mYes mNo mDominators mMeets) s.heap.size = A at hD ⊢
  have hA : ∀ q : Nat, s.heap.size ≤ q → A q := fun q h => by rw [← hAe]; exact Or.inr h
  have hS : va_S A s.heap s.heap [] := va_S.rf
  have hend : ∀ (u0 : Nat → Int32) (H : Heap) (locs : List Loc) (pc : Nat) (ls : Array Slot), decode cMd_findMeetings pc = .ok (.return_, 1) → va_P D vwCl (wdMd_findMeetings cA cB bd N mThrown mReached mForm mSlot mOver mMany mKinds mVs mEnds mYes mNo mDominators u0) H → va_D A (wdMd_findMeetings cA cB bd N mThrown mReached mForm mSlot mOver mMany mKinds mVs mEnds mYes mNo mDominators u0) → va_S A s.heap H locs → post u0 → W p l e (headSpec (Cond.code yMd_findMeetings cMd_findMeetings 6 none :: xW) rmMd_findMeetings).room s m ([.ref (bd 0)] : List Value).toArray below meth c H locs 0 0 (MQ below (qcMd_findMeetings D cA cB bd N mThrown mReached mForm mSlot mOver mMany mKinds mVs mEnds mYes mNo mDominators mMeets post A) ([.ref (bd 0)] : List Value).toArray s 0 0 A) (F0 m pc ls []) := fun u0 H locs pc ls hd hP hD hS hw => W.vret hx hb hr (fun t ht hW => ⟨⟨u0, rfl, hw, ⟨by rw [ht]; exact hP, va_K.moved hW.alike hK, hD⟩⟩, hS.F ht⟩) hS.2.2 hd
  generalize hQ : MQ below (qcMd_findMeetings D cA cB bd N mThrown mReached mForm mSlot mOver mMany mKinds mVs mEnds mYes mNo mDominators mMeets post A) ([.ref (bd 0)] : List Value).toArray s 0 0 A = Q at hend ⊢
  have hl := lv_entry ([.ref (bd 0)]) (n := 6) (Nat.le_of_ble_eq_true rfl)
  rw [lg_entry_eq]
  generalize (lg_sl ([.ref (bd 0)]) ++ List.replicate (6 - (lg_sl ([.ref (bd 0)])).length) Slot.unset).toArray = ls at hl ⊢
  have hl : lv_has ls 6 [(0, .ref (bd 0))] := hl
  unfold wpMd_findMeetings at hw
  refine lv_iconst (v := 0) hx hb dMd_findMeetings_0 (by decide) ?_
  refine lv_istore_n (lv' := [(1, .int 0), (0, .ref (bd 0))]) hx hb dMd_findMeetings_1 rfl hl (by decide) rfl (fun ls hl => ?_)
  obtain ⟨k2, hw⟩ := hw
  have hlp2 : ∀ (K21 : Int32 → (Nat → Int32) → Prop), (∀ (v1_x21 : Int32) (mMeets_x21 : Nat → Int32) (ls : Array Slot) (H : Heap) (locs : List Loc), lv_has ls 6 [(0, .ref (bd 0)), (1, .int v1_x21)] → va_P D vwCl (wdMd_findMeetings cA cB bd N mThrown mReached mForm mSlot mOver mMany mKinds mVs mEnds mYes mNo mDominators mMeets_x21) H → va_D A (wdMd_findMeetings cA cB bd N mThrown mReached mForm mSlot mOver mMany mKinds mVs mEnds mYes mNo mDominators mMeets_x21) → va_S A s.heap H locs → K21 v1_x21 mMeets_x21 → W p l e (headSpec (Cond.code yMd_findMeetings cMd_findMeetings 6 none :: xW) rmMd_findMeetings).room s m ([.ref (bd 0)] : List Value).toArray below meth c H locs 0 0 Q (F0 m 21 ls [])) → ∀ (k : Nat), ∀ (v1_L2 : Int32) (mMeets_L2 : Nat → Int32) (ls : Array Slot) (H : Heap) (locs : List Loc), lv_has ls 6 [(0, .ref (bd 0)), (1, .int v1_L2)] → va_P D vwCl (wdMd_findMeetings cA cB bd N mThrown mReached mForm mSlot mOver mMany mKinds mVs mEnds mYes mNo mDominators mMeets_L2) H → va_D A (wdMd_findMeetings cA cB bd N mThrown mReached mForm mSlot mOver mMany mKinds mVs mEnds mYes mNo mDominators mMeets_L2) → va_S A s.heap H locs → lpMd_findMeetings_2 K21 k v1_L2 mMeets_L2 → W p l e (headSpec (Cond.code yMd_findMeetings cMd_findMeetings 6 none :: xW) rmMd_findMeetings).room s m ([.ref (bd 0)] : List Value).toArray below meth c H locs 0 0 Q (F0 m 2 ls []) := by
    intro K21 hK21 k
    induction k with
    | zero => intro v1_L2 mMeets_L2 ls H locs hl hP hD hS hw; exact False.elim hw
    | succ k ih =>
      intro v1_L2 mMeets_L2 ls H locs hl hP hD hS hw
      refine lv_iload_n hx hb dMd_findMeetings_2 rfl (lv_at hl 1 rfl) ?_
      refine lv_bipush (v := 72) hx hb dMd_findMeetings_3 (by decide) ?_
      refine lv_icmp_ge (tgt := 21) hx hb dMd_findMeetings_5 rfl (fun hc => ?_) (fun hc => ?_)
      · have hw := hw.1 hc
        exact hK21 v1_L2 mMeets_L2 _ _ _ (lv_sub hl [0, 1] rfl) hP hD hS hw
      · have hw := hw.2 hc
        refine lv_aload_n hx hb dMd_findMeetings_8 rfl (lv_at hl 0 rfl) ?_
        refine va_get (D := D) (ci := 7) (v := .ref (bd 12)) (C := "OnceNamedModel") (T := TX7) (N := 34) hx hb hts (fun w h => List.mem_cons_of_mem _ (inX7 w h)) hown hK hP 0 rfl rfl 15 (by decide) (hts _ (List.mem_cons_of_mem _ kw_1000)) (fun _ h9 => h9) rfl dMd_findMeetings_9 ?_
        refine lv_iload_n hx hb dMd_findMeetings_12 rfl (lv_at hl 1 rfl) ?_
        refine lv_iconst (v := (-1)) hx hb dMd_findMeetings_13 (by decide) ?_
        have ho := hw.1
        have hw := hw.2
        refine va_iast hx hb hK hP hD hS 8 0 rfl rfl ho dMd_findMeetings_14 (fun H locs hP hD hS => ?_)
        have hP : va_P D vwCl (wdMd_findMeetings cA cB bd N mThrown mReached mForm mSlot mOver mMany mKinds mVs mEnds mYes mNo mDominators (upd mMeets_L2 (Int32.toNatClampNeg v1_L2) (-1))) H := hP
        have hD : va_D A (wdMd_findMeetings cA cB bd N mThrown mReached mForm mSlot mOver mMany mKinds mVs mEnds mYes mNo mDominators (upd mMeets_L2 (Int32.toNatClampNeg v1_L2) (-1))) := hD
        refine lv_iinc (k := 1) (v := (v1_L2 + 1)) (lv' := [(1, .int (v1_L2 + 1)), (0, .ref (bd 0))]) hx hb dMd_findMeetings_15 hl rfl rfl (by decide) rfl (fun ls hl => ?_)
        refine lv_goto (tgt := 2) hx hb dMd_findMeetings_18 rfl ?_
        exact ih (v1_L2 + 1) (upd mMeets_L2 (Int32.toNatClampNeg v1_L2) (-1)) _ _ _ (lv_sub hl [1, 0] rfl) hP hD hS hw
  refine hlp2 _ ?_ k2 0 mMeets _ _ _ (lv_sub hl [1, 0] rfl) hP hD hS hw
  intro v1_x21 mMeets_x21 ls H locs hl hP hD hS hw
  try dsimp only at hw
  refine lv_iconst (v := 1) hx hb dMd_findMeetings_21 (by decide) ?_
  refine lv_istore_n (lv' := [(1, .int 1), (0, .ref (bd 0))]) hx hb dMd_findMeetings_22 rfl hl (by decide) rfl (fun ls hl => ?_)
  obtain ⟨k23, hw⟩ := hw
  have hlp23 : ∀ (k : Nat), ∀ (v1_L23 : Bool) (mMeets_L23 : Nat → Int32) (ls : Array Slot) (H : Heap) (locs : List Loc), lv_has ls 6 [(0, .ref (bd 0)), (1, .int (bI v1_L23))] → va_P D vwCl (wdMd_findMeetings cA cB bd N mThrown mReached mForm mSlot mOver mMany mKinds mVs mEnds mYes mNo mDominators mMeets_L23) H → va_D A (wdMd_findMeetings cA cB bd N mThrown mReached mForm mSlot mOver mMany mKinds mVs mEnds mYes mNo mDominators mMeets_L23) → va_S A s.heap H locs → lpMd_findMeetings_23 N mReached mMany mKinds mVs mEnds mYes mNo mDominators post k v1_L23 mMeets_L23 → W p l e (headSpec (Cond.code yMd_findMeetings cMd_findMeetings 6 none :: xW) rmMd_findMeetings).room s m ([.ref (bd 0)] : List Value).toArray below meth c H locs 0 0 Q (F0 m 23 ls []) := by
    intro k
    induction k with
    | zero => intro v1_L23 mMeets_L23 ls H locs hl hP hD hS hw; exact False.elim hw
    | succ k ih =>
      intro v1_L23 mMeets_L23 ls H locs hl hP hD hS hw
      refine lv_iload_n hx hb dMd_findMeetings_23 rfl (lv_at hl 1 rfl) ?_
      refine lv_if_eq (tgt := 148) hx hb dMd_findMeetings_24 rfl (fun hc => ?_) (fun hc => ?_)
      · have hw := hw.1 (bI_0 hc)
        exact hend mMeets_L23 _ _ _ _ dMd_findMeetings_148 hP hD hS hw
      · have hw := hw.2 (bI_1 hc)
        refine lv_iconst (v := 0) hx hb dMd_findMeetings_27 (by decide) ?_
        refine lv_istore_n (lv' := [(1, .int 0), (0, .ref (bd 0))]) hx hb dMd_findMeetings_28 rfl hl (by decide) rfl (fun ls hl => ?_)
        refine lv_iconst (v := 0) hx hb dMd_findMeetings_29 (by decide) ?_
        refine lv_istore_n (lv' := [(2, .int 0), (1, .int 0), (0, .ref (bd 0))]) hx hb dMd_findMeetings_30 rfl hl (by decide) rfl (fun ls hl => ?_)
        obtain ⟨k31, hw⟩ := hw
        have hlp31 : ∀ (K145 : Bool → Int32 → (Nat → Int32) → Prop), (∀ (v1_x145 : Bool) (v2_x145 : Int32) (mMeets_x145 : Nat → Int32) (ls : Array Slot) (H : Heap) (locs : List Loc), lv_has ls 6 [(0, .ref (bd 0)), (1, .int (bI v1_x145)), (2, .int v2_x145)] → va_P D vwCl (wdMd_findMeetings cA cB bd N mThrown mReached mForm mSlot mOver mMany mKinds mVs mEnds mYes mNo mDominators mMeets_x145) H → va_D A (wdMd_findMeetings cA cB bd N mThrown mReached mForm mSlot mOver mMany mKinds mVs mEnds mYes mNo mDominators mMeets_x145) → va_S A s.heap H locs → K145 v1_x145 v2_x145 mMeets_x145 → W p l e (headSpec (Cond.code yMd_findMeetings cMd_findMeetings 6 none :: xW) rmMd_findMeetings).room s m ([.ref (bd 0)] : List Value).toArray below meth c H locs 0 0 Q (F0 m 145 ls [])) → ∀ (k : Nat), ∀ (v1_L31 : Bool) (v2_L31 : Int32) (mMeets_L31 : Nat → Int32) (ls : Array Slot) (H : Heap) (locs : List Loc), lv_has ls 6 [(0, .ref (bd 0)), (1, .int (bI v1_L31)), (2, .int v2_L31)] → va_P D vwCl (wdMd_findMeetings cA cB bd N mThrown mReached mForm mSlot mOver mMany mKinds mVs mEnds mYes mNo mDominators mMeets_L31) H → va_D A (wdMd_findMeetings cA cB bd N mThrown mReached mForm mSlot mOver mMany mKinds mVs mEnds mYes mNo mDominators mMeets_L31) → va_S A s.heap H locs → lpMd_findMeetings_31 N mReached mMany mKinds mVs mEnds mYes mNo mDominators K145 k v1_L31 v2_L31 mMeets_L31 → W p l e (headSpec (Cond.code yMd_findMeetings cMd_findMeetings 6 none :: xW) rmMd_findMeetings).room s m ([.ref (bd 0)] : List Value).toArray below meth c H locs 0 0 Q (F0 m 31 ls []) := by
          intro K145 hK145 k
          induction k with
          | zero => intro v1_L31 v2_L31 mMeets_L31 ls H locs hl hP hD hS hw; exact False.elim hw
          | succ k ih =>
            intro v1_L31 v2_L31 mMeets_L31 ls H locs hl hP hD hS hw
            refine lv_iload_n hx hb dMd_findMeetings_31 rfl (lv_at hl 2 rfl) ?_
            refine lv_aload_n hx hb dMd_findMeetings_32 rfl (lv_at hl 0 rfl) ?_
            refine va_get (D := D) (ci := 7) (v := .int (nI N)) (C := "OnceNamedModel") (T := TX7) (N := 34) hx hb hts (fun w h => List.mem_cons_of_mem _ (inX7 w h)) hown hK hP 0 rfl rfl 1 (by decide) (hts _ (List.mem_cons_of_mem _ kw_986)) (fun _ h9 => h9) rfl dMd_findMeetings_33 ?_
            refine lv_icmp_ge (tgt := 145) hx hb dMd_findMeetings_36 rfl (fun hc => ?_) (fun hc => ?_)
            · have hw := hw.1 hc
              exact hK145 v1_L31 v2_L31 mMeets_L31 _ _ _ (lv_sub hl [0, 1, 2] rfl) hP hD hS hw
            · have hw := hw.2 hc
              refine lv_iconst (v := 0) hx hb dMd_findMeetings_39 (by decide) ?_
              refine lv_istore_n (lv' := [(3, .int 0), (0, .ref (bd 0)), (1, .int (bI v1_L31)), (2, .int v2_L31)]) hx hb dMd_findMeetings_40 rfl hl (by decide) rfl (fun ls hl => ?_)
              obtain ⟨k41, hw⟩ := hw
              have hlp41 : ∀ (K139 : Bool → Int32 → (Nat → Int32) → Prop), (∀ (v1_x139 : Bool) (v3_x139 : Int32) (mMeets_x139 : Nat → Int32) (ls : Array Slot) (H : Heap) (locs : List Loc), lv_has ls 6 [(0, .ref (bd 0)), (1, .int (bI v1_x139)), (2, .int v2_L31), (3, .int v3_x139)] → va_P D vwCl (wdMd_findMeetings cA cB bd N mThrown mReached mForm mSlot mOver mMany mKinds mVs mEnds mYes mNo mDominators mMeets_x139) H → va_D A (wdMd_findMeetings cA cB bd N mThrown mReached mForm mSlot mOver mMany mKinds mVs mEnds mYes mNo mDominators mMeets_x139) → va_S A s.heap H locs → K139 v1_x139 v3_x139 mMeets_x139 → W p l e (headSpec (Cond.code yMd_findMeetings cMd_findMeetings 6 none :: xW) rmMd_findMeetings).room s m ([.ref (bd 0)] : List Value).toArray below meth c H locs 0 0 Q (F0 m 139 ls [])) → ∀ (k : Nat), ∀ (v1_L41 : Bool) (v3_L41 : Int32) (mMeets_L41 : Nat → Int32) (ls : Array Slot) (H : Heap) (locs : List Loc), lv_has ls 6 [(0, .ref (bd 0)), (1, .int (bI v1_L41)), (2, .int v2_L31), (3, .int v3_L41)] → va_P D vwCl (wdMd_findMeetings cA cB bd N mThrown mReached mForm mSlot mOver mMany mKinds mVs mEnds mYes mNo mDominators mMeets_L41) H → va_D A (wdMd_findMeetings cA cB bd N mThrown mReached mForm mSlot mOver mMany mKinds mVs mEnds mYes mNo mDominators mMeets_L41) → va_S A s.heap H locs → lpMd_findMeetings_41 N v2_L31 mReached mMany mKinds mVs mEnds mYes mNo mDominators K139 k v1_L41 v3_L41 mMeets_L41 → W p l e (headSpec (Cond.code yMd_findMeetings cMd_findMeetings 6 none :: xW) rmMd_findMeetings).room s m ([.ref (bd 0)] : List Value).toArray below meth c H locs 0 0 Q (F0 m 41 ls []) := by
                intro K139 hK139 k
                induction k with
                | zero => intro v1_L41 v3_L41 mMeets_L41 ls H locs hl hP hD hS hw; exact False.elim hw
                | succ k ih =>
                  intro v1_L41 v3_L41 mMeets_L41 ls H locs hl hP hD hS hw
                  refine lv_iload_n hx hb dMd_findMeetings_41 rfl (lv_at hl 3 rfl) ?_
                  refine lv_aload_n hx hb dMd_findMeetings_42 rfl (lv_at hl 0 rfl) ?_
                  refine va_get (D := D) (ci := 7) (v := .int (nI N)) (C := "OnceNamedModel") (T := TX7) (N := 34) hx hb hts (fun w h => List.mem_cons_of_mem _ (inX7 w h)) hown hK hP 0 rfl rfl 1 (by decide) (hts _ (List.mem_cons_of_mem _ kw_986)) (fun _ h9 => h9) rfl dMd_findMeetings_43 ?_
                  refine lv_icmp_ge (tgt := 139) hx hb dMd_findMeetings_46 rfl (fun hc => ?_) (fun hc => ?_)
                  · have hw := hw.1 hc
                    exact hK139 v1_L41 v3_L41 mMeets_L41 _ _ _ (lv_sub hl [0, 1, 2, 3] rfl) hP hD hS hw
                  · have hw := hw.2 hc
                    refine lv_aload_n hx hb dMd_findMeetings_49 rfl (lv_at hl 0 rfl) ?_
                    refine lv_iload_n hx hb dMd_findMeetings_50 rfl (lv_at hl 2 rfl) ?_
                    refine lv_iload_n hx hb dMd_findMeetings_51 rfl (lv_at hl 3 rfl) ?_
                    refine xci (va_runV ⟨hx, hb, hml, hown, hts⟩ (ktMd_inFrontier l D cA cB bd N _ mThrown mReached mForm mSlot mOver mEnds mYes mNo mDominators v2_L31 v3_L41 _ hw) (cwV 2 hts (goodV kw_1153 kw_1155 ks_4_3 kw_11 kw_1156) rfl rfl rfl (by decide +kernel) ⟨Nat.le_of_ble_eq_true rfl, Nat.le_of_ble_eq_true rfl⟩) (xpreV hK hP hD hN [0, 4, 5, 6, 7] rfl rfl 0 rfl rfl) rfl rfl hl.1 rfl (lv_room (Nat.le_of_ble_eq_true rfl)) dMd_findMeetings_52 ⟨Nat.le_of_ble_eq_true rfl, Nat.le_of_ble_eq_true rfl⟩) hP hD hS hA [0, 4, 5, 6, 7] [1, 2, 3, 8] rfl rfl rfl rfl [4, 0, 1, 2, 5, 6, 7, 8, 3] rfl (fun _ => rfl) (fun r52 u H locs hw hP hD hS => ?_)
                    obtain ⟨r52, rfl, hw⟩ := hw
                    have hP : va_P D vwCl (wdMd_findMeetings cA cB bd N mThrown mReached mForm mSlot mOver mMany mKinds mVs mEnds mYes mNo mDominators mMeets_L41) H := hP
                    have hD : va_D A (wdMd_findMeetings cA cB bd N mThrown mReached mForm mSlot mOver mMany mKinds mVs mEnds mYes mNo mDominators mMeets_L41) := hD
                    refine lv_istore (lv' := [(4, .int (bI r52)), (0, .ref (bd 0)), (1, .int (bI v1_L41)), (2, .int v2_L31), (3, .int v3_L41)]) hx hb dMd_findMeetings_55 hl (by decide) rfl (fun ls hl => ?_)
                    refine lv_iconst (v := 0) hx hb dMd_findMeetings_57 (by decide) ?_
                    refine lv_istore (lv' := [(5, .int 0), (4, .int (bI r52)), (0, .ref (bd 0)), (1, .int (bI v1_L41)), (2, .int v2_L31), (3, .int v3_L41)]) hx hb dMd_findMeetings_58 hl (by decide) rfl (fun ls hl => ?_)
                    obtain ⟨k60, hw⟩ := hw
                    have hlp60 : ∀ (K133 : Bool → Int32 → (Nat → Int32) → Prop), (∀ (v1_x133 : Bool) (v5_x133 : Int32) (mMeets_x133 : Nat → Int32) (ls : Array Slot) (H : Heap) (locs : List Loc), lv_has ls 6 [(0, .ref (bd 0)), (1, .int (bI v1_x133)), (2, .int v2_L31), (3, .int v3_L41), (4, .int (bI r52)), (5, .int v5_x133)] → va_P D vwCl (wdMd_findMeetings cA cB bd N mThrown mReached mForm mSlot mOver mMany mKinds mVs mEnds mYes mNo mDominators mMeets_x133) H → va_D A (wdMd_findMeetings cA cB bd N mThrown mReached mForm mSlot mOver mMany mKinds mVs mEnds mYes mNo mDominators mMeets_x133) → va_S A s.heap H locs → K133 v1_x133 v5_x133 mMeets_x133 → W p l e (headSpec (Cond.code yMd_findMeetings cMd_findMeetings 6 none :: xW) rmMd_findMeetings).room s m ([.ref (bd 0)] : List Value).toArray below meth c H locs 0 0 Q (F0 m 133 ls [])) → ∀ (k : Nat), ∀ (v1_L60 : Bool) (v5_L60 : Int32) (mMeets_L60 : Nat → Int32) (ls : Array Slot) (H : Heap) (locs : List Loc), lv_has ls 6 [(0, .ref (bd 0)), (1, .int (bI v1_L60)), (2, .int v2_L31), (3, .int v3_L41), (4, .int (bI r52)), (5, .int v5_L60)] → va_P D vwCl (wdMd_findMeetings cA cB bd N mThrown mReached mForm mSlot mOver mMany mKinds mVs mEnds mYes mNo mDominators mMeets_L60) H → va_D A (wdMd_findMeetings cA cB bd N mThrown mReached mForm mSlot mOver mMany mKinds mVs mEnds mYes mNo mDominators mMeets_L60) → va_S A s.heap H locs → lpMd_findMeetings_60 v2_L31 v3_L41 r52 mMany mKinds mVs K133 k v1_L60 v5_L60 mMeets_L60 → W p l e (headSpec (Cond.code yMd_findMeetings cMd_findMeetings 6 none :: xW) rmMd_findMeetings).room s m ([.ref (bd 0)] : List Value).toArray below meth c H locs 0 0 Q (F0 m 60 ls []) := by
                      intro K133 hK133 k
                      induction k with
                      | zero => intro v1_L60 v5_L60 mMeets_L60 ls H locs hl hP hD hS hw; exact False.elim hw
                      | succ k ih =>
                        intro v1_L60 v5_L60 mMeets_L60 ls H locs hl hP hD hS hw
                        refine lv_iload hx hb dMd_findMeetings_60 (lv_at hl 5 rfl) ?_
                        refine lv_bipush (v := 6) hx hb dMd_findMeetings_62 (by decide) ?_
                        refine lv_icmp_ge (tgt := 133) hx hb dMd_findMeetings_64 rfl (fun hc => ?_) (fun hc => ?_)
                        · have hw := hw.1 hc
                          exact hK133 v1_L60 v5_L60 mMeets_L60 _ _ _ (lv_sub hl [0, 1, 2, 3, 4, 5] rfl) hP hD hS hw
                        · have hw := hw.2 hc
                          refine lv_iload hx hb dMd_findMeetings_67 (lv_at hl 4 rfl) ?_
                          refine lv_if_eq (tgt := 133) hx hb dMd_findMeetings_69 rfl (fun hc => ?_) (fun hc => ?_)
                          · have hw := hw.1 (bI_0 hc)
                            exact hK133 v1_L60 v5_L60 mMeets_L60 _ _ _ (lv_sub hl [0, 1, 2, 3, 4, 5] rfl) hP hD hS hw
                          · have hw := hw.2 (bI_1 hc)
                            refine lv_aload_n hx hb dMd_findMeetings_72 rfl (lv_at hl 0 rfl) ?_
                            refine va_get (D := D) (ci := 7) (v := .ref (bd 12)) (C := "OnceNamedModel") (T := TX7) (N := 34) hx hb hts (fun w h => List.mem_cons_of_mem _ (inX7 w h)) hown hK hP 0 rfl rfl 15 (by decide) (hts _ (List.mem_cons_of_mem _ kw_1000)) (fun _ h9 => h9) rfl dMd_findMeetings_73 ?_
                            refine lv_bipush (v := 6) hx hb dMd_findMeetings_76 (by decide) ?_
                            refine lv_iload_n hx hb dMd_findMeetings_78 rfl (lv_at hl 3 rfl) ?_
                            refine lv_imul hx hb dMd_findMeetings_79 ?_
                            refine lv_iload hx hb dMd_findMeetings_80 (lv_at hl 5 rfl) ?_
                            refine lv_iadd hx hb dMd_findMeetings_82 ?_
                            have ho := hw.1
                            have hw := hw.2
                            refine va_iald hx hb hK hP 8 0 rfl rfl ho dMd_findMeetings_83 ?_
                            refine lv_if_ge (tgt := 127) hx hb dMd_findMeetings_84 rfl (fun hc => ?_) (fun hc => ?_)
                            · have hw := hw.1 hc
                              refine lv_iinc (k := 5) (v := (v5_L60 + 1)) (lv' := [(5, .int (v5_L60 + 1)), (0, .ref (bd 0)), (1, .int (bI v1_L60)), (2, .int v2_L31), (3, .int v3_L41), (4, .int (bI r52))]) hx hb dMd_findMeetings_127 hl rfl rfl (by decide) rfl (fun ls hl => ?_)
                              refine lv_goto (tgt := 60) hx hb dMd_findMeetings_130 rfl ?_
                              exact ih v1_L60 (v5_L60 + 1) mMeets_L60 _ _ _ (lv_sub hl [1, 2, 3, 4, 5, 0] rfl) hP hD hS hw
                            · have hw := hw.2 hc
                              refine lv_aload_n hx hb dMd_findMeetings_87 rfl (lv_at hl 0 rfl) ?_
                              refine lv_iload_n hx hb dMd_findMeetings_88 rfl (lv_at hl 2 rfl) ?_
                              refine lv_iload hx hb dMd_findMeetings_89 (lv_at hl 5 rfl) ?_
                              refine xci (va_runV ⟨hx, hb, hml, hown, hts⟩ (ktMd_setsVariable l D cA cB bd N _ mThrown mReached mForm mSlot mOver mMany mKinds mVs v2_L31 v5_L60 _ hw) (cwV 2 hts (goodV kw_1173 kw_1175 ks_4_7 kw_11 kw_1176) rfl rfl rfl (by decide +kernel) ⟨Nat.le_of_ble_eq_true rfl, Nat.le_of_ble_eq_true rfl⟩) (xpreV hK hP hD hN [0, 1, 2, 3] rfl rfl 0 rfl rfl) rfl rfl hl.1 rfl (lv_room (Nat.le_of_ble_eq_true rfl)) dMd_findMeetings_91 ⟨Nat.le_of_ble_eq_true rfl, Nat.le_of_ble_eq_true rfl⟩) hP hD hS hA [0, 1, 2, 3] [4, 5, 6, 7, 8] rfl rfl rfl rfl [5, 6, 7, 8, 0, 1, 2, 3, 4] rfl (fun _ => rfl) (fun r91 u H locs hw hP hD hS => ?_)
                              obtain ⟨r91, rfl, hw⟩ := hw
                              have hP : va_P D vwCl (wdMd_findMeetings cA cB bd N mThrown mReached mForm mSlot mOver mMany mKinds mVs mEnds mYes mNo mDominators mMeets_L60) H := hP
                              have hD : va_D A (wdMd_findMeetings cA cB bd N mThrown mReached mForm mSlot mOver mMany mKinds mVs mEnds mYes mNo mDominators mMeets_L60) := hD
                              obtain ⟨J112, hJ112, hw⟩ := hw
                              have hj112 : ∀  (ls : Array Slot) (H : Heap) (locs : List Loc), lv_has ls 6 [(0, .ref (bd 0)), (1, .int (bI v1_L60)), (2, .int v2_L31), (3, .int v3_L41), (4, .int (bI r52)), (5, .int v5_L60)] → va_P D vwCl (wdMd_findMeetings cA cB bd N mThrown mReached mForm mSlot mOver mMany mKinds mVs mEnds mYes mNo mDominators mMeets_L60) H → va_D A (wdMd_findMeetings cA cB bd N mThrown mReached mForm mSlot mOver mMany mKinds mVs mEnds mYes mNo mDominators mMeets_L60) → va_S A s.heap H locs → J112 → W p l e (headSpec (Cond.code yMd_findMeetings cMd_findMeetings 6 none :: xW) rmMd_findMeetings).room s m ([.ref (bd 0)] : List Value).toArray below meth c H locs 0 0 Q (F0 m 112 ls []) := by
                                intro  ls H locs hl hP hD hS hw
                                have hw := hJ112  hw
                                refine lv_aload_n hx hb dMd_findMeetings_112 rfl (lv_at hl 0 rfl) ?_
                                refine va_get (D := D) (ci := 7) (v := .ref (bd 12)) (C := "OnceNamedModel") (T := TX7) (N := 34) hx hb hts (fun w h => List.mem_cons_of_mem _ (inX7 w h)) hown hK hP 0 rfl rfl 15 (by decide) (hts _ (List.mem_cons_of_mem _ kw_1000)) (fun _ h9 => h9) rfl dMd_findMeetings_113 ?_
                                refine lv_bipush (v := 6) hx hb dMd_findMeetings_116 (by decide) ?_
                                refine lv_iload_n hx hb dMd_findMeetings_118 rfl (lv_at hl 3 rfl) ?_
                                refine lv_imul hx hb dMd_findMeetings_119 ?_
                                refine lv_iload hx hb dMd_findMeetings_120 (lv_at hl 5 rfl) ?_
                                refine lv_iadd hx hb dMd_findMeetings_122 ?_
                                refine lv_iconst (v := 0) hx hb dMd_findMeetings_123 (by decide) ?_
                                have ho := hw.1
                                have hw := hw.2
                                refine va_iast hx hb hK hP hD hS 8 0 rfl rfl ho dMd_findMeetings_124 (fun H locs hP hD hS => ?_)
                                have hP : va_P D vwCl (wdMd_findMeetings cA cB bd N mThrown mReached mForm mSlot mOver mMany mKinds mVs mEnds mYes mNo mDominators (upd mMeets_L60 (Int32.toNatClampNeg ((6 * v3_L41) + v5_L60)) 0)) H := hP
                                have hD : va_D A (wdMd_findMeetings cA cB bd N mThrown mReached mForm mSlot mOver mMany mKinds mVs mEnds mYes mNo mDominators (upd mMeets_L60 (Int32.toNatClampNeg ((6 * v3_L41) + v5_L60)) 0)) := hD
                                refine lv_iconst (v := 1) hx hb dMd_findMeetings_125 (by decide) ?_
                                refine lv_istore_n (lv' := [(1, .int 1), (0, .ref (bd 0)), (2, .int v2_L31), (3, .int v3_L41), (4, .int (bI r52)), (5, .int v5_L60)]) hx hb dMd_findMeetings_126 rfl hl (by decide) rfl (fun ls hl => ?_)
                                refine lv_iinc (k := 5) (v := (v5_L60 + 1)) (lv' := [(5, .int (v5_L60 + 1)), (1, .int 1), (0, .ref (bd 0)), (2, .int v2_L31), (3, .int v3_L41), (4, .int (bI r52))]) hx hb dMd_findMeetings_127 hl rfl rfl (by decide) rfl (fun ls hl => ?_)
                                refine lv_goto (tgt := 60) hx hb dMd_findMeetings_130 rfl ?_
                                exact ih true (v5_L60 + 1) (upd mMeets_L60 (Int32.toNatClampNeg ((6 * v3_L41) + v5_L60)) 0) _ _ _ (lv_sub hl [2, 1, 3, 4, 5, 0] rfl) hP hD hS hw
                              refine lv_if_ne (tgt := 112) hx hb dMd_findMeetings_94 rfl (fun hc => ?_) (fun hc => ?_)
                              · have hw := hw.1 (bI_1 hc)
                                exact hj112  _ _ _ (lv_sub hl [0, 1, 2, 3, 4, 5] rfl) hP hD hS hw
                              · have hw := hw.2 (bI_0 hc)
                                refine lv_aload_n hx hb dMd_findMeetings_97 rfl (lv_at hl 0 rfl) ?_
                                refine va_get (D := D) (ci := 7) (v := .ref (bd 12)) (C := "OnceNamedModel") (T := TX7) (N := 34) hx hb hts (fun w h => List.mem_cons_of_mem _ (inX7 w h)) hown hK hP 0 rfl rfl 15 (by decide) (hts _ (List.mem_cons_of_mem _ kw_1000)) (fun _ h9 => h9) rfl dMd_findMeetings_98 ?_
                                refine lv_bipush (v := 6) hx hb dMd_findMeetings_101 (by decide) ?_
                                refine lv_iload_n hx hb dMd_findMeetings_103 rfl (lv_at hl 2 rfl) ?_
                                refine lv_imul hx hb dMd_findMeetings_104 ?_
                                refine lv_iload hx hb dMd_findMeetings_105 (lv_at hl 5 rfl) ?_
                                refine lv_iadd hx hb dMd_findMeetings_107 ?_
                                have ho := hw.1
                                have hw := hw.2
                                refine va_iald hx hb hK hP 8 0 rfl rfl ho dMd_findMeetings_108 ?_
                                refine lv_if_lt (tgt := 127) hx hb dMd_findMeetings_109 rfl (fun hc => ?_) (fun hc => ?_)
                                · have hw := hw.1 hc
                                  refine lv_iinc (k := 5) (v := (v5_L60 + 1)) (lv' := [(5, .int (v5_L60 + 1)), (0, .ref (bd 0)), (1, .int (bI v1_L60)), (2, .int v2_L31), (3, .int v3_L41), (4, .int (bI r52))]) hx hb dMd_findMeetings_127 hl rfl rfl (by decide) rfl (fun ls hl => ?_)
                                  refine lv_goto (tgt := 60) hx hb dMd_findMeetings_130 rfl ?_
                                  exact ih v1_L60 (v5_L60 + 1) mMeets_L60 _ _ _ (lv_sub hl [1, 2, 3, 4, 5, 0] rfl) hP hD hS hw
                                · have hw := hw.2 hc
                                  exact hj112  _ _ _ (lv_sub hl [0, 1, 2, 3, 4, 5] rfl) hP hD hS hw
                    refine hlp60 _ ?_ k60 v1_L41 0 mMeets_L41 _ _ _ (lv_sub hl [2, 3, 4, 5, 1, 0] rfl) hP hD hS hw
                    intro v1_x133 v5_x133 mMeets_x133 ls H locs hl hP hD hS hw
                    try dsimp only at hw
                    refine lv_iinc (k := 3) (v := (v3_L41 + 1)) (lv' := [(3, .int (v3_L41 + 1)), (0, .ref (bd 0)), (1, .int (bI v1_x133)), (2, .int v2_L31), (4, .int (bI r52)), (5, .int v5_x133)]) hx hb dMd_findMeetings_133 hl rfl rfl (by decide) rfl (fun ls hl => ?_)
                    refine lv_goto (tgt := 41) hx hb dMd_findMeetings_136 rfl ?_
                    exact ih v1_x133 (v3_L41 + 1) mMeets_x133 _ _ _ (lv_sub hl [1, 2, 3, 0] rfl) hP hD hS hw
              refine hlp41 _ ?_ k41 v1_L31 0 mMeets_L31 _ _ _ (lv_sub hl [1, 2, 3, 0] rfl) hP hD hS hw
              intro v1_x139 v3_x139 mMeets_x139 ls H locs hl hP hD hS hw
              try dsimp only at hw
              refine lv_iinc (k := 2) (v := (v2_L31 + 1)) (lv' := [(2, .int (v2_L31 + 1)), (0, .ref (bd 0)), (1, .int (bI v1_x139)), (3, .int v3_x139)]) hx hb dMd_findMeetings_139 hl rfl rfl (by decide) rfl (fun ls hl => ?_)
              refine lv_goto (tgt := 31) hx hb dMd_findMeetings_142 rfl ?_
              exact ih v1_x139 (v2_L31 + 1) mMeets_x139 _ _ _ (lv_sub hl [1, 2, 0] rfl) hP hD hS hw
        refine hlp31 _ ?_ k31 false 0 mMeets_L23 _ _ _ (lv_sub hl [2, 1, 0] rfl) hP hD hS hw
        intro v1_x145 v2_x145 mMeets_x145 ls H locs hl hP hD hS hw
        try dsimp only at hw
        refine lv_goto (tgt := 23) hx hb dMd_findMeetings_145 rfl ?_
        exact ih v1_x145 mMeets_x145 _ _ _ (lv_sub hl [0, 1] rfl) hP hD hS hw
  refine hlp23 k23 true mMeets_x21 _ _ _ (lv_sub hl [1, 0] rfl) hP hD hS hw
abbrev wdMd_newName (cA : ClassId) (cB : ClassId) (bd : Nat → Nat) (N : Nat) (mThrown : Int32) (mReached : Int32) (mForm : Bool) (mSlot : Int32) (mOver : Bool) (mIsName : Nat → Bool) (mNameBlock : Nat → Int32) (mNameStep : Nat → Int32) (mNumbers : Nat → Int32) : va_W := [((bd 0), .inr (7, [.int mThrown, .int (nI N), .ref (bd 1), .ref (bd 2), .ref (bd 3), .ref (bd 4), .ref (bd 5), .ref (bd 6), .ref (bd 7), .ref (bd 8), .ref (bd 9), .ref (bd 10), .int mReached, .ref (bd 11), .int (bI mForm), .ref (bd 12), .ref (bd 13), .ref (bd 14), .ref (bd 15), .ref (bd 16), .ref (bd 17), .ref (bd 18), .ref (bd 19), .ref (bd 20), .ref (bd 21), .ref (bd 22), .ref (bd 23), .ref (bd 24), .ref (bd 25), .ref (bd 26), .ref (bd 27), .ref (bd 28), .int mSlot, .int (bI mOver)])), ((bd 19), .inl (cB, 600, .inl (fun j => bI (mIsName j)))), ((bd 20), .inl (cA, 600, .inl mNameBlock)), ((bd 21), .inl (cA, 600, .inl mNameStep)), ((bd 22), .inl (cA, 6, .inl mNumbers))]
abbrev qcMd_newName (D : va_G) (cA : ClassId) (cB : ClassId) (bd : Nat → Nat) (N : Nat) (mThrown : Int32) (mReached : Int32) (mForm : Bool) (mSlot : Int32) (mOver : Bool) (mIsName : Nat → Bool) (mNameBlock : Nat → Int32) (mNameStep : Nat → Int32) (mNumbers : Nat → Int32) (post : Int32 → (Nat → Bool) → (Nat → Int32) → (Nat → Int32) → (Nat → Int32) → Prop) (A : Nat → Prop) : Array Value → State → Outcome → State → Prop := va_Qi (S := (Nat → Bool) × (Nat → Int32) × (Nat → Int32) × (Nat → Int32)) (fun r u => post r u.1 u.2.1 u.2.2.1 u.2.2.2) (fun u t => xB D [(cA, .int), (cB, .boolean)] A (wdMd_newName cA cB bd N mThrown mReached mForm mSlot mOver u.1 u.2.1 u.2.2.1 u.2.2.2) t) A
abbrev rmMd_newName : Room := { frames := 0, cells := 0, slots := 0, locals := 0 }
set_option maxHeartbeats 4000000 in
set_option maxRecDepth 100000 in
theorem ktMd_newName (l : Launch) (D : va_G) (cA : ClassId) (cB : ClassId) (bd : Nat → Nat) (N : Nat) (sz : Nat) (mThrown : Int32) (mReached : Int32) (mForm : Bool) (mSlot : Int32) (mOver : Bool) (mIsName : Nat → Bool) (mNameBlock : Nat → Int32) (mNameStep : Nat → Int32) (mNumbers : Nat → Int32) (v1 : Int32) (v2 : Int32) (v3 : Int32) (post : Int32 → (Nat → Bool) → (Nat → Int32) → (Nat → Int32) → (Nat → Int32) → Prop) (hw : wpMd_newName mIsName mNameBlock mNameStep mNumbers v1 v2 v3 post) : Met l yMd_newName (Cond.code yMd_newName cMd_newName 5 (some .int) :: xW) rmMd_newName (va_Pc [.ref (bd 0), .int v1, .int v2, .int v3] (xPc D [(cA, .int), (cB, .boolean)] (wdMd_newName cA cB bd N mThrown mReached mForm mSlot mOver mIsName mNameBlock mNameStep mNumbers) sz)) (qcMd_newName D cA cB bd N mThrown mReached mForm mSlot mOver mIsName mNameBlock mNameStep mNumbers post (va_A (wdMd_newName cA cB bd N mThrown mReached mForm mSlot mOver mIsName mNameBlock mNameStep mNumbers) sz)) 0 0 (va_A (wdMd_newName cA cB bd N mThrown mReached mForm mSlot mOver mIsName mNameBlock mNameStep mNumbers) sz) := by
  refine Met.ofW (cc := cMd_newName) (maxL := 5) (ret := (some .int)) (by decide) rfl ?_
  intro p e s m args below meth c s₁ B hml hv
  obtain ⟨rfl, hsz, hP, hK, hD0, hN⟩ := hv
  have hx := B.exec
  have hb := B.bytes
  have hr := B.returns
  have hts := atoms_spec (ws := (Cond.code yMd_newName cMd_newName 5 (some .int) :: xW)) B.pre
  have hown : s.vm.findClass "OnceNamedModel" = some m.cls := findClass_of_methodNamed B.named
  have hlocks := B.notSynchronized
  subst hsz
  have hD := hD0.self (sz := s.heap.size)
  generalize hAe : va_A (wdMd_newName cA cB bd N mThrown mReached mForm mSlot mOver mIsName mNameBlock mNameStep mNumbers) s.heap.size = A at hD ⊢
  have hA : ∀ q : Nat, s.heap.size ≤ q → A q := fun q h => by rw [← hAe]; exact Or.inr h
  have hS : va_S A s.heap s.heap [] := va_S.rf
  have hend : ∀ (r : Int32) (u0 : Nat → Bool) (u1 : Nat → Int32) (u2 : Nat → Int32) (u3 : Nat → Int32) (H : Heap) (locs : List Loc) (pc : Nat) (ls : Array Slot), decode cMd_newName pc = .ok (.ireturn, 1) → va_P D vwCl (wdMd_newName cA cB bd N mThrown mReached mForm mSlot mOver u0 u1 u2 u3) H → va_D A (wdMd_newName cA cB bd N mThrown mReached mForm mSlot mOver u0 u1 u2 u3) → va_S A s.heap H locs → post r u0 u1 u2 u3 → W p l e (headSpec (Cond.code yMd_newName cMd_newName 5 (some .int) :: xW) rmMd_newName).room s m ([.ref (bd 0), .int v1, .int v2, .int v3] : List Value).toArray below meth c H locs 0 0 (MQ below (qcMd_newName D cA cB bd N mThrown mReached mForm mSlot mOver mIsName mNameBlock mNameStep mNumbers post A) ([.ref (bd 0), .int v1, .int v2, .int v3] : List Value).toArray s 0 0 A) (F0 m pc ls [.int r]) := fun r u0 u1 u2 u3 H locs pc ls hd hP hD hS hw => W.iret (v := r) hx hb hr (fun t ht hW => ⟨⟨r, (u0, u1, u2, u3), rfl, hw, ⟨by rw [ht]; exact hP, va_K.moved hW.alike hK, hD⟩⟩, hS.F ht⟩) hS.2.2 hd
  generalize hQ : MQ below (qcMd_newName D cA cB bd N mThrown mReached mForm mSlot mOver mIsName mNameBlock mNameStep mNumbers post A) ([.ref (bd 0), .int v1, .int v2, .int v3] : List Value).toArray s 0 0 A = Q at hend ⊢
  have hl := lv_entry ([.ref (bd 0), .int v1, .int v2, .int v3]) (n := 5) (Nat.le_of_ble_eq_true rfl)
  rw [lg_entry_eq]
  generalize (lg_sl ([.ref (bd 0), .int v1, .int v2, .int v3]) ++ List.replicate (5 - (lg_sl ([.ref (bd 0), .int v1, .int v2, .int v3])).length) Slot.unset).toArray = ls at hl ⊢
  have hl : lv_has ls 5 [(0, .ref (bd 0)), (1, .int v1), (2, .int v2), (3, .int v3)] := hl
  unfold wpMd_newName at hw
  refine lv_bipush (v := 100) hx hb dMd_newName_0 (by decide) ?_
  refine lv_iload_n hx hb dMd_newName_2 rfl (lv_at hl 1 rfl) ?_
  refine lv_imul hx hb dMd_newName_3 ?_
  refine lv_aload_n hx hb dMd_newName_4 rfl (lv_at hl 0 rfl) ?_
  refine va_get (D := D) (ci := 7) (v := .ref (bd 22)) (C := "OnceNamedModel") (T := TX7) (N := 34) hx hb hts (fun w h => List.mem_cons_of_mem _ (inX7 w h)) hown hK hP 0 rfl rfl 25 (by decide) (hts _ (List.mem_cons_of_mem _ kw_1010)) (fun _ h9 => h9) rfl dMd_newName_5 ?_
  refine lv_iload_n hx hb dMd_newName_8 rfl (lv_at hl 1 rfl) ?_
  have ho := hw.1
  have hw := hw.2
  refine va_iald hx hb hK hP 4 0 rfl rfl ho dMd_newName_9 ?_
  refine lv_iadd hx hb dMd_newName_10 ?_
  refine lv_topi (fun v4_11 e_v4_11 => ?_)
  have hw := hw v4_11 e_v4_11
  refine lv_istore (lv' := [(4, .int v4_11), (0, .ref (bd 0)), (1, .int v1), (2, .int v2), (3, .int v3)]) hx hb dMd_newName_11 hl (by decide) rfl (fun ls hl => ?_)
  refine lv_aload_n hx hb dMd_newName_13 rfl (lv_at hl 1 rfl) ?_
  refine va_get (D := D) (ci := 7) (v := .ref (bd 22)) (C := "OnceNamedModel") (T := TX7) (N := 34) hx hb hts (fun w h => List.mem_cons_of_mem _ (inX7 w h)) hown hK hP 0 rfl rfl 25 (by decide) (hts _ (List.mem_cons_of_mem _ kw_1010)) (fun _ h9 => h9) rfl dMd_newName_14 ?_
  refine lv_iload_n hx hb dMd_newName_17 rfl (lv_at hl 2 rfl) ?_
  refine lv_dup2_11 hx hb dMd_newName_18 rfl rfl ?_
  have ho := hw.1
  have hw := hw.2
  refine va_iald hx hb hK hP 4 0 rfl rfl ho dMd_newName_19 ?_
  refine lv_iconst (v := 1) hx hb dMd_newName_20 (by decide) ?_
  refine lv_iadd hx hb dMd_newName_21 ?_
  have ho := hw.1
  have hw := hw.2
  refine va_iast hx hb hK hP hD hS 4 0 rfl rfl ho dMd_newName_22 (fun H locs hP hD hS => ?_)
  have hP : va_P D vwCl (wdMd_newName cA cB bd N mThrown mReached mForm mSlot mOver mIsName mNameBlock mNameStep (upd mNumbers (Int32.toNatClampNeg v1) ((mNumbers (Int32.toNatClampNeg v1)) + 1))) H := hP
  have hD : va_D A (wdMd_newName cA cB bd N mThrown mReached mForm mSlot mOver mIsName mNameBlock mNameStep (upd mNumbers (Int32.toNatClampNeg v1) ((mNumbers (Int32.toNatClampNeg v1)) + 1))) := hD
  refine lv_aload_n hx hb dMd_newName_23 rfl (lv_at hl 1 rfl) ?_
  refine va_get (D := D) (ci := 7) (v := .ref (bd 19)) (C := "OnceNamedModel") (T := TX7) (N := 34) hx hb hts (fun w h => List.mem_cons_of_mem _ (inX7 w h)) hown hK hP 0 rfl rfl 22 (by decide) (hts _ (List.mem_cons_of_mem _ kw_1007)) (fun _ h9 => h9) rfl dMd_newName_24 ?_
  refine lv_iload hx hb dMd_newName_27 (lv_at hl 0 rfl) ?_
  refine lv_iconst (v := 1) hx hb dMd_newName_29 (by decide) ?_
  have ho := hw.1
  have hw := hw.2
  refine xzast (z := true) hx hb hK hP hD hS 1 1 rfl rfl ho dMd_newName_30 (fun H locs hP hD hS => ?_)
  have hP : va_P D vwCl (wdMd_newName cA cB bd N mThrown mReached mForm mSlot mOver (updB mIsName (Int32.toNatClampNeg v4_11) true) mNameBlock mNameStep (upd mNumbers (Int32.toNatClampNeg v1) ((mNumbers (Int32.toNatClampNeg v1)) + 1))) H := hP
  have hD : va_D A (wdMd_newName cA cB bd N mThrown mReached mForm mSlot mOver (updB mIsName (Int32.toNatClampNeg v4_11) true) mNameBlock mNameStep (upd mNumbers (Int32.toNatClampNeg v1) ((mNumbers (Int32.toNatClampNeg v1)) + 1))) := hD
  refine lv_aload_n hx hb dMd_newName_31 rfl (lv_at hl 1 rfl) ?_
  refine va_get (D := D) (ci := 7) (v := .ref (bd 20)) (C := "OnceNamedModel") (T := TX7) (N := 34) hx hb hts (fun w h => List.mem_cons_of_mem _ (inX7 w h)) hown hK hP 0 rfl rfl 23 (by decide) (hts _ (List.mem_cons_of_mem _ kw_1008)) (fun _ h9 => h9) rfl dMd_newName_32 ?_
  refine lv_iload hx hb dMd_newName_35 (lv_at hl 0 rfl) ?_
  refine lv_iload_n hx hb dMd_newName_37 rfl (lv_at hl 3 rfl) ?_
  have ho := hw.1
  have hw := hw.2
  refine va_iast hx hb hK hP hD hS 2 0 rfl rfl ho dMd_newName_38 (fun H locs hP hD hS => ?_)
  have hP : va_P D vwCl (wdMd_newName cA cB bd N mThrown mReached mForm mSlot mOver (updB mIsName (Int32.toNatClampNeg v4_11) true) (upd mNameBlock (Int32.toNatClampNeg v4_11) v2) mNameStep (upd mNumbers (Int32.toNatClampNeg v1) ((mNumbers (Int32.toNatClampNeg v1)) + 1))) H := hP
  have hD : va_D A (wdMd_newName cA cB bd N mThrown mReached mForm mSlot mOver (updB mIsName (Int32.toNatClampNeg v4_11) true) (upd mNameBlock (Int32.toNatClampNeg v4_11) v2) mNameStep (upd mNumbers (Int32.toNatClampNeg v1) ((mNumbers (Int32.toNatClampNeg v1)) + 1))) := hD
  refine lv_aload_n hx hb dMd_newName_39 rfl (lv_at hl 1 rfl) ?_
  refine va_get (D := D) (ci := 7) (v := .ref (bd 21)) (C := "OnceNamedModel") (T := TX7) (N := 34) hx hb hts (fun w h => List.mem_cons_of_mem _ (inX7 w h)) hown hK hP 0 rfl rfl 24 (by decide) (hts _ (List.mem_cons_of_mem _ kw_1009)) (fun _ h9 => h9) rfl dMd_newName_40 ?_
  refine lv_iload hx hb dMd_newName_43 (lv_at hl 0 rfl) ?_
  refine lv_iload_n hx hb dMd_newName_45 rfl (lv_at hl 4 rfl) ?_
  have ho := hw.1
  have hw := hw.2
  refine va_iast hx hb hK hP hD hS 3 0 rfl rfl ho dMd_newName_46 (fun H locs hP hD hS => ?_)
  have hP : va_P D vwCl (wdMd_newName cA cB bd N mThrown mReached mForm mSlot mOver (updB mIsName (Int32.toNatClampNeg v4_11) true) (upd mNameBlock (Int32.toNatClampNeg v4_11) v2) (upd mNameStep (Int32.toNatClampNeg v4_11) v3) (upd mNumbers (Int32.toNatClampNeg v1) ((mNumbers (Int32.toNatClampNeg v1)) + 1))) H := hP
  have hD : va_D A (wdMd_newName cA cB bd N mThrown mReached mForm mSlot mOver (updB mIsName (Int32.toNatClampNeg v4_11) true) (upd mNameBlock (Int32.toNatClampNeg v4_11) v2) (upd mNameStep (Int32.toNatClampNeg v4_11) v3) (upd mNumbers (Int32.toNatClampNeg v1) ((mNumbers (Int32.toNatClampNeg v1)) + 1))) := hD
  refine lv_iload hx hb dMd_newName_47 (lv_at hl 0 rfl) ?_
  exact hend v4_11 (updB mIsName (Int32.toNatClampNeg v4_11) true) (upd mNameBlock (Int32.toNatClampNeg v4_11) v2) (upd mNameStep (Int32.toNatClampNeg v4_11) v3) (upd mNumbers (Int32.toNatClampNeg v1) ((mNumbers (Int32.toNatClampNeg v1)) + 1)) _ _ _ _ dMd_newName_49 hP hD hS hw
