abbrev wdMd_turn (cA : ClassId) (cB : ClassId) (bd : Nat → Nat) (N : Nat) (mThrown : Int32) (mReached : Int32) (mForm : Bool) (mSlot : Int32) (mOver : Bool) (mMeets : Nat → Int32) (mSources : Nat → Int32) (mIsName : Nat → Bool) : va_W := [((bd 0), .inr (7, [.int mThrown, .int (nI N), .ref (bd 1), .ref (bd 2), .ref (bd 3), .ref (bd 4), .ref (bd 5), .ref (bd 6), .ref (bd 7), .ref (bd 8), .ref (bd 9), .ref (bd 10), .int mReached, .ref (bd 11), .int (bI mForm), .ref (bd 12), .ref (bd 13), .ref (bd 14), .ref (bd 15), .ref (bd 16), .ref (bd 17), .ref (bd 18), .ref (bd 19), .ref (bd 20), .ref (bd 21), .ref (bd 22), .ref (bd 23), .ref (bd 24), .ref (bd 25), .ref (bd 26), .ref (bd 27), .ref (bd 28), .int mSlot, .int (bI mOver)])), ((bd 12), .inl (cA, 72, .inl mMeets)), ((bd 13), .inl (cA, 936, .inl mSources)), ((bd 19), .inl (cB, 600, .inl (fun j => bI (mIsName j))))]
abbrev qcMd_turn (D : va_G) (cA : ClassId) (cB : ClassId) (bd : Nat → Nat) (N : Nat) (mThrown : Int32) (mReached : Int32) (mForm : Bool) (mSlot : Int32) (mOver : Bool) (mMeets : Nat → Int32) (mSources : Nat → Int32) (mIsName : Nat → Bool) (post : Int32 → (Nat → Int32) → Prop) (A : Nat → Prop) : Array Value → State → Outcome → State → Prop := va_Qv (S := (Int32) × (Nat → Int32)) (fun u => post u.1 u.2) (fun u t => xB D [(cA, .int), (cB, .boolean)] A (wdMd_turn cA cB bd N u.1 mReached mForm mSlot mOver mMeets u.2 mIsName) t) A
abbrev rmMd_turn : Room := { frames := 1, cells := 0, slots := 0, locals := 23 }
set_option maxHeartbeats 4000000 in
set_option maxRecDepth 100000 in
theorem ktMd_turn (l : Launch) (D : va_G) (cA : ClassId) (cB : ClassId) (bd : Nat → Nat) (N : Nat) (sz : Nat) (mThrown : Int32) (mReached : Int32) (mForm : Bool) (mSlot : Int32) (mOver : Bool) (mMeets : Nat → Int32) (mSources : Nat → Int32) (mIsName : Nat → Bool) (v1 : Int32) (v2 : Int32) (v3 : Int32) (v4 : Int32) (post : Int32 → (Nat → Int32) → Prop) (hw : wpMd_turn N mForm mMeets mSources mIsName v1 v2 v3 v4 post) : Met l yMd_turn (Cond.code yMd_turn cMd_turn 5 none :: xW) rmMd_turn (va_Pc [.ref (bd 0), .int v1, .int v2, .int v3, .int v4] (xPc D [(cA, .int), (cB, .boolean)] (wdMd_turn cA cB bd N mThrown mReached mForm mSlot mOver mMeets mSources mIsName) sz)) (qcMd_turn D cA cB bd N mThrown mReached mForm mSlot mOver mMeets mSources mIsName post (va_A (wdMd_turn cA cB bd N mThrown mReached mForm mSlot mOver mMeets mSources mIsName) sz)) 0 0 (va_A (wdMd_turn cA cB bd N mThrown mReached mForm mSlot mOver mMeets mSources mIsName) sz) := by
  refine Met.ofW (cc := cMd_turn) (maxL := 5) (ret := none) (by decide) rfl ?_
  intro p e s m args below meth c s₁ B hml hv
  obtain ⟨rfl, hsz, hP, hK, hD0, hN⟩ := hv
  have hx := B.exec
  have hb := B.bytes
  have hr := B.returns
  have hts := atoms_spec (ws := (Cond.code yMd_turn cMd_turn 5 none :: xW)) B.pre
  have hown : s.vm.findClass "OnceNamedModel" = some m.cls := findClass_of_methodNamed B.named
  have hlocks := B.notSynchronized
  subst hsz
  have hD := hD0.self (sz := s.heap.size)
  generalize hAe : va_A (wdMd_turn cA cB bd N mThrown mReached mForm mSlot mOver mMeets mSources mIsName) s.heap.size = A at hD ⊢
  have hA : ∀ q : Nat, s.heap.size ≤ q → A q := fun q h => by rw [← hAe]; exact Or.inr h
  have hS : va_S A s.heap s.heap [] := va_S.rf
  have hend : ∀ (u0 : Int32) (u1 : Nat → Int32) (H : Heap) (locs : List Loc) (pc : Nat) (ls : Array Slot), decode cMd_turn pc = .ok (.return_, 1) → va_P D vwCl (wdMd_turn cA cB bd N u0 mReached mForm mSlot mOver mMeets u1 mIsName) H → va_D A (wdMd_turn cA cB bd N u0 mReached mForm mSlot mOver mMeets u1 mIsName) → va_S A s.heap H locs → post u0 u1 → W p l e (headSpec (Cond.code yMd_turn cMd_turn 5 none :: xW) rmMd_turn).room s m ([.ref (bd 0), .int v1, .int v2, .int v3, .int v4] : List Value).toArray below meth c H locs 0 0 (MQ below (qcMd_turn D cA cB bd N mThrown mReached mForm mSlot mOver mMeets mSources mIsName post A) ([.ref (bd 0), .int v1, .int v2, .int v3, .int v4] : List Value).toArray s 0 0 A) (F0 m pc ls []) := fun u0 u1 H locs pc ls hd hP hD hS hw => W.vret hx hb hr (fun t ht hW => ⟨⟨(u0, u1), rfl, hw, ⟨by rw [ht]; exact hP, va_K.moved hW.alike hK, hD⟩⟩, hS.F ht⟩) hS.2.2 hd
  generalize hQ : MQ below (qcMd_turn D cA cB bd N mThrown mReached mForm mSlot mOver mMeets mSources mIsName post A) ([.ref (bd 0), .int v1, .int v2, .int v3, .int v4] : List Value).toArray s 0 0 A = Q at hend ⊢
  have hl := lv_entry ([.ref (bd 0), .int v1, .int v2, .int v3, .int v4]) (n := 5) (Nat.le_of_ble_eq_true rfl)
  rw [lg_entry_eq]
  generalize (lg_sl ([.ref (bd 0), .int v1, .int v2, .int v3, .int v4]) ++ List.replicate (5 - (lg_sl ([.ref (bd 0), .int v1, .int v2, .int v3, .int v4])).length) Slot.unset).toArray = ls at hl ⊢
  have hl : lv_has ls 5 [(0, .ref (bd 0)), (1, .int v1), (2, .int v2), (3, .int v3), (4, .int v4)] := hl
  unfold wpMd_turn at hw
  refine lv_aload_n hx hb dMd_turn_0 rfl (lv_at hl 0 rfl) ?_
  refine lv_aload_n hx hb dMd_turn_1 rfl (lv_at hl 0 rfl) ?_
  refine va_get (D := D) (ci := 7) (v := .int (bI mForm)) (C := "OnceNamedModel") (T := TX7) (N := 34) hx hb hts (fun w h => List.mem_cons_of_mem _ (inX7 w h)) hown hK hP 0 rfl rfl 14 (by decide) (hts _ (List.mem_cons_of_mem _ kw_999)) (fun _ h9 => h9) rfl dMd_turn_2 ?_
  obtain ⟨J68, hJ68, hw⟩ := hw
  have hj68 : ∀ (t68_0 : Int32) (ls : Array Slot) (H : Heap) (locs : List Loc), lv_has ls 5 [(0, .ref (bd 0)), (1, .int v1), (2, .int v2), (3, .int v3), (4, .int v4)] → va_P D vwCl (wdMd_turn cA cB bd N mThrown mReached mForm mSlot mOver mMeets mSources mIsName) H → va_D A (wdMd_turn cA cB bd N mThrown mReached mForm mSlot mOver mMeets mSources mIsName) → va_S A s.heap H locs → J68 t68_0 → W p l e (headSpec (Cond.code yMd_turn cMd_turn 5 none :: xW) rmMd_turn).room s m ([.ref (bd 0), .int v1, .int v2, .int v3, .int v4] : List Value).toArray below meth c H locs 0 0 Q (F0 m 68 ls [.int t68_0, .ref (bd 0)]) := by
    intro t68_0 ls H locs hl hP hD hS hw
    have hw := hJ68 t68_0 hw
    refine va_put (D := D) (ci := 7) (v := .int t68_0) (ty := .int) (C := "OnceNamedModel") (T := TX7) (N := 34) hx hb hts (fun w h => List.mem_cons_of_mem _ (inX7 w h)) tyX7 tyX7_ok nmX7 hown hK hP hD hS 0 rfl rfl 0 (by decide) (hts _ (List.mem_cons_of_mem _ kw_985)) (fun _ h9 => h9) rfl (by decide +kernel) rfl rfl (Nat.le_of_ble_eq_true rfl) dMd_turn_68 (fun H locs hP hD hS => ?_)
    have hP : va_P D vwCl (wdMd_turn cA cB bd N t68_0 mReached mForm mSlot mOver mMeets mSources mIsName) H := hP
    have hD : va_D A (wdMd_turn cA cB bd N t68_0 mReached mForm mSlot mOver mMeets mSources mIsName) := hD
    refine lv_aload_n hx hb dMd_turn_71 rfl (lv_at hl 0 rfl) ?_
    refine va_get (D := D) (ci := 7) (v := .int t68_0) (C := "OnceNamedModel") (T := TX7) (N := 34) hx hb hts (fun w h => List.mem_cons_of_mem _ (inX7 w h)) hown hK hP 0 rfl rfl 0 (by decide) (hts _ (List.mem_cons_of_mem _ kw_985)) (fun _ h9 => h9) rfl dMd_turn_72 ?_
    refine lv_if_ne (tgt := 96) hx hb dMd_turn_75 rfl (fun hc => ?_) (fun hc => ?_)
    · have hw := hw.1 hc
      exact hend t68_0 mSources _ _ _ _ dMd_turn_96 hP hD hS hw
    · have hw := hw.2 hc
      refine lv_aload_n hx hb dMd_turn_78 rfl (lv_at hl 0 rfl) ?_
      refine va_get (D := D) (ci := 7) (v := .ref (bd 13)) (C := "OnceNamedModel") (T := TX7) (N := 34) hx hb hts (fun w h => List.mem_cons_of_mem _ (inX7 w h)) hown hK hP 0 rfl rfl 16 (by decide) (hts _ (List.mem_cons_of_mem _ kw_1001)) (fun _ h9 => h9) rfl dMd_turn_79 ?_
      refine lv_bipush (v := 13) hx hb dMd_turn_82 (by decide) ?_
      refine lv_bipush (v := 6) hx hb dMd_turn_84 (by decide) ?_
      refine lv_iload_n hx hb dMd_turn_86 rfl (lv_at hl 1 rfl) ?_
      refine lv_imul hx hb dMd_turn_87 ?_
      refine lv_iload_n hx hb dMd_turn_88 rfl (lv_at hl 2 rfl) ?_
      refine lv_iadd hx hb dMd_turn_89 ?_
      refine lv_imul hx hb dMd_turn_90 ?_
      refine lv_iload_n hx hb dMd_turn_91 rfl (lv_at hl 3 rfl) ?_
      refine lv_iadd hx hb dMd_turn_92 ?_
      refine lv_iload hx hb dMd_turn_93 (lv_at hl 4 rfl) ?_
      have ho := hw.1
      have hw := hw.2
      refine va_iast hx hb hK hP hD hS 2 0 rfl rfl ho dMd_turn_95 (fun H locs hP hD hS => ?_)
      have hP : va_P D vwCl (wdMd_turn cA cB bd N t68_0 mReached mForm mSlot mOver mMeets (upd mSources (Int32.toNatClampNeg ((13 * ((6 * v1) + v2)) + v3)) v4) mIsName) H := hP
      have hD : va_D A (wdMd_turn cA cB bd N t68_0 mReached mForm mSlot mOver mMeets (upd mSources (Int32.toNatClampNeg ((13 * ((6 * v1) + v2)) + v3)) v4) mIsName) := hD
      exact hend t68_0 (upd mSources (Int32.toNatClampNeg ((13 * ((6 * v1) + v2)) + v3)) v4) _ _ _ _ dMd_turn_96 hP hD hS hw
  refine lv_if_ne (tgt := 12) hx hb dMd_turn_5 rfl (fun hc => ?_) (fun hc => ?_)
  · have hw := hw.1 (bI_1 hc)
    refine lv_aload_n hx hb dMd_turn_12 rfl (lv_at hl 0 rfl) ?_
    refine lv_iload_n hx hb dMd_turn_13 rfl (lv_at hl 1 rfl) ?_
    refine xci (va_runV ⟨hx, hb, hml, hown, hts⟩ (ktMd_noBlock l D cA cB bd N _ mThrown mReached mForm mSlot mOver v1 _ hw) (cwV 1 hts (goodV kw_1097 kw_1099 ks_3_12 kw_11 kw_1100) rfl rfl rfl (by decide +kernel) ⟨Nat.le_of_ble_eq_true rfl, Nat.le_of_ble_eq_true rfl⟩) (xpreV hK hP hD hN [0] rfl rfl 0 rfl rfl) rfl rfl hl.1 rfl (lv_room (Nat.le_of_ble_eq_true rfl)) dMd_turn_14 ⟨Nat.le_of_ble_eq_true rfl, Nat.le_of_ble_eq_true rfl⟩) hP hD hS hA [0] [1, 2, 3] rfl rfl rfl rfl [3, 0, 1, 2] rfl (fun _ => rfl) (fun r14 u H locs hw hP hD hS => ?_)
    obtain ⟨r14, rfl, hw⟩ := hw
    have hP : va_P D vwCl (wdMd_turn cA cB bd N mThrown mReached mForm mSlot mOver mMeets mSources mIsName) H := hP
    have hD : va_D A (wdMd_turn cA cB bd N mThrown mReached mForm mSlot mOver mMeets mSources mIsName) := hD
    refine lv_if_ne (tgt := 40) hx hb dMd_turn_17 rfl (fun hc => ?_) (fun hc => ?_)
    · have hw := hw.1 (bI_1 hc)
      refine lv_iconst (v := 2) hx hb dMd_turn_40 (by decide) ?_
      refine lv_goto (tgt := 68) hx hb dMd_turn_41 rfl ?_
      exact hj68 2 _ _ _ (lv_sub hl [0, 1, 2, 3, 4] rfl) hP hD hS hw
    · have hw := hw.2 (bI_0 hc)
      refine lv_aload_n hx hb dMd_turn_20 rfl (lv_at hl 0 rfl) ?_
      refine lv_iload_n hx hb dMd_turn_21 rfl (lv_at hl 2 rfl) ?_
      refine xci (va_runV ⟨hx, hb, hml, hown, hts⟩ (ktMd_noVariable l D cA cB bd N _ v2 _ hw) (cwV 1 hts (goodV kw_1101 kw_1103 ks_3_13 kw_11 kw_1104) rfl rfl rfl (by decide +kernel) ⟨Nat.le_of_ble_eq_true rfl, Nat.le_of_ble_eq_true rfl⟩) (xpreV hK hP hD hN [] rfl rfl 0 rfl rfl) rfl rfl hl.1 rfl (lv_room (Nat.le_of_ble_eq_true rfl)) dMd_turn_22 ⟨Nat.le_of_ble_eq_true rfl, Nat.le_of_ble_eq_true rfl⟩) hP hD hS hA [] [0, 1, 2, 3] rfl rfl rfl rfl [0, 1, 2, 3] rfl (fun _ => rfl) (fun r22 u H locs hw hP hD hS => ?_)
      obtain ⟨r22, rfl, hw⟩ := hw
      have hP : va_P D vwCl (wdMd_turn cA cB bd N mThrown mReached mForm mSlot mOver mMeets mSources mIsName) H := hP
      have hD : va_D A (wdMd_turn cA cB bd N mThrown mReached mForm mSlot mOver mMeets mSources mIsName) := hD
      refine lv_if_ne (tgt := 40) hx hb dMd_turn_25 rfl (fun hc => ?_) (fun hc => ?_)
      · have hw := hw.1 (bI_1 hc)
        refine lv_iconst (v := 2) hx hb dMd_turn_40 (by decide) ?_
        refine lv_goto (tgt := 68) hx hb dMd_turn_41 rfl ?_
        exact hj68 2 _ _ _ (lv_sub hl [0, 1, 2, 3, 4] rfl) hP hD hS hw
      · have hw := hw.2 (bI_0 hc)
        refine lv_iload_n hx hb dMd_turn_28 rfl (lv_at hl 3 rfl) ?_
        refine lv_if_lt (tgt := 40) hx hb dMd_turn_29 rfl (fun hc => ?_) (fun hc => ?_)
        · have hw := hw.1 hc
          refine lv_iconst (v := 2) hx hb dMd_turn_40 (by decide) ?_
          refine lv_goto (tgt := 68) hx hb dMd_turn_41 rfl ?_
          exact hj68 2 _ _ _ (lv_sub hl [0, 1, 2, 3, 4] rfl) hP hD hS hw
        · have hw := hw.2 hc
          refine lv_iload_n hx hb dMd_turn_32 rfl (lv_at hl 3 rfl) ?_
          refine lv_aload_n hx hb dMd_turn_33 rfl (lv_at hl 0 rfl) ?_
          refine va_get (D := D) (ci := 7) (v := .int (nI N)) (C := "OnceNamedModel") (T := TX7) (N := 34) hx hb hts (fun w h => List.mem_cons_of_mem _ (inX7 w h)) hown hK hP 0 rfl rfl 1 (by decide) (hts _ (List.mem_cons_of_mem _ kw_986)) (fun _ h9 => h9) rfl dMd_turn_34 ?_
          refine lv_icmp_le (tgt := 44) hx hb dMd_turn_37 rfl (fun hc => ?_) (fun hc => ?_)
          · have hw := hw.1 hc
            refine lv_aload_n hx hb dMd_turn_44 rfl (lv_at hl 0 rfl) ?_
            refine lv_iload_n hx hb dMd_turn_45 rfl (lv_at hl 1 rfl) ?_
            refine lv_iload_n hx hb dMd_turn_46 rfl (lv_at hl 2 rfl) ?_
            refine lv_iload_n hx hb dMd_turn_47 rfl (lv_at hl 3 rfl) ?_
            refine xci (va_runV ⟨hx, hb, hml, hown, hts⟩ (ktMd_sourceOf l D cA cB bd N _ mThrown mReached mForm mSlot mOver mMeets mSources v1 v2 v3 _ hw) (cwV 3 hts (goodV kw_1225 kw_1227 ks_5_0 kw_11 kw_1228) rfl rfl rfl (by decide +kernel) ⟨Nat.le_of_ble_eq_true rfl, Nat.le_of_ble_eq_true rfl⟩) (xpreV hK hP hD hN [0, 1, 2] rfl rfl 0 rfl rfl) rfl rfl hl.1 rfl (lv_room (Nat.le_of_ble_eq_true rfl)) dMd_turn_48 ⟨Nat.le_of_ble_eq_true rfl, Nat.le_of_ble_eq_true rfl⟩) hP hD hS hA [0, 1, 2] [3] rfl rfl rfl rfl [1, 2, 3, 0] rfl (fun _ => rfl) (fun r48 u H locs hw hP hD hS => ?_)
            have hP : va_P D vwCl (wdMd_turn cA cB bd N mThrown mReached mForm mSlot mOver mMeets mSources mIsName) H := hP
            have hD : va_D A (wdMd_turn cA cB bd N mThrown mReached mForm mSlot mOver mMeets mSources mIsName) := hD
            refine lv_if_lt (tgt := 63) hx hb dMd_turn_51 rfl (fun hc => ?_) (fun hc => ?_)
            · have hw := hw.1 hc
              refine lv_iconst (v := 2) hx hb dMd_turn_63 (by decide) ?_
              refine lv_goto (tgt := 68) hx hb dMd_turn_64 rfl ?_
              exact hj68 2 _ _ _ (lv_sub hl [0, 1, 2, 3, 4] rfl) hP hD hS hw
            · have hw := hw.2 hc
              refine lv_aload_n hx hb dMd_turn_54 rfl (lv_at hl 0 rfl) ?_
              refine lv_iload hx hb dMd_turn_55 (lv_at hl 4 rfl) ?_
              refine xci (va_runV ⟨hx, hb, hml, hown, hts⟩ (ktMd_noName l D cA cB bd N _ mThrown mReached mForm mSlot mOver mIsName v4 _ hw) (cwV 1 hts (goodV kw_1253 kw_1255 ks_5_4 kw_11 kw_1256) rfl rfl rfl (by decide +kernel) ⟨Nat.le_of_ble_eq_true rfl, Nat.le_of_ble_eq_true rfl⟩) (xpreV hK hP hD hN [0, 3] rfl rfl 0 rfl rfl) rfl rfl hl.1 rfl (lv_room (Nat.le_of_ble_eq_true rfl)) dMd_turn_57 ⟨Nat.le_of_ble_eq_true rfl, Nat.le_of_ble_eq_true rfl⟩) hP hD hS hA [0, 3] [1, 2] rfl rfl rfl rfl [2, 0, 1, 3] rfl (fun _ => rfl) (fun r57 u H locs hw hP hD hS => ?_)
              obtain ⟨r57, rfl, hw⟩ := hw
              have hP : va_P D vwCl (wdMd_turn cA cB bd N mThrown mReached mForm mSlot mOver mMeets mSources mIsName) H := hP
              have hD : va_D A (wdMd_turn cA cB bd N mThrown mReached mForm mSlot mOver mMeets mSources mIsName) := hD
              refine lv_if_eq (tgt := 67) hx hb dMd_turn_60 rfl (fun hc => ?_) (fun hc => ?_)
              · have hw := hw.1 (bI_0 hc)
                refine lv_iconst (v := 0) hx hb dMd_turn_67 (by decide) ?_
                exact hj68 0 _ _ _ (lv_sub hl [0, 1, 2, 3, 4] rfl) hP hD hS hw
              · have hw := hw.2 (bI_1 hc)
                refine lv_iconst (v := 2) hx hb dMd_turn_63 (by decide) ?_
                refine lv_goto (tgt := 68) hx hb dMd_turn_64 rfl ?_
                exact hj68 2 _ _ _ (lv_sub hl [0, 1, 2, 3, 4] rfl) hP hD hS hw
          · have hw := hw.2 hc
            refine lv_iconst (v := 2) hx hb dMd_turn_40 (by decide) ?_
            refine lv_goto (tgt := 68) hx hb dMd_turn_41 rfl ?_
            exact hj68 2 _ _ _ (lv_sub hl [0, 1, 2, 3, 4] rfl) hP hD hS hw
  · have hw := hw.2 (bI_0 hc)
    refine lv_iconst (v := 1) hx hb dMd_turn_8 (by decide) ?_
    refine lv_goto (tgt := 68) hx hb dMd_turn_9 rfl ?_
    exact hj68 1 _ _ _ (lv_sub hl [0, 1, 2, 3, 4] rfl) hP hD hS hw
abbrev wdMd_meetingWith (cA : ClassId) (cB : ClassId) (bd : Nat → Nat) (N : Nat) (mThrown : Int32) (mReached : Int32) (mForm : Bool) (mSlot : Int32) (mOver : Bool) (mMeets : Nat → Int32) : va_W := [((bd 0), .inr (7, [.int mThrown, .int (nI N), .ref (bd 1), .ref (bd 2), .ref (bd 3), .ref (bd 4), .ref (bd 5), .ref (bd 6), .ref (bd 7), .ref (bd 8), .ref (bd 9), .ref (bd 10), .int mReached, .ref (bd 11), .int (bI mForm), .ref (bd 12), .ref (bd 13), .ref (bd 14), .ref (bd 15), .ref (bd 16), .ref (bd 17), .ref (bd 18), .ref (bd 19), .ref (bd 20), .ref (bd 21), .ref (bd 22), .ref (bd 23), .ref (bd 24), .ref (bd 25), .ref (bd 26), .ref (bd 27), .ref (bd 28), .int mSlot, .int (bI mOver)])), ((bd 12), .inl (cA, 72, .inl mMeets))]
abbrev qcMd_meetingWith (D : va_G) (cA : ClassId) (cB : ClassId) (bd : Nat → Nat) (N : Nat) (mThrown : Int32) (mReached : Int32) (mForm : Bool) (mSlot : Int32) (mOver : Bool) (mMeets : Nat → Int32) (post : Int32 → Prop) (A : Nat → Prop) : Array Value → State → Outcome → State → Prop := va_Qi (S := Unit) (fun r u => post r ) (fun u t => xB D [(cA, .int), (cB, .boolean)] A (wdMd_meetingWith cA cB bd N mThrown mReached mForm mSlot mOver mMeets) t) A
abbrev rmMd_meetingWith : Room := { frames := 0, cells := 0, slots := 0, locals := 0 }
set_option maxHeartbeats 4000000 in
set_option maxRecDepth 100000 in
theorem ktMd_meetingWith (l : Launch) (D : va_G) (cA : ClassId) (cB : ClassId) (bd : Nat → Nat) (N : Nat) (sz : Nat) (mThrown : Int32) (mReached : Int32) (mForm : Bool) (mSlot : Int32) (mOver : Bool) (mMeets : Nat → Int32) (v1 : Int32) (v2 : Int32) (post : Int32 → Prop) (hw : wpMd_meetingWith mMeets v1 v2 post) : Met l yMd_meetingWith (Cond.code yMd_meetingWith cMd_meetingWith 4 (some .int) :: xW) rmMd_meetingWith (va_Pc [.ref (bd 0), .int v1, .int v2] (xPc D [(cA, .int), (cB, .boolean)] (wdMd_meetingWith cA cB bd N mThrown mReached mForm mSlot mOver mMeets) sz)) (qcMd_meetingWith D cA cB bd N mThrown mReached mForm mSlot mOver mMeets post (va_A (wdMd_meetingWith cA cB bd N mThrown mReached mForm mSlot mOver mMeets) sz)) 0 0 (va_A (wdMd_meetingWith cA cB bd N mThrown mReached mForm mSlot mOver mMeets) sz) := by
  refine Met.ofW (cc := cMd_meetingWith) (maxL := 4) (ret := (some .int)) (by decide) rfl ?_
  intro p e s m args below meth c s₁ B hml hv
  obtain ⟨rfl, hsz, hP, hK, hD0, hN⟩ := hv
  have hx := B.exec
  have hb := B.bytes
  have hr := B.returns
  have hts := atoms_spec (ws := (Cond.code yMd_meetingWith cMd_meetingWith 4 (some .int) :: xW)) B.pre
  have hown : s.vm.findClass "OnceNamedModel" = some m.cls := findClass_of_methodNamed B.named
  have hlocks := B.notSynchronized
  subst hsz
  have hD := hD0.self (sz := s.heap.size)
  generalize hAe : va_A (wdMd_meetingWith cA cB bd N mThrown mReached mForm mSlot mOver mMeets) s.heap.size = A at hD ⊢
  have hA : ∀ q : Nat, s.heap.size ≤ q → A q := fun q h => by rw [← hAe]; exact Or.inr h
  have hS : va_S A s.heap s.heap [] := va_S.rf
  have hend : ∀ (r : Int32)  (H : Heap) (locs : List Loc) (pc : Nat) (ls : Array Slot), decode cMd_meetingWith pc = .ok (.ireturn, 1) → va_P D vwCl (wdMd_meetingWith cA cB bd N mThrown mReached mForm mSlot mOver mMeets) H → va_D A (wdMd_meetingWith cA cB bd N mThrown mReached mForm mSlot mOver mMeets) → va_S A s.heap H locs → post r  → W p l e (headSpec (Cond.code yMd_meetingWith cMd_meetingWith 4 (some .int) :: xW) rmMd_meetingWith).room s m ([.ref (bd 0), .int v1, .int v2] : List Value).toArray below meth c H locs 0 0 (MQ below (qcMd_meetingWith D cA cB bd N mThrown mReached mForm mSlot mOver mMeets post A) ([.ref (bd 0), .int v1, .int v2] : List Value).toArray s 0 0 A) (F0 m pc ls [.int r]) := fun r  H locs pc ls hd hP hD hS hw => W.iret (v := r) hx hb hr (fun t ht hW => ⟨⟨r, (), rfl, hw, ⟨by rw [ht]; exact hP, va_K.moved hW.alike hK, hD⟩⟩, hS.F ht⟩) hS.2.2 hd
  generalize hQ : MQ below (qcMd_meetingWith D cA cB bd N mThrown mReached mForm mSlot mOver mMeets post A) ([.ref (bd 0), .int v1, .int v2] : List Value).toArray s 0 0 A = Q at hend ⊢
  have hl := lv_entry ([.ref (bd 0), .int v1, .int v2]) (n := 4) (Nat.le_of_ble_eq_true rfl)
  rw [lg_entry_eq]
  generalize (lg_sl ([.ref (bd 0), .int v1, .int v2]) ++ List.replicate (4 - (lg_sl ([.ref (bd 0), .int v1, .int v2])).length) Slot.unset).toArray = ls at hl ⊢
  have hl : lv_has ls 4 [(0, .ref (bd 0)), (1, .int v1), (2, .int v2)] := hl
  unfold wpMd_meetingWith at hw
  refine lv_iconst (v := 0) hx hb dMd_meetingWith_0 (by decide) ?_
  refine lv_istore_n (lv' := [(3, .int 0), (0, .ref (bd 0)), (1, .int v1), (2, .int v2)]) hx hb dMd_meetingWith_1 rfl hl (by decide) rfl (fun ls hl => ?_)
  obtain ⟨k2, hw⟩ := hw
  have hlp2 : ∀ (k : Nat), ∀ (v3_L2 : Int32) (ls : Array Slot) (H : Heap) (locs : List Loc), lv_has ls 4 [(0, .ref (bd 0)), (1, .int v1), (2, .int v2), (3, .int v3_L2)] → va_P D vwCl (wdMd_meetingWith cA cB bd N mThrown mReached mForm mSlot mOver mMeets) H → va_D A (wdMd_meetingWith cA cB bd N mThrown mReached mForm mSlot mOver mMeets) → va_S A s.heap H locs → lpMd_meetingWith_2 v1 v2 mMeets post k v3_L2 → W p l e (headSpec (Cond.code yMd_meetingWith cMd_meetingWith 4 (some .int) :: xW) rmMd_meetingWith).room s m ([.ref (bd 0), .int v1, .int v2] : List Value).toArray below meth c H locs 0 0 Q (F0 m 2 ls []) := by
    intro k
    induction k with
    | zero => intro v3_L2 ls H locs hl hP hD hS hw; exact False.elim hw
    | succ k ih =>
      intro v3_L2 ls H locs hl hP hD hS hw
      refine lv_iload_n hx hb dMd_meetingWith_2 rfl (lv_at hl 3 rfl) ?_
      refine lv_bipush (v := 6) hx hb dMd_meetingWith_3 (by decide) ?_
      refine lv_icmp_ge (tgt := 31) hx hb dMd_meetingWith_5 rfl (fun hc => ?_) (fun hc => ?_)
      · have hw := hw.1 hc
        refine lv_iconst (v := (-1)) hx hb dMd_meetingWith_31 (by decide) ?_
        exact hend (-1) _ _ _ _ dMd_meetingWith_32 hP hD hS hw
      · have hw := hw.2 hc
        refine lv_aload_n hx hb dMd_meetingWith_8 rfl (lv_at hl 0 rfl) ?_
        refine va_get (D := D) (ci := 7) (v := .ref (bd 12)) (C := "OnceNamedModel") (T := TX7) (N := 34) hx hb hts (fun w h => List.mem_cons_of_mem _ (inX7 w h)) hown hK hP 0 rfl rfl 15 (by decide) (hts _ (List.mem_cons_of_mem _ kw_1000)) (fun _ h9 => h9) rfl dMd_meetingWith_9 ?_
        refine lv_bipush (v := 6) hx hb dMd_meetingWith_12 (by decide) ?_
        refine lv_iload_n hx hb dMd_meetingWith_14 rfl (lv_at hl 1 rfl) ?_
        refine lv_imul hx hb dMd_meetingWith_15 ?_
        refine lv_iload_n hx hb dMd_meetingWith_16 rfl (lv_at hl 3 rfl) ?_
        refine lv_iadd hx hb dMd_meetingWith_17 ?_
        have ho := hw.1
        have hw := hw.2
        refine va_iald hx hb hK hP 1 0 rfl rfl ho dMd_meetingWith_18 ?_
        refine lv_iload_n hx hb dMd_meetingWith_19 rfl (lv_at hl 2 rfl) ?_
        refine lv_icmp_ne (tgt := 25) hx hb dMd_meetingWith_20 rfl (fun hc => ?_) (fun hc => ?_)
        · have hw := hw.1 hc
          refine lv_iinc (k := 3) (v := (v3_L2 + 1)) (lv' := [(3, .int (v3_L2 + 1)), (0, .ref (bd 0)), (1, .int v1), (2, .int v2)]) hx hb dMd_meetingWith_25 hl rfl rfl (by decide) rfl (fun ls hl => ?_)
          refine lv_goto (tgt := 2) hx hb dMd_meetingWith_28 rfl ?_
          exact ih (v3_L2 + 1) _ _ _ (lv_sub hl [1, 2, 3, 0] rfl) hP hD hS hw
        · have hw := hw.2 hc
          refine lv_iload_n hx hb dMd_meetingWith_23 rfl (lv_at hl 3 rfl) ?_
          exact hend v3_L2 _ _ _ _ dMd_meetingWith_24 hP hD hS hw
  refine hlp2 k2 0 _ _ _ (lv_sub hl [1, 2, 3, 0] rfl) hP hD hS hw
abbrev wdMd_copies (cA : ClassId) (cB : ClassId) (bd : Nat → Nat) (N : Nat) (mThrown : Int32) (mReached : Int32) (mForm : Bool) (mSlot : Int32) (mOver : Bool) (mMeets : Nat → Int32) (mSources : Nat → Int32) : va_W := [((bd 0), .inr (7, [.int mThrown, .int (nI N), .ref (bd 1), .ref (bd 2), .ref (bd 3), .ref (bd 4), .ref (bd 5), .ref (bd 6), .ref (bd 7), .ref (bd 8), .ref (bd 9), .ref (bd 10), .int mReached, .ref (bd 11), .int (bI mForm), .ref (bd 12), .ref (bd 13), .ref (bd 14), .ref (bd 15), .ref (bd 16), .ref (bd 17), .ref (bd 18), .ref (bd 19), .ref (bd 20), .ref (bd 21), .ref (bd 22), .ref (bd 23), .ref (bd 24), .ref (bd 25), .ref (bd 26), .ref (bd 27), .ref (bd 28), .int mSlot, .int (bI mOver)])), ((bd 12), .inl (cA, 72, .inl mMeets)), ((bd 13), .inl (cA, 936, .inl mSources))]
abbrev qcMd_copies (D : va_G) (cA : ClassId) (cB : ClassId) (bd : Nat → Nat) (N : Nat) (mThrown : Int32) (mReached : Int32) (mForm : Bool) (mSlot : Int32) (mOver : Bool) (mMeets : Nat → Int32) (mSources : Nat → Int32) (post : Int32 → Int32 → Prop) (A : Nat → Prop) : Array Value → State → Outcome → State → Prop := va_Qi (S := (Int32)) (fun r u => post r u) (fun u t => xB D [(cA, .int), (cB, .boolean)] A (wdMd_copies cA cB bd N u mReached mForm mSlot mOver mMeets mSources) t) A
abbrev rmMd_copies : Room := { frames := 1, cells := 0, slots := 0, locals := 23 }
set_option maxHeartbeats 4000000 in
set_option maxRecDepth 100000 in
theorem ktMd_copies (l : Launch) (D : va_G) (cA : ClassId) (cB : ClassId) (bd : Nat → Nat) (N : Nat) (sz : Nat) (mThrown : Int32) (mReached : Int32) (mForm : Bool) (mSlot : Int32) (mOver : Bool) (mMeets : Nat → Int32) (mSources : Nat → Int32) (v1 : Int32) (v2 : Int32) (post : Int32 → Int32 → Prop) (hw : wpMd_copies N mForm mMeets mSources v1 v2 post) : Met l yMd_copies (Cond.code yMd_copies cMd_copies 13 (some .int) :: xW) rmMd_copies (va_Pc [.ref (bd 0), .int v1, .int v2] (xPc D [(cA, .int), (cB, .boolean)] (wdMd_copies cA cB bd N mThrown mReached mForm mSlot mOver mMeets mSources) sz)) (qcMd_copies D cA cB bd N mThrown mReached mForm mSlot mOver mMeets mSources post (va_A (wdMd_copies cA cB bd N mThrown mReached mForm mSlot mOver mMeets mSources) sz)) 0 0 (va_A (wdMd_copies cA cB bd N mThrown mReached mForm mSlot mOver mMeets mSources) sz) := by
  refine Met.ofW (cc := cMd_copies) (maxL := 13) (ret := (some .int)) (by decide) rfl ?_
  intro p e s m args below meth c s₁ B hml hv
  obtain ⟨rfl, hsz, hP, hK, hD0, hN⟩ := hv
  have hx := B.exec
  have hb := B.bytes
  have hr := B.returns
  have hts := atoms_spec (ws := (Cond.code yMd_copies cMd_copies 13 (some .int) :: xW)) B.pre
  have hown : s.vm.findClass "OnceNamedModel" = some m.cls := findClass_of_methodNamed B.named
  have hlocks := B.notSynchronized
  subst hsz
  have hD := hD0.self (sz := s.heap.size)
  generalize hAe : va_A (wdMd_copies cA cB bd N mThrown mReached mForm mSlot mOver mMeets mSources) s.heap.size = A at hD ⊢
  have hA : ∀ q : Nat, s.heap.size ≤ q → A q := fun q h => by rw [← hAe]; exact Or.inr h
  have hS : va_S A s.heap s.heap [] := va_S.rf
  have hend : ∀ (r : Int32) (u0 : Int32) (H : Heap) (locs : List Loc) (pc : Nat) (ls : Array Slot), decode cMd_copies pc = .ok (.ireturn, 1) → va_P D vwCl (wdMd_copies cA cB bd N u0 mReached mForm mSlot mOver mMeets mSources) H → va_D A (wdMd_copies cA cB bd N u0 mReached mForm mSlot mOver mMeets mSources) → va_S A s.heap H locs → post r u0 → W p l e (headSpec (Cond.code yMd_copies cMd_copies 13 (some .int) :: xW) rmMd_copies).room s m ([.ref (bd 0), .int v1, .int v2] : List Value).toArray below meth c H locs 0 0 (MQ below (qcMd_copies D cA cB bd N mThrown mReached mForm mSlot mOver mMeets mSources post A) ([.ref (bd 0), .int v1, .int v2] : List Value).toArray s 0 0 A) (F0 m pc ls [.int r]) := fun r u0 H locs pc ls hd hP hD hS hw => W.iret (v := r) hx hb hr (fun t ht hW => ⟨⟨r, u0, rfl, hw, ⟨by rw [ht]; exact hP, va_K.moved hW.alike hK, hD⟩⟩, hS.F ht⟩) hS.2.2 hd
  generalize hQ : MQ below (qcMd_copies D cA cB bd N mThrown mReached mForm mSlot mOver mMeets mSources post A) ([.ref (bd 0), .int v1, .int v2] : List Value).toArray s 0 0 A = Q at hend ⊢
  have hl := lv_entry ([.ref (bd 0), .int v1, .int v2]) (n := 13) (Nat.le_of_ble_eq_true rfl)
  rw [lg_entry_eq]
  generalize (lg_sl ([.ref (bd 0), .int v1, .int v2]) ++ List.replicate (13 - (lg_sl ([.ref (bd 0), .int v1, .int v2])).length) Slot.unset).toArray = ls at hl ⊢
  have hl : lv_has ls 13 [(0, .ref (bd 0)), (1, .int v1), (2, .int v2)] := hl
  unfold wpMd_copies at hw
  refine lv_aload_n hx hb dMd_copies_0 rfl (lv_at hl 0 rfl) ?_
  refine lv_aload_n hx hb dMd_copies_1 rfl (lv_at hl 0 rfl) ?_
  refine va_get (D := D) (ci := 7) (v := .int (bI mForm)) (C := "OnceNamedModel") (T := TX7) (N := 34) hx hb hts (fun w h => List.mem_cons_of_mem _ (inX7 w h)) hown hK hP 0 rfl rfl 14 (by decide) (hts _ (List.mem_cons_of_mem _ kw_999)) (fun _ h9 => h9) rfl dMd_copies_2 ?_
  obtain ⟨J37, hJ37, hw⟩ := hw
  have hj37 : ∀ (t37_0 : Int32) (ls : Array Slot) (H : Heap) (locs : List Loc), lv_has ls 13 [(0, .ref (bd 0)), (1, .int v1), (2, .int v2)] → va_P D vwCl (wdMd_copies cA cB bd N mThrown mReached mForm mSlot mOver mMeets mSources) H → va_D A (wdMd_copies cA cB bd N mThrown mReached mForm mSlot mOver mMeets mSources) → va_S A s.heap H locs → J37 t37_0 → W p l e (headSpec (Cond.code yMd_copies cMd_copies 13 (some .int) :: xW) rmMd_copies).room s m ([.ref (bd 0), .int v1, .int v2] : List Value).toArray below meth c H locs 0 0 Q (F0 m 37 ls [.int t37_0, .ref (bd 0)]) := by
    intro t37_0 ls H locs hl hP hD hS hw
    have hw := hJ37 t37_0 hw
    refine va_put (D := D) (ci := 7) (v := .int t37_0) (ty := .int) (C := "OnceNamedModel") (T := TX7) (N := 34) hx hb hts (fun w h => List.mem_cons_of_mem _ (inX7 w h)) tyX7 tyX7_ok nmX7 hown hK hP hD hS 0 rfl rfl 0 (by decide) (hts _ (List.mem_cons_of_mem _ kw_985)) (fun _ h9 => h9) rfl (by decide +kernel) rfl rfl (Nat.le_of_ble_eq_true rfl) dMd_copies_37 (fun H locs hP hD hS => ?_)
    have hP : va_P D vwCl (wdMd_copies cA cB bd N t37_0 mReached mForm mSlot mOver mMeets mSources) H := hP
    have hD : va_D A (wdMd_copies cA cB bd N t37_0 mReached mForm mSlot mOver mMeets mSources) := hD
    refine lv_aload_n hx hb dMd_copies_40 rfl (lv_at hl 0 rfl) ?_
    refine va_get (D := D) (ci := 7) (v := .int t37_0) (C := "OnceNamedModel") (T := TX7) (N := 34) hx hb hts (fun w h => List.mem_cons_of_mem _ (inX7 w h)) hown hK hP 0 rfl rfl 0 (by decide) (hts _ (List.mem_cons_of_mem _ kw_985)) (fun _ h9 => h9) rfl dMd_copies_41 ?_
    refine lv_if_eq (tgt := 49) hx hb dMd_copies_44 rfl (fun hc => ?_) (fun hc => ?_)
    · have hw := hw.1 hc
      refine lv_iconst (v := 0) hx hb dMd_copies_49 (by decide) ?_
      refine lv_istore_n (lv' := [(3, .int 0), (0, .ref (bd 0)), (1, .int v1), (2, .int v2)]) hx hb dMd_copies_50 rfl hl (by decide) rfl (fun ls hl => ?_)
      refine lv_iconst (v := 0) hx hb dMd_copies_51 (by decide) ?_
      refine lv_istore (lv' := [(4, .int 0), (3, .int 0), (0, .ref (bd 0)), (1, .int v1), (2, .int v2)]) hx hb dMd_copies_52 hl (by decide) rfl (fun ls hl => ?_)
      refine lv_iconst (v := 0) hx hb dMd_copies_54 (by decide) ?_
      refine lv_istore (lv' := [(5, .int 0), (4, .int 0), (3, .int 0), (0, .ref (bd 0)), (1, .int v1), (2, .int v2)]) hx hb dMd_copies_55 hl (by decide) rfl (fun ls hl => ?_)
      obtain ⟨k57, hw⟩ := hw
      have hlp57 : ∀ (k : Nat), ∀ (v3_L57 : Int32) (v4_L57 : Int32) (v5_L57 : Int32) (ls : Array Slot) (H : Heap) (locs : List Loc), lv_has ls 13 [(0, .ref (bd 0)), (1, .int v1), (2, .int v2), (3, .int v3_L57), (4, .int v4_L57), (5, .int v5_L57)] → va_P D vwCl (wdMd_copies cA cB bd N t37_0 mReached mForm mSlot mOver mMeets mSources) H → va_D A (wdMd_copies cA cB bd N t37_0 mReached mForm mSlot mOver mMeets mSources) → va_S A s.heap H locs → lpMd_copies_57 v1 v2 t37_0 mMeets mSources post k v3_L57 v4_L57 v5_L57 → W p l e (headSpec (Cond.code yMd_copies cMd_copies 13 (some .int) :: xW) rmMd_copies).room s m ([.ref (bd 0), .int v1, .int v2] : List Value).toArray below meth c H locs 0 0 Q (F0 m 57 ls []) := by
        intro k
        induction k with
        | zero => intro v3_L57 v4_L57 v5_L57 ls H locs hl hP hD hS hw; exact False.elim hw
        | succ k ih =>
          intro v3_L57 v4_L57 v5_L57 ls H locs hl hP hD hS hw
          refine lv_iload hx hb dMd_copies_57 (lv_at hl 5 rfl) ?_
          refine lv_bipush (v := 6) hx hb dMd_copies_59 (by decide) ?_
          refine lv_icmp_ge (tgt := 363) hx hb dMd_copies_61 rfl (fun hc => ?_) (fun hc => ?_)
          · have hw := hw.1 hc
            refine lv_iload_n hx hb dMd_copies_363 rfl (lv_at hl 3 rfl) ?_
            exact hend v3_L57 t37_0 _ _ _ _ dMd_copies_364 hP hD hS hw
          · have hw := hw.2 hc
            refine lv_aload_n hx hb dMd_copies_64 rfl (lv_at hl 0 rfl) ?_
            refine lv_iload_n hx hb dMd_copies_65 rfl (lv_at hl 1 rfl) ?_
            refine lv_iload hx hb dMd_copies_66 (lv_at hl 5 rfl) ?_
            refine lv_iload_n hx hb dMd_copies_68 rfl (lv_at hl 2 rfl) ?_
            refine xci (va_runV ⟨hx, hb, hml, hown, hts⟩ (ktMd_sourceOf l D cA cB bd N _ t37_0 mReached mForm mSlot mOver mMeets mSources v1 v5_L57 v2 _ hw) (cwV 3 hts (goodV kw_1225 kw_1227 ks_5_0 kw_11 kw_1228) rfl rfl rfl (by decide +kernel) ⟨Nat.le_of_ble_eq_true rfl, Nat.le_of_ble_eq_true rfl⟩) (xpreV hK hP hD hN [0, 1, 2] rfl rfl 0 rfl rfl) rfl rfl hl.1 rfl (lv_room (Nat.le_of_ble_eq_true rfl)) dMd_copies_69 ⟨Nat.le_of_ble_eq_true rfl, Nat.le_of_ble_eq_true rfl⟩) hP hD hS hA [0, 1, 2] [] rfl rfl rfl rfl [0, 1, 2] rfl (fun _ => rfl) (fun r69 u H locs hw hP hD hS => ?_)
            have hP : va_P D vwCl (wdMd_copies cA cB bd N t37_0 mReached mForm mSlot mOver mMeets mSources) H := hP
            have hD : va_D A (wdMd_copies cA cB bd N t37_0 mReached mForm mSlot mOver mMeets mSources) := hD
            refine lv_istore (lv' := [(6, .int r69), (0, .ref (bd 0)), (1, .int v1), (2, .int v2), (3, .int v3_L57), (4, .int v4_L57), (5, .int v5_L57)]) hx hb dMd_copies_72 hl (by decide) rfl (fun ls hl => ?_)
            refine lv_iload_n hx hb dMd_copies_74 rfl (lv_at hl 4 rfl) ?_
            refine lv_iload hx hb dMd_copies_75 (lv_at hl 0 rfl) ?_
            obtain ⟨J102, hJ102, hw⟩ := hw
            have hj102 : ∀ (t102_0 : Bool) (ls : Array Slot) (H : Heap) (locs : List Loc), lv_has ls 13 [(0, .ref (bd 0)), (1, .int v1), (2, .int v2), (3, .int v3_L57), (4, .int v4_L57), (5, .int v5_L57), (6, .int r69)] → va_P D vwCl (wdMd_copies cA cB bd N t37_0 mReached mForm mSlot mOver mMeets mSources) H → va_D A (wdMd_copies cA cB bd N t37_0 mReached mForm mSlot mOver mMeets mSources) → va_S A s.heap H locs → J102 t102_0 → W p l e (headSpec (Cond.code yMd_copies cMd_copies 13 (some .int) :: xW) rmMd_copies).room s m ([.ref (bd 0), .int v1, .int v2] : List Value).toArray below meth c H locs 0 0 Q (F0 m 102 ls [.int (bI t102_0), .int v3_L57]) := by
              intro t102_0 ls H locs hl hP hD hS hw
              have hw := hJ102 t102_0 hw
              refine lv_iadd hx hb dMd_copies_102 ?_
              refine lv_topi (fun v3_103 e_v3_103 => ?_)
              have hw := hw v3_103 e_v3_103
              refine lv_istore_n (lv' := [(3, .int v3_103), (0, .ref (bd 0)), (1, .int v1), (2, .int v2), (4, .int v4_L57), (5, .int v5_L57), (6, .int r69)]) hx hb dMd_copies_103 rfl hl (by decide) rfl (fun ls hl => ?_)
              refine lv_iconst (v := 0) hx hb dMd_copies_104 (by decide) ?_
              refine lv_istore (lv' := [(7, .int 0), (3, .int v3_103), (0, .ref (bd 0)), (1, .int v1), (2, .int v2), (4, .int v4_L57), (5, .int v5_L57), (6, .int r69)]) hx hb dMd_copies_105 hl (by decide) rfl (fun ls hl => ?_)
              refine lv_iload hx hb dMd_copies_107 (lv_at hl 6 rfl) ?_
              refine lv_istore (lv' := [(8, .int v5_L57), (7, .int 0), (3, .int v3_103), (0, .ref (bd 0)), (1, .int v1), (2, .int v2), (4, .int v4_L57), (5, .int v5_L57), (6, .int r69)]) hx hb dMd_copies_109 hl (by decide) rfl (fun ls hl => ?_)
              refine lv_iconst (v := 0) hx hb dMd_copies_111 (by decide) ?_
              refine lv_istore (lv' := [(9, .int 0), (8, .int v5_L57), (7, .int 0), (3, .int v3_103), (0, .ref (bd 0)), (1, .int v1), (2, .int v2), (4, .int v4_L57), (5, .int v5_L57), (6, .int r69)]) hx hb dMd_copies_112 hl (by decide) rfl (fun ls hl => ?_)
              obtain ⟨k114, hw⟩ := hw
              have hlp114 : ∀ (K182 : Int32 → Int32 → Int32 → Prop), (∀ (v7_x182 : Int32) (v8_x182 : Int32) (v9_x182 : Int32) (ls : Array Slot) (H : Heap) (locs : List Loc), lv_has ls 13 [(0, .ref (bd 0)), (1, .int v1), (2, .int v2), (3, .int v3_103), (4, .int v4_L57), (5, .int v5_L57), (6, .int r69), (7, .int v7_x182), (8, .int v8_x182), (9, .int v9_x182)] → va_P D vwCl (wdMd_copies cA cB bd N t37_0 mReached mForm mSlot mOver mMeets mSources) H → va_D A (wdMd_copies cA cB bd N t37_0 mReached mForm mSlot mOver mMeets mSources) → va_S A s.heap H locs → K182 v7_x182 v8_x182 v9_x182 → W p l e (headSpec (Cond.code yMd_copies cMd_copies 13 (some .int) :: xW) rmMd_copies).room s m ([.ref (bd 0), .int v1, .int v2] : List Value).toArray below meth c H locs 0 0 Q (F0 m 182 ls [])) → ∀ (k : Nat), ∀ (v7_L114 : Int32) (v8_L114 : Int32) (v9_L114 : Int32) (ls : Array Slot) (H : Heap) (locs : List Loc), lv_has ls 13 [(0, .ref (bd 0)), (1, .int v1), (2, .int v2), (3, .int v3_103), (4, .int v4_L57), (5, .int v5_L57), (6, .int r69), (7, .int v7_L114), (8, .int v8_L114), (9, .int v9_L114)] → va_P D vwCl (wdMd_copies cA cB bd N t37_0 mReached mForm mSlot mOver mMeets mSources) H → va_D A (wdMd_copies cA cB bd N t37_0 mReached mForm mSlot mOver mMeets mSources) → va_S A s.heap H locs → lpMd_copies_114 v1 v2 mMeets mSources K182 k v7_L114 v8_L114 v9_L114 → W p l e (headSpec (Cond.code yMd_copies cMd_copies 13 (some .int) :: xW) rmMd_copies).room s m ([.ref (bd 0), .int v1, .int v2] : List Value).toArray below meth c H locs 0 0 Q (F0 m 114 ls []) := by
                intro K182 hK182 k
                induction k with
                | zero => intro v7_L114 v8_L114 v9_L114 ls H locs hl hP hD hS hw; exact False.elim hw
                | succ k ih =>
                  intro v7_L114 v8_L114 v9_L114 ls H locs hl hP hD hS hw
                  refine lv_iload hx hb dMd_copies_114 (lv_at hl 9 rfl) ?_
                  refine lv_bipush (v := 6) hx hb dMd_copies_116 (by decide) ?_
                  refine lv_icmp_ge (tgt := 182) hx hb dMd_copies_118 rfl (fun hc => ?_) (fun hc => ?_)
                  · have hw := hw.1 hc
                    exact hK182 v7_L114 v8_L114 v9_L114 _ _ _ (lv_sub hl [0, 1, 2, 3, 4, 5, 6, 7, 8, 9] rfl) hP hD hS hw
                  · have hw := hw.2 hc
                    refine lv_iload hx hb dMd_copies_121 (lv_at hl 8 rfl) ?_
                    refine lv_if_lt (tgt := 182) hx hb dMd_copies_123 rfl (fun hc => ?_) (fun hc => ?_)
                    · have hw := hw.1 hc
                      exact hK182 v7_L114 v8_L114 v9_L114 _ _ _ (lv_sub hl [0, 1, 2, 3, 4, 5, 6, 7, 8, 9] rfl) hP hD hS hw
                    · have hw := hw.2 hc
                      refine lv_aload_n hx hb dMd_copies_126 rfl (lv_at hl 0 rfl) ?_
                      refine lv_iload hx hb dMd_copies_127 (lv_at hl 7 rfl) ?_
                      refine lv_iload hx hb dMd_copies_129 (lv_at hl 8 rfl) ?_
                      refine xci (va_runV ⟨hx, hb, hml, hown, hts⟩ (ktMd_has l D cA cB bd N _ v7_L114 v8_L114 _ hw) (cwV 2 hts (goodV kw_1133 kw_1135 ks_4_0 kw_11 kw_1136) rfl rfl rfl (by decide +kernel) ⟨Nat.le_of_ble_eq_true rfl, Nat.le_of_ble_eq_true rfl⟩) (xpreV hK hP hD hN [] rfl rfl 0 rfl rfl) rfl rfl hl.1 rfl (lv_room (Nat.le_of_ble_eq_true rfl)) dMd_copies_131 ⟨Nat.le_of_ble_eq_true rfl, Nat.le_of_ble_eq_true rfl⟩) hP hD hS hA [] [0, 1, 2] rfl rfl rfl rfl [0, 1, 2] rfl (fun _ => rfl) (fun r131 u H locs hw hP hD hS => ?_)
                      obtain ⟨r131, rfl, hw⟩ := hw
                      have hP : va_P D vwCl (wdMd_copies cA cB bd N t37_0 mReached mForm mSlot mOver mMeets mSources) H := hP
                      have hD : va_D A (wdMd_copies cA cB bd N t37_0 mReached mForm mSlot mOver mMeets mSources) := hD
                      refine lv_if_ne (tgt := 182) hx hb dMd_copies_134 rfl (fun hc => ?_) (fun hc => ?_)
                      · have hw := hw.1 (bI_1 hc)
                        exact hK182 v7_L114 v8_L114 v9_L114 _ _ _ (lv_sub hl [0, 1, 2, 3, 4, 5, 6, 7, 8, 9] rfl) hP hD hS hw
                      · have hw := hw.2 (bI_0 hc)
                        refine lv_iload hx hb dMd_copies_137 (lv_at hl 7 rfl) ?_
                        refine lv_iconst (v := 1) hx hb dMd_copies_139 (by decide) ?_
                        refine lv_iload hx hb dMd_copies_140 (lv_at hl 8 rfl) ?_
                        refine lv_ishl hx hb dMd_copies_142 ?_
                        refine lv_ior hx hb dMd_copies_143 ?_
                        refine lv_topi (fun v7_144 e_v7_144 => ?_)
                        have hw := hw v7_144 e_v7_144
                        refine lv_istore (lv' := [(7, .int v7_144), (0, .ref (bd 0)), (1, .int v1), (2, .int v2), (3, .int v3_103), (4, .int v4_L57), (5, .int v5_L57), (6, .int r69), (8, .int v8_L114), (9, .int v9_L114)]) hx hb dMd_copies_144 hl (by decide) rfl (fun ls hl => ?_)
                        refine lv_aload_n hx hb dMd_copies_146 rfl (lv_at hl 1 rfl) ?_
                        refine lv_iload_n hx hb dMd_copies_147 rfl (lv_at hl 2 rfl) ?_
                        refine lv_iload hx hb dMd_copies_148 (lv_at hl 8 rfl) ?_
                        refine lv_iload_n hx hb dMd_copies_150 rfl (lv_at hl 3 rfl) ?_
                        refine xci (va_runV ⟨hx, hb, hml, hown, hts⟩ (ktMd_sourceOf l D cA cB bd N _ t37_0 mReached mForm mSlot mOver mMeets mSources v1 v8_L114 v2 _ hw) (cwV 3 hts (goodV kw_1225 kw_1227 ks_5_0 kw_11 kw_1228) rfl rfl rfl (by decide +kernel) ⟨Nat.le_of_ble_eq_true rfl, Nat.le_of_ble_eq_true rfl⟩) (xpreV hK hP hD hN [0, 1, 2] rfl rfl 0 rfl rfl) rfl rfl hl.1 rfl (lv_room (Nat.le_of_ble_eq_true rfl)) dMd_copies_151 ⟨Nat.le_of_ble_eq_true rfl, Nat.le_of_ble_eq_true rfl⟩) hP hD hS hA [0, 1, 2] [] rfl rfl rfl rfl [0, 1, 2] rfl (fun _ => rfl) (fun r151 u H locs hw hP hD hS => ?_)
                        have hP : va_P D vwCl (wdMd_copies cA cB bd N t37_0 mReached mForm mSlot mOver mMeets mSources) H := hP
                        have hD : va_D A (wdMd_copies cA cB bd N t37_0 mReached mForm mSlot mOver mMeets mSources) := hD
                        refine lv_if_ge (tgt := 161) hx hb dMd_copies_154 rfl (fun hc => ?_) (fun hc => ?_)
                        · have hw := hw.1 hc
                          refine lv_aload_n hx hb dMd_copies_161 rfl (lv_at hl 1 rfl) ?_
                          refine lv_iload_n hx hb dMd_copies_162 rfl (lv_at hl 2 rfl) ?_
                          refine lv_aload_n hx hb dMd_copies_163 rfl (lv_at hl 1 rfl) ?_
                          refine lv_iload_n hx hb dMd_copies_164 rfl (lv_at hl 2 rfl) ?_
                          refine lv_iload hx hb dMd_copies_165 (lv_at hl 8 rfl) ?_
                          refine lv_iload_n hx hb dMd_copies_167 rfl (lv_at hl 3 rfl) ?_
                          refine xci (va_runV ⟨hx, hb, hml, hown, hts⟩ (ktMd_sourceOf l D cA cB bd N _ t37_0 mReached mForm mSlot mOver mMeets mSources v1 v8_L114 v2 _ hw) (cwV 3 hts (goodV kw_1225 kw_1227 ks_5_0 kw_11 kw_1228) rfl rfl rfl (by decide +kernel) ⟨Nat.le_of_ble_eq_true rfl, Nat.le_of_ble_eq_true rfl⟩) (xpreV hK hP hD hN [0, 1, 2] rfl rfl 0 rfl rfl) rfl rfl hl.1 rfl (lv_room (Nat.le_of_ble_eq_true rfl)) dMd_copies_168 ⟨Nat.le_of_ble_eq_true rfl, Nat.le_of_ble_eq_true rfl⟩) hP hD hS hA [0, 1, 2] [] rfl rfl rfl rfl [0, 1, 2] rfl (fun _ => rfl) (fun r168 u H locs hw hP hD hS => ?_)
                          have hP : va_P D vwCl (wdMd_copies cA cB bd N t37_0 mReached mForm mSlot mOver mMeets mSources) H := hP
                          have hD : va_D A (wdMd_copies cA cB bd N t37_0 mReached mForm mSlot mOver mMeets mSources) := hD
                          refine xci (va_runV ⟨hx, hb, hml, hown, hts⟩ (ktMd_meetingWith l D cA cB bd N _ t37_0 mReached mForm mSlot mOver mMeets v1 r168 _ hw) (cwV 2 hts (goodV kw_1265 kw_1267 ks_5_5 kw_11 kw_1268) rfl rfl rfl (by decide +kernel) ⟨Nat.le_of_ble_eq_true rfl, Nat.le_of_ble_eq_true rfl⟩) (xpreV hK hP hD hN [0, 1] rfl rfl 0 rfl rfl) rfl rfl hl.1 rfl (lv_room (Nat.le_of_ble_eq_true rfl)) dMd_copies_171 ⟨Nat.le_of_ble_eq_true rfl, Nat.le_of_ble_eq_true rfl⟩) hP hD hS hA [0, 1] [2] rfl rfl rfl rfl [1, 2, 0] rfl (fun _ => rfl) (fun r171 u H locs hw hP hD hS => ?_)
                          have hP : va_P D vwCl (wdMd_copies cA cB bd N t37_0 mReached mForm mSlot mOver mMeets mSources) H := hP
                          have hD : va_D A (wdMd_copies cA cB bd N t37_0 mReached mForm mSlot mOver mMeets mSources) := hD
                          refine lv_istore (lv' := [(8, .int r171), (7, .int v7_144), (0, .ref (bd 0)), (1, .int v1), (2, .int v2), (3, .int v3_103), (4, .int v4_L57), (5, .int v5_L57), (6, .int r69), (9, .int v9_L114)]) hx hb dMd_copies_174 hl (by decide) rfl (fun ls hl => ?_)
                          refine lv_iinc (k := 9) (v := (v9_L114 + 1)) (lv' := [(9, .int (v9_L114 + 1)), (8, .int r171), (7, .int v7_144), (0, .ref (bd 0)), (1, .int v1), (2, .int v2), (3, .int v3_103), (4, .int v4_L57), (5, .int v5_L57), (6, .int r69)]) hx hb dMd_copies_176 hl rfl rfl (by decide) rfl (fun ls hl => ?_)
                          refine lv_goto (tgt := 114) hx hb dMd_copies_179 rfl ?_
                          exact ih v7_144 r171 (v9_L114 + 1) _ _ _ (lv_sub hl [3, 4, 5, 6, 7, 8, 9, 2, 1, 0] rfl) hP hD hS hw
                        · have hw := hw.2 hc
                          refine lv_iconst (v := (-1)) hx hb dMd_copies_157 (by decide) ?_
                          refine lv_goto (tgt := 174) hx hb dMd_copies_158 rfl ?_
                          refine lv_istore (lv' := [(8, .int (-1)), (7, .int v7_144), (0, .ref (bd 0)), (1, .int v1), (2, .int v2), (3, .int v3_103), (4, .int v4_L57), (5, .int v5_L57), (6, .int r69), (9, .int v9_L114)]) hx hb dMd_copies_174 hl (by decide) rfl (fun ls hl => ?_)
                          refine lv_iinc (k := 9) (v := (v9_L114 + 1)) (lv' := [(9, .int (v9_L114 + 1)), (8, .int (-1)), (7, .int v7_144), (0, .ref (bd 0)), (1, .int v1), (2, .int v2), (3, .int v3_103), (4, .int v4_L57), (5, .int v5_L57), (6, .int r69)]) hx hb dMd_copies_176 hl rfl rfl (by decide) rfl (fun ls hl => ?_)
                          refine lv_goto (tgt := 114) hx hb dMd_copies_179 rfl ?_
                          exact ih v7_144 (-1) (v9_L114 + 1) _ _ _ (lv_sub hl [3, 4, 5, 6, 7, 8, 9, 2, 1, 0] rfl) hP hD hS hw
              refine hlp114 _ ?_ k114 0 v5_L57 0 _ _ _ (lv_sub hl [4, 5, 6, 3, 7, 8, 9, 2, 1, 0] rfl) hP hD hS hw
              intro v7_x182 v8_x182 v9_x182 ls H locs hl hP hD hS hw
              try dsimp only at hw
              refine lv_iload hx hb dMd_copies_182 (lv_at hl 8 rfl) ?_
              refine lv_iload hx hb dMd_copies_184 (lv_at hl 5 rfl) ?_
              obtain ⟨J227, hJ227, hw⟩ := hw
              have hj227 : ∀ (t227_0 : Bool) (ls : Array Slot) (H : Heap) (locs : List Loc), lv_has ls 13 [(0, .ref (bd 0)), (1, .int v1), (2, .int v2), (3, .int v3_103), (4, .int v4_L57), (5, .int v5_L57), (6, .int r69), (7, .int v7_x182), (8, .int v8_x182), (9, .int v9_x182)] → va_P D vwCl (wdMd_copies cA cB bd N t37_0 mReached mForm mSlot mOver mMeets mSources) H → va_D A (wdMd_copies cA cB bd N t37_0 mReached mForm mSlot mOver mMeets mSources) → va_S A s.heap H locs → J227 t227_0 → W p l e (headSpec (Cond.code yMd_copies cMd_copies 13 (some .int) :: xW) rmMd_copies).room s m ([.ref (bd 0), .int v1, .int v2] : List Value).toArray below meth c H locs 0 0 Q (F0 m 227 ls [.int (bI t227_0)]) := by
                intro t227_0 ls H locs hl hP hD hS hw
                have hw := hJ227 t227_0 hw
                refine lv_istore (lv' := [(9, .int (bI t227_0)), (0, .ref (bd 0)), (1, .int v1), (2, .int v2), (3, .int v3_103), (4, .int v4_L57), (5, .int v5_L57), (6, .int r69), (7, .int v7_x182), (8, .int v8_x182)]) hx hb dMd_copies_227 hl (by decide) rfl (fun ls hl => ?_)
                refine lv_iconst (v := 1) hx hb dMd_copies_229 (by decide) ?_
                refine lv_istore (lv' := [(10, .int 1), (9, .int (bI t227_0)), (0, .ref (bd 0)), (1, .int v1), (2, .int v2), (3, .int v3_103), (4, .int v4_L57), (5, .int v5_L57), (6, .int r69), (7, .int v7_x182), (8, .int v8_x182)]) hx hb dMd_copies_230 hl (by decide) rfl (fun ls hl => ?_)
                refine lv_iconst (v := 0) hx hb dMd_copies_232 (by decide) ?_
                refine lv_istore (lv' := [(11, .int 0), (10, .int 1), (9, .int (bI t227_0)), (0, .ref (bd 0)), (1, .int v1), (2, .int v2), (3, .int v3_103), (4, .int v4_L57), (5, .int v5_L57), (6, .int r69), (7, .int v7_x182), (8, .int v8_x182)]) hx hb dMd_copies_233 hl (by decide) rfl (fun ls hl => ?_)
                obtain ⟨k235, hw⟩ := hw
                have hlp235 : ∀ (K322 : Bool → Int32 → Prop), (∀ (v10_x322 : Bool) (v11_x322 : Int32) (ls : Array Slot) (H : Heap) (locs : List Loc), lv_has ls 13 [(0, .ref (bd 0)), (1, .int v1), (2, .int v2), (3, .int v3_103), (4, .int v4_L57), (5, .int v5_L57), (6, .int r69), (7, .int v7_x182), (8, .int v8_x182), (9, .int (bI t227_0)), (10, .int (bI v10_x322)), (11, .int v11_x322)] → va_P D vwCl (wdMd_copies cA cB bd N t37_0 mReached mForm mSlot mOver mMeets mSources) H → va_D A (wdMd_copies cA cB bd N t37_0 mReached mForm mSlot mOver mMeets mSources) → va_S A s.heap H locs → K322 v10_x322 v11_x322 → W p l e (headSpec (Cond.code yMd_copies cMd_copies 13 (some .int) :: xW) rmMd_copies).room s m ([.ref (bd 0), .int v1, .int v2] : List Value).toArray below meth c H locs 0 0 Q (F0 m 322 ls [])) → ∀ (k : Nat), ∀ (v10_L235 : Bool) (v11_L235 : Int32) (ls : Array Slot) (H : Heap) (locs : List Loc), lv_has ls 13 [(0, .ref (bd 0)), (1, .int v1), (2, .int v2), (3, .int v3_103), (4, .int v4_L57), (5, .int v5_L57), (6, .int r69), (7, .int v7_x182), (8, .int v8_x182), (9, .int (bI t227_0)), (10, .int (bI v10_L235)), (11, .int v11_L235)] → va_P D vwCl (wdMd_copies cA cB bd N t37_0 mReached mForm mSlot mOver mMeets mSources) H → va_D A (wdMd_copies cA cB bd N t37_0 mReached mForm mSlot mOver mMeets mSources) → va_S A s.heap H locs → lpMd_copies_235 v1 v2 v7_x182 t227_0 mMeets mSources K322 k v10_L235 v11_L235 → W p l e (headSpec (Cond.code yMd_copies cMd_copies 13 (some .int) :: xW) rmMd_copies).room s m ([.ref (bd 0), .int v1, .int v2] : List Value).toArray below meth c H locs 0 0 Q (F0 m 235 ls []) := by
                  intro K322 hK322 k
                  induction k with
                  | zero => intro v10_L235 v11_L235 ls H locs hl hP hD hS hw; exact False.elim hw
                  | succ k ih =>
                    intro v10_L235 v11_L235 ls H locs hl hP hD hS hw
                    refine lv_iload hx hb dMd_copies_235 (lv_at hl 11 rfl) ?_
                    refine lv_bipush (v := 6) hx hb dMd_copies_237 (by decide) ?_
                    refine lv_icmp_ge (tgt := 322) hx hb dMd_copies_239 rfl (fun hc => ?_) (fun hc => ?_)
                    · have hw := hw.1 hc
                      exact hK322 v10_L235 v11_L235 _ _ _ (lv_sub hl [0, 1, 2, 3, 4, 5, 6, 7, 8, 9, 10, 11] rfl) hP hD hS hw
                    · have hw := hw.2 hc
                      refine lv_iload hx hb dMd_copies_242 (lv_at hl 9 rfl) ?_
                      refine lv_if_eq (tgt := 322) hx hb dMd_copies_244 rfl (fun hc => ?_) (fun hc => ?_)
                      · have hw := hw.1 (bI_0 hc)
                        exact hK322 v10_L235 v11_L235 _ _ _ (lv_sub hl [0, 1, 2, 3, 4, 5, 6, 7, 8, 9, 10, 11] rfl) hP hD hS hw
                      · have hw := hw.2 (bI_1 hc)
                        refine lv_aload_n hx hb dMd_copies_247 rfl (lv_at hl 0 rfl) ?_
                        refine lv_iload_n hx hb dMd_copies_248 rfl (lv_at hl 1 rfl) ?_
                        refine lv_iload hx hb dMd_copies_249 (lv_at hl 11 rfl) ?_
                        refine lv_iload_n hx hb dMd_copies_251 rfl (lv_at hl 2 rfl) ?_
                        refine xci (va_runV ⟨hx, hb, hml, hown, hts⟩ (ktMd_sourceOf l D cA cB bd N _ t37_0 mReached mForm mSlot mOver mMeets mSources v1 v11_L235 v2 _ hw) (cwV 3 hts (goodV kw_1225 kw_1227 ks_5_0 kw_11 kw_1228) rfl rfl rfl (by decide +kernel) ⟨Nat.le_of_ble_eq_true rfl, Nat.le_of_ble_eq_true rfl⟩) (xpreV hK hP hD hN [0, 1, 2] rfl rfl 0 rfl rfl) rfl rfl hl.1 rfl (lv_room (Nat.le_of_ble_eq_true rfl)) dMd_copies_252 ⟨Nat.le_of_ble_eq_true rfl, Nat.le_of_ble_eq_true rfl⟩) hP hD hS hA [0, 1, 2] [] rfl rfl rfl rfl [0, 1, 2] rfl (fun _ => rfl) (fun r252 u H locs hw hP hD hS => ?_)
                        have hP : va_P D vwCl (wdMd_copies cA cB bd N t37_0 mReached mForm mSlot mOver mMeets mSources) H := hP
                        have hD : va_D A (wdMd_copies cA cB bd N t37_0 mReached mForm mSlot mOver mMeets mSources) := hD
                        obtain ⟨J275, hJ275, hw⟩ := hw
                        have hj275 : ∀ (t275_0 : Int32) (ls : Array Slot) (H : Heap) (locs : List Loc), lv_has ls 13 [(0, .ref (bd 0)), (1, .int v1), (2, .int v2), (3, .int v3_103), (4, .int v4_L57), (5, .int v5_L57), (6, .int r69), (7, .int v7_x182), (8, .int v8_x182), (9, .int (bI t227_0)), (10, .int (bI v10_L235)), (11, .int v11_L235)] → va_P D vwCl (wdMd_copies cA cB bd N t37_0 mReached mForm mSlot mOver mMeets mSources) H → va_D A (wdMd_copies cA cB bd N t37_0 mReached mForm mSlot mOver mMeets mSources) → va_S A s.heap H locs → J275 t275_0 → W p l e (headSpec (Cond.code yMd_copies cMd_copies 13 (some .int) :: xW) rmMd_copies).room s m ([.ref (bd 0), .int v1, .int v2] : List Value).toArray below meth c H locs 0 0 Q (F0 m 275 ls [.int t275_0]) := by
                          intro t275_0 ls H locs hl hP hD hS hw
                          have hw := hJ275 t275_0 hw
                          refine lv_istore (lv' := [(12, .int t275_0), (0, .ref (bd 0)), (1, .int v1), (2, .int v2), (3, .int v3_103), (4, .int v4_L57), (5, .int v5_L57), (6, .int r69), (7, .int v7_x182), (8, .int v8_x182), (9, .int (bI t227_0)), (10, .int (bI v10_L235)), (11, .int v11_L235)]) hx hb dMd_copies_275 hl (by decide) rfl (fun ls hl => ?_)
                          refine lv_iload hx hb dMd_copies_277 (lv_at hl 11 rfl) ?_
                          refine lv_if_eq (tgt := 313) hx hb dMd_copies_279 rfl (fun hc => ?_) (fun hc => ?_)
                          · have hw := hw.1 (bI_0 hc)
                            refine lv_iconst (v := 0) hx hb dMd_copies_313 (by decide) ?_
                            refine lv_istore (lv' := [(10, .int 0), (12, .int t275_0), (0, .ref (bd 0)), (1, .int v1), (2, .int v2), (3, .int v3_103), (4, .int v4_L57), (5, .int v5_L57), (6, .int r69), (7, .int v7_x182), (8, .int v8_x182), (9, .int (bI t227_0)), (11, .int v11_L235)]) hx hb dMd_copies_314 hl (by decide) rfl (fun ls hl => ?_)
                            refine lv_iinc (k := 12) (v := (v11_L235 + 1)) (lv' := [(11, .int (v11_L235 + 1)), (10, .int 0), (12, .int t275_0), (0, .ref (bd 0)), (1, .int v1), (2, .int v2), (3, .int v3_103), (4, .int v4_L57), (5, .int v5_L57), (6, .int r69), (7, .int v7_x182), (8, .int v8_x182), (9, .int (bI t227_0))]) hx hb dMd_copies_316 hl rfl rfl (by decide) rfl (fun ls hl => ?_)
                            refine lv_goto (tgt := 235) hx hb dMd_copies_319 rfl ?_
                            exact ih false (v11_L235 + 1) _ _ _ (lv_sub hl [3, 4, 5, 6, 7, 8, 9, 10, 11, 12, 1, 0] rfl) hP hD hS hw
                          · have hw := hw.2 (bI_1 hc)
                            refine lv_aload_n hx hb dMd_copies_282 rfl (lv_at hl 1 rfl) ?_
                            refine lv_iload hx hb dMd_copies_283 (lv_at hl 8 rfl) ?_
                            refine lv_iload hx hb dMd_copies_285 (lv_at hl 12 rfl) ?_
                            refine xci (va_runV ⟨hx, hb, hml, hown, hts⟩ (ktMd_has l D cA cB bd N _ v7_x182 v11_L235 _ hw) (cwV 2 hts (goodV kw_1133 kw_1135 ks_4_0 kw_11 kw_1136) rfl rfl rfl (by decide +kernel) ⟨Nat.le_of_ble_eq_true rfl, Nat.le_of_ble_eq_true rfl⟩) (xpreV hK hP hD hN [] rfl rfl 0 rfl rfl) rfl rfl hl.1 rfl (lv_room (Nat.le_of_ble_eq_true rfl)) dMd_copies_287 ⟨Nat.le_of_ble_eq_true rfl, Nat.le_of_ble_eq_true rfl⟩) hP hD hS hA [] [0, 1, 2] rfl rfl rfl rfl [0, 1, 2] rfl (fun _ => rfl) (fun r287 u H locs hw hP hD hS => ?_)
                            obtain ⟨r287, rfl, hw⟩ := hw
                            have hP : va_P D vwCl (wdMd_copies cA cB bd N t37_0 mReached mForm mSlot mOver mMeets mSources) H := hP
                            have hD : va_D A (wdMd_copies cA cB bd N t37_0 mReached mForm mSlot mOver mMeets mSources) := hD
                            refine lv_if_ne (tgt := 309) hx hb dMd_copies_290 rfl (fun hc => ?_) (fun hc => ?_)
                            · have hw := hw.1 (bI_1 hc)
                              refine lv_iconst (v := 1) hx hb dMd_copies_309 (by decide) ?_
                              refine lv_goto (tgt := 314) hx hb dMd_copies_310 rfl ?_
                              refine lv_istore (lv' := [(10, .int 1), (12, .int t275_0), (0, .ref (bd 0)), (1, .int v1), (2, .int v2), (3, .int v3_103), (4, .int v4_L57), (5, .int v5_L57), (6, .int r69), (7, .int v7_x182), (8, .int v8_x182), (9, .int (bI t227_0)), (11, .int v11_L235)]) hx hb dMd_copies_314 hl (by decide) rfl (fun ls hl => ?_)
                              refine lv_iinc (k := 12) (v := (v11_L235 + 1)) (lv' := [(11, .int (v11_L235 + 1)), (10, .int 1), (12, .int t275_0), (0, .ref (bd 0)), (1, .int v1), (2, .int v2), (3, .int v3_103), (4, .int v4_L57), (5, .int v5_L57), (6, .int r69), (7, .int v7_x182), (8, .int v8_x182), (9, .int (bI t227_0))]) hx hb dMd_copies_316 hl rfl rfl (by decide) rfl (fun ls hl => ?_)
                              refine lv_goto (tgt := 235) hx hb dMd_copies_319 rfl ?_
                              exact ih true (v11_L235 + 1) _ _ _ (lv_sub hl [3, 4, 5, 6, 7, 8, 9, 10, 11, 12, 1, 0] rfl) hP hD hS hw
                            · have hw := hw.2 (bI_0 hc)
                              refine lv_iload hx hb dMd_copies_293 (lv_at hl 0 rfl) ?_
                              refine lv_if_lt (tgt := 309) hx hb dMd_copies_295 rfl (fun hc => ?_) (fun hc => ?_)
                              · have hw := hw.1 hc
                                refine lv_iconst (v := 1) hx hb dMd_copies_309 (by decide) ?_
                                refine lv_goto (tgt := 314) hx hb dMd_copies_310 rfl ?_
                                refine lv_istore (lv' := [(10, .int 1), (12, .int t275_0), (0, .ref (bd 0)), (1, .int v1), (2, .int v2), (3, .int v3_103), (4, .int v4_L57), (5, .int v5_L57), (6, .int r69), (7, .int v7_x182), (8, .int v8_x182), (9, .int (bI t227_0)), (11, .int v11_L235)]) hx hb dMd_copies_314 hl (by decide) rfl (fun ls hl => ?_)
                                refine lv_iinc (k := 12) (v := (v11_L235 + 1)) (lv' := [(11, .int (v11_L235 + 1)), (10, .int 1), (12, .int t275_0), (0, .ref (bd 0)), (1, .int v1), (2, .int v2), (3, .int v3_103), (4, .int v4_L57), (5, .int v5_L57), (6, .int r69), (7, .int v7_x182), (8, .int v8_x182), (9, .int (bI t227_0))]) hx hb dMd_copies_316 hl rfl rfl (by decide) rfl (fun ls hl => ?_)
                                refine lv_goto (tgt := 235) hx hb dMd_copies_319 rfl ?_
                                exact ih true (v11_L235 + 1) _ _ _ (lv_sub hl [3, 4, 5, 6, 7, 8, 9, 10, 11, 12, 1, 0] rfl) hP hD hS hw
                              · have hw := hw.2 hc
                                refine lv_aload_n hx hb dMd_copies_298 rfl (lv_at hl 1 rfl) ?_
                                refine lv_iload hx hb dMd_copies_299 (lv_at hl 8 rfl) ?_
                                refine lv_iload hx hb dMd_copies_301 (lv_at hl 0 rfl) ?_
                                refine xci (va_runV ⟨hx, hb, hml, hown, hts⟩ (ktMd_has l D cA cB bd N _ v7_x182 t275_0 _ hw) (cwV 2 hts (goodV kw_1133 kw_1135 ks_4_0 kw_11 kw_1136) rfl rfl rfl (by decide +kernel) ⟨Nat.le_of_ble_eq_true rfl, Nat.le_of_ble_eq_true rfl⟩) (xpreV hK hP hD hN [] rfl rfl 0 rfl rfl) rfl rfl hl.1 rfl (lv_room (Nat.le_of_ble_eq_true rfl)) dMd_copies_303 ⟨Nat.le_of_ble_eq_true rfl, Nat.le_of_ble_eq_true rfl⟩) hP hD hS hA [] [0, 1, 2] rfl rfl rfl rfl [0, 1, 2] rfl (fun _ => rfl) (fun r303 u H locs hw hP hD hS => ?_)
                                obtain ⟨r303, rfl, hw⟩ := hw
                                have hP : va_P D vwCl (wdMd_copies cA cB bd N t37_0 mReached mForm mSlot mOver mMeets mSources) H := hP
                                have hD : va_D A (wdMd_copies cA cB bd N t37_0 mReached mForm mSlot mOver mMeets mSources) := hD
                                refine lv_if_ne (tgt := 313) hx hb dMd_copies_306 rfl (fun hc => ?_) (fun hc => ?_)
                                · have hw := hw.1 (bI_1 hc)
                                  refine lv_iconst (v := 0) hx hb dMd_copies_313 (by decide) ?_
                                  refine lv_istore (lv' := [(10, .int 0), (12, .int t275_0), (0, .ref (bd 0)), (1, .int v1), (2, .int v2), (3, .int v3_103), (4, .int v4_L57), (5, .int v5_L57), (6, .int r69), (7, .int v7_x182), (8, .int v8_x182), (9, .int (bI t227_0)), (11, .int v11_L235)]) hx hb dMd_copies_314 hl (by decide) rfl (fun ls hl => ?_)
                                  refine lv_iinc (k := 12) (v := (v11_L235 + 1)) (lv' := [(11, .int (v11_L235 + 1)), (10, .int 0), (12, .int t275_0), (0, .ref (bd 0)), (1, .int v1), (2, .int v2), (3, .int v3_103), (4, .int v4_L57), (5, .int v5_L57), (6, .int r69), (7, .int v7_x182), (8, .int v8_x182), (9, .int (bI t227_0))]) hx hb dMd_copies_316 hl rfl rfl (by decide) rfl (fun ls hl => ?_)
                                  refine lv_goto (tgt := 235) hx hb dMd_copies_319 rfl ?_
                                  exact ih false (v11_L235 + 1) _ _ _ (lv_sub hl [3, 4, 5, 6, 7, 8, 9, 10, 11, 12, 1, 0] rfl) hP hD hS hw
                                · have hw := hw.2 (bI_0 hc)
                                  refine lv_iconst (v := 1) hx hb dMd_copies_309 (by decide) ?_
                                  refine lv_goto (tgt := 314) hx hb dMd_copies_310 rfl ?_
                                  refine lv_istore (lv' := [(10, .int 1), (12, .int t275_0), (0, .ref (bd 0)), (1, .int v1), (2, .int v2), (3, .int v3_103), (4, .int v4_L57), (5, .int v5_L57), (6, .int r69), (7, .int v7_x182), (8, .int v8_x182), (9, .int (bI t227_0)), (11, .int v11_L235)]) hx hb dMd_copies_314 hl (by decide) rfl (fun ls hl => ?_)
                                  refine lv_iinc (k := 12) (v := (v11_L235 + 1)) (lv' := [(11, .int (v11_L235 + 1)), (10, .int 1), (12, .int t275_0), (0, .ref (bd 0)), (1, .int v1), (2, .int v2), (3, .int v3_103), (4, .int v4_L57), (5, .int v5_L57), (6, .int r69), (7, .int v7_x182), (8, .int v8_x182), (9, .int (bI t227_0))]) hx hb dMd_copies_316 hl rfl rfl (by decide) rfl (fun ls hl => ?_)
                                  refine lv_goto (tgt := 235) hx hb dMd_copies_319 rfl ?_
                                  exact ih true (v11_L235 + 1) _ _ _ (lv_sub hl [3, 4, 5, 6, 7, 8, 9, 10, 11, 12, 1, 0] rfl) hP hD hS hw
                        refine lv_if_ge (tgt := 262) hx hb dMd_copies_255 rfl (fun hc => ?_) (fun hc => ?_)
                        · have hw := hw.1 hc
                          refine lv_aload_n hx hb dMd_copies_262 rfl (lv_at hl 0 rfl) ?_
                          refine lv_iload_n hx hb dMd_copies_263 rfl (lv_at hl 1 rfl) ?_
                          refine lv_aload_n hx hb dMd_copies_264 rfl (lv_at hl 0 rfl) ?_
                          refine lv_iload_n hx hb dMd_copies_265 rfl (lv_at hl 1 rfl) ?_
                          refine lv_iload hx hb dMd_copies_266 (lv_at hl 11 rfl) ?_
                          refine lv_iload_n hx hb dMd_copies_268 rfl (lv_at hl 2 rfl) ?_
                          refine xci (va_runV ⟨hx, hb, hml, hown, hts⟩ (ktMd_sourceOf l D cA cB bd N _ t37_0 mReached mForm mSlot mOver mMeets mSources v1 v11_L235 v2 _ hw) (cwV 3 hts (goodV kw_1225 kw_1227 ks_5_0 kw_11 kw_1228) rfl rfl rfl (by decide +kernel) ⟨Nat.le_of_ble_eq_true rfl, Nat.le_of_ble_eq_true rfl⟩) (xpreV hK hP hD hN [0, 1, 2] rfl rfl 0 rfl rfl) rfl rfl hl.1 rfl (lv_room (Nat.le_of_ble_eq_true rfl)) dMd_copies_269 ⟨Nat.le_of_ble_eq_true rfl, Nat.le_of_ble_eq_true rfl⟩) hP hD hS hA [0, 1, 2] [] rfl rfl rfl rfl [0, 1, 2] rfl (fun _ => rfl) (fun r269 u H locs hw hP hD hS => ?_)
                          have hP : va_P D vwCl (wdMd_copies cA cB bd N t37_0 mReached mForm mSlot mOver mMeets mSources) H := hP
                          have hD : va_D A (wdMd_copies cA cB bd N t37_0 mReached mForm mSlot mOver mMeets mSources) := hD
                          refine xci (va_runV ⟨hx, hb, hml, hown, hts⟩ (ktMd_meetingWith l D cA cB bd N _ t37_0 mReached mForm mSlot mOver mMeets v1 r269 _ hw) (cwV 2 hts (goodV kw_1265 kw_1267 ks_5_5 kw_11 kw_1268) rfl rfl rfl (by decide +kernel) ⟨Nat.le_of_ble_eq_true rfl, Nat.le_of_ble_eq_true rfl⟩) (xpreV hK hP hD hN [0, 1] rfl rfl 0 rfl rfl) rfl rfl hl.1 rfl (lv_room (Nat.le_of_ble_eq_true rfl)) dMd_copies_272 ⟨Nat.le_of_ble_eq_true rfl, Nat.le_of_ble_eq_true rfl⟩) hP hD hS hA [0, 1] [2] rfl rfl rfl rfl [1, 2, 0] rfl (fun _ => rfl) (fun r272 u H locs hw hP hD hS => ?_)
                          have hP : va_P D vwCl (wdMd_copies cA cB bd N t37_0 mReached mForm mSlot mOver mMeets mSources) H := hP
                          have hD : va_D A (wdMd_copies cA cB bd N t37_0 mReached mForm mSlot mOver mMeets mSources) := hD
                          exact hj275 r272 _ _ _ (lv_sub hl [0, 1, 2, 3, 4, 5, 6, 7, 8, 9, 10, 11] rfl) hP hD hS hw
                        · have hw := hw.2 hc
                          refine lv_iconst (v := (-1)) hx hb dMd_copies_258 (by decide) ?_
                          refine lv_goto (tgt := 275) hx hb dMd_copies_259 rfl ?_
                          exact hj275 (-1) _ _ _ (lv_sub hl [0, 1, 2, 3, 4, 5, 6, 7, 8, 9, 10, 11] rfl) hP hD hS hw
                refine hlp235 _ ?_ k235 true 0 _ _ _ (lv_sub hl [3, 4, 5, 6, 7, 8, 9, 10, 11, 2, 1, 0] rfl) hP hD hS hw
                intro v10_x322 v11_x322 ls H locs hl hP hD hS hw
                try dsimp only at hw
                refine lv_iload hx hb dMd_copies_322 (lv_at hl 9 rfl) ?_
                obtain ⟨J337, hJ337, hw⟩ := hw
                have hj337 : ∀ (t337_0 : Int32) (ls : Array Slot) (H : Heap) (locs : List Loc), lv_has ls 13 [(0, .ref (bd 0)), (1, .int v1), (2, .int v2), (3, .int v3_103), (4, .int v4_L57), (5, .int v5_L57), (6, .int r69), (7, .int v7_x182), (8, .int v8_x182), (9, .int (bI t227_0)), (10, .int (bI v10_x322)), (11, .int v11_x322)] → va_P D vwCl (wdMd_copies cA cB bd N t37_0 mReached mForm mSlot mOver mMeets mSources) H → va_D A (wdMd_copies cA cB bd N t37_0 mReached mForm mSlot mOver mMeets mSources) → va_S A s.heap H locs → J337 t337_0 → W p l e (headSpec (Cond.code yMd_copies cMd_copies 13 (some .int) :: xW) rmMd_copies).room s m ([.ref (bd 0), .int v1, .int v2] : List Value).toArray below meth c H locs 0 0 Q (F0 m 337 ls [.int t337_0]) := by
                  intro t337_0 ls H locs hl hP hD hS hw
                  have hw := hJ337 t337_0 hw
                  refine lv_istore (lv' := [(4, .int t337_0), (0, .ref (bd 0)), (1, .int v1), (2, .int v2), (3, .int v3_103), (5, .int v5_L57), (6, .int r69), (7, .int v7_x182), (8, .int v8_x182), (9, .int (bI t227_0)), (10, .int (bI v10_x322)), (11, .int v11_x322)]) hx hb dMd_copies_337 hl (by decide) rfl (fun ls hl => ?_)
                  refine lv_iload_n hx hb dMd_copies_339 rfl (lv_at hl 4 rfl) ?_
                  refine lv_iload hx hb dMd_copies_340 (lv_at hl 9 rfl) ?_
                  refine lv_if_eq (tgt := 354) hx hb dMd_copies_342 rfl (fun hc => ?_) (fun hc => ?_)
                  · have hw := hw.1 (bI_0 hc)
                    refine lv_iconst (v := 0) hx hb dMd_copies_354 (by decide) ?_
                    refine lv_iadd hx hb dMd_copies_355 ?_
                    refine lv_topi (fun v3_356 e_v3_356 => ?_)
                    have hw := hw v3_356 e_v3_356
                    refine lv_istore_n (lv' := [(3, .int v3_356), (4, .int t337_0), (0, .ref (bd 0)), (1, .int v1), (2, .int v2), (5, .int v5_L57), (6, .int r69), (7, .int v7_x182), (8, .int v8_x182), (9, .int (bI t227_0)), (10, .int (bI v10_x322)), (11, .int v11_x322)]) hx hb dMd_copies_356 rfl hl (by decide) rfl (fun ls hl => ?_)
                    refine lv_iinc (k := 5) (v := (v5_L57 + 1)) (lv' := [(5, .int (v5_L57 + 1)), (3, .int v3_356), (4, .int t337_0), (0, .ref (bd 0)), (1, .int v1), (2, .int v2), (6, .int r69), (7, .int v7_x182), (8, .int v8_x182), (9, .int (bI t227_0)), (10, .int (bI v10_x322)), (11, .int v11_x322)]) hx hb dMd_copies_357 hl rfl rfl (by decide) rfl (fun ls hl => ?_)
                    refine lv_goto (tgt := 57) hx hb dMd_copies_360 rfl ?_
                    exact ih v3_356 t337_0 (v5_L57 + 1) _ _ _ (lv_sub hl [3, 4, 5, 1, 2, 0] rfl) hP hD hS hw
                  · have hw := hw.2 (bI_1 hc)
                    refine lv_iload hx hb dMd_copies_345 (lv_at hl 10 rfl) ?_
                    refine lv_if_eq (tgt := 354) hx hb dMd_copies_347 rfl (fun hc => ?_) (fun hc => ?_)
                    · have hw := hw.1 (bI_0 hc)
                      refine lv_iconst (v := 0) hx hb dMd_copies_354 (by decide) ?_
                      refine lv_iadd hx hb dMd_copies_355 ?_
                      refine lv_topi (fun v3_356 e_v3_356 => ?_)
                      have hw := hw v3_356 e_v3_356
                      refine lv_istore_n (lv' := [(3, .int v3_356), (4, .int t337_0), (0, .ref (bd 0)), (1, .int v1), (2, .int v2), (5, .int v5_L57), (6, .int r69), (7, .int v7_x182), (8, .int v8_x182), (9, .int (bI t227_0)), (10, .int (bI v10_x322)), (11, .int v11_x322)]) hx hb dMd_copies_356 rfl hl (by decide) rfl (fun ls hl => ?_)
                      refine lv_iinc (k := 5) (v := (v5_L57 + 1)) (lv' := [(5, .int (v5_L57 + 1)), (3, .int v3_356), (4, .int t337_0), (0, .ref (bd 0)), (1, .int v1), (2, .int v2), (6, .int r69), (7, .int v7_x182), (8, .int v8_x182), (9, .int (bI t227_0)), (10, .int (bI v10_x322)), (11, .int v11_x322)]) hx hb dMd_copies_357 hl rfl rfl (by decide) rfl (fun ls hl => ?_)
                      refine lv_goto (tgt := 57) hx hb dMd_copies_360 rfl ?_
                      exact ih v3_356 t337_0 (v5_L57 + 1) _ _ _ (lv_sub hl [3, 4, 5, 1, 2, 0] rfl) hP hD hS hw
                    · have hw := hw.2 (bI_1 hc)
                      refine lv_iconst (v := 1) hx hb dMd_copies_350 (by decide) ?_
                      refine lv_goto (tgt := 355) hx hb dMd_copies_351 rfl ?_
                      refine lv_iadd hx hb dMd_copies_355 ?_
                      refine lv_topi (fun v3_356 e_v3_356 => ?_)
                      have hw := hw v3_356 e_v3_356
                      refine lv_istore_n (lv' := [(3, .int v3_356), (4, .int t337_0), (0, .ref (bd 0)), (1, .int v1), (2, .int v2), (5, .int v5_L57), (6, .int r69), (7, .int v7_x182), (8, .int v8_x182), (9, .int (bI t227_0)), (10, .int (bI v10_x322)), (11, .int v11_x322)]) hx hb dMd_copies_356 rfl hl (by decide) rfl (fun ls hl => ?_)
                      refine lv_iinc (k := 5) (v := (v5_L57 + 1)) (lv' := [(5, .int (v5_L57 + 1)), (3, .int v3_356), (4, .int t337_0), (0, .ref (bd 0)), (1, .int v1), (2, .int v2), (6, .int r69), (7, .int v7_x182), (8, .int v8_x182), (9, .int (bI t227_0)), (10, .int (bI v10_x322)), (11, .int v11_x322)]) hx hb dMd_copies_357 hl rfl rfl (by decide) rfl (fun ls hl => ?_)
                      refine lv_goto (tgt := 57) hx hb dMd_copies_360 rfl ?_
                      exact ih v3_356 t337_0 (v5_L57 + 1) _ _ _ (lv_sub hl [3, 4, 5, 1, 2, 0] rfl) hP hD hS hw
                refine lv_if_eq (tgt := 335) hx hb dMd_copies_324 rfl (fun hc => ?_) (fun hc => ?_)
                · have hw := hw.1 (bI_0 hc)
                  refine lv_iload hx hb dMd_copies_335 (lv_at hl 4 rfl) ?_
                  exact hj337 v4_L57 _ _ _ (lv_sub hl [0, 1, 2, 3, 4, 5, 6, 7, 8, 9, 10, 11] rfl) hP hD hS hw
                · have hw := hw.2 (bI_1 hc)
                  refine lv_iload hx hb dMd_copies_327 (lv_at hl 4 rfl) ?_
                  refine lv_iload hx hb dMd_copies_329 (lv_at hl 7 rfl) ?_
                  refine lv_ior hx hb dMd_copies_331 ?_
                  refine lv_goto (tgt := 337) hx hb dMd_copies_332 rfl ?_
                  exact hj337 (v4_L57 ||| v7_x182) _ _ _ (lv_sub hl [0, 1, 2, 3, 4, 5, 6, 7, 8, 9, 10, 11] rfl) hP hD hS hw
              obtain ⟨J226, hJ226, hw⟩ := hw
              have hj226 : ∀  (ls : Array Slot) (H : Heap) (locs : List Loc), lv_has ls 13 [(0, .ref (bd 0)), (1, .int v1), (2, .int v2), (3, .int v3_103), (4, .int v4_L57), (5, .int v5_L57), (6, .int r69), (7, .int v7_x182), (8, .int v8_x182), (9, .int v9_x182)] → va_P D vwCl (wdMd_copies cA cB bd N t37_0 mReached mForm mSlot mOver mMeets mSources) H → va_D A (wdMd_copies cA cB bd N t37_0 mReached mForm mSlot mOver mMeets mSources) → va_S A s.heap H locs → J226 → W p l e (headSpec (Cond.code yMd_copies cMd_copies 13 (some .int) :: xW) rmMd_copies).room s m ([.ref (bd 0), .int v1, .int v2] : List Value).toArray below meth c H locs 0 0 Q (F0 m 226 ls []) := by
                intro  ls H locs hl hP hD hS hw
                have hw := hJ226  hw
                refine lv_iconst (v := 0) hx hb dMd_copies_226 (by decide) ?_
                exact hj227 false _ _ _ (lv_sub hl [0, 1, 2, 3, 4, 5, 6, 7, 8, 9] rfl) hP hD hS hw
              refine lv_icmp_ne (tgt := 226) hx hb dMd_copies_186 rfl (fun hc => ?_) (fun hc => ?_)
              · have hw := hw.1 hc
                exact hj226  _ _ _ (lv_sub hl [0, 1, 2, 3, 4, 5, 6, 7, 8, 9] rfl) hP hD hS hw
              · have hw := hw.2 hc
                refine lv_iload hx hb dMd_copies_189 (lv_at hl 6 rfl) ?_
                refine lv_if_lt (tgt := 226) hx hb dMd_copies_191 rfl (fun hc => ?_) (fun hc => ?_)
                · have hw := hw.1 hc
                  exact hj226  _ _ _ (lv_sub hl [0, 1, 2, 3, 4, 5, 6, 7, 8, 9] rfl) hP hD hS hw
                · have hw := hw.2 hc
                  refine lv_iload hx hb dMd_copies_194 (lv_at hl 6 rfl) ?_
                  refine lv_aload_n hx hb dMd_copies_196 rfl (lv_at hl 0 rfl) ?_
                  refine va_get (D := D) (ci := 7) (v := .ref (bd 12)) (C := "OnceNamedModel") (T := TX7) (N := 34) hx hb hts (fun w h => List.mem_cons_of_mem _ (inX7 w h)) hown hK hP 0 rfl rfl 15 (by decide) (hts _ (List.mem_cons_of_mem _ kw_1000)) (fun _ h9 => h9) rfl dMd_copies_197 ?_
                  refine lv_bipush (v := 6) hx hb dMd_copies_200 (by decide) ?_
                  refine lv_iload_n hx hb dMd_copies_202 rfl (lv_at hl 1 rfl) ?_
                  refine lv_imul hx hb dMd_copies_203 ?_
                  refine lv_iload hx hb dMd_copies_204 (lv_at hl 5 rfl) ?_
                  refine lv_iadd hx hb dMd_copies_206 ?_
                  have ho := hw.1
                  have hw := hw.2
                  refine va_iald hx hb hK hP 1 0 rfl rfl ho dMd_copies_207 ?_
                  refine lv_icmp_eq (tgt := 226) hx hb dMd_copies_208 rfl (fun hc => ?_) (fun hc => ?_)
                  · have hw := hw.1 hc
                    exact hj226  _ _ _ (lv_sub hl [0, 1, 2, 3, 4, 5, 6, 7, 8, 9] rfl) hP hD hS hw
                  · have hw := hw.2 hc
                    refine lv_aload_n hx hb dMd_copies_211 rfl (lv_at hl 0 rfl) ?_
                    refine lv_iload hx hb dMd_copies_212 (lv_at hl 4 rfl) ?_
                    refine lv_iload hx hb dMd_copies_214 (lv_at hl 5 rfl) ?_
                    refine xci (va_runV ⟨hx, hb, hml, hown, hts⟩ (ktMd_has l D cA cB bd N _ v4_L57 v5_L57 _ hw) (cwV 2 hts (goodV kw_1133 kw_1135 ks_4_0 kw_11 kw_1136) rfl rfl rfl (by decide +kernel) ⟨Nat.le_of_ble_eq_true rfl, Nat.le_of_ble_eq_true rfl⟩) (xpreV hK hP hD hN [] rfl rfl 0 rfl rfl) rfl rfl hl.1 rfl (lv_room (Nat.le_of_ble_eq_true rfl)) dMd_copies_216 ⟨Nat.le_of_ble_eq_true rfl, Nat.le_of_ble_eq_true rfl⟩) hP hD hS hA [] [0, 1, 2] rfl rfl rfl rfl [0, 1, 2] rfl (fun _ => rfl) (fun r216 u H locs hw hP hD hS => ?_)
                    obtain ⟨r216, rfl, hw⟩ := hw
                    have hP : va_P D vwCl (wdMd_copies cA cB bd N t37_0 mReached mForm mSlot mOver mMeets mSources) H := hP
                    have hD : va_D A (wdMd_copies cA cB bd N t37_0 mReached mForm mSlot mOver mMeets mSources) := hD
                    refine lv_if_ne (tgt := 226) hx hb dMd_copies_219 rfl (fun hc => ?_) (fun hc => ?_)
                    · have hw := hw.1 (bI_1 hc)
                      exact hj226  _ _ _ (lv_sub hl [0, 1, 2, 3, 4, 5, 6, 7, 8, 9] rfl) hP hD hS hw
                    · have hw := hw.2 (bI_0 hc)
                      refine lv_iconst (v := 1) hx hb dMd_copies_222 (by decide) ?_
                      refine lv_goto (tgt := 227) hx hb dMd_copies_223 rfl ?_
                      exact hj227 true _ _ _ (lv_sub hl [0, 1, 2, 3, 4, 5, 6, 7, 8, 9] rfl) hP hD hS hw
            obtain ⟨J101, hJ101, hw⟩ := hw
            have hj101 : ∀  (ls : Array Slot) (H : Heap) (locs : List Loc), lv_has ls 13 [(0, .ref (bd 0)), (1, .int v1), (2, .int v2), (3, .int v3_L57), (4, .int v4_L57), (5, .int v5_L57), (6, .int r69)] → va_P D vwCl (wdMd_copies cA cB bd N t37_0 mReached mForm mSlot mOver mMeets mSources) H → va_D A (wdMd_copies cA cB bd N t37_0 mReached mForm mSlot mOver mMeets mSources) → va_S A s.heap H locs → J101 → W p l e (headSpec (Cond.code yMd_copies cMd_copies 13 (some .int) :: xW) rmMd_copies).room s m ([.ref (bd 0), .int v1, .int v2] : List Value).toArray below meth c H locs 0 0 Q (F0 m 101 ls [.int v3_L57]) := by
              intro  ls H locs hl hP hD hS hw
              have hw := hJ101  hw
              refine lv_iconst (v := 0) hx hb dMd_copies_101 (by decide) ?_
              exact hj102 false _ _ _ (lv_sub hl [0, 1, 2, 3, 4, 5, 6] rfl) hP hD hS hw
            refine lv_if_lt (tgt := 101) hx hb dMd_copies_77 rfl (fun hc => ?_) (fun hc => ?_)
            · have hw := hw.1 hc
              exact hj101  _ _ _ (lv_sub hl [1, 2, 3, 4, 5, 6, 0] rfl) hP hD hS hw
            · have hw := hw.2 hc
              refine lv_iload hx hb dMd_copies_80 (lv_at hl 0 rfl) ?_
              refine lv_aload_n hx hb dMd_copies_82 rfl (lv_at hl 1 rfl) ?_
              refine va_get (D := D) (ci := 7) (v := .ref (bd 12)) (C := "OnceNamedModel") (T := TX7) (N := 34) hx hb hts (fun w h => List.mem_cons_of_mem _ (inX7 w h)) hown hK hP 0 rfl rfl 15 (by decide) (hts _ (List.mem_cons_of_mem _ kw_1000)) (fun _ h9 => h9) rfl dMd_copies_83 ?_
              refine lv_bipush (v := 6) hx hb dMd_copies_86 (by decide) ?_
              refine lv_iload_n hx hb dMd_copies_88 rfl (lv_at hl 2 rfl) ?_
              refine lv_imul hx hb dMd_copies_89 ?_
              refine lv_iload hx hb dMd_copies_90 (lv_at hl 6 rfl) ?_
              refine lv_iadd hx hb dMd_copies_92 ?_
              have ho := hw.1
              have hw := hw.2
              refine va_iald hx hb hK hP 1 0 rfl rfl ho dMd_copies_93 ?_
              refine lv_icmp_eq (tgt := 101) hx hb dMd_copies_94 rfl (fun hc => ?_) (fun hc => ?_)
              · have hw := hw.1 hc
                exact hj101  _ _ _ (lv_sub hl [1, 2, 3, 4, 5, 6, 0] rfl) hP hD hS hw
              · have hw := hw.2 hc
                refine lv_iconst (v := 1) hx hb dMd_copies_97 (by decide) ?_
                refine lv_goto (tgt := 102) hx hb dMd_copies_98 rfl ?_
                exact hj102 true _ _ _ (lv_sub hl [1, 2, 3, 4, 5, 6, 0] rfl) hP hD hS hw
      refine hlp57 k57 0 0 0 _ _ _ (lv_sub hl [3, 4, 5, 2, 1, 0] rfl) hP hD hS hw
    · have hw := hw.2 hc
      refine lv_iconst (v := 0) hx hb dMd_copies_47 (by decide) ?_
      exact hend 0 t37_0 _ _ _ _ dMd_copies_48 hP hD hS hw
  refine lv_if_ne (tgt := 12) hx hb dMd_copies_5 rfl (fun hc => ?_) (fun hc => ?_)
  · have hw := hw.1 (bI_1 hc)
    refine lv_aload_n hx hb dMd_copies_12 rfl (lv_at hl 0 rfl) ?_
    refine lv_iload_n hx hb dMd_copies_13 rfl (lv_at hl 1 rfl) ?_
    refine xci (va_runV ⟨hx, hb, hml, hown, hts⟩ (ktMd_noBlock l D cA cB bd N _ mThrown mReached mForm mSlot mOver v1 _ hw) (cwV 1 hts (goodV kw_1097 kw_1099 ks_3_12 kw_11 kw_1100) rfl rfl rfl (by decide +kernel) ⟨Nat.le_of_ble_eq_true rfl, Nat.le_of_ble_eq_true rfl⟩) (xpreV hK hP hD hN [0] rfl rfl 0 rfl rfl) rfl rfl hl.1 rfl (lv_room (Nat.le_of_ble_eq_true rfl)) dMd_copies_14 ⟨Nat.le_of_ble_eq_true rfl, Nat.le_of_ble_eq_true rfl⟩) hP hD hS hA [0] [1, 2] rfl rfl rfl rfl [2, 0, 1] rfl (fun _ => rfl) (fun r14 u H locs hw hP hD hS => ?_)
    obtain ⟨r14, rfl, hw⟩ := hw
    have hP : va_P D vwCl (wdMd_copies cA cB bd N mThrown mReached mForm mSlot mOver mMeets mSources) H := hP
    have hD : va_D A (wdMd_copies cA cB bd N mThrown mReached mForm mSlot mOver mMeets mSources) := hD
    refine lv_if_ne (tgt := 32) hx hb dMd_copies_17 rfl (fun hc => ?_) (fun hc => ?_)
    · have hw := hw.1 (bI_1 hc)
      refine lv_iconst (v := 2) hx hb dMd_copies_32 (by decide) ?_
      refine lv_goto (tgt := 37) hx hb dMd_copies_33 rfl ?_
      exact hj37 2 _ _ _ (lv_sub hl [0, 1, 2] rfl) hP hD hS hw
    · have hw := hw.2 (bI_0 hc)
      refine lv_iload_n hx hb dMd_copies_20 rfl (lv_at hl 2 rfl) ?_
      refine lv_if_lt (tgt := 32) hx hb dMd_copies_21 rfl (fun hc => ?_) (fun hc => ?_)
      · have hw := hw.1 hc
        refine lv_iconst (v := 2) hx hb dMd_copies_32 (by decide) ?_
        refine lv_goto (tgt := 37) hx hb dMd_copies_33 rfl ?_
        exact hj37 2 _ _ _ (lv_sub hl [0, 1, 2] rfl) hP hD hS hw
      · have hw := hw.2 hc
        refine lv_iload_n hx hb dMd_copies_24 rfl (lv_at hl 2 rfl) ?_
        refine lv_aload_n hx hb dMd_copies_25 rfl (lv_at hl 0 rfl) ?_
        refine va_get (D := D) (ci := 7) (v := .int (nI N)) (C := "OnceNamedModel") (T := TX7) (N := 34) hx hb hts (fun w h => List.mem_cons_of_mem _ (inX7 w h)) hown hK hP 0 rfl rfl 1 (by decide) (hts _ (List.mem_cons_of_mem _ kw_986)) (fun _ h9 => h9) rfl dMd_copies_26 ?_
        refine lv_icmp_le (tgt := 36) hx hb dMd_copies_29 rfl (fun hc => ?_) (fun hc => ?_)
        · have hw := hw.1 hc
          refine lv_iconst (v := 0) hx hb dMd_copies_36 (by decide) ?_
          exact hj37 0 _ _ _ (lv_sub hl [0, 1, 2] rfl) hP hD hS hw
        · have hw := hw.2 hc
          refine lv_iconst (v := 2) hx hb dMd_copies_32 (by decide) ?_
          refine lv_goto (tgt := 37) hx hb dMd_copies_33 rfl ?_
          exact hj37 2 _ _ _ (lv_sub hl [0, 1, 2] rfl) hP hD hS hw
  · have hw := hw.2 (bI_0 hc)
    refine lv_iconst (v := 1) hx hb dMd_copies_8 (by decide) ?_
    refine lv_goto (tgt := 37) hx hb dMd_copies_9 rfl ?_
    exact hj37 1 _ _ _ (lv_sub hl [0, 1, 2] rfl) hP hD hS hw
abbrev wdMd_fail (cA : ClassId) (cB : ClassId) (bd : Nat → Nat) (N : Nat) (mThrown : Int32) (mReached : Int32) (mForm : Bool) (mSlot : Int32) (mOver : Bool) (mFailed : Nat → Int32) : va_W := [((bd 0), .inr (7, [.int mThrown, .int (nI N), .ref (bd 1), .ref (bd 2), .ref (bd 3), .ref (bd 4), .ref (bd 5), .ref (bd 6), .ref (bd 7), .ref (bd 8), .ref (bd 9), .ref (bd 10), .int mReached, .ref (bd 11), .int (bI mForm), .ref (bd 12), .ref (bd 13), .ref (bd 14), .ref (bd 15), .ref (bd 16), .ref (bd 17), .ref (bd 18), .ref (bd 19), .ref (bd 20), .ref (bd 21), .ref (bd 22), .ref (bd 23), .ref (bd 24), .ref (bd 25), .ref (bd 26), .ref (bd 27), .ref (bd 28), .int mSlot, .int (bI mOver)])), ((bd 25), .inl (cA, 3, .inl mFailed))]
abbrev qcMd_fail (D : va_G) (cA : ClassId) (cB : ClassId) (bd : Nat → Nat) (N : Nat) (mThrown : Int32) (mReached : Int32) (mForm : Bool) (mSlot : Int32) (mOver : Bool) (mFailed : Nat → Int32) (post : Bool → (Nat → Int32) → Prop) (A : Nat → Prop) : Array Value → State → Outcome → State → Prop := va_Qv (S := (Bool) × (Nat → Int32)) (fun u => post u.1 u.2) (fun u t => xB D [(cA, .int), (cB, .boolean)] A (wdMd_fail cA cB bd N mThrown mReached mForm mSlot u.1 u.2) t) A
abbrev rmMd_fail : Room := { frames := 0, cells := 0, slots := 0, locals := 0 }
set_option maxHeartbeats 4000000 in
set_option maxRecDepth 100000 in
theorem ktMd_fail (l : Launch) (D : va_G) (cA : ClassId) (cB : ClassId) (bd : Nat → Nat) (N : Nat) (sz : Nat) (mThrown : Int32) (mReached : Int32) (mForm : Bool) (mSlot : Int32) (mOver : Bool) (mFailed : Nat → Int32) (v1 : Int32) (post : Bool → (Nat → Int32) → Prop) (hw : wpMd_fail mSlot mFailed v1 post) : Met l yMd_fail (Cond.code yMd_fail cMd_fail 2 none :: xW) rmMd_fail (va_Pc [.ref (bd 0), .int v1] (xPc D [(cA, .int), (cB, .boolean)] (wdMd_fail cA cB bd N mThrown mReached mForm mSlot mOver mFailed) sz)) (qcMd_fail D cA cB bd N mThrown mReached mForm mSlot mOver mFailed post (va_A (wdMd_fail cA cB bd N mThrown mReached mForm mSlot mOver mFailed) sz)) 0 0 (va_A (wdMd_fail cA cB bd N mThrown mReached mForm mSlot mOver mFailed) sz) := by
  refine Met.ofW (cc := cMd_fail) (maxL := 2) (ret := none) (by decide) rfl ?_
  intro p e s m args below meth c s₁ B hml hv
  obtain ⟨rfl, hsz, hP, hK, hD0, hN⟩ := hv
  have hx := B.exec
  have hb := B.bytes
  have hr := B.returns
  have hts := atoms_spec (ws := (Cond.code yMd_fail cMd_fail 2 none :: xW)) B.pre
  have hown : s.vm.findClass "OnceNamedModel" = some m.cls := findClass_of_methodNamed B.named
  have hlocks := B.notSynchronized
  subst hsz
  have hD := hD0.self (sz := s.heap.size)
  generalize hAe : va_A (wdMd_fail cA cB bd N mThrown mReached mForm mSlot mOver mFailed) s.heap.size = A at hD ⊢
  have hA : ∀ q : Nat, s.heap.size ≤ q → A q := fun q h => by rw [← hAe]; exact Or.inr h
  have hS : va_S A s.heap s.heap [] := va_S.rf
  have hend : ∀ (u0 : Bool) (u1 : Nat → Int32) (H : Heap) (locs : List Loc) (pc : Nat) (ls : Array Slot), decode cMd_fail pc = .ok (.return_, 1) → va_P D vwCl (wdMd_fail cA cB bd N mThrown mReached mForm mSlot u0 u1) H → va_D A (wdMd_fail cA cB bd N mThrown mReached mForm mSlot u0 u1) → va_S A s.heap H locs → post u0 u1 → W p l e (headSpec (Cond.code yMd_fail cMd_fail 2 none :: xW) rmMd_fail).room s m ([.ref (bd 0), .int v1] : List Value).toArray below meth c H locs 0 0 (MQ below (qcMd_fail D cA cB bd N mThrown mReached mForm mSlot mOver mFailed post A) ([.ref (bd 0), .int v1] : List Value).toArray s 0 0 A) (F0 m pc ls []) := fun u0 u1 H locs pc ls hd hP hD hS hw => W.vret hx hb hr (fun t ht hW => ⟨⟨(u0, u1), rfl, hw, ⟨by rw [ht]; exact hP, va_K.moved hW.alike hK, hD⟩⟩, hS.F ht⟩) hS.2.2 hd
  generalize hQ : MQ below (qcMd_fail D cA cB bd N mThrown mReached mForm mSlot mOver mFailed post A) ([.ref (bd 0), .int v1] : List Value).toArray s 0 0 A = Q at hend ⊢
  have hl := lv_entry ([.ref (bd 0), .int v1]) (n := 2) (Nat.le_of_ble_eq_true rfl)
  rw [lg_entry_eq]
  generalize (lg_sl ([.ref (bd 0), .int v1]) ++ List.replicate (2 - (lg_sl ([.ref (bd 0), .int v1])).length) Slot.unset).toArray = ls at hl ⊢
  have hl : lv_has ls 2 [(0, .ref (bd 0)), (1, .int v1)] := hl
  unfold wpMd_fail at hw
  refine lv_aload_n hx hb dMd_fail_0 rfl (lv_at hl 0 rfl) ?_
  refine va_get (D := D) (ci := 7) (v := .ref (bd 25)) (C := "OnceNamedModel") (T := TX7) (N := 34) hx hb hts (fun w h => List.mem_cons_of_mem _ (inX7 w h)) hown hK hP 0 rfl rfl 28 (by decide) (hts _ (List.mem_cons_of_mem _ kw_1013)) (fun _ h9 => h9) rfl dMd_fail_1 ?_
  refine lv_aload_n hx hb dMd_fail_4 rfl (lv_at hl 0 rfl) ?_
  refine va_get (D := D) (ci := 7) (v := .int mSlot) (C := "OnceNamedModel") (T := TX7) (N := 34) hx hb hts (fun w h => List.mem_cons_of_mem _ (inX7 w h)) hown hK hP 0 rfl rfl 32 (by decide) (hts _ (List.mem_cons_of_mem _ kw_1017)) (fun _ h9 => h9) rfl dMd_fail_5 ?_
  refine lv_iload_n hx hb dMd_fail_8 rfl (lv_at hl 1 rfl) ?_
  have ho := hw.1
  have hw := hw.2
  refine va_iast hx hb hK hP hD hS 1 0 rfl rfl ho dMd_fail_9 (fun H locs hP hD hS => ?_)
  have hP : va_P D vwCl (wdMd_fail cA cB bd N mThrown mReached mForm mSlot mOver (upd mFailed (Int32.toNatClampNeg mSlot) v1)) H := hP
  have hD : va_D A (wdMd_fail cA cB bd N mThrown mReached mForm mSlot mOver (upd mFailed (Int32.toNatClampNeg mSlot) v1)) := hD
  refine lv_aload_n hx hb dMd_fail_10 rfl (lv_at hl 0 rfl) ?_
  refine lv_iconst (v := 1) hx hb dMd_fail_11 (by decide) ?_
  refine va_put (D := D) (ci := 7) (v := .int (bI true)) (ty := .boolean) (C := "OnceNamedModel") (T := TX7) (N := 34) hx hb hts (fun w h => List.mem_cons_of_mem _ (inX7 w h)) tyX7 tyX7_ok nmX7 hown hK hP hD hS 0 rfl rfl 33 (by decide) (hts _ (List.mem_cons_of_mem _ kw_1018)) (fun _ h9 => h9) rfl (by decide +kernel) (bI_nar _) (bI_fit _) (Nat.le_of_ble_eq_true rfl) dMd_fail_12 (fun H locs hP hD hS => ?_)
  have hP : va_P D vwCl (wdMd_fail cA cB bd N mThrown mReached mForm mSlot true (upd mFailed (Int32.toNatClampNeg mSlot) v1)) H := hP
  have hD : va_D A (wdMd_fail cA cB bd N mThrown mReached mForm mSlot true (upd mFailed (Int32.toNatClampNeg mSlot) v1)) := hD
  exact hend true (upd mFailed (Int32.toNatClampNeg mSlot) v1) _ _ _ _ dMd_fail_15 hP hD hS hw
abbrev wdMd_say (cA : ClassId) (cB : ClassId) (bd : Nat → Nat) (N : Nat) (mThrown : Int32) (mReached : Int32) (mForm : Bool) (mSlot : Int32) (mOver : Bool) (mSaid : Nat → Int32) (mSaidCount : Nat → Int32) (mFailed : Nat → Int32) : va_W := [((bd 0), .inr (7, [.int mThrown, .int (nI N), .ref (bd 1), .ref (bd 2), .ref (bd 3), .ref (bd 4), .ref (bd 5), .ref (bd 6), .ref (bd 7), .ref (bd 8), .ref (bd 9), .ref (bd 10), .int mReached, .ref (bd 11), .int (bI mForm), .ref (bd 12), .ref (bd 13), .ref (bd 14), .ref (bd 15), .ref (bd 16), .ref (bd 17), .ref (bd 18), .ref (bd 19), .ref (bd 20), .ref (bd 21), .ref (bd 22), .ref (bd 23), .ref (bd 24), .ref (bd 25), .ref (bd 26), .ref (bd 27), .ref (bd 28), .int mSlot, .int (bI mOver)])), ((bd 23), .inl (cA, 150, .inl mSaid)), ((bd 24), .inl (cA, 3, .inl mSaidCount)), ((bd 25), .inl (cA, 3, .inl mFailed))]
abbrev qcMd_say (D : va_G) (cA : ClassId) (cB : ClassId) (bd : Nat → Nat) (N : Nat) (mThrown : Int32) (mReached : Int32) (mForm : Bool) (mSlot : Int32) (mOver : Bool) (mSaid : Nat → Int32) (mSaidCount : Nat → Int32) (mFailed : Nat → Int32) (post : Bool → (Nat → Int32) → (Nat → Int32) → (Nat → Int32) → Prop) (A : Nat → Prop) : Array Value → State → Outcome → State → Prop := va_Qv (S := (Bool) × (Nat → Int32) × (Nat → Int32) × (Nat → Int32)) (fun u => post u.1 u.2.1 u.2.2.1 u.2.2.2) (fun u t => xB D [(cA, .int), (cB, .boolean)] A (wdMd_say cA cB bd N mThrown mReached mForm mSlot u.1 u.2.1 u.2.2.1 u.2.2.2) t) A
abbrev rmMd_say : Room := { frames := 1, cells := 0, slots := 0, locals := 21 }
set_option maxHeartbeats 4000000 in
set_option maxRecDepth 100000 in
theorem ktMd_say (l : Launch) (D : va_G) (cA : ClassId) (cB : ClassId) (bd : Nat → Nat) (N : Nat) (sz : Nat) (mThrown : Int32) (mReached : Int32) (mForm : Bool) (mSlot : Int32) (mOver : Bool) (mSaid : Nat → Int32) (mSaidCount : Nat → Int32) (mFailed : Nat → Int32) (v1 : Int32) (post : Bool → (Nat → Int32) → (Nat → Int32) → (Nat → Int32) → Prop) (hw : wpMd_say mSlot mOver mSaid mSaidCount mFailed v1 post) : Met l yMd_say (Cond.code yMd_say cMd_say 2 none :: xW) rmMd_say (va_Pc [.ref (bd 0), .int v1] (xPc D [(cA, .int), (cB, .boolean)] (wdMd_say cA cB bd N mThrown mReached mForm mSlot mOver mSaid mSaidCount mFailed) sz)) (qcMd_say D cA cB bd N mThrown mReached mForm mSlot mOver mSaid mSaidCount mFailed post (va_A (wdMd_say cA cB bd N mThrown mReached mForm mSlot mOver mSaid mSaidCount mFailed) sz)) 0 0 (va_A (wdMd_say cA cB bd N mThrown mReached mForm mSlot mOver mSaid mSaidCount mFailed) sz) := by
  refine Met.ofW (cc := cMd_say) (maxL := 2) (ret := none) (by decide) rfl ?_
  intro p e s m args below meth c s₁ B hml hv
  obtain ⟨rfl, hsz, hP, hK, hD0, hN⟩ := hv
  have hx := B.exec
  have hb := B.bytes
  have hr := B.returns
  have hts := atoms_spec (ws := (Cond.code yMd_say cMd_say 2 none :: xW)) B.pre
  have hown : s.vm.findClass "OnceNamedModel" = some m.cls := findClass_of_methodNamed B.named
  have hlocks := B.notSynchronized
  subst hsz
  have hD := hD0.self (sz := s.heap.size)
  generalize hAe : va_A (wdMd_say cA cB bd N mThrown mReached mForm mSlot mOver mSaid mSaidCount mFailed) s.heap.size = A at hD ⊢
  have hA : ∀ q : Nat, s.heap.size ≤ q → A q := fun q h => by rw [← hAe]; exact Or.inr h
  have hS : va_S A s.heap s.heap [] := va_S.rf
  have hend : ∀ (u0 : Bool) (u1 : Nat → Int32) (u2 : Nat → Int32) (u3 : Nat → Int32) (H : Heap) (locs : List Loc) (pc : Nat) (ls : Array Slot), decode cMd_say pc = .ok (.return_, 1) → va_P D vwCl (wdMd_say cA cB bd N mThrown mReached mForm mSlot u0 u1 u2 u3) H → va_D A (wdMd_say cA cB bd N mThrown mReached mForm mSlot u0 u1 u2 u3) → va_S A s.heap H locs → post u0 u1 u2 u3 → W p l e (headSpec (Cond.code yMd_say cMd_say 2 none :: xW) rmMd_say).room s m ([.ref (bd 0), .int v1] : List Value).toArray below meth c H locs 0 0 (MQ below (qcMd_say D cA cB bd N mThrown mReached mForm mSlot mOver mSaid mSaidCount mFailed post A) ([.ref (bd 0), .int v1] : List Value).toArray s 0 0 A) (F0 m pc ls []) := fun u0 u1 u2 u3 H locs pc ls hd hP hD hS hw => W.vret hx hb hr (fun t ht hW => ⟨⟨(u0, u1, u2, u3), rfl, hw, ⟨by rw [ht]; exact hP, va_K.moved hW.alike hK, hD⟩⟩, hS.F ht⟩) hS.2.2 hd
  generalize hQ : MQ below (qcMd_say D cA cB bd N mThrown mReached mForm mSlot mOver mSaid mSaidCount mFailed post A) ([.ref (bd 0), .int v1] : List Value).toArray s 0 0 A = Q at hend ⊢
  have hl := lv_entry ([.ref (bd 0), .int v1]) (n := 2) (Nat.le_of_ble_eq_true rfl)
  rw [lg_entry_eq]
  generalize (lg_sl ([.ref (bd 0), .int v1]) ++ List.replicate (2 - (lg_sl ([.ref (bd 0), .int v1])).length) Slot.unset).toArray = ls at hl ⊢
  have hl : lv_has ls 2 [(0, .ref (bd 0)), (1, .int v1)] := hl
  unfold wpMd_say at hw
  refine lv_aload_n hx hb dMd_say_0 rfl (lv_at hl 0 rfl) ?_
  refine va_get (D := D) (ci := 7) (v := .ref (bd 24)) (C := "OnceNamedModel") (T := TX7) (N := 34) hx hb hts (fun w h => List.mem_cons_of_mem _ (inX7 w h)) hown hK hP 0 rfl rfl 27 (by decide) (hts _ (List.mem_cons_of_mem _ kw_1012)) (fun _ h9 => h9) rfl dMd_say_1 ?_
  refine lv_aload_n hx hb dMd_say_4 rfl (lv_at hl 0 rfl) ?_
  refine va_get (D := D) (ci := 7) (v := .int mSlot) (C := "OnceNamedModel") (T := TX7) (N := 34) hx hb hts (fun w h => List.mem_cons_of_mem _ (inX7 w h)) hown hK hP 0 rfl rfl 32 (by decide) (hts _ (List.mem_cons_of_mem _ kw_1017)) (fun _ h9 => h9) rfl dMd_say_5 ?_
  have ho := hw.1
  have hw := hw.2
  refine va_iald hx hb hK hP 2 0 rfl rfl ho dMd_say_8 ?_
  refine lv_bipush (v := 50) hx hb dMd_say_9 (by decide) ?_
  refine lv_icmp_ne (tgt := 22) hx hb dMd_say_11 rfl (fun hc => ?_) (fun hc => ?_)
  · have hw := hw.1 hc
    refine lv_aload_n hx hb dMd_say_22 rfl (lv_at hl 0 rfl) ?_
    refine va_get (D := D) (ci := 7) (v := .ref (bd 23)) (C := "OnceNamedModel") (T := TX7) (N := 34) hx hb hts (fun w h => List.mem_cons_of_mem _ (inX7 w h)) hown hK hP 0 rfl rfl 26 (by decide) (hts _ (List.mem_cons_of_mem _ kw_1011)) (fun _ h9 => h9) rfl dMd_say_23 ?_
    refine lv_bipush (v := 50) hx hb dMd_say_26 (by decide) ?_
    refine lv_aload_n hx hb dMd_say_28 rfl (lv_at hl 0 rfl) ?_
    refine va_get (D := D) (ci := 7) (v := .int mSlot) (C := "OnceNamedModel") (T := TX7) (N := 34) hx hb hts (fun w h => List.mem_cons_of_mem _ (inX7 w h)) hown hK hP 0 rfl rfl 32 (by decide) (hts _ (List.mem_cons_of_mem _ kw_1017)) (fun _ h9 => h9) rfl dMd_say_29 ?_
    refine lv_imul hx hb dMd_say_32 ?_
    refine lv_aload_n hx hb dMd_say_33 rfl (lv_at hl 0 rfl) ?_
    refine va_get (D := D) (ci := 7) (v := .ref (bd 24)) (C := "OnceNamedModel") (T := TX7) (N := 34) hx hb hts (fun w h => List.mem_cons_of_mem _ (inX7 w h)) hown hK hP 0 rfl rfl 27 (by decide) (hts _ (List.mem_cons_of_mem _ kw_1012)) (fun _ h9 => h9) rfl dMd_say_34 ?_
    refine lv_aload_n hx hb dMd_say_37 rfl (lv_at hl 0 rfl) ?_
    refine va_get (D := D) (ci := 7) (v := .int mSlot) (C := "OnceNamedModel") (T := TX7) (N := 34) hx hb hts (fun w h => List.mem_cons_of_mem _ (inX7 w h)) hown hK hP 0 rfl rfl 32 (by decide) (hts _ (List.mem_cons_of_mem _ kw_1017)) (fun _ h9 => h9) rfl dMd_say_38 ?_
    have ho := hw.1
    have hw := hw.2
    refine va_iald hx hb hK hP 2 0 rfl rfl ho dMd_say_41 ?_
    refine lv_iadd hx hb dMd_say_42 ?_
    refine lv_iload_n hx hb dMd_say_43 rfl (lv_at hl 1 rfl) ?_
    have ho := hw.1
    have hw := hw.2
    refine va_iast hx hb hK hP hD hS 1 0 rfl rfl ho dMd_say_44 (fun H locs hP hD hS => ?_)
    have hP : va_P D vwCl (wdMd_say cA cB bd N mThrown mReached mForm mSlot mOver (upd mSaid (Int32.toNatClampNeg ((50 * mSlot) + (mSaidCount (Int32.toNatClampNeg mSlot)))) v1) mSaidCount mFailed) H := hP
    have hD : va_D A (wdMd_say cA cB bd N mThrown mReached mForm mSlot mOver (upd mSaid (Int32.toNatClampNeg ((50 * mSlot) + (mSaidCount (Int32.toNatClampNeg mSlot)))) v1) mSaidCount mFailed) := hD
    refine lv_aload_n hx hb dMd_say_45 rfl (lv_at hl 0 rfl) ?_
    refine va_get (D := D) (ci := 7) (v := .ref (bd 24)) (C := "OnceNamedModel") (T := TX7) (N := 34) hx hb hts (fun w h => List.mem_cons_of_mem _ (inX7 w h)) hown hK hP 0 rfl rfl 27 (by decide) (hts _ (List.mem_cons_of_mem _ kw_1012)) (fun _ h9 => h9) rfl dMd_say_46 ?_
    refine lv_aload_n hx hb dMd_say_49 rfl (lv_at hl 0 rfl) ?_
    refine va_get (D := D) (ci := 7) (v := .int mSlot) (C := "OnceNamedModel") (T := TX7) (N := 34) hx hb hts (fun w h => List.mem_cons_of_mem _ (inX7 w h)) hown hK hP 0 rfl rfl 32 (by decide) (hts _ (List.mem_cons_of_mem _ kw_1017)) (fun _ h9 => h9) rfl dMd_say_50 ?_
    refine lv_dup2_11 hx hb dMd_say_53 rfl rfl ?_
    have ho := hw.1
    have hw := hw.2
    refine va_iald hx hb hK hP 2 0 rfl rfl ho dMd_say_54 ?_
    refine lv_iconst (v := 1) hx hb dMd_say_55 (by decide) ?_
    refine lv_iadd hx hb dMd_say_56 ?_
    have ho := hw.1
    have hw := hw.2
    refine va_iast hx hb hK hP hD hS 2 0 rfl rfl ho dMd_say_57 (fun H locs hP hD hS => ?_)
    have hP : va_P D vwCl (wdMd_say cA cB bd N mThrown mReached mForm mSlot mOver (upd mSaid (Int32.toNatClampNeg ((50 * mSlot) + (mSaidCount (Int32.toNatClampNeg mSlot)))) v1) (upd mSaidCount (Int32.toNatClampNeg mSlot) ((mSaidCount (Int32.toNatClampNeg mSlot)) + 1)) mFailed) H := hP
    have hD : va_D A (wdMd_say cA cB bd N mThrown mReached mForm mSlot mOver (upd mSaid (Int32.toNatClampNeg ((50 * mSlot) + (mSaidCount (Int32.toNatClampNeg mSlot)))) v1) (upd mSaidCount (Int32.toNatClampNeg mSlot) ((mSaidCount (Int32.toNatClampNeg mSlot)) + 1)) mFailed) := hD
    exact hend mOver (upd mSaid (Int32.toNatClampNeg ((50 * mSlot) + (mSaidCount (Int32.toNatClampNeg mSlot)))) v1) (upd mSaidCount (Int32.toNatClampNeg mSlot) ((mSaidCount (Int32.toNatClampNeg mSlot)) + 1)) mFailed _ _ _ _ dMd_say_58 hP hD hS hw
  · have hw := hw.2 hc
    refine lv_aload_n hx hb dMd_say_14 rfl (lv_at hl 0 rfl) ?_
    refine lv_iconst (v := 2) hx hb dMd_say_15 (by decide) ?_
    refine xcv (va_runV ⟨hx, hb, hml, hown, hts⟩ (ktMd_fail l D cA cB bd N _ mThrown mReached mForm mSlot mOver mFailed 2 _ hw) (cwV 1 hts (goodV kw_1277 kw_1279 ks_5_7 kw_11 kw_1280) rfl rfl rfl (by decide +kernel) ⟨Nat.le_of_ble_eq_true rfl, Nat.le_of_ble_eq_true rfl⟩) (xpreV hK hP hD hN [0, 3] rfl rfl 0 rfl rfl) rfl rfl hl.1 rfl (lv_room (Nat.le_of_ble_eq_true rfl)) dMd_say_16 ⟨Nat.le_of_ble_eq_true rfl, Nat.le_of_ble_eq_true rfl⟩) hP hD hS hA [0, 3] [1, 2] rfl rfl rfl rfl [2, 0, 1, 3] rfl (fun _ => rfl) (fun u H locs hw hP hD hS => ?_)
    obtain ⟨mOver_16, mFailed_16⟩ := u
    try dsimp only at hw
    have hP : va_P D vwCl (wdMd_say cA cB bd N mThrown mReached mForm mSlot mOver_16 mSaid mSaidCount mFailed_16) H := hP
    have hD : va_D A (wdMd_say cA cB bd N mThrown mReached mForm mSlot mOver_16 mSaid mSaidCount mFailed_16) := hD
    refine lv_goto (tgt := 58) hx hb dMd_say_19 rfl ?_
    exact hend mOver_16 mSaid mSaidCount mFailed_16 _ _ _ _ dMd_say_58 hP hD hS hw
