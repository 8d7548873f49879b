abbrev wdArrays_fill (cA : ClassId) (ad : Nat → Nat) (N : Nat) (R0a : Nat) (R0n : Nat) (R0c : Nat → Int32) : va_W := [(R0a, .inl (cA, R0n, .inl R0c))]
abbrev qcArrays_fill (D : va_G) (cA : ClassId) (ad : Nat → Nat) (N : Nat) (R0a : Nat) (R0n : Nat) (R0c : Nat → Int32) (post : (Nat → Int32) → Prop) (A : Nat → Prop) : Array Value → State → Outcome → State → Prop := va_Qv (S := (Nat → Int32)) (fun u => post u) (fun u t => xB D [(cA, .int)] A (wdArrays_fill cA ad N R0a R0n u) t) A
abbrev rmArrays_fill : Room := { frames := 0, cells := 0, slots := 0, locals := 0 }
set_option maxHeartbeats 4000000 in
set_option maxRecDepth 100000 in
theorem ktArrays_fill (l : Launch) (D : va_G) (cA : ClassId) (ad : Nat → Nat) (N : Nat) (R0a : Nat) (R0n : Nat) (sz : Nat) (R0c : Nat → Int32) (v1 : Int32) (post : (Nat → Int32) → Prop) (hw : wpArrays_fill R0n R0c v1 post) : Met l yArrays_fill (Cond.code yArrays_fill cArrays_fill 4 none :: xW) rmArrays_fill (va_Pc [.ref R0a, .int v1] (xPc D [(cA, .int)] (wdArrays_fill cA ad N R0a R0n R0c) sz)) (qcArrays_fill D cA ad N R0a R0n R0c post (va_A (wdArrays_fill cA ad N R0a R0n R0c) sz)) 0 0 (va_A (wdArrays_fill cA ad N R0a R0n R0c) sz) := by
  refine va_MetF (cc := cArrays_fill) (maxL := 4) (ret := none) (by decide) rfl ?_
  intro p e s m args below meth c s₁ B hml hv
  obtain ⟨rfl, hsz, hP, hK, hD0, hN⟩ := hv
  have hx := B.exec
  have hb := B.bytes
  have hr := B.returns
  have hts := atoms_spec (ws := (Cond.code yArrays_fill cArrays_fill 4 none :: xW)) B.pre
  have hown : s.vm.findClass "java/util/Arrays" = some m.cls := findClass_of_methodNamed B.named
  have hlocks := B.notSynchronized
  subst hsz
  have hD := hD0.self (sz := s.heap.size)
  generalize hAe : va_A (wdArrays_fill cA ad N R0a R0n R0c) s.heap.size = A at hD ⊢
  have hA : ∀ q : Nat, s.heap.size ≤ q → A q := fun q h => by rw [← hAe]; exact Or.inr h
  have hS : va_S A s.heap s.heap [] := va_S.rf
  have hend : ∀ (u0 : Nat → Int32) (H : Heap) (locs : List Loc) (pc : Nat) (ls : Array Slot), decode cArrays_fill pc = .ok (.return_, 1) → va_P D vwCl (wdArrays_fill cA ad N R0a R0n u0) H → va_D A (wdArrays_fill cA ad N R0a R0n u0) → va_S A s.heap H locs → post u0 → W p l e (headSpec (Cond.code yArrays_fill cArrays_fill 4 none :: xW) rmArrays_fill).room s m ([.ref R0a, .int v1] : List Value).toArray below meth c H locs 0 0 (MQ below (qcArrays_fill D cA ad N R0a R0n R0c post A) ([.ref R0a, .int v1] : List Value).toArray s 0 0 A) (F0 m pc ls []) := fun u0 H locs pc ls hd hP hD hS hw => W.vret hx hb hr (fun t ht hW => ⟨⟨u0, rfl, hw, ⟨by rw [ht]; exact hP, va_K.moved hW.alike hK, hD⟩⟩, hS.F ht⟩) hS.2.2 hd
  generalize hQ : MQ below (qcArrays_fill D cA ad N R0a R0n R0c post A) ([.ref R0a, .int v1] : List Value).toArray s 0 0 A = Q at hend ⊢
  have hl := lv_entry ([.ref R0a, .int v1]) (n := 4) (Nat.le_of_ble_eq_true rfl)
  rw [lg_entry_eq]
  generalize (lg_sl ([.ref R0a, .int v1]) ++ List.replicate (4 - (lg_sl ([.ref R0a, .int v1])).length) Slot.unset).toArray = ls at hl ⊢
  have hl : lv_has ls 4 [(0, .ref R0a), (1, .int v1)] := hl
  unfold wpArrays_fill at hw
  refine lv_iconst (v := 0) hx hb dArrays_fill_0 (by decide) ?_
  refine lv_istore_n (lv' := [(2, .int 0), (0, .ref R0a), (1, .int v1)]) hx hb dArrays_fill_1 rfl hl (by decide) rfl (fun ls hl => ?_)
  refine lv_aload_n hx hb dArrays_fill_2 rfl (lv_at hl 1 rfl) ?_
  refine va_alen (v := nI R0n) hx hb hK hP 0 0 rfl rfl rfl dArrays_fill_3 ?_
  refine lv_topi (fun v3_4 e_v3_4 => ?_)
  have hw := hw v3_4 e_v3_4
  refine lv_istore_n (lv' := [(3, .int v3_4), (2, .int 0), (0, .ref R0a), (1, .int v1)]) hx hb dArrays_fill_4 rfl hl (by decide) rfl (fun ls hl => ?_)
  obtain ⟨k5, hw⟩ := hw
  have hlp5 : ∀ (k : Nat), ∀ (v2_L5 : Int32) (R0c_L5 : Nat → Int32) (ls : Array Slot) (H : Heap) (locs : List Loc), lv_has ls 4 [(0, .ref R0a), (1, .int v1), (2, .int v2_L5), (3, .int v3_4)] → va_P D vwCl (wdArrays_fill cA ad N R0a R0n R0c_L5) H → va_D A (wdArrays_fill cA ad N R0a R0n R0c_L5) → va_S A s.heap H locs → lpArrays_fill_5 R0n v1 v3_4 post k v2_L5 R0c_L5 → W p l e (headSpec (Cond.code yArrays_fill cArrays_fill 4 none :: xW) rmArrays_fill).room s m ([.ref R0a, .int v1] : List Value).toArray below meth c H locs 0 0 Q (F0 m 5 ls []) := by
    intro k
    induction k with
    | zero => intro v2_L5 R0c_L5 ls H locs hl hP hD hS hw; exact False.elim hw
    | succ k ih =>
      intro v2_L5 R0c_L5 ls H locs hl hP hD hS hw
      refine lv_iload_n hx hb dArrays_fill_5 rfl (lv_at hl 2 rfl) ?_
      refine lv_iload_n hx hb dArrays_fill_6 rfl (lv_at hl 3 rfl) ?_
      refine lv_icmp_ge (tgt := 20) hx hb dArrays_fill_7 rfl (fun hc => ?_) (fun hc => ?_)
      · have hw := hw.1 hc
        exact hend R0c_L5 _ _ _ _ dArrays_fill_20 hP hD hS hw
      · have hw := hw.2 hc
        refine lv_aload_n hx hb dArrays_fill_10 rfl (lv_at hl 0 rfl) ?_
        refine lv_iload_n hx hb dArrays_fill_11 rfl (lv_at hl 2 rfl) ?_
        refine lv_iload_n hx hb dArrays_fill_12 rfl (lv_at hl 1 rfl) ?_
        have ho := hw.1
        have hw := hw.2
        refine va_iast hx hb hK hP hD hS 0 0 rfl rfl ho dArrays_fill_13 (fun H locs hP hD hS => ?_)
        have hP : va_P D vwCl (wdArrays_fill cA ad N R0a R0n (upd R0c_L5 (Int32.toNatClampNeg v2_L5) v1)) H := hP
        have hD : va_D A (wdArrays_fill cA ad N R0a R0n (upd R0c_L5 (Int32.toNatClampNeg v2_L5) v1)) := hD
        refine lv_iinc (k := 2) (v := (v2_L5 + 1)) (lv' := [(2, .int (v2_L5 + 1)), (0, .ref R0a), (1, .int v1), (3, .int v3_4)]) hx hb dArrays_fill_14 hl rfl rfl (by decide) rfl (fun ls hl => ?_)
        refine lv_goto (tgt := 5) hx hb dArrays_fill_17 rfl ?_
        exact ih (v2_L5 + 1) (upd R0c_L5 (Int32.toNatClampNeg v2_L5) v1) _ _ _ (lv_sub hl [1, 2, 0, 3] rfl) hP hD hS hw
  refine hlp5 k5 0 R0c _ _ _ (lv_sub hl [2, 3, 1, 0] rfl) hP hD hS hw
abbrev wdInteger_bitCount (cA : ClassId) (ad : Nat → Nat) (N : Nat)  : va_W := []
abbrev qcInteger_bitCount (D : va_G) (cA : ClassId) (ad : Nat → Nat) (N : Nat)  (post : Int32 → Prop) (A : Nat → Prop) : Array Value → State → Outcome → State → Prop := va_Qi (S := Unit) (fun r u => post r ) (fun u t => xB D [(cA, .int)] A (wdInteger_bitCount cA ad N) t) A
abbrev rmInteger_bitCount : Room := { frames := 0, cells := 0, slots := 0, locals := 0 }
set_option maxHeartbeats 4000000 in
set_option maxRecDepth 100000 in
theorem ktInteger_bitCount (l : Launch) (D : va_G) (cA : ClassId) (ad : Nat → Nat) (N : Nat) (sz : Nat)  (v0 : Int32) (post : Int32 → Prop) (hw : wpInteger_bitCount v0 post) : Met l yInteger_bitCount (Cond.code yInteger_bitCount cInteger_bitCount 1 (some .int) :: xW) rmInteger_bitCount (va_Pc [.int v0] (xPc D [(cA, .int)] (wdInteger_bitCount cA ad N) sz)) (qcInteger_bitCount D cA ad N  post (va_A (wdInteger_bitCount cA ad N) sz)) 0 0 (va_A (wdInteger_bitCount cA ad N) sz) := by
  refine va_MetF (cc := cInteger_bitCount) (maxL := 1) (ret := (some .int)) (by decide) rfl ?_
  intro p e s m args below meth c s₁ B hml hv
  obtain ⟨rfl, hsz, hP, hK, hD0, hN⟩ := hv
  have hx := B.exec
  have hb := B.bytes
  have hr := B.returns
  have hts := atoms_spec (ws := (Cond.code yInteger_bitCount cInteger_bitCount 1 (some .int) :: xW)) B.pre
  have hown : s.vm.findClass "java/lang/Integer" = some m.cls := findClass_of_methodNamed B.named
  have hlocks := B.notSynchronized
  subst hsz
  have hD := hD0.self (sz := s.heap.size)
  generalize hAe : va_A (wdInteger_bitCount cA ad N) s.heap.size = A at hD ⊢
  have hA : ∀ q : Nat, s.heap.size ≤ q → A q := fun q h => by rw [← hAe]; exact Or.inr h
  have hS : va_S A s.heap s.heap [] := va_S.rf
  have hend : ∀ (r : Int32)  (H : Heap) (locs : List Loc) (pc : Nat) (ls : Array Slot), decode cInteger_bitCount pc = .ok (.ireturn, 1) → va_P D vwCl (wdInteger_bitCount cA ad N) H → va_D A (wdInteger_bitCount cA ad N) → va_S A s.heap H locs → post r  → W p l e (headSpec (Cond.code yInteger_bitCount cInteger_bitCount 1 (some .int) :: xW) rmInteger_bitCount).room s m ([.int v0] : List Value).toArray below meth c H locs 0 0 (MQ below (qcInteger_bitCount D cA ad N  post A) ([.int v0] : List Value).toArray s 0 0 A) (F0 m pc ls [.int r]) := fun r  H locs pc ls hd hP hD hS hw => W.iret (v := r) hx hb hr (fun t ht hW => ⟨⟨r, (), rfl, hw, ⟨by rw [ht]; exact hP, va_K.moved hW.alike hK, hD⟩⟩, hS.F ht⟩) hS.2.2 hd
  generalize hQ : MQ below (qcInteger_bitCount D cA ad N  post A) ([.int v0] : List Value).toArray s 0 0 A = Q at hend ⊢
  have hl := lv_entry ([.int v0]) (n := 1) (Nat.le_of_ble_eq_true rfl)
  rw [lg_entry_eq]
  generalize (lg_sl ([.int v0]) ++ List.replicate (1 - (lg_sl ([.int v0])).length) Slot.unset).toArray = ls at hl ⊢
  have hl : lv_has ls 1 [(0, .int v0)] := hl
  unfold wpInteger_bitCount at hw
  refine lv_iload_n hx hb dInteger_bitCount_0 rfl (lv_at hl 0 rfl) ?_
  refine lv_iload_n hx hb dInteger_bitCount_1 rfl (lv_at hl 0 rfl) ?_
  refine lv_iconst (v := 1) hx hb dInteger_bitCount_2 (by decide) ?_
  refine lv_iushr (v := (v0.toUInt32 >>> ((1 : Int32).toUInt32 &&& Int32.toUInt32 31)).toInt32) hx hb dInteger_bitCount_3 rfl ?_
  refine lv_ldcw (v := 1431655765) hx hb hown (hts _ (List.mem_cons_of_mem _ kw_256)) dInteger_bitCount_4 ?_
  refine lv_iand hx hb dInteger_bitCount_7 ?_
  refine lv_isub hx hb dInteger_bitCount_8 ?_
  refine lv_topi (fun v0_9 e_v0_9 => ?_)
  have hw := hw v0_9 e_v0_9
  refine lv_istore_n (lv' := [(0, .int v0_9)]) hx hb dInteger_bitCount_9 rfl hl (by decide) rfl (fun ls hl => ?_)
  refine lv_iload_n hx hb dInteger_bitCount_10 rfl (lv_at hl 0 rfl) ?_
  refine lv_ldcw (v := 858993459) hx hb hown (hts _ (List.mem_cons_of_mem _ kw_257)) dInteger_bitCount_11 ?_
  refine lv_iand hx hb dInteger_bitCount_14 ?_
  refine lv_iload_n hx hb dInteger_bitCount_15 rfl (lv_at hl 0 rfl) ?_
  refine lv_iconst (v := 2) hx hb dInteger_bitCount_16 (by decide) ?_
  refine lv_iushr (v := (v0_9.toUInt32 >>> ((2 : Int32).toUInt32 &&& Int32.toUInt32 31)).toInt32) hx hb dInteger_bitCount_17 rfl ?_
  refine lv_ldcw (v := 858993459) hx hb hown (hts _ (List.mem_cons_of_mem _ kw_257)) dInteger_bitCount_18 ?_
  refine lv_iand hx hb dInteger_bitCount_21 ?_
  refine lv_iadd hx hb dInteger_bitCount_22 ?_
  refine lv_topi (fun v0_23 e_v0_23 => ?_)
  have hw := hw v0_23 e_v0_23
  refine lv_istore_n (lv' := [(0, .int v0_23)]) hx hb dInteger_bitCount_23 rfl hl (by decide) rfl (fun ls hl => ?_)
  refine lv_iload_n hx hb dInteger_bitCount_24 rfl (lv_at hl 0 rfl) ?_
  refine lv_iload_n hx hb dInteger_bitCount_25 rfl (lv_at hl 0 rfl) ?_
  refine lv_iconst (v := 4) hx hb dInteger_bitCount_26 (by decide) ?_
  refine lv_iushr (v := (v0_23.toUInt32 >>> ((4 : Int32).toUInt32 &&& Int32.toUInt32 31)).toInt32) hx hb dInteger_bitCount_27 rfl ?_
  refine lv_iadd hx hb dInteger_bitCount_28 ?_
  refine lv_ldcw (v := 252645135) hx hb hown (hts _ (List.mem_cons_of_mem _ kw_258)) dInteger_bitCount_29 ?_
  refine lv_iand hx hb dInteger_bitCount_32 ?_
  refine lv_topi (fun v0_33 e_v0_33 => ?_)
  have hw := hw v0_33 e_v0_33
  refine lv_istore_n (lv' := [(0, .int v0_33)]) hx hb dInteger_bitCount_33 rfl hl (by decide) rfl (fun ls hl => ?_)
  refine lv_iload_n hx hb dInteger_bitCount_34 rfl (lv_at hl 0 rfl) ?_
  refine lv_iload_n hx hb dInteger_bitCount_35 rfl (lv_at hl 0 rfl) ?_
  refine lv_bipush (v := 8) hx hb dInteger_bitCount_36 (by decide) ?_
  refine lv_iushr (v := (v0_33.toUInt32 >>> ((8 : Int32).toUInt32 &&& Int32.toUInt32 31)).toInt32) hx hb dInteger_bitCount_38 rfl ?_
  refine lv_iadd hx hb dInteger_bitCount_39 ?_
  refine lv_topi (fun v0_40 e_v0_40 => ?_)
  have hw := hw v0_40 e_v0_40
  refine lv_istore_n (lv' := [(0, .int v0_40)]) hx hb dInteger_bitCount_40 rfl hl (by decide) rfl (fun ls hl => ?_)
  refine lv_iload_n hx hb dInteger_bitCount_41 rfl (lv_at hl 0 rfl) ?_
  refine lv_iload_n hx hb dInteger_bitCount_42 rfl (lv_at hl 0 rfl) ?_
  refine lv_bipush (v := 16) hx hb dInteger_bitCount_43 (by decide) ?_
  refine lv_iushr (v := (v0_40.toUInt32 >>> ((16 : Int32).toUInt32 &&& Int32.toUInt32 31)).toInt32) hx hb dInteger_bitCount_45 rfl ?_
  refine lv_iadd hx hb dInteger_bitCount_46 ?_
  refine lv_topi (fun v0_47 e_v0_47 => ?_)
  have hw := hw v0_47 e_v0_47
  refine lv_istore_n (lv' := [(0, .int v0_47)]) hx hb dInteger_bitCount_47 rfl hl (by decide) rfl (fun ls hl => ?_)
  refine lv_iload_n hx hb dInteger_bitCount_48 rfl (lv_at hl 0 rfl) ?_
  refine lv_bipush (v := 63) hx hb dInteger_bitCount_49 (by decide) ?_
  refine lv_iand hx hb dInteger_bitCount_51 ?_
  exact hend (v0_47 &&& 63) _ _ _ _ dInteger_bitCount_52 hP hD hS hw
abbrev wdOn_has (cA : ClassId) (ad : Nat → Nat) (N : Nat)  : va_W := []
abbrev qcOn_has (D : va_G) (cA : ClassId) (ad : Nat → Nat) (N : Nat)  (post : Bool → Prop) (A : Nat → Prop) : Array Value → State → Outcome → State → Prop := va_Qi (S := Unit) (fun r u => ∃ z : Bool, r = bI z ∧ post z ) (fun u t => xB D [(cA, .int)] A (wdOn_has cA ad N) t) A
abbrev rmOn_has : Room := { frames := 0, cells := 0, slots := 0, locals := 0 }
set_option maxHeartbeats 4000000 in
set_option maxRecDepth 100000 in
theorem ktOn_has (l : Launch) (D : va_G) (cA : ClassId) (ad : Nat → Nat) (N : Nat) (sz : Nat)  (v0 : Int32) (v1 : Int32) (post : Bool → Prop) (hw : wpOn_has v0 v1 post) : Met l yOn_has (Cond.code yOn_has cOn_has 2 (some .boolean) :: xW) rmOn_has (va_Pc [.int v0, .int v1] (xPc D [(cA, .int)] (wdOn_has cA ad N) sz)) (qcOn_has D cA ad N  post (va_A (wdOn_has cA ad N) sz)) 0 0 (va_A (wdOn_has cA ad N) sz) := by
  refine Met.ofW (cc := cOn_has) (maxL := 2) (ret := (some .boolean)) (by decide) rfl ?_
  intro p e s m args below meth c s₁ B hml hv
  obtain ⟨rfl, hsz, hP, hK, hD0, hN⟩ := hv
  have hx := B.exec
  have hb := B.bytes
  have hr := B.returns
  have hts := atoms_spec (ws := (Cond.code yOn_has cOn_has 2 (some .boolean) :: xW)) B.pre
  have hown : s.vm.findClass "OnceNamed" = some m.cls := findClass_of_methodNamed B.named
  have hlocks := B.notSynchronized
  subst hsz
  have hD := hD0.self (sz := s.heap.size)
  generalize hAe : va_A (wdOn_has cA ad N) s.heap.size = A at hD ⊢
  have hA : ∀ q : Nat, s.heap.size ≤ q → A q := fun q h => by rw [← hAe]; exact Or.inr h
  have hS : va_S A s.heap s.heap [] := va_S.rf
  have hend : ∀ (r : Bool)  (H : Heap) (locs : List Loc) (pc : Nat) (ls : Array Slot), decode cOn_has pc = .ok (.ireturn, 1) → va_P D vwCl (wdOn_has cA ad N) H → va_D A (wdOn_has cA ad N) → va_S A s.heap H locs → post r  → W p l e (headSpec (Cond.code yOn_has cOn_has 2 (some .boolean) :: xW) rmOn_has).room s m ([.int v0, .int v1] : List Value).toArray below meth c H locs 0 0 (MQ below (qcOn_has D cA ad N  post A) ([.int v0, .int v1] : List Value).toArray s 0 0 A) (F0 m pc ls [.int (bI r)]) := fun r  H locs pc ls hd hP hD hS hw => W.zret (v := bI r) hx hb hr (bI_nar r) (fun t ht hW => ⟨⟨bI r, (), rfl, ⟨r, rfl, hw⟩, ⟨by rw [ht]; exact hP, va_K.moved hW.alike hK, hD⟩⟩, hS.F ht⟩) hS.2.2 hd
  generalize hQ : MQ below (qcOn_has D cA ad N  post A) ([.int v0, .int v1] : List Value).toArray s 0 0 A = Q at hend ⊢
  have hl := lv_entry ([.int v0, .int v1]) (n := 2) (Nat.le_of_ble_eq_true rfl)
  rw [lg_entry_eq]
  generalize (lg_sl ([.int v0, .int v1]) ++ List.replicate (2 - (lg_sl ([.int v0, .int v1])).length) Slot.unset).toArray = ls at hl ⊢
  have hl : lv_has ls 2 [(0, .int v0), (1, .int v1)] := hl
  unfold wpOn_has at hw
  refine lv_iload_n hx hb dOn_has_0 rfl (lv_at hl 0 rfl) ?_
  refine lv_iload_n hx hb dOn_has_1 rfl (lv_at hl 1 rfl) ?_
  refine lv_ishr hx hb dOn_has_2 ?_
  refine lv_iconst (v := 1) hx hb dOn_has_3 (by decide) ?_
  refine lv_iand hx hb dOn_has_4 ?_
  refine lv_if_eq (tgt := 12) hx hb dOn_has_5 rfl (fun hc => ?_) (fun hc => ?_)
  · have hw := hw.1 hc
    refine lv_iconst (v := 0) hx hb dOn_has_12 (by decide) ?_
    exact hend false _ _ _ _ dOn_has_13 hP hD hS hw
  · have hw := hw.2 hc
    refine lv_iconst (v := 1) hx hb dOn_has_8 (by decide) ?_
    refine lv_goto (tgt := 13) hx hb dOn_has_9 rfl ?_
    exact hend true _ _ _ _ dOn_has_13 hP hD hS hw
