abbrev wdNamedForm_nameStep (cA : ClassId) (ad : Nat → Nat) (N : Nat) (kind : Nat → Int32) (target : Nat → Int32) (first : Nat → Int32) (second : Nat → Int32) (stepNames : Nat → Int32) (firstUses : Nat → Int32) (secondUses : Nat → Int32) (lastNames : Nat → Int32) (namesOf : Nat → Int32) (homeBlock : Nat → Int32) (homePlace : Nat → Int32) : va_W := [((ad 1), .inr (1, [.int (nI N), .ref (ad 2), .ref (ad 3), .ref (ad 4), .ref (ad 5), .ref (ad 6), .ref (ad 7), .ref (ad 8), .ref (ad 9), .ref (ad 10)])), ((ad 3), .inl (cA, N * 6, .inl kind)), ((ad 4), .inl (cA, N * 6, .inl target)), ((ad 5), .inl (cA, N * 6, .inl first)), ((ad 6), .inl (cA, N * 6, .inl second)), ((ad 18), .inr (3, [.ref (ad 1), .ref (ad 11), .int (nI N), .ref (ad 19), .ref (ad 20), .ref (ad 21), .ref (ad 22), .ref (ad 23), .ref (ad 24), .ref (ad 25), .ref (ad 26), .ref (ad 27), .ref (ad 28), .ref (ad 29)])), ((ad 21), .inl (cA, N * 6, .inl stepNames)), ((ad 22), .inl (cA, N * 6, .inl firstUses)), ((ad 23), .inl (cA, N * 6, .inl secondUses)), ((ad 25), .inl (cA, (N + 1) * 6, .inl lastNames)), ((ad 26), .inl (cA, 6, .inl namesOf)), ((ad 27), .inl (cA, 600, .inl homeBlock)), ((ad 28), .inl (cA, 600, .inl homePlace))]
abbrev qcNamedForm_nameStep (D : va_G) (cA : ClassId) (ad : Nat → Nat) (N : Nat) (kind : Nat → Int32) (target : Nat → Int32) (first : Nat → Int32) (second : Nat → Int32) (stepNames : Nat → Int32) (firstUses : Nat → Int32) (secondUses : Nat → Int32) (lastNames : Nat → Int32) (namesOf : Nat → Int32) (homeBlock : Nat → Int32) (homePlace : Nat → Int32) (post : (Nat → Int32) → (Nat → Int32) → (Nat → Int32) → (Nat → Int32) → (Nat → Int32) → (Nat → Int32) → (Nat → Int32) → Prop) (A : Nat → Prop) : Array Value → State → Outcome → State → Prop := va_Qv (S := (Nat → Int32) × (Nat → Int32) × (Nat → Int32) × (Nat → Int32) × (Nat → Int32) × (Nat → Int32) × (Nat → Int32)) (fun u => post u.1 u.2.1 u.2.2.1 u.2.2.2.1 u.2.2.2.2.1 u.2.2.2.2.2.1 u.2.2.2.2.2.2) (fun u t => xB D [(cA, .int)] A (wdNamedForm_nameStep cA ad N kind target first second u.1 u.2.1 u.2.2.1 u.2.2.2.1 u.2.2.2.2.1 u.2.2.2.2.2.1 u.2.2.2.2.2.2) t) A
abbrev rmNamedForm_nameStep : Room := { frames := 2, cells := 0, slots := 0, locals := 43 }
set_option maxHeartbeats 4000000 in
set_option maxRecDepth 100000 in
theorem ktNamedForm_nameStep (l : Launch) (D : va_G) (cA : ClassId) (ad : Nat → Nat) (N : Nat) (sz : Nat) (kind : Nat → Int32) (target : Nat → Int32) (first : Nat → Int32) (second : Nat → Int32) (stepNames : Nat → Int32) (firstUses : Nat → Int32) (secondUses : Nat → Int32) (lastNames : Nat → Int32) (namesOf : Nat → Int32) (homeBlock : Nat → Int32) (homePlace : Nat → Int32) (v1 : Int32) (v2 : Int32) (post : (Nat → Int32) → (Nat → Int32) → (Nat → Int32) → (Nat → Int32) → (Nat → Int32) → (Nat → Int32) → (Nat → Int32) → Prop) (hw : wpNamedForm_nameStep N kind target first second stepNames firstUses secondUses lastNames namesOf homeBlock homePlace v1 v2 post) : Met l yNamedForm_nameStep (Cond.code yNamedForm_nameStep cNamedForm_nameStep 5 none :: xW) rmNamedForm_nameStep (va_Pc [.ref (ad 18), .int v1, .int v2] (xPc D [(cA, .int)] (wdNamedForm_nameStep cA ad N kind target first second stepNames firstUses secondUses lastNames namesOf homeBlock homePlace) sz)) (qcNamedForm_nameStep D cA ad N kind target first second stepNames firstUses secondUses lastNames namesOf homeBlock homePlace post (va_A (wdNamedForm_nameStep cA ad N kind target first second stepNames firstUses secondUses lastNames namesOf homeBlock homePlace) sz)) 0 0 (va_A (wdNamedForm_nameStep cA ad N kind target first second stepNames firstUses secondUses lastNames namesOf homeBlock homePlace) sz) := by
  refine Met.ofW (cc := cNamedForm_nameStep) (maxL := 5) (ret := none) (by decide) rfl ?_
  intro p e s m args below meth c s₁ B hml hv
  obtain ⟨rfl, hsz, hP, hK, hD0, hN⟩ := hv
  have hx := B.exec
  have hb := B.bytes
  have hr := B.returns
  have hts := atoms_spec (ws := (Cond.code yNamedForm_nameStep cNamedForm_nameStep 5 none :: xW)) B.pre
  have hown : s.vm.findClass "OnceNamed$NamedForm" = some m.cls := findClass_of_methodNamed B.named
  have hlocks := B.notSynchronized
  subst hsz
  have hD := hD0.self (sz := s.heap.size)
  generalize hAe : va_A (wdNamedForm_nameStep cA ad N kind target first second stepNames firstUses secondUses lastNames namesOf homeBlock homePlace) s.heap.size = A at hD ⊢
  have hA : ∀ q : Nat, s.heap.size ≤ q → A q := fun q h => by rw [← hAe]; exact Or.inr h
  have hS : va_S A s.heap s.heap [] := va_S.rf
  have hend : ∀ (u0 : Nat → Int32) (u1 : Nat → Int32) (u2 : Nat → Int32) (u3 : Nat → Int32) (u4 : Nat → Int32) (u5 : Nat → Int32) (u6 : Nat → Int32) (H : Heap) (locs : List Loc) (pc : Nat) (ls : Array Slot), decode cNamedForm_nameStep pc = .ok (.return_, 1) → va_P D vwCl (wdNamedForm_nameStep cA ad N kind target first second u0 u1 u2 u3 u4 u5 u6) H → va_D A (wdNamedForm_nameStep cA ad N kind target first second u0 u1 u2 u3 u4 u5 u6) → va_S A s.heap H locs → post u0 u1 u2 u3 u4 u5 u6 → W p l e (headSpec (Cond.code yNamedForm_nameStep cNamedForm_nameStep 5 none :: xW) rmNamedForm_nameStep).room s m ([.ref (ad 18), .int v1, .int v2] : List Value).toArray below meth c H locs 0 0 (MQ below (qcNamedForm_nameStep D cA ad N kind target first second stepNames firstUses secondUses lastNames namesOf homeBlock homePlace post A) ([.ref (ad 18), .int v1, .int v2] : List Value).toArray s 0 0 A) (F0 m pc ls []) := fun u0 u1 u2 u3 u4 u5 u6 H locs pc ls hd hP hD hS hw => W.vret hx hb hr (fun t ht hW => ⟨⟨(u0, u1, u2, u3, u4, u5, u6), rfl, hw, ⟨by rw [ht]; exact hP, va_K.moved hW.alike hK, hD⟩⟩, hS.F ht⟩) hS.2.2 hd
  generalize hQ : MQ below (qcNamedForm_nameStep D cA ad N kind target first second stepNames firstUses secondUses lastNames namesOf homeBlock homePlace post A) ([.ref (ad 18), .int v1, .int v2] : List Value).toArray s 0 0 A = Q at hend ⊢
  have hl := lv_entry ([.ref (ad 18), .int v1, .int v2]) (n := 5) (Nat.le_of_ble_eq_true rfl)
  rw [lg_entry_eq]
  generalize (lg_sl ([.ref (ad 18), .int v1, .int v2]) ++ List.replicate (5 - (lg_sl ([.ref (ad 18), .int v1, .int v2])).length) Slot.unset).toArray = ls at hl ⊢
  have hl : lv_has ls 5 [(0, .ref (ad 18)), (1, .int v1), (2, .int v2)] := hl
  unfold wpNamedForm_nameStep at hw
  refine lv_iload_n hx hb dNamedForm_nameStep_0 rfl (lv_at hl 1 rfl) ?_
  refine lv_bipush (v := 6) hx hb dNamedForm_nameStep_1 (by decide) ?_
  refine lv_imul hx hb dNamedForm_nameStep_3 ?_
  refine lv_iload_n hx hb dNamedForm_nameStep_4 rfl (lv_at hl 2 rfl) ?_
  refine lv_iadd hx hb dNamedForm_nameStep_5 ?_
  refine lv_topi (fun v3_6 e_v3_6 => ?_)
  have hw := hw v3_6 e_v3_6
  refine lv_istore_n (lv' := [(3, .int v3_6), (0, .ref (ad 18)), (1, .int v1), (2, .int v2)]) hx hb dNamedForm_nameStep_6 rfl hl (by decide) rfl (fun ls hl => ?_)
  refine lv_aload_n hx hb dNamedForm_nameStep_7 rfl (lv_at hl 1 rfl) ?_
  refine va_get (D := D) (ci := 3) (v := .ref (ad 22)) (C := "OnceNamed$NamedForm") (T := TX3) (N := 14) hx hb hts (fun w h => List.mem_cons_of_mem _ (inX3 w h)) hown hK hP 5 rfl rfl 6 (by decide) (hts _ (List.mem_cons_of_mem _ kw_126)) (fun _ h9 => h9) rfl dNamedForm_nameStep_8 ?_
  refine lv_iload_n hx hb dNamedForm_nameStep_11 rfl (lv_at hl 0 rfl) ?_
  refine lv_aload_n hx hb dNamedForm_nameStep_12 rfl (lv_at hl 1 rfl) ?_
  refine lv_iload_n hx hb dNamedForm_nameStep_13 rfl (lv_at hl 2 rfl) ?_
  refine lv_aload_n hx hb dNamedForm_nameStep_14 rfl (lv_at hl 1 rfl) ?_
  refine va_get (D := D) (ci := 3) (v := .ref (ad 1)) (C := "OnceNamed$NamedForm") (T := TX3) (N := 14) hx hb hts (fun w h => List.mem_cons_of_mem _ (inX3 w h)) hown hK hP 5 rfl rfl 0 (by decide) (hts _ (List.mem_cons_of_mem _ kw_120)) (fun _ h9 => h9) rfl dNamedForm_nameStep_15 ?_
  refine lv_iload_n hx hb dNamedForm_nameStep_18 rfl (lv_at hl 2 rfl) ?_
  refine lv_iload_n hx hb dNamedForm_nameStep_19 rfl (lv_at hl 3 rfl) ?_
  refine xci (va_runV ⟨hx, hb, hml, hown, hts⟩ (ktProgram_firstVariable l D cA ad N _ kind first v1 v2 _ hw) (cwV 2 hts (goodV kw_362 kw_363 kw_364 kw_3 kw_365) rfl rfl rfl (by decide +kernel) ⟨Nat.le_of_ble_eq_true rfl, Nat.le_of_ble_eq_true rfl⟩) (xpreV hK hP hD hN [0, 1, 3] rfl rfl 0 rfl rfl) rfl rfl hl.1 rfl (lv_room (Nat.le_of_ble_eq_true rfl)) dNamedForm_nameStep_20 ⟨Nat.le_of_ble_eq_true rfl, Nat.le_of_ble_eq_true rfl⟩) hP hD hS hA [0, 1, 3] [2, 4, 5, 6, 7, 8, 9, 10, 11, 12] rfl rfl rfl rfl [10, 11, 0, 12, 1, 2, 3, 4, 5, 6, 7, 8, 9] rfl (fun _ => rfl) (fun r20 u H locs hw hP hD hS => ?_)
  have hP : va_P D vwCl (wdNamedForm_nameStep cA ad N kind target first second stepNames firstUses secondUses lastNames namesOf homeBlock homePlace) H := hP
  have hD : va_D A (wdNamedForm_nameStep cA ad N kind target first second stepNames firstUses secondUses lastNames namesOf homeBlock homePlace) := hD
  refine xci (va_runV ⟨hx, hb, hml, hown, hts⟩ (ktNamedForm_lastName l D cA ad N _ lastNames v1 r20 _ hw) (cwV 2 hts (goodV kw_369 kw_371 ks_1_10 kw_6 kw_372) rfl rfl rfl (by decide +kernel) ⟨Nat.le_of_ble_eq_true rfl, Nat.le_of_ble_eq_true rfl⟩) (xpreV hK hP hD hN [5, 9] rfl rfl 5 rfl rfl) rfl rfl hl.1 rfl (lv_room (Nat.le_of_ble_eq_true rfl)) dNamedForm_nameStep_23 ⟨Nat.le_of_ble_eq_true rfl, Nat.le_of_ble_eq_true rfl⟩) hP hD hS hA [5, 9] [0, 1, 2, 3, 4, 6, 7, 8, 10, 11, 12] rfl rfl rfl rfl [0, 1, 2, 3, 4, 11, 5, 6, 7, 12, 8, 9, 10] rfl (fun _ => rfl) (fun r23 u H locs hw hP hD hS => ?_)
  have hP : va_P D vwCl (wdNamedForm_nameStep cA ad N kind target first second stepNames firstUses secondUses lastNames namesOf homeBlock homePlace) H := hP
  have hD : va_D A (wdNamedForm_nameStep cA ad N kind target first second stepNames firstUses secondUses lastNames namesOf homeBlock homePlace) := hD
  have ho := hw.1
  have hw := hw.2
  refine va_iast hx hb hK hP hD hS 7 0 rfl rfl ho dNamedForm_nameStep_26 (fun H locs hP hD hS => ?_)
  have hP : va_P D vwCl (wdNamedForm_nameStep cA ad N kind target first second stepNames (upd firstUses (Int32.toNatClampNeg v3_6) r23) secondUses lastNames namesOf homeBlock homePlace) H := hP
  have hD : va_D A (wdNamedForm_nameStep cA ad N kind target first second stepNames (upd firstUses (Int32.toNatClampNeg v3_6) r23) secondUses lastNames namesOf homeBlock homePlace) := hD
  refine lv_aload_n hx hb dNamedForm_nameStep_27 rfl (lv_at hl 1 rfl) ?_
  refine va_get (D := D) (ci := 3) (v := .ref (ad 23)) (C := "OnceNamed$NamedForm") (T := TX3) (N := 14) hx hb hts (fun w h => List.mem_cons_of_mem _ (inX3 w h)) hown hK hP 5 rfl rfl 7 (by decide) (hts _ (List.mem_cons_of_mem _ kw_127)) (fun _ h9 => h9) rfl dNamedForm_nameStep_28 ?_
  refine lv_iload_n hx hb dNamedForm_nameStep_31 rfl (lv_at hl 0 rfl) ?_
  refine lv_aload_n hx hb dNamedForm_nameStep_32 rfl (lv_at hl 1 rfl) ?_
  refine lv_iload_n hx hb dNamedForm_nameStep_33 rfl (lv_at hl 2 rfl) ?_
  refine lv_aload_n hx hb dNamedForm_nameStep_34 rfl (lv_at hl 1 rfl) ?_
  refine va_get (D := D) (ci := 3) (v := .ref (ad 1)) (C := "OnceNamed$NamedForm") (T := TX3) (N := 14) hx hb hts (fun w h => List.mem_cons_of_mem _ (inX3 w h)) hown hK hP 5 rfl rfl 0 (by decide) (hts _ (List.mem_cons_of_mem _ kw_120)) (fun _ h9 => h9) rfl dNamedForm_nameStep_35 ?_
  refine lv_iload_n hx hb dNamedForm_nameStep_38 rfl (lv_at hl 2 rfl) ?_
  refine lv_iload_n hx hb dNamedForm_nameStep_39 rfl (lv_at hl 3 rfl) ?_
  refine xci (va_runV ⟨hx, hb, hml, hown, hts⟩ (ktProgram_secondVariable l D cA ad N _ kind second v1 v2 _ hw) (cwV 2 hts (goodV kw_373 kw_374 kw_375 kw_3 kw_376) rfl rfl rfl (by decide +kernel) ⟨Nat.le_of_ble_eq_true rfl, Nat.le_of_ble_eq_true rfl⟩) (xpreV hK hP hD hN [0, 1, 4] rfl rfl 0 rfl rfl) rfl rfl hl.1 rfl (lv_room (Nat.le_of_ble_eq_true rfl)) dNamedForm_nameStep_40 ⟨Nat.le_of_ble_eq_true rfl, Nat.le_of_ble_eq_true rfl⟩) hP hD hS hA [0, 1, 4] [2, 3, 5, 6, 7, 8, 9, 10, 11, 12] rfl rfl rfl rfl [10, 11, 0, 1, 12, 2, 3, 4, 5, 6, 7, 8, 9] rfl (fun _ => rfl) (fun r40 u H locs hw hP hD hS => ?_)
  have hP : va_P D vwCl (wdNamedForm_nameStep cA ad N kind target first second stepNames (upd firstUses (Int32.toNatClampNeg v3_6) r23) secondUses lastNames namesOf homeBlock homePlace) H := hP
  have hD : va_D A (wdNamedForm_nameStep cA ad N kind target first second stepNames (upd firstUses (Int32.toNatClampNeg v3_6) r23) secondUses lastNames namesOf homeBlock homePlace) := hD
  refine xci (va_runV ⟨hx, hb, hml, hown, hts⟩ (ktNamedForm_lastName l D cA ad N _ lastNames v1 r40 _ hw) (cwV 2 hts (goodV kw_369 kw_371 ks_1_10 kw_6 kw_372) rfl rfl rfl (by decide +kernel) ⟨Nat.le_of_ble_eq_true rfl, Nat.le_of_ble_eq_true rfl⟩) (xpreV hK hP hD hN [5, 9] rfl rfl 5 rfl rfl) rfl rfl hl.1 rfl (lv_room (Nat.le_of_ble_eq_true rfl)) dNamedForm_nameStep_43 ⟨Nat.le_of_ble_eq_true rfl, Nat.le_of_ble_eq_true rfl⟩) hP hD hS hA [5, 9] [0, 1, 2, 3, 4, 6, 7, 8, 10, 11, 12] rfl rfl rfl rfl [0, 1, 2, 3, 4, 11, 5, 6, 7, 12, 8, 9, 10] rfl (fun _ => rfl) (fun r43 u H locs hw hP hD hS => ?_)
  have hP : va_P D vwCl (wdNamedForm_nameStep cA ad N kind target first second stepNames (upd firstUses (Int32.toNatClampNeg v3_6) r23) secondUses lastNames namesOf homeBlock homePlace) H := hP
  have hD : va_D A (wdNamedForm_nameStep cA ad N kind target first second stepNames (upd firstUses (Int32.toNatClampNeg v3_6) r23) secondUses lastNames namesOf homeBlock homePlace) := hD
  have ho := hw.1
  have hw := hw.2
  refine va_iast hx hb hK hP hD hS 8 0 rfl rfl ho dNamedForm_nameStep_46 (fun H locs hP hD hS => ?_)
  have hP : va_P D vwCl (wdNamedForm_nameStep cA ad N kind target first second stepNames (upd firstUses (Int32.toNatClampNeg v3_6) r23) (upd secondUses (Int32.toNatClampNeg v3_6) r43) lastNames namesOf homeBlock homePlace) H := hP
  have hD : va_D A (wdNamedForm_nameStep cA ad N kind target first second stepNames (upd firstUses (Int32.toNatClampNeg v3_6) r23) (upd secondUses (Int32.toNatClampNeg v3_6) r43) lastNames namesOf homeBlock homePlace) := hD
  refine lv_aload_n hx hb dNamedForm_nameStep_47 rfl (lv_at hl 1 rfl) ?_
  refine va_get (D := D) (ci := 3) (v := .ref (ad 1)) (C := "OnceNamed$NamedForm") (T := TX3) (N := 14) hx hb hts (fun w h => List.mem_cons_of_mem _ (inX3 w h)) hown hK hP 5 rfl rfl 0 (by decide) (hts _ (List.mem_cons_of_mem _ kw_120)) (fun _ h9 => h9) rfl dNamedForm_nameStep_48 ?_
  refine lv_iload_n hx hb dNamedForm_nameStep_51 rfl (lv_at hl 2 rfl) ?_
  refine lv_iload_n hx hb dNamedForm_nameStep_52 rfl (lv_at hl 3 rfl) ?_
  refine xci (va_runV ⟨hx, hb, hml, hown, hts⟩ (ktProgram_variableSet l D cA ad N _ kind target v1 v2 _ hw) (cwV 2 hts (goodV kw_380 kw_328 kw_329 kw_3 kw_330) rfl rfl rfl (by decide +kernel) ⟨Nat.le_of_ble_eq_true rfl, Nat.le_of_ble_eq_true rfl⟩) (xpreV hK hP hD hN [0, 1, 2] rfl rfl 0 rfl rfl) rfl rfl hl.1 rfl (lv_room (Nat.le_of_ble_eq_true rfl)) dNamedForm_nameStep_53 ⟨Nat.le_of_ble_eq_true rfl, Nat.le_of_ble_eq_true rfl⟩) hP hD hS hA [0, 1, 2] [3, 4, 5, 6, 7, 8, 9, 10, 11, 12] rfl rfl rfl rfl [10, 11, 12, 0, 1, 2, 3, 4, 5, 6, 7, 8, 9] rfl (fun _ => rfl) (fun r53 u H locs hw hP hD hS => ?_)
  have hP : va_P D vwCl (wdNamedForm_nameStep cA ad N kind target first second stepNames (upd firstUses (Int32.toNatClampNeg v3_6) r23) (upd secondUses (Int32.toNatClampNeg v3_6) r43) lastNames namesOf homeBlock homePlace) H := hP
  have hD : va_D A (wdNamedForm_nameStep cA ad N kind target first second stepNames (upd firstUses (Int32.toNatClampNeg v3_6) r23) (upd secondUses (Int32.toNatClampNeg v3_6) r43) lastNames namesOf homeBlock homePlace) := hD
  refine lv_istore (lv' := [(4, .int r53), (3, .int v3_6), (0, .ref (ad 18)), (1, .int v1), (2, .int v2)]) hx hb dNamedForm_nameStep_56 hl (by decide) rfl (fun ls hl => ?_)
  refine lv_iload hx hb dNamedForm_nameStep_58 (lv_at hl 0 rfl) ?_
  refine lv_iconst (v := (-1)) hx hb dNamedForm_nameStep_60 (by decide) ?_
  refine lv_icmp_eq (tgt := 78) hx hb dNamedForm_nameStep_61 rfl (fun hc => ?_) (fun hc => ?_)
  · have hw := hw.1 hc
    exact hend stepNames (upd firstUses (Int32.toNatClampNeg v3_6) r23) (upd secondUses (Int32.toNatClampNeg v3_6) r43) lastNames namesOf homeBlock homePlace _ _ _ _ dNamedForm_nameStep_78 hP hD hS hw
  · have hw := hw.2 hc
    refine lv_aload_n hx hb dNamedForm_nameStep_64 rfl (lv_at hl 2 rfl) ?_
    refine va_get (D := D) (ci := 3) (v := .ref (ad 21)) (C := "OnceNamed$NamedForm") (T := TX3) (N := 14) hx hb hts (fun w h => List.mem_cons_of_mem _ (inX3 w h)) hown hK hP 5 rfl rfl 5 (by decide) (hts _ (List.mem_cons_of_mem _ kw_125)) (fun _ h9 => h9) rfl dNamedForm_nameStep_65 ?_
    refine lv_iload_n hx hb dNamedForm_nameStep_68 rfl (lv_at hl 1 rfl) ?_
    refine lv_aload_n hx hb dNamedForm_nameStep_69 rfl (lv_at hl 2 rfl) ?_
    refine lv_iload hx hb dNamedForm_nameStep_70 (lv_at hl 0 rfl) ?_
    refine lv_iload_n hx hb dNamedForm_nameStep_72 rfl (lv_at hl 3 rfl) ?_
    refine lv_iload_n hx hb dNamedForm_nameStep_73 rfl (lv_at hl 4 rfl) ?_
    refine xci (va_runV ⟨hx, hb, hml, hown, hts⟩ (ktNamedForm_newName l D cA ad N _ lastNames namesOf homeBlock homePlace r53 v1 v2 _ hw) (cwV 3 hts (goodV kw_339 kw_341 ks_1_7 kw_6 kw_342) rfl rfl rfl (by decide +kernel) ⟨Nat.le_of_ble_eq_true rfl, Nat.le_of_ble_eq_true rfl⟩) (xpreV hK hP hD hN [5, 9, 10, 11, 12] rfl rfl 5 rfl rfl) rfl rfl hl.1 rfl (lv_room (Nat.le_of_ble_eq_true rfl)) dNamedForm_nameStep_74 ⟨Nat.le_of_ble_eq_true rfl, Nat.le_of_ble_eq_true rfl⟩) hP hD hS hA [5, 9, 10, 11, 12] [0, 1, 2, 3, 4, 6, 7, 8] rfl rfl rfl rfl [0, 1, 2, 3, 4, 8, 5, 6, 7, 9, 10, 11, 12] rfl (fun _ => rfl) (fun r74 u H locs hw hP hD hS => ?_)
    obtain ⟨lastNames_74, namesOf_74, homeBlock_74, homePlace_74⟩ := u
    try dsimp only at hw
    have hP : va_P D vwCl (wdNamedForm_nameStep cA ad N kind target first second stepNames (upd firstUses (Int32.toNatClampNeg v3_6) r23) (upd secondUses (Int32.toNatClampNeg v3_6) r43) lastNames_74 namesOf_74 homeBlock_74 homePlace_74) H := hP
    have hD : va_D A (wdNamedForm_nameStep cA ad N kind target first second stepNames (upd firstUses (Int32.toNatClampNeg v3_6) r23) (upd secondUses (Int32.toNatClampNeg v3_6) r43) lastNames_74 namesOf_74 homeBlock_74 homePlace_74) := hD
    have ho := hw.1
    have hw := hw.2
    refine va_iast hx hb hK hP hD hS 6 0 rfl rfl ho dNamedForm_nameStep_77 (fun H locs hP hD hS => ?_)
    have hP : va_P D vwCl (wdNamedForm_nameStep cA ad N kind target first second (upd stepNames (Int32.toNatClampNeg v3_6) r74) (upd firstUses (Int32.toNatClampNeg v3_6) r23) (upd secondUses (Int32.toNatClampNeg v3_6) r43) lastNames_74 namesOf_74 homeBlock_74 homePlace_74) H := hP
    have hD : va_D A (wdNamedForm_nameStep cA ad N kind target first second (upd stepNames (Int32.toNatClampNeg v3_6) r74) (upd firstUses (Int32.toNatClampNeg v3_6) r23) (upd secondUses (Int32.toNatClampNeg v3_6) r43) lastNames_74 namesOf_74 homeBlock_74 homePlace_74) := hD
    exact hend (upd stepNames (Int32.toNatClampNeg v3_6) r74) (upd firstUses (Int32.toNatClampNeg v3_6) r23) (upd secondUses (Int32.toNatClampNeg v3_6) r43) lastNames_74 namesOf_74 homeBlock_74 homePlace_74 _ _ _ _ dNamedForm_nameStep_78 hP hD hS hw
abbrev wdNamedForm_nameBlock (cA : ClassId) (ad : Nat → Nat) (N : Nat) (stepCount : Nat → Int32) (kind : Nat → Int32) (target : Nat → Int32) (first : Nat → Int32) (second : Nat → Int32) (forkVariable : Nat → Int32) (orderSize : Int32) (reached : Int32) (parents : Nat → Int32) (meetingNames : Nat → Int32) (stepNames : Nat → Int32) (firstUses : Nat → Int32) (secondUses : Nat → Int32) (endUses : Nat → Int32) (lastNames : Nat → Int32) (namesOf : Nat → Int32) (homeBlock : Nat → Int32) (homePlace : Nat → Int32) : va_W := [((ad 1), .inr (1, [.int (nI N), .ref (ad 2), .ref (ad 3), .ref (ad 4), .ref (ad 5), .ref (ad 6), .ref (ad 7), .ref (ad 8), .ref (ad 9), .ref (ad 10)])), ((ad 2), .inl (cA, N, .inl stepCount)), ((ad 3), .inl (cA, N * 6, .inl kind)), ((ad 4), .inl (cA, N * 6, .inl target)), ((ad 5), .inl (cA, N * 6, .inl first)), ((ad 6), .inl (cA, N * 6, .inl second)), ((ad 7), .inl (cA, N, .inl forkVariable)), ((ad 11), .inr (2, [.int (nI N), .ref (ad 12), .ref (ad 13), .ref (ad 14), .ref (ad 15), .ref (ad 16), .ref (ad 17), .int orderSize, .int reached])), ((ad 15), .inl (cA, N, .inl parents)), ((ad 18), .inr (3, [.ref (ad 1), .ref (ad 11), .int (nI N), .ref (ad 19), .ref (ad 20), .ref (ad 21), .ref (ad 22), .ref (ad 23), .ref (ad 24), .ref (ad 25), .ref (ad 26), .ref (ad 27), .ref (ad 28), .ref (ad 29)])), ((ad 19), .inl (cA, N * 6, .inl meetingNames)), ((ad 21), .inl (cA, N * 6, .inl stepNames)), ((ad 22), .inl (cA, N * 6, .inl firstUses)), ((ad 23), .inl (cA, N * 6, .inl secondUses)), ((ad 24), .inl (cA, N, .inl endUses)), ((ad 25), .inl (cA, (N + 1) * 6, .inl lastNames)), ((ad 26), .inl (cA, 6, .inl namesOf)), ((ad 27), .inl (cA, 600, .inl homeBlock)), ((ad 28), .inl (cA, 600, .inl homePlace))]
abbrev qcNamedForm_nameBlock (D : va_G) (cA : ClassId) (ad : Nat → Nat) (N : Nat) (stepCount : Nat → Int32) (kind : Nat → Int32) (target : Nat → Int32) (first : Nat → Int32) (second : Nat → Int32) (forkVariable : Nat → Int32) (orderSize : Int32) (reached : Int32) (parents : Nat → Int32) (meetingNames : Nat → Int32) (stepNames : Nat → Int32) (firstUses : Nat → Int32) (secondUses : Nat → Int32) (endUses : Nat → Int32) (lastNames : Nat → Int32) (namesOf : Nat → Int32) (homeBlock : Nat → Int32) (homePlace : Nat → Int32) (post : (Nat → Int32) → (Nat → Int32) → (Nat → Int32) → (Nat → Int32) → (Nat → Int32) → (Nat → Int32) → (Nat → Int32) → (Nat → Int32) → (Nat → Int32) → Prop) (A : Nat → Prop) : Array Value → State → Outcome → State → Prop := va_Qv (S := (Nat → Int32) × (Nat → Int32) × (Nat → Int32) × (Nat → Int32) × (Nat → Int32) × (Nat → Int32) × (Nat → Int32) × (Nat → Int32) × (Nat → Int32)) (fun u => post u.1 u.2.1 u.2.2.1 u.2.2.2.1 u.2.2.2.2.1 u.2.2.2.2.2.1 u.2.2.2.2.2.2.1 u.2.2.2.2.2.2.2.1 u.2.2.2.2.2.2.2.2) (fun u t => xB D [(cA, .int)] A (wdNamedForm_nameBlock cA ad N stepCount kind target first second forkVariable orderSize reached parents u.1 u.2.1 u.2.2.1 u.2.2.2.1 u.2.2.2.2.1 u.2.2.2.2.2.1 u.2.2.2.2.2.2.1 u.2.2.2.2.2.2.2.1 u.2.2.2.2.2.2.2.2) t) A
abbrev rmNamedForm_nameBlock : Room := { frames := 3, cells := 0, slots := 0, locals := 67 }
set_option maxHeartbeats 4000000 in
set_option maxRecDepth 100000 in
theorem ktNamedForm_nameBlock (l : Launch) (D : va_G) (cA : ClassId) (ad : Nat → Nat) (N : Nat) (sz : Nat) (stepCount : Nat → Int32) (kind : Nat → Int32) (target : Nat → Int32) (first : Nat → Int32) (second : Nat → Int32) (forkVariable : Nat → Int32) (orderSize : Int32) (reached : Int32) (parents : Nat → Int32) (meetingNames : Nat → Int32) (stepNames : Nat → Int32) (firstUses : Nat → Int32) (secondUses : Nat → Int32) (endUses : Nat → Int32) (lastNames : Nat → Int32) (namesOf : Nat → Int32) (homeBlock : Nat → Int32) (homePlace : Nat → Int32) (v1 : Int32) (post : (Nat → Int32) → (Nat → Int32) → (Nat → Int32) → (Nat → Int32) → (Nat → Int32) → (Nat → Int32) → (Nat → Int32) → (Nat → Int32) → (Nat → Int32) → Prop) (hw : wpNamedForm_nameBlock N stepCount kind target first second forkVariable parents meetingNames stepNames firstUses secondUses endUses lastNames namesOf homeBlock homePlace v1 post) : Met l yNamedForm_nameBlock (Cond.code yNamedForm_nameBlock cNamedForm_nameBlock 4 none :: xW) rmNamedForm_nameBlock (va_Pc [.ref (ad 18), .int v1] (xPc D [(cA, .int)] (wdNamedForm_nameBlock cA ad N stepCount kind target first second forkVariable orderSize reached parents meetingNames stepNames firstUses secondUses endUses lastNames namesOf homeBlock homePlace) sz)) (qcNamedForm_nameBlock D cA ad N stepCount kind target first second forkVariable orderSize reached parents meetingNames stepNames firstUses secondUses endUses lastNames namesOf homeBlock homePlace post (va_A (wdNamedForm_nameBlock cA ad N stepCount kind target first second forkVariable orderSize reached parents meetingNames stepNames firstUses secondUses endUses lastNames namesOf homeBlock homePlace) sz)) 0 0 (va_A (wdNamedForm_nameBlock cA ad N stepCount kind target first second forkVariable orderSize reached parents meetingNames stepNames firstUses secondUses endUses lastNames namesOf homeBlock homePlace) sz) := by
  refine Met.ofW (cc := cNamedForm_nameBlock) (maxL := 4) (ret := none) (by decide) rfl ?_
  intro p e s m args below meth c s₁ B hml hv
  obtain ⟨rfl, hsz, hP, hK, hD0, hN⟩ := hv
  have hx := B.exec
  have hb := B.bytes
  have hr := B.returns
  have hts := atoms_spec (ws := (Cond.code yNamedForm_nameBlock cNamedForm_nameBlock 4 none :: xW)) B.pre
  have hown : s.vm.findClass "OnceNamed$NamedForm" = some m.cls := findClass_of_methodNamed B.named
  have hlocks := B.notSynchronized
  subst hsz
  have hD := hD0.self (sz := s.heap.size)
  generalize hAe : va_A (wdNamedForm_nameBlock cA ad N stepCount kind target first second forkVariable orderSize reached parents meetingNames stepNames firstUses secondUses endUses lastNames namesOf homeBlock homePlace) s.heap.size = A at hD ⊢
  have hA : ∀ q : Nat, s.heap.size ≤ q → A q := fun q h => by rw [← hAe]; exact Or.inr h
  have hS : va_S A s.heap s.heap [] := va_S.rf
  have hend : ∀ (u0 : Nat → Int32) (u1 : Nat → Int32) (u2 : Nat → Int32) (u3 : Nat → Int32) (u4 : Nat → Int32) (u5 : Nat → Int32) (u6 : Nat → Int32) (u7 : Nat → Int32) (u8 : Nat → Int32) (H : Heap) (locs : List Loc) (pc : Nat) (ls : Array Slot), decode cNamedForm_nameBlock pc = .ok (.return_, 1) → va_P D vwCl (wdNamedForm_nameBlock cA ad N stepCount kind target first second forkVariable orderSize reached parents u0 u1 u2 u3 u4 u5 u6 u7 u8) H → va_D A (wdNamedForm_nameBlock cA ad N stepCount kind target first second forkVariable orderSize reached parents u0 u1 u2 u3 u4 u5 u6 u7 u8) → va_S A s.heap H locs → post u0 u1 u2 u3 u4 u5 u6 u7 u8 → W p l e (headSpec (Cond.code yNamedForm_nameBlock cNamedForm_nameBlock 4 none :: xW) rmNamedForm_nameBlock).room s m ([.ref (ad 18), .int v1] : List Value).toArray below meth c H locs 0 0 (MQ below (qcNamedForm_nameBlock D cA ad N stepCount kind target first second forkVariable orderSize reached parents meetingNames stepNames firstUses secondUses endUses lastNames namesOf homeBlock homePlace post A) ([.ref (ad 18), .int v1] : List Value).toArray s 0 0 A) (F0 m pc ls []) := fun u0 u1 u2 u3 u4 u5 u6 u7 u8 H locs pc ls hd hP hD hS hw => W.vret hx hb hr (fun t ht hW => ⟨⟨(u0, u1, u2, u3, u4, u5, u6, u7, u8), rfl, hw, ⟨by rw [ht]; exact hP, va_K.moved hW.alike hK, hD⟩⟩, hS.F ht⟩) hS.2.2 hd
  generalize hQ : MQ below (qcNamedForm_nameBlock D cA ad N stepCount kind target first second forkVariable orderSize reached parents meetingNames stepNames firstUses secondUses endUses lastNames namesOf homeBlock homePlace post A) ([.ref (ad 18), .int v1] : List Value).toArray s 0 0 A = Q at hend ⊢
  have hl := lv_entry ([.ref (ad 18), .int v1]) (n := 4) (Nat.le_of_ble_eq_true rfl)
  rw [lg_entry_eq]
  generalize (lg_sl ([.ref (ad 18), .int v1]) ++ List.replicate (4 - (lg_sl ([.ref (ad 18), .int v1])).length) Slot.unset).toArray = ls at hl ⊢
  have hl : lv_has ls 4 [(0, .ref (ad 18)), (1, .int v1)] := hl
  unfold wpNamedForm_nameBlock at hw
  refine lv_aload_n hx hb dNamedForm_nameBlock_0 rfl (lv_at hl 0 rfl) ?_
  refine va_get (D := D) (ci := 3) (v := .ref (ad 11)) (C := "OnceNamed$NamedForm") (T := TX3) (N := 14) hx hb hts (fun w h => List.mem_cons_of_mem _ (inX3 w h)) hown hK hP 9 rfl rfl 1 (by decide) (hts _ (List.mem_cons_of_mem _ kw_121)) (fun _ h9 => h9) rfl dNamedForm_nameBlock_1 ?_
  refine lv_iload_n hx hb dNamedForm_nameBlock_4 rfl (lv_at hl 1 rfl) ?_
  refine xci (va_runV ⟨hx, hb, hml, hown, hts⟩ (ktGraph_parentOf l D cA ad N _ orderSize reached parents v1 _ hw) (cwV 1 hts (goodV kw_347 kw_348 kw_349 kw_5 kw_350) rfl rfl rfl (by decide +kernel) ⟨Nat.le_of_ble_eq_true rfl, Nat.le_of_ble_eq_true rfl⟩) (xpreV hK hP hD hN [7, 8] rfl rfl 7 rfl rfl) rfl rfl hl.1 rfl (lv_room (Nat.le_of_ble_eq_true rfl)) dNamedForm_nameBlock_5 ⟨Nat.le_of_ble_eq_true rfl, Nat.le_of_ble_eq_true rfl⟩) hP hD hS hA [7, 8] [0, 1, 2, 3, 4, 5, 6, 9, 10, 11, 12, 13, 14, 15, 16, 17, 18] rfl rfl rfl rfl [0, 1, 2, 3, 4, 5, 6, 17, 18, 7, 8, 9, 10, 11, 12, 13, 14, 15, 16] rfl (fun _ => rfl) (fun r5 u H locs hw hP hD hS => ?_)
  have hP : va_P D vwCl (wdNamedForm_nameBlock cA ad N stepCount kind target first second forkVariable orderSize reached parents meetingNames stepNames firstUses secondUses endUses lastNames namesOf homeBlock homePlace) H := hP
  have hD : va_D A (wdNamedForm_nameBlock cA ad N stepCount kind target first second forkVariable orderSize reached parents meetingNames stepNames firstUses secondUses endUses lastNames namesOf homeBlock homePlace) := hD
  refine lv_istore_n (lv' := [(2, .int r5), (0, .ref (ad 18)), (1, .int v1)]) hx hb dNamedForm_nameBlock_8 rfl hl (by decide) rfl (fun ls hl => ?_)
  refine lv_aload_n hx hb dNamedForm_nameBlock_9 rfl (lv_at hl 1 rfl) ?_
  refine va_get (D := D) (ci := 3) (v := .ref (ad 25)) (C := "OnceNamed$NamedForm") (T := TX3) (N := 14) hx hb hts (fun w h => List.mem_cons_of_mem _ (inX3 w h)) hown hK hP 9 rfl rfl 9 (by decide) (hts _ (List.mem_cons_of_mem _ kw_129)) (fun _ h9 => h9) rfl dNamedForm_nameBlock_10 ?_
  refine lv_iload_n hx hb dNamedForm_nameBlock_13 rfl (lv_at hl 0 rfl) ?_
  refine lv_bipush (v := 6) hx hb dNamedForm_nameBlock_14 (by decide) ?_
  refine lv_imul hx hb dNamedForm_nameBlock_16 ?_
  refine lv_aload_n hx hb dNamedForm_nameBlock_17 rfl (lv_at hl 1 rfl) ?_
  refine va_get (D := D) (ci := 3) (v := .ref (ad 25)) (C := "OnceNamed$NamedForm") (T := TX3) (N := 14) hx hb hts (fun w h => List.mem_cons_of_mem _ (inX3 w h)) hown hK hP 9 rfl rfl 9 (by decide) (hts _ (List.mem_cons_of_mem _ kw_129)) (fun _ h9 => h9) rfl dNamedForm_nameBlock_18 ?_
  refine lv_iload_n hx hb dNamedForm_nameBlock_21 rfl (lv_at hl 2 rfl) ?_
  refine lv_bipush (v := 6) hx hb dNamedForm_nameBlock_22 (by decide) ?_
  refine lv_imul hx hb dNamedForm_nameBlock_24 ?_
  refine lv_bipush (v := 6) hx hb dNamedForm_nameBlock_25 (by decide) ?_
  have ho1 := hw.1
  have hw := hw.2
  have ho2 := hw.1
  have hw := hw.2
  have ho3 := hw.1
  have hw := hw.2
  have ho4 := hw.1
  have hw := hw.2
  have ho5 := hw.1
  have hw := hw.2
  refine va_copyi hx hb (hml.trans hl.1.symm) hown (hts _ (List.mem_cons_of_mem _ kw_351)) (hts _ (List.mem_cons_of_mem _ kw_353)) (hts _ (List.mem_cons_of_mem _ kw_352)) (hts _ (List.mem_cons_of_mem _ kw_17)) hK hP hD hS 15 15 0 0 rfl rfl rfl rfl rfl ho1 ho2 ho3 ho4 ho5 (fun _ _ => rfl) (Nat.le_of_ble_eq_true rfl) (Nat.le_of_ble_eq_true rfl) dNamedForm_nameBlock_27 (fun H locs hP hD hS => ?_)
  have hP : va_P D vwCl (wdNamedForm_nameBlock cA ad N stepCount kind target first second forkVariable orderSize reached parents meetingNames stepNames firstUses secondUses endUses (va_cpy lastNames lastNames (Int32.toNatClampNeg (r5 * 6)) (Int32.toNatClampNeg (v1 * 6)) (Int32.toNatClampNeg 6)) namesOf homeBlock homePlace) H := hP
  have hD : va_D A (wdNamedForm_nameBlock cA ad N stepCount kind target first second forkVariable orderSize reached parents meetingNames stepNames firstUses secondUses endUses (va_cpy lastNames lastNames (Int32.toNatClampNeg (r5 * 6)) (Int32.toNatClampNeg (v1 * 6)) (Int32.toNatClampNeg 6)) namesOf homeBlock homePlace) := hD
  refine lv_iconst (v := 0) hx hb dNamedForm_nameBlock_30 (by decide) ?_
  refine lv_istore_n (lv' := [(3, .int 0), (2, .int r5), (0, .ref (ad 18)), (1, .int v1)]) hx hb dNamedForm_nameBlock_31 rfl hl (by decide) rfl (fun ls hl => ?_)
  obtain ⟨k32, hw⟩ := hw
  have hlp32 : ∀ (K77 : Int32 → (Nat → Int32) → (Nat → Int32) → (Nat → Int32) → (Nat → Int32) → (Nat → Int32) → Prop), (∀ (v3_x77 : Int32) (meetingNames_x77 : Nat → Int32) (lastNames_x77 : Nat → Int32) (namesOf_x77 : Nat → Int32) (homeBlock_x77 : Nat → Int32) (homePlace_x77 : Nat → Int32) (ls : Array Slot) (H : Heap) (locs : List Loc), lv_has ls 4 [(0, .ref (ad 18)), (1, .int v1), (2, .int r5), (3, .int v3_x77)] → va_P D vwCl (wdNamedForm_nameBlock cA ad N stepCount kind target first second forkVariable orderSize reached parents meetingNames_x77 stepNames firstUses secondUses endUses lastNames_x77 namesOf_x77 homeBlock_x77 homePlace_x77) H → va_D A (wdNamedForm_nameBlock cA ad N stepCount kind target first second forkVariable orderSize reached parents meetingNames_x77 stepNames firstUses secondUses endUses lastNames_x77 namesOf_x77 homeBlock_x77 homePlace_x77) → va_S A s.heap H locs → K77 v3_x77 meetingNames_x77 lastNames_x77 namesOf_x77 homeBlock_x77 homePlace_x77 → W p l e (headSpec (Cond.code yNamedForm_nameBlock cNamedForm_nameBlock 4 none :: xW) rmNamedForm_nameBlock).room s m ([.ref (ad 18), .int v1] : List Value).toArray below meth c H locs 0 0 Q (F0 m 77 ls [])) → ∀ (k : Nat), ∀ (v3_L32 : Int32) (meetingNames_L32 : Nat → Int32) (lastNames_L32 : Nat → Int32) (namesOf_L32 : Nat → Int32) (homeBlock_L32 : Nat → Int32) (homePlace_L32 : Nat → Int32) (ls : Array Slot) (H : Heap) (locs : List Loc), lv_has ls 4 [(0, .ref (ad 18)), (1, .int v1), (2, .int r5), (3, .int v3_L32)] → va_P D vwCl (wdNamedForm_nameBlock cA ad N stepCount kind target first second forkVariable orderSize reached parents meetingNames_L32 stepNames firstUses secondUses endUses lastNames_L32 namesOf_L32 homeBlock_L32 homePlace_L32) H → va_D A (wdNamedForm_nameBlock cA ad N stepCount kind target first second forkVariable orderSize reached parents meetingNames_L32 stepNames firstUses secondUses endUses lastNames_L32 namesOf_L32 homeBlock_L32 homePlace_L32) → va_S A s.heap H locs → lpNamedForm_nameBlock_32 N v1 K77 k v3_L32 meetingNames_L32 lastNames_L32 namesOf_L32 homeBlock_L32 homePlace_L32 → W p l e (headSpec (Cond.code yNamedForm_nameBlock cNamedForm_nameBlock 4 none :: xW) rmNamedForm_nameBlock).room s m ([.ref (ad 18), .int v1] : List Value).toArray below meth c H locs 0 0 Q (F0 m 32 ls []) := by
    intro K77 hK77 k
    induction k with
    | zero => intro v3_L32 meetingNames_L32 lastNames_L32 namesOf_L32 homeBlock_L32 homePlace_L32 ls H locs hl hP hD hS hw; exact False.elim hw
    | succ k ih =>
      intro v3_L32 meetingNames_L32 lastNames_L32 namesOf_L32 homeBlock_L32 homePlace_L32 ls H locs hl hP hD hS hw
      refine lv_iload_n hx hb dNamedForm_nameBlock_32 rfl (lv_at hl 3 rfl) ?_
      refine lv_bipush (v := 6) hx hb dNamedForm_nameBlock_33 (by decide) ?_
      refine lv_icmp_ge (tgt := 77) hx hb dNamedForm_nameBlock_35 rfl (fun hc => ?_) (fun hc => ?_)
      · have hw := hw.1 hc
        exact hK77 v3_L32 meetingNames_L32 lastNames_L32 namesOf_L32 homeBlock_L32 homePlace_L32 _ _ _ (lv_sub hl [0, 1, 2, 3] rfl) hP hD hS hw
      · have hw := hw.2 hc
        refine lv_aload_n hx hb dNamedForm_nameBlock_38 rfl (lv_at hl 0 rfl) ?_
        refine va_get (D := D) (ci := 3) (v := .ref (ad 19)) (C := "OnceNamed$NamedForm") (T := TX3) (N := 14) hx hb hts (fun w h => List.mem_cons_of_mem _ (inX3 w h)) hown hK hP 9 rfl rfl 3 (by decide) (hts _ (List.mem_cons_of_mem _ kw_123)) (fun _ h9 => h9) rfl dNamedForm_nameBlock_39 ?_
        refine lv_iload_n hx hb dNamedForm_nameBlock_42 rfl (lv_at hl 1 rfl) ?_
        refine lv_bipush (v := 6) hx hb dNamedForm_nameBlock_43 (by decide) ?_
        refine lv_imul hx hb dNamedForm_nameBlock_45 ?_
        refine lv_iload_n hx hb dNamedForm_nameBlock_46 rfl (lv_at hl 3 rfl) ?_
        refine lv_iadd hx hb dNamedForm_nameBlock_47 ?_
        have ho := hw.1
        have hw := hw.2
        refine va_iald hx hb hK hP 10 0 rfl rfl ho dNamedForm_nameBlock_48 ?_
        refine lv_iconst (v := (-1)) hx hb dNamedForm_nameBlock_49 (by decide) ?_
        refine lv_icmp_eq (tgt := 71) hx hb dNamedForm_nameBlock_50 rfl (fun hc => ?_) (fun hc => ?_)
        · have hw := hw.1 hc
          refine lv_iinc (k := 3) (v := (v3_L32 + 1)) (lv' := [(3, .int (v3_L32 + 1)), (0, .ref (ad 18)), (1, .int v1), (2, .int r5)]) hx hb dNamedForm_nameBlock_71 hl rfl rfl (by decide) rfl (fun ls hl => ?_)
          refine lv_goto (tgt := 32) hx hb dNamedForm_nameBlock_74 rfl ?_
          exact ih (v3_L32 + 1) meetingNames_L32 lastNames_L32 namesOf_L32 homeBlock_L32 homePlace_L32 _ _ _ (lv_sub hl [1, 2, 3, 0] rfl) hP hD hS hw
        · have hw := hw.2 hc
          refine lv_aload_n hx hb dNamedForm_nameBlock_53 rfl (lv_at hl 0 rfl) ?_
          refine va_get (D := D) (ci := 3) (v := .ref (ad 19)) (C := "OnceNamed$NamedForm") (T := TX3) (N := 14) hx hb hts (fun w h => List.mem_cons_of_mem _ (inX3 w h)) hown hK hP 9 rfl rfl 3 (by decide) (hts _ (List.mem_cons_of_mem _ kw_123)) (fun _ h9 => h9) rfl dNamedForm_nameBlock_54 ?_
          refine lv_iload_n hx hb dNamedForm_nameBlock_57 rfl (lv_at hl 1 rfl) ?_
          refine lv_bipush (v := 6) hx hb dNamedForm_nameBlock_58 (by decide) ?_
          refine lv_imul hx hb dNamedForm_nameBlock_60 ?_
          refine lv_iload_n hx hb dNamedForm_nameBlock_61 rfl (lv_at hl 3 rfl) ?_
          refine lv_iadd hx hb dNamedForm_nameBlock_62 ?_
          refine lv_aload_n hx hb dNamedForm_nameBlock_63 rfl (lv_at hl 0 rfl) ?_
          refine lv_iload_n hx hb dNamedForm_nameBlock_64 rfl (lv_at hl 3 rfl) ?_
          refine lv_iload_n hx hb dNamedForm_nameBlock_65 rfl (lv_at hl 1 rfl) ?_
          refine lv_iconst (v := (-1)) hx hb dNamedForm_nameBlock_66 (by decide) ?_
          refine xci (va_runV ⟨hx, hb, hml, hown, hts⟩ (ktNamedForm_newName l D cA ad N _ lastNames_L32 namesOf_L32 homeBlock_L32 homePlace_L32 v3_L32 v1 (-1) _ hw) (cwV 3 hts (goodV kw_339 kw_341 ks_1_7 kw_6 kw_342) rfl rfl rfl (by decide +kernel) ⟨Nat.le_of_ble_eq_true rfl, Nat.le_of_ble_eq_true rfl⟩) (xpreV hK hP hD hN [9, 15, 16, 17, 18] rfl rfl 9 rfl rfl) rfl rfl hl.1 rfl (lv_room (Nat.le_of_ble_eq_true rfl)) dNamedForm_nameBlock_67 ⟨Nat.le_of_ble_eq_true rfl, Nat.le_of_ble_eq_true rfl⟩) hP hD hS hA [9, 15, 16, 17, 18] [0, 1, 2, 3, 4, 5, 6, 7, 8, 10, 11, 12, 13, 14] rfl rfl rfl rfl [0, 1, 2, 3, 4, 5, 6, 7, 8, 14, 9, 10, 11, 12, 13, 15, 16, 17, 18] rfl (fun _ => rfl) (fun r67 u H locs hw hP hD hS => ?_)
          obtain ⟨lastNames_67, namesOf_67, homeBlock_67, homePlace_67⟩ := u
          try dsimp only at hw
          have hP : va_P D vwCl (wdNamedForm_nameBlock cA ad N stepCount kind target first second forkVariable orderSize reached parents meetingNames_L32 stepNames firstUses secondUses endUses lastNames_67 namesOf_67 homeBlock_67 homePlace_67) H := hP
          have hD : va_D A (wdNamedForm_nameBlock cA ad N stepCount kind target first second forkVariable orderSize reached parents meetingNames_L32 stepNames firstUses secondUses endUses lastNames_67 namesOf_67 homeBlock_67 homePlace_67) := hD
          have ho := hw.1
          have hw := hw.2
          refine va_iast hx hb hK hP hD hS 10 0 rfl rfl ho dNamedForm_nameBlock_70 (fun H locs hP hD hS => ?_)
          have hP : va_P D vwCl (wdNamedForm_nameBlock cA ad N stepCount kind target first second forkVariable orderSize reached parents (upd meetingNames_L32 (Int32.toNatClampNeg ((v1 * 6) + v3_L32)) r67) stepNames firstUses secondUses endUses lastNames_67 namesOf_67 homeBlock_67 homePlace_67) H := hP
          have hD : va_D A (wdNamedForm_nameBlock cA ad N stepCount kind target first second forkVariable orderSize reached parents (upd meetingNames_L32 (Int32.toNatClampNeg ((v1 * 6) + v3_L32)) r67) stepNames firstUses secondUses endUses lastNames_67 namesOf_67 homeBlock_67 homePlace_67) := hD
          refine lv_iinc (k := 3) (v := (v3_L32 + 1)) (lv' := [(3, .int (v3_L32 + 1)), (0, .ref (ad 18)), (1, .int v1), (2, .int r5)]) hx hb dNamedForm_nameBlock_71 hl rfl rfl (by decide) rfl (fun ls hl => ?_)
          refine lv_goto (tgt := 32) hx hb dNamedForm_nameBlock_74 rfl ?_
          exact ih (v3_L32 + 1) (upd meetingNames_L32 (Int32.toNatClampNeg ((v1 * 6) + v3_L32)) r67) lastNames_67 namesOf_67 homeBlock_67 homePlace_67 _ _ _ (lv_sub hl [1, 2, 3, 0] rfl) hP hD hS hw
  refine hlp32 _ ?_ k32 0 meetingNames (va_cpy lastNames lastNames (Int32.toNatClampNeg (r5 * 6)) (Int32.toNatClampNeg (v1 * 6)) (Int32.toNatClampNeg 6)) namesOf homeBlock homePlace _ _ _ (lv_sub hl [2, 3, 1, 0] rfl) hP hD hS hw
  intro v3_x77 meetingNames_x77 lastNames_x77 namesOf_x77 homeBlock_x77 homePlace_x77 ls H locs hl hP hD hS hw
  try dsimp only at hw
  refine lv_iconst (v := 0) hx hb dNamedForm_nameBlock_77 (by decide) ?_
  refine lv_istore_n (lv' := [(3, .int 0), (0, .ref (ad 18)), (1, .int v1), (2, .int r5)]) hx hb dNamedForm_nameBlock_78 rfl hl (by decide) rfl (fun ls hl => ?_)
  obtain ⟨k79, hw⟩ := hw
  have hlp79 : ∀ (K103 : Int32 → (Nat → Int32) → (Nat → Int32) → (Nat → Int32) → (Nat → Int32) → (Nat → Int32) → (Nat → Int32) → (Nat → Int32) → Prop), (∀ (v3_x103 : Int32) (stepNames_x103 : Nat → Int32) (firstUses_x103 : Nat → Int32) (secondUses_x103 : Nat → Int32) (lastNames_x103 : Nat → Int32) (namesOf_x103 : Nat → Int32) (homeBlock_x103 : Nat → Int32) (homePlace_x103 : Nat → Int32) (ls : Array Slot) (H : Heap) (locs : List Loc), lv_has ls 4 [(0, .ref (ad 18)), (1, .int v1), (2, .int r5), (3, .int v3_x103)] → va_P D vwCl (wdNamedForm_nameBlock cA ad N stepCount kind target first second forkVariable orderSize reached parents meetingNames_x77 stepNames_x103 firstUses_x103 secondUses_x103 endUses lastNames_x103 namesOf_x103 homeBlock_x103 homePlace_x103) H → va_D A (wdNamedForm_nameBlock cA ad N stepCount kind target first second forkVariable orderSize reached parents meetingNames_x77 stepNames_x103 firstUses_x103 secondUses_x103 endUses lastNames_x103 namesOf_x103 homeBlock_x103 homePlace_x103) → va_S A s.heap H locs → K103 v3_x103 stepNames_x103 firstUses_x103 secondUses_x103 lastNames_x103 namesOf_x103 homeBlock_x103 homePlace_x103 → W p l e (headSpec (Cond.code yNamedForm_nameBlock cNamedForm_nameBlock 4 none :: xW) rmNamedForm_nameBlock).room s m ([.ref (ad 18), .int v1] : List Value).toArray below meth c H locs 0 0 Q (F0 m 103 ls [])) → ∀ (k : Nat), ∀ (v3_L79 : Int32) (stepNames_L79 : Nat → Int32) (firstUses_L79 : Nat → Int32) (secondUses_L79 : Nat → Int32) (lastNames_L79 : Nat → Int32) (namesOf_L79 : Nat → Int32) (homeBlock_L79 : Nat → Int32) (homePlace_L79 : Nat → Int32) (ls : Array Slot) (H : Heap) (locs : List Loc), lv_has ls 4 [(0, .ref (ad 18)), (1, .int v1), (2, .int r5), (3, .int v3_L79)] → va_P D vwCl (wdNamedForm_nameBlock cA ad N stepCount kind target first second forkVariable orderSize reached parents meetingNames_x77 stepNames_L79 firstUses_L79 secondUses_L79 endUses lastNames_L79 namesOf_L79 homeBlock_L79 homePlace_L79) H → va_D A (wdNamedForm_nameBlock cA ad N stepCount kind target first second forkVariable orderSize reached parents meetingNames_x77 stepNames_L79 firstUses_L79 secondUses_L79 endUses lastNames_L79 namesOf_L79 homeBlock_L79 homePlace_L79) → va_S A s.heap H locs → lpNamedForm_nameBlock_79 N v1 stepCount kind target first second K103 k v3_L79 stepNames_L79 firstUses_L79 secondUses_L79 lastNames_L79 namesOf_L79 homeBlock_L79 homePlace_L79 → W p l e (headSpec (Cond.code yNamedForm_nameBlock cNamedForm_nameBlock 4 none :: xW) rmNamedForm_nameBlock).room s m ([.ref (ad 18), .int v1] : List Value).toArray below meth c H locs 0 0 Q (F0 m 79 ls []) := by
    intro K103 hK103 k
    induction k with
    | zero => intro v3_L79 stepNames_L79 firstUses_L79 secondUses_L79 lastNames_L79 namesOf_L79 homeBlock_L79 homePlace_L79 ls H locs hl hP hD hS hw; exact False.elim hw
    | succ k ih =>
      intro v3_L79 stepNames_L79 firstUses_L79 secondUses_L79 lastNames_L79 namesOf_L79 homeBlock_L79 homePlace_L79 ls H locs hl hP hD hS hw
      refine lv_iload_n hx hb dNamedForm_nameBlock_79 rfl (lv_at hl 3 rfl) ?_
      refine lv_aload_n hx hb dNamedForm_nameBlock_80 rfl (lv_at hl 0 rfl) ?_
      refine va_get (D := D) (ci := 3) (v := .ref (ad 1)) (C := "OnceNamed$NamedForm") (T := TX3) (N := 14) hx hb hts (fun w h => List.mem_cons_of_mem _ (inX3 w h)) hown hK hP 9 rfl rfl 0 (by decide) (hts _ (List.mem_cons_of_mem _ kw_120)) (fun _ h9 => h9) rfl dNamedForm_nameBlock_81 ?_
      refine lv_iload_n hx hb dNamedForm_nameBlock_84 rfl (lv_at hl 1 rfl) ?_
      dsimp only [lpNamedForm_nameBlock_79] at hw
      refine xci (va_runV ⟨hx, hb, hml, hown, hts⟩ (ktProgram_stepsOf l D cA ad N _ stepCount v1 _ hw) (cwV 1 hts (goodV kw_354 kw_355 kw_356 kw_3 kw_357) rfl rfl rfl (by decide +kernel) ⟨Nat.le_of_ble_eq_true rfl, Nat.le_of_ble_eq_true rfl⟩) (xpreV hK hP hD hN [0, 1] rfl rfl 0 rfl rfl) rfl rfl hl.1 rfl (lv_room (Nat.le_of_ble_eq_true rfl)) dNamedForm_nameBlock_85 ⟨Nat.le_of_ble_eq_true rfl, Nat.le_of_ble_eq_true rfl⟩) hP hD hS hA [0, 1] [2, 3, 4, 5, 6, 7, 8, 9, 10, 11, 12, 13, 14, 15, 16, 17, 18] rfl rfl rfl rfl [17, 18, 0, 1, 2, 3, 4, 5, 6, 7, 8, 9, 10, 11, 12, 13, 14, 15, 16] rfl (fun _ => rfl) (fun r85 u H locs hw hP hD hS => ?_)
      have hP : va_P D vwCl (wdNamedForm_nameBlock cA ad N stepCount kind target first second forkVariable orderSize reached parents meetingNames_x77 stepNames_L79 firstUses_L79 secondUses_L79 endUses lastNames_L79 namesOf_L79 homeBlock_L79 homePlace_L79) H := hP
      have hD : va_D A (wdNamedForm_nameBlock cA ad N stepCount kind target first second forkVariable orderSize reached parents meetingNames_x77 stepNames_L79 firstUses_L79 secondUses_L79 endUses lastNames_L79 namesOf_L79 homeBlock_L79 homePlace_L79) := hD
      refine lv_icmp_ge (tgt := 103) hx hb dNamedForm_nameBlock_88 rfl (fun hc => ?_) (fun hc => ?_)
      · have hw := hw.1 hc
        exact hK103 v3_L79 stepNames_L79 firstUses_L79 secondUses_L79 lastNames_L79 namesOf_L79 homeBlock_L79 homePlace_L79 _ _ _ (lv_sub hl [0, 1, 2, 3] rfl) hP hD hS hw
      · have hw := hw.2 hc
        refine lv_aload_n hx hb dNamedForm_nameBlock_91 rfl (lv_at hl 0 rfl) ?_
        refine lv_iload_n hx hb dNamedForm_nameBlock_92 rfl (lv_at hl 1 rfl) ?_
        refine lv_iload_n hx hb dNamedForm_nameBlock_93 rfl (lv_at hl 3 rfl) ?_
        refine xcv (va_runV ⟨hx, hb, hml, hown, hts⟩ (ktNamedForm_nameStep l D cA ad N _ kind target first second stepNames_L79 firstUses_L79 secondUses_L79 lastNames_L79 namesOf_L79 homeBlock_L79 homePlace_L79 v1 v3_L79 _ hw) (cwV 2 hts (goodV kw_358 kw_360 ks_1_9 kw_6 kw_361) rfl rfl rfl (by decide +kernel) ⟨Nat.le_of_ble_eq_true rfl, Nat.le_of_ble_eq_true rfl⟩) (xpreV hK hP hD hN [0, 2, 3, 4, 5, 9, 11, 12, 13, 15, 16, 17, 18] rfl rfl 9 rfl rfl) rfl rfl hl.1 rfl (lv_room (Nat.le_of_ble_eq_true rfl)) dNamedForm_nameBlock_94 ⟨Nat.le_of_ble_eq_true rfl, Nat.le_of_ble_eq_true rfl⟩) hP hD hS hA [0, 2, 3, 4, 5, 9, 11, 12, 13, 15, 16, 17, 18] [1, 6, 7, 8, 10, 14] rfl rfl rfl rfl [6, 0, 7, 8, 9, 10, 1, 2, 3, 11, 4, 12, 13, 14, 5, 15, 16, 17, 18] rfl (fun _ => rfl) (fun u H locs hw hP hD hS => ?_)
        obtain ⟨stepNames_94, firstUses_94, secondUses_94, lastNames_94, namesOf_94, homeBlock_94, homePlace_94⟩ := u
        try dsimp only at hw
        have hP : va_P D vwCl (wdNamedForm_nameBlock cA ad N stepCount kind target first second forkVariable orderSize reached parents meetingNames_x77 stepNames_94 firstUses_94 secondUses_94 endUses lastNames_94 namesOf_94 homeBlock_94 homePlace_94) H := hP
        have hD : va_D A (wdNamedForm_nameBlock cA ad N stepCount kind target first second forkVariable orderSize reached parents meetingNames_x77 stepNames_94 firstUses_94 secondUses_94 endUses lastNames_94 namesOf_94 homeBlock_94 homePlace_94) := hD
        refine lv_iinc (k := 3) (v := (v3_L79 + 1)) (lv' := [(3, .int (v3_L79 + 1)), (0, .ref (ad 18)), (1, .int v1), (2, .int r5)]) hx hb dNamedForm_nameBlock_97 hl rfl rfl (by decide) rfl (fun ls hl => ?_)
        refine lv_goto (tgt := 79) hx hb dNamedForm_nameBlock_100 rfl ?_
        exact ih (v3_L79 + 1) stepNames_94 firstUses_94 secondUses_94 lastNames_94 namesOf_94 homeBlock_94 homePlace_94 _ _ _ (lv_sub hl [1, 2, 3, 0] rfl) hP hD hS hw
  refine hlp79 _ ?_ k79 0 stepNames firstUses secondUses lastNames_x77 namesOf_x77 homeBlock_x77 homePlace_x77 _ _ _ (lv_sub hl [1, 2, 3, 0] rfl) hP hD hS hw
  intro v3_x103 stepNames_x103 firstUses_x103 secondUses_x103 lastNames_x103 namesOf_x103 homeBlock_x103 homePlace_x103 ls H locs hl hP hD hS hw
  try dsimp only at hw
  refine lv_aload_n hx hb dNamedForm_nameBlock_103 rfl (lv_at hl 0 rfl) ?_
  refine va_get (D := D) (ci := 3) (v := .ref (ad 24)) (C := "OnceNamed$NamedForm") (T := TX3) (N := 14) hx hb hts (fun w h => List.mem_cons_of_mem _ (inX3 w h)) hown hK hP 9 rfl rfl 8 (by decide) (hts _ (List.mem_cons_of_mem _ kw_128)) (fun _ h9 => h9) rfl dNamedForm_nameBlock_104 ?_
  refine lv_iload_n hx hb dNamedForm_nameBlock_107 rfl (lv_at hl 1 rfl) ?_
  refine lv_aload_n hx hb dNamedForm_nameBlock_108 rfl (lv_at hl 0 rfl) ?_
  refine lv_iload_n hx hb dNamedForm_nameBlock_109 rfl (lv_at hl 1 rfl) ?_
  refine lv_aload_n hx hb dNamedForm_nameBlock_110 rfl (lv_at hl 0 rfl) ?_
  refine va_get (D := D) (ci := 3) (v := .ref (ad 1)) (C := "OnceNamed$NamedForm") (T := TX3) (N := 14) hx hb hts (fun w h => List.mem_cons_of_mem _ (inX3 w h)) hown hK hP 9 rfl rfl 0 (by decide) (hts _ (List.mem_cons_of_mem _ kw_120)) (fun _ h9 => h9) rfl dNamedForm_nameBlock_111 ?_
  refine lv_iload_n hx hb dNamedForm_nameBlock_114 rfl (lv_at hl 1 rfl) ?_
  refine xci (va_runV ⟨hx, hb, hml, hown, hts⟩ (ktProgram_variableOfFork l D cA ad N _ forkVariable v1 _ hw) (cwV 1 hts (goodV kw_381 kw_382 kw_383 kw_3 kw_384) rfl rfl rfl (by decide +kernel) ⟨Nat.le_of_ble_eq_true rfl, Nat.le_of_ble_eq_true rfl⟩) (xpreV hK hP hD hN [0, 6] rfl rfl 0 rfl rfl) rfl rfl hl.1 rfl (lv_room (Nat.le_of_ble_eq_true rfl)) dNamedForm_nameBlock_115 ⟨Nat.le_of_ble_eq_true rfl, Nat.le_of_ble_eq_true rfl⟩) hP hD hS hA [0, 6] [1, 2, 3, 4, 5, 7, 8, 9, 10, 11, 12, 13, 14, 15, 16, 17, 18] rfl rfl rfl rfl [17, 0, 1, 2, 3, 4, 18, 5, 6, 7, 8, 9, 10, 11, 12, 13, 14, 15, 16] rfl (fun _ => rfl) (fun r115 u H locs hw hP hD hS => ?_)
  have hP : va_P D vwCl (wdNamedForm_nameBlock cA ad N stepCount kind target first second forkVariable orderSize reached parents meetingNames_x77 stepNames_x103 firstUses_x103 secondUses_x103 endUses lastNames_x103 namesOf_x103 homeBlock_x103 homePlace_x103) H := hP
  have hD : va_D A (wdNamedForm_nameBlock cA ad N stepCount kind target first second forkVariable orderSize reached parents meetingNames_x77 stepNames_x103 firstUses_x103 secondUses_x103 endUses lastNames_x103 namesOf_x103 homeBlock_x103 homePlace_x103) := hD
  refine xci (va_runV ⟨hx, hb, hml, hown, hts⟩ (ktNamedForm_lastName l D cA ad N _ lastNames_x103 v1 r115 _ hw) (cwV 2 hts (goodV kw_369 kw_371 ks_1_10 kw_6 kw_372) rfl rfl rfl (by decide +kernel) ⟨Nat.le_of_ble_eq_true rfl, Nat.le_of_ble_eq_true rfl⟩) (xpreV hK hP hD hN [9, 15] rfl rfl 9 rfl rfl) rfl rfl hl.1 rfl (lv_room (Nat.le_of_ble_eq_true rfl)) dNamedForm_nameBlock_118 ⟨Nat.le_of_ble_eq_true rfl, Nat.le_of_ble_eq_true rfl⟩) hP hD hS hA [9, 15] [0, 1, 2, 3, 4, 5, 6, 7, 8, 10, 11, 12, 13, 14, 16, 17, 18] rfl rfl rfl rfl [0, 1, 2, 3, 4, 5, 6, 7, 8, 17, 9, 10, 11, 12, 13, 18, 14, 15, 16] rfl (fun _ => rfl) (fun r118 u H locs hw hP hD hS => ?_)
  have hP : va_P D vwCl (wdNamedForm_nameBlock cA ad N stepCount kind target first second forkVariable orderSize reached parents meetingNames_x77 stepNames_x103 firstUses_x103 secondUses_x103 endUses lastNames_x103 namesOf_x103 homeBlock_x103 homePlace_x103) H := hP
  have hD : va_D A (wdNamedForm_nameBlock cA ad N stepCount kind target first second forkVariable orderSize reached parents meetingNames_x77 stepNames_x103 firstUses_x103 secondUses_x103 endUses lastNames_x103 namesOf_x103 homeBlock_x103 homePlace_x103) := hD
  have ho := hw.1
  have hw := hw.2
  refine va_iast hx hb hK hP hD hS 14 0 rfl rfl ho dNamedForm_nameBlock_121 (fun H locs hP hD hS => ?_)
  have hP : va_P D vwCl (wdNamedForm_nameBlock cA ad N stepCount kind target first second forkVariable orderSize reached parents meetingNames_x77 stepNames_x103 firstUses_x103 secondUses_x103 (upd endUses (Int32.toNatClampNeg v1) r118) lastNames_x103 namesOf_x103 homeBlock_x103 homePlace_x103) H := hP
  have hD : va_D A (wdNamedForm_nameBlock cA ad N stepCount kind target first second forkVariable orderSize reached parents meetingNames_x77 stepNames_x103 firstUses_x103 secondUses_x103 (upd endUses (Int32.toNatClampNeg v1) r118) lastNames_x103 namesOf_x103 homeBlock_x103 homePlace_x103) := hD
  exact hend meetingNames_x77 stepNames_x103 firstUses_x103 secondUses_x103 (upd endUses (Int32.toNatClampNeg v1) r118) lastNames_x103 namesOf_x103 homeBlock_x103 homePlace_x103 _ _ _ _ dNamedForm_nameBlock_122 hP hD hS hw
abbrev wdNamedForm_assemble (cA : ClassId) (ad : Nat → Nat) (N : Nat) (stepCount : Nat → Int32) (kind : Nat → Int32) (target : Nat → Int32) (first : Nat → Int32) (second : Nat → Int32) (forkVariable : Nat → Int32) (orderSize : Int32) (reached : Int32) (forerunners : Nat → Int32) (frontiers : Nat → Int32) (parents : Nat → Int32) (order : Nat → Int32) (meetingNames : Nat → Int32) (meetingUses : Nat → Int32) (stepNames : Nat → Int32) (firstUses : Nat → Int32) (secondUses : Nat → Int32) (endUses : Nat → Int32) (lastNames : Nat → Int32) (namesOf : Nat → Int32) (homeBlock : Nat → Int32) (homePlace : Nat → Int32) : va_W := [((ad 1), .inr (1, [.int (nI N), .ref (ad 2), .ref (ad 3), .ref (ad 4), .ref (ad 5), .ref (ad 6), .ref (ad 7), .ref (ad 8), .ref (ad 9), .ref (ad 10)])), ((ad 2), .inl (cA, N, .inl stepCount)), ((ad 3), .inl (cA, N * 6, .inl kind)), ((ad 4), .inl (cA, N * 6, .inl target)), ((ad 5), .inl (cA, N * 6, .inl first)), ((ad 6), .inl (cA, N * 6, .inl second)), ((ad 7), .inl (cA, N, .inl forkVariable)), ((ad 11), .inr (2, [.int (nI N), .ref (ad 12), .ref (ad 13), .ref (ad 14), .ref (ad 15), .ref (ad 16), .ref (ad 17), .int orderSize, .int reached])), ((ad 12), .inl (cA, N, .inl forerunners)), ((ad 14), .inl (cA, N, .inl frontiers)), ((ad 15), .inl (cA, N, .inl parents)), ((ad 16), .inl (cA, N, .inl order)), ((ad 18), .inr (3, [.ref (ad 1), .ref (ad 11), .int (nI N), .ref (ad 19), .ref (ad 20), .ref (ad 21), .ref (ad 22), .ref (ad 23), .ref (ad 24), .ref (ad 25), .ref (ad 26), .ref (ad 27), .ref (ad 28), .ref (ad 29)])), ((ad 19), .inl (cA, N * 6, .inl meetingNames)), ((ad 20), .inl (cA, N * 6 * (N + 1), .inl meetingUses)), ((ad 21), .inl (cA, N * 6, .inl stepNames)), ((ad 22), .inl (cA, N * 6, .inl firstUses)), ((ad 23), .inl (cA, N * 6, .inl secondUses)), ((ad 24), .inl (cA, N, .inl endUses)), ((ad 25), .inl (cA, (N + 1) * 6, .inl lastNames)), ((ad 26), .inl (cA, 6, .inl namesOf)), ((ad 27), .inl (cA, 600, .inl homeBlock)), ((ad 28), .inl (cA, 600, .inl homePlace))]
abbrev qcNamedForm_assemble (D : va_G) (cA : ClassId) (ad : Nat → Nat) (N : Nat) (stepCount : Nat → Int32) (kind : Nat → Int32) (target : Nat → Int32) (first : Nat → Int32) (second : Nat → Int32) (forkVariable : Nat → Int32) (orderSize : Int32) (reached : Int32) (forerunners : Nat → Int32) (frontiers : Nat → Int32) (parents : Nat → Int32) (order : Nat → Int32) (meetingNames : Nat → Int32) (meetingUses : Nat → Int32) (stepNames : Nat → Int32) (firstUses : Nat → Int32) (secondUses : Nat → Int32) (endUses : Nat → Int32) (lastNames : Nat → Int32) (namesOf : Nat → Int32) (homeBlock : Nat → Int32) (homePlace : Nat → Int32) (post : Int32 → (Nat → Int32) → (Nat → Int32) → (Nat → Int32) → (Nat → Int32) → (Nat → Int32) → (Nat → Int32) → (Nat → Int32) → (Nat → Int32) → (Nat → Int32) → (Nat → Int32) → Prop) (A : Nat → Prop) : Array Value → State → Outcome → State → Prop := va_Qi (S := (Nat → Int32) × (Nat → Int32) × (Nat → Int32) × (Nat → Int32) × (Nat → Int32) × (Nat → Int32) × (Nat → Int32) × (Nat → Int32) × (Nat → Int32) × (Nat → Int32)) (fun r u => post r u.1 u.2.1 u.2.2.1 u.2.2.2.1 u.2.2.2.2.1 u.2.2.2.2.2.1 u.2.2.2.2.2.2.1 u.2.2.2.2.2.2.2.1 u.2.2.2.2.2.2.2.2.1 u.2.2.2.2.2.2.2.2.2) (fun u t => xB D [(cA, .int)] A (wdNamedForm_assemble cA ad N stepCount kind target first second forkVariable orderSize reached forerunners frontiers parents order u.1 u.2.1 u.2.2.1 u.2.2.2.1 u.2.2.2.2.1 u.2.2.2.2.2.1 u.2.2.2.2.2.2.1 u.2.2.2.2.2.2.2.1 u.2.2.2.2.2.2.2.2.1 u.2.2.2.2.2.2.2.2.2) t) A
abbrev rmNamedForm_assemble : Room := { frames := 5, cells := 0, slots := 0, locals := 111 }
set_option maxHeartbeats 4000000 in
set_option maxRecDepth 100000 in
theorem ktNamedForm_assemble (l : Launch) (D : va_G) (cA : ClassId) (ad : Nat → Nat) (N : Nat) (sz : Nat) (stepCount : Nat → Int32) (kind : Nat → Int32) (target : Nat → Int32) (first : Nat → Int32) (second : Nat → Int32) (forkVariable : Nat → Int32) (orderSize : Int32) (reached : Int32) (forerunners : Nat → Int32) (frontiers : Nat → Int32) (parents : Nat → Int32) (order : Nat → Int32) (meetingNames : Nat → Int32) (meetingUses : Nat → Int32) (stepNames : Nat → Int32) (firstUses : Nat → Int32) (secondUses : Nat → Int32) (endUses : Nat → Int32) (lastNames : Nat → Int32) (namesOf : Nat → Int32) (homeBlock : Nat → Int32) (homePlace : Nat → Int32)  (post : Int32 → (Nat → Int32) → (Nat → Int32) → (Nat → Int32) → (Nat → Int32) → (Nat → Int32) → (Nat → Int32) → (Nat → Int32) → (Nat → Int32) → (Nat → Int32) → (Nat → Int32) → Prop) (hw : wpNamedForm_assemble N stepCount kind target first second forkVariable orderSize forerunners frontiers parents order meetingNames meetingUses stepNames firstUses secondUses endUses lastNames namesOf homeBlock homePlace post) : Met l yNamedForm_assemble (Cond.code yNamedForm_assemble cNamedForm_assemble 3 (some .int) :: xW) rmNamedForm_assemble (va_Pc [.ref (ad 18)] (xPc D [(cA, .int)] (wdNamedForm_assemble cA ad N stepCount kind target first second forkVariable orderSize reached forerunners frontiers parents order meetingNames meetingUses stepNames firstUses secondUses endUses lastNames namesOf homeBlock homePlace) sz)) (qcNamedForm_assemble D cA ad N stepCount kind target first second forkVariable orderSize reached forerunners frontiers parents order meetingNames meetingUses stepNames firstUses secondUses endUses lastNames namesOf homeBlock homePlace post (va_A (wdNamedForm_assemble cA ad N stepCount kind target first second forkVariable orderSize reached forerunners frontiers parents order meetingNames meetingUses stepNames firstUses secondUses endUses lastNames namesOf homeBlock homePlace) sz)) 0 0 (va_A (wdNamedForm_assemble cA ad N stepCount kind target first second forkVariable orderSize reached forerunners frontiers parents order meetingNames meetingUses stepNames firstUses secondUses endUses lastNames namesOf homeBlock homePlace) sz) := by
  refine Met.ofW (cc := cNamedForm_assemble) (maxL := 3) (ret := (some .int)) (by decide) rfl ?_
  intro p e s m args below meth c s₁ B hml hv
  obtain ⟨rfl, hsz, hP, hK, hD0, hN⟩ := hv
  have hx := B.exec
  have hb := B.bytes
  have hr := B.returns
  have hts := atoms_spec (ws := (Cond.code yNamedForm_assemble cNamedForm_assemble 3 (some .int) :: xW)) B.pre
  have hown : s.vm.findClass "OnceNamed$NamedForm" = some m.cls := findClass_of_methodNamed B.named
  have hlocks := B.notSynchronized
  subst hsz
  have hD := hD0.self (sz := s.heap.size)
  generalize hAe : va_A (wdNamedForm_assemble cA ad N stepCount kind target first second forkVariable orderSize reached forerunners frontiers parents order meetingNames meetingUses stepNames firstUses secondUses endUses lastNames namesOf homeBlock homePlace) s.heap.size = A at hD ⊢
  have hA : ∀ q : Nat, s.heap.size ≤ q → A q := fun q h => by rw [← hAe]; exact Or.inr h
  have hS : va_S A s.heap s.heap [] := va_S.rf
  have hend : ∀ (r : Int32) (u0 : Nat → Int32) (u1 : Nat → Int32) (u2 : Nat → Int32) (u3 : Nat → Int32) (u4 : Nat → Int32) (u5 : Nat → Int32) (u6 : Nat → Int32) (u7 : Nat → Int32) (u8 : Nat → Int32) (u9 : Nat → Int32) (H : Heap) (locs : List Loc) (pc : Nat) (ls : Array Slot), decode cNamedForm_assemble pc = .ok (.ireturn, 1) → va_P D vwCl (wdNamedForm_assemble cA ad N stepCount kind target first second forkVariable orderSize reached forerunners frontiers parents order u0 u1 u2 u3 u4 u5 u6 u7 u8 u9) H → va_D A (wdNamedForm_assemble cA ad N stepCount kind target first second forkVariable orderSize reached forerunners frontiers parents order u0 u1 u2 u3 u4 u5 u6 u7 u8 u9) → va_S A s.heap H locs → post r u0 u1 u2 u3 u4 u5 u6 u7 u8 u9 → W p l e (headSpec (Cond.code yNamedForm_assemble cNamedForm_assemble 3 (some .int) :: xW) rmNamedForm_assemble).room s m ([.ref (ad 18)] : List Value).toArray below meth c H locs 0 0 (MQ below (qcNamedForm_assemble D cA ad N stepCount kind target first second forkVariable orderSize reached forerunners frontiers parents order meetingNames meetingUses stepNames firstUses secondUses endUses lastNames namesOf homeBlock homePlace post A) ([.ref (ad 18)] : List Value).toArray s 0 0 A) (F0 m pc ls [.int r]) := fun r u0 u1 u2 u3 u4 u5 u6 u7 u8 u9 H locs pc ls hd hP hD hS hw => W.iret (v := r) hx hb hr (fun t ht hW => ⟨⟨r, (u0, u1, u2, u3, u4, u5, u6, u7, u8, u9), rfl, hw, ⟨by rw [ht]; exact hP, va_K.moved hW.alike hK, hD⟩⟩, hS.F ht⟩) hS.2.2 hd
  generalize hQ : MQ below (qcNamedForm_assemble D cA ad N stepCount kind target first second forkVariable orderSize reached forerunners frontiers parents order meetingNames meetingUses stepNames firstUses secondUses endUses lastNames namesOf homeBlock homePlace post A) ([.ref (ad 18)] : List Value).toArray s 0 0 A = Q at hend ⊢
  have hl := lv_entry ([.ref (ad 18)]) (n := 3) (Nat.le_of_ble_eq_true rfl)
  rw [lg_entry_eq]
  generalize (lg_sl ([.ref (ad 18)]) ++ List.replicate (3 - (lg_sl ([.ref (ad 18)])).length) Slot.unset).toArray = ls at hl ⊢
  have hl : lv_has ls 3 [(0, .ref (ad 18))] := hl
  unfold wpNamedForm_assemble at hw
  refine lv_aload_n hx hb dNamedForm_assemble_0 rfl (lv_at hl 0 rfl) ?_
  refine xcv (va_runV ⟨hx, hb, hml, hown, hts⟩ (ktNamedForm_forgetAll l D cA ad N _ stepCount kind target orderSize reached frontiers order meetingNames meetingUses stepNames firstUses secondUses endUses namesOf homeBlock _ hw) (cwV 0 hts (goodV kw_306 kw_308 ks_1_5 kw_6 kw_309) rfl rfl rfl (by decide +kernel) ⟨Nat.le_of_ble_eq_true rfl, Nat.le_of_ble_eq_true rfl⟩) (xpreV hK hP hD hN [0, 1, 2, 3, 7, 9, 11, 12, 13, 14, 15, 16, 17, 18, 20, 21] rfl rfl 12 rfl rfl) rfl rfl hl.1 rfl (lv_room (Nat.le_of_ble_eq_true rfl)) dNamedForm_assemble_1 ⟨Nat.le_of_ble_eq_true rfl, Nat.le_of_ble_eq_true rfl⟩) hP hD hS hA [0, 1, 2, 3, 7, 9, 11, 12, 13, 14, 15, 16, 17, 18, 20, 21] [4, 5, 6, 8, 10, 19, 22] rfl rfl rfl rfl [7, 8, 9, 10, 0, 1, 2, 11, 3, 12, 4, 13, 14, 15, 16, 17, 18, 19, 20, 5, 21, 22, 6] rfl (fun _ => rfl) (fun u H locs hw hP hD hS => ?_)
  obtain ⟨meetingNames_1, meetingUses_1, stepNames_1, firstUses_1, secondUses_1, endUses_1, namesOf_1, homeBlock_1⟩ := u
  try dsimp only at hw
  have hP : va_P D vwCl (wdNamedForm_assemble cA ad N stepCount kind target first second forkVariable orderSize reached forerunners frontiers parents order meetingNames_1 meetingUses_1 stepNames_1 firstUses_1 secondUses_1 endUses_1 lastNames namesOf_1 homeBlock_1 homePlace) H := hP
  have hD : va_D A (wdNamedForm_assemble cA ad N stepCount kind target first second forkVariable orderSize reached forerunners frontiers parents order meetingNames_1 meetingUses_1 stepNames_1 firstUses_1 secondUses_1 endUses_1 lastNames namesOf_1 homeBlock_1 homePlace) := hD
  refine lv_iconst (v := 0) hx hb dNamedForm_assemble_4 (by decide) ?_
  refine lv_istore_n (lv' := [(1, .int 0), (0, .ref (ad 18))]) hx hb dNamedForm_assemble_5 rfl hl (by decide) rfl (fun ls hl => ?_)
  obtain ⟨k6, hw⟩ := hw
  have hlp6 : ∀ (K29 : Int32 → (Nat → Int32) → (Nat → Int32) → (Nat → Int32) → (Nat → Int32) → Prop), (∀ (v1_x29 : Int32) (lastNames_x29 : Nat → Int32) (namesOf_x29 : Nat → Int32) (homeBlock_x29 : Nat → Int32) (homePlace_x29 : Nat → Int32) (ls : Array Slot) (H : Heap) (locs : List Loc), lv_has ls 3 [(0, .ref (ad 18)), (1, .int v1_x29)] → va_P D vwCl (wdNamedForm_assemble cA ad N stepCount kind target first second forkVariable orderSize reached forerunners frontiers parents order meetingNames_1 meetingUses_1 stepNames_1 firstUses_1 secondUses_1 endUses_1 lastNames_x29 namesOf_x29 homeBlock_x29 homePlace_x29) H → va_D A (wdNamedForm_assemble cA ad N stepCount kind target first second forkVariable orderSize reached forerunners frontiers parents order meetingNames_1 meetingUses_1 stepNames_1 firstUses_1 secondUses_1 endUses_1 lastNames_x29 namesOf_x29 homeBlock_x29 homePlace_x29) → va_S A s.heap H locs → K29 v1_x29 lastNames_x29 namesOf_x29 homeBlock_x29 homePlace_x29 → W p l e (headSpec (Cond.code yNamedForm_assemble cNamedForm_assemble 3 (some .int) :: xW) rmNamedForm_assemble).room s m ([.ref (ad 18)] : List Value).toArray below meth c H locs 0 0 Q (F0 m 29 ls [])) → ∀ (k : Nat), ∀ (v1_L6 : Int32) (lastNames_L6 : Nat → Int32) (namesOf_L6 : Nat → Int32) (homeBlock_L6 : Nat → Int32) (homePlace_L6 : Nat → Int32) (ls : Array Slot) (H : Heap) (locs : List Loc), lv_has ls 3 [(0, .ref (ad 18)), (1, .int v1_L6)] → va_P D vwCl (wdNamedForm_assemble cA ad N stepCount kind target first second forkVariable orderSize reached forerunners frontiers parents order meetingNames_1 meetingUses_1 stepNames_1 firstUses_1 secondUses_1 endUses_1 lastNames_L6 namesOf_L6 homeBlock_L6 homePlace_L6) H → va_D A (wdNamedForm_assemble cA ad N stepCount kind target first second forkVariable orderSize reached forerunners frontiers parents order meetingNames_1 meetingUses_1 stepNames_1 firstUses_1 secondUses_1 endUses_1 lastNames_L6 namesOf_L6 homeBlock_L6 homePlace_L6) → va_S A s.heap H locs → lpNamedForm_assemble_6 N K29 k v1_L6 lastNames_L6 namesOf_L6 homeBlock_L6 homePlace_L6 → W p l e (headSpec (Cond.code yNamedForm_assemble cNamedForm_assemble 3 (some .int) :: xW) rmNamedForm_assemble).room s m ([.ref (ad 18)] : List Value).toArray below meth c H locs 0 0 Q (F0 m 6 ls []) := by
    intro K29 hK29 k
    induction k with
    | zero => intro v1_L6 lastNames_L6 namesOf_L6 homeBlock_L6 homePlace_L6 ls H locs hl hP hD hS hw; exact False.elim hw
    | succ k ih =>
      intro v1_L6 lastNames_L6 namesOf_L6 homeBlock_L6 homePlace_L6 ls H locs hl hP hD hS hw
      refine lv_iload_n hx hb dNamedForm_assemble_6 rfl (lv_at hl 1 rfl) ?_
      refine lv_bipush (v := 6) hx hb dNamedForm_assemble_7 (by decide) ?_
      refine lv_icmp_ge (tgt := 29) hx hb dNamedForm_assemble_9 rfl (fun hc => ?_) (fun hc => ?_)
      · have hw := hw.1 hc
        exact hK29 v1_L6 lastNames_L6 namesOf_L6 homeBlock_L6 homePlace_L6 _ _ _ (lv_sub hl [0, 1] rfl) hP hD hS hw
      · have hw := hw.2 hc
        refine lv_aload_n hx hb dNamedForm_assemble_12 rfl (lv_at hl 0 rfl) ?_
        refine lv_iload_n hx hb dNamedForm_assemble_13 rfl (lv_at hl 1 rfl) ?_
        refine lv_aload_n hx hb dNamedForm_assemble_14 rfl (lv_at hl 0 rfl) ?_
        refine va_get (D := D) (ci := 3) (v := .int (nI N)) (C := "OnceNamed$NamedForm") (T := TX3) (N := 14) hx hb hts (fun w h => List.mem_cons_of_mem _ (inX3 w h)) hown hK hP 12 rfl rfl 2 (by decide) (hts _ (List.mem_cons_of_mem _ kw_122)) (fun _ h9 => h9) rfl dNamedForm_assemble_15 ?_
        refine lv_iconst (v := (-1)) hx hb dNamedForm_assemble_18 (by decide) ?_
        refine xci (va_runV ⟨hx, hb, hml, hown, hts⟩ (ktNamedForm_newName l D cA ad N _ lastNames_L6 namesOf_L6 homeBlock_L6 homePlace_L6 v1_L6 (nI N) (-1) _ hw) (cwV 3 hts (goodV kw_339 kw_341 ks_1_7 kw_6 kw_342) rfl rfl rfl (by decide +kernel) ⟨Nat.le_of_ble_eq_true rfl, Nat.le_of_ble_eq_true rfl⟩) (xpreV hK hP hD hN [12, 19, 20, 21, 22] rfl rfl 12 rfl rfl) rfl rfl hl.1 rfl (lv_room (Nat.le_of_ble_eq_true rfl)) dNamedForm_assemble_19 ⟨Nat.le_of_ble_eq_true rfl, Nat.le_of_ble_eq_true rfl⟩) hP hD hS hA [12, 19, 20, 21, 22] [0, 1, 2, 3, 4, 5, 6, 7, 8, 9, 10, 11, 13, 14, 15, 16, 17, 18] rfl rfl rfl rfl [0, 1, 2, 3, 4, 5, 6, 7, 8, 9, 10, 11, 18, 12, 13, 14, 15, 16, 17, 19, 20, 21, 22] rfl (fun _ => rfl) (fun r19 u H locs hw hP hD hS => ?_)
        obtain ⟨lastNames_19, namesOf_19, homeBlock_19, homePlace_19⟩ := u
        try dsimp only at hw
        have hP : va_P D vwCl (wdNamedForm_assemble cA ad N stepCount kind target first second forkVariable orderSize reached forerunners frontiers parents order meetingNames_1 meetingUses_1 stepNames_1 firstUses_1 secondUses_1 endUses_1 lastNames_19 namesOf_19 homeBlock_19 homePlace_19) H := hP
        have hD : va_D A (wdNamedForm_assemble cA ad N stepCount kind target first second forkVariable orderSize reached forerunners frontiers parents order meetingNames_1 meetingUses_1 stepNames_1 firstUses_1 secondUses_1 endUses_1 lastNames_19 namesOf_19 homeBlock_19 homePlace_19) := hD
        refine lv_pop hx hb dNamedForm_assemble_22 rfl ?_
        refine lv_iinc (k := 1) (v := (v1_L6 + 1)) (lv' := [(1, .int (v1_L6 + 1)), (0, .ref (ad 18))]) hx hb dNamedForm_assemble_23 hl rfl rfl (by decide) rfl (fun ls hl => ?_)
        refine lv_goto (tgt := 6) hx hb dNamedForm_assemble_26 rfl ?_
        exact ih (v1_L6 + 1) lastNames_19 namesOf_19 homeBlock_19 homePlace_19 _ _ _ (lv_sub hl [1, 0] rfl) hP hD hS hw
  refine hlp6 _ ?_ k6 0 lastNames namesOf_1 homeBlock_1 homePlace _ _ _ (lv_sub hl [1, 0] rfl) hP hD hS hw
  intro v1_x29 lastNames_x29 namesOf_x29 homeBlock_x29 homePlace_x29 ls H locs hl hP hD hS hw
  try dsimp only at hw
  refine lv_iconst (v := 0) hx hb dNamedForm_assemble_29 (by decide) ?_
  refine lv_istore_n (lv' := [(1, .int 0), (0, .ref (ad 18))]) hx hb dNamedForm_assemble_30 rfl hl (by decide) rfl (fun ls hl => ?_)
  obtain ⟨k31, hw⟩ := hw
  have hlp31 : ∀ (K60 : Int32 → (Nat → Int32) → (Nat → Int32) → (Nat → Int32) → (Nat → Int32) → (Nat → Int32) → (Nat → Int32) → (Nat → Int32) → (Nat → Int32) → (Nat → Int32) → Prop), (∀ (v1_x60 : Int32) (meetingNames_x60 : Nat → Int32) (stepNames_x60 : Nat → Int32) (firstUses_x60 : Nat → Int32) (secondUses_x60 : Nat → Int32) (endUses_x60 : Nat → Int32) (lastNames_x60 : Nat → Int32) (namesOf_x60 : Nat → Int32) (homeBlock_x60 : Nat → Int32) (homePlace_x60 : Nat → Int32) (ls : Array Slot) (H : Heap) (locs : List Loc), lv_has ls 3 [(0, .ref (ad 18)), (1, .int v1_x60)] → va_P D vwCl (wdNamedForm_assemble cA ad N stepCount kind target first second forkVariable orderSize reached forerunners frontiers parents order meetingNames_x60 meetingUses_1 stepNames_x60 firstUses_x60 secondUses_x60 endUses_x60 lastNames_x60 namesOf_x60 homeBlock_x60 homePlace_x60) H → va_D A (wdNamedForm_assemble cA ad N stepCount kind target first second forkVariable orderSize reached forerunners frontiers parents order meetingNames_x60 meetingUses_1 stepNames_x60 firstUses_x60 secondUses_x60 endUses_x60 lastNames_x60 namesOf_x60 homeBlock_x60 homePlace_x60) → va_S A s.heap H locs → K60 v1_x60 meetingNames_x60 stepNames_x60 firstUses_x60 secondUses_x60 endUses_x60 lastNames_x60 namesOf_x60 homeBlock_x60 homePlace_x60 → W p l e (headSpec (Cond.code yNamedForm_assemble cNamedForm_assemble 3 (some .int) :: xW) rmNamedForm_assemble).room s m ([.ref (ad 18)] : List Value).toArray below meth c H locs 0 0 Q (F0 m 60 ls [])) → ∀ (k : Nat), ∀ (v1_L31 : Int32) (meetingNames_L31 : Nat → Int32) (stepNames_L31 : Nat → Int32) (firstUses_L31 : Nat → Int32) (secondUses_L31 : Nat → Int32) (endUses_L31 : Nat → Int32) (lastNames_L31 : Nat → Int32) (namesOf_L31 : Nat → Int32) (homeBlock_L31 : Nat → Int32) (homePlace_L31 : Nat → Int32) (ls : Array Slot) (H : Heap) (locs : List Loc), lv_has ls 3 [(0, .ref (ad 18)), (1, .int v1_L31)] → va_P D vwCl (wdNamedForm_assemble cA ad N stepCount kind target first second forkVariable orderSize reached forerunners frontiers parents order meetingNames_L31 meetingUses_1 stepNames_L31 firstUses_L31 secondUses_L31 endUses_L31 lastNames_L31 namesOf_L31 homeBlock_L31 homePlace_L31) H → va_D A (wdNamedForm_assemble cA ad N stepCount kind target first second forkVariable orderSize reached forerunners frontiers parents order meetingNames_L31 meetingUses_1 stepNames_L31 firstUses_L31 secondUses_L31 endUses_L31 lastNames_L31 namesOf_L31 homeBlock_L31 homePlace_L31) → va_S A s.heap H locs → lpNamedForm_assemble_31 N stepCount kind target first second forkVariable orderSize parents order K60 k v1_L31 meetingNames_L31 stepNames_L31 firstUses_L31 secondUses_L31 endUses_L31 lastNames_L31 namesOf_L31 homeBlock_L31 homePlace_L31 → W p l e (headSpec (Cond.code yNamedForm_assemble cNamedForm_assemble 3 (some .int) :: xW) rmNamedForm_assemble).room s m ([.ref (ad 18)] : List Value).toArray below meth c H locs 0 0 Q (F0 m 31 ls []) := by
    intro K60 hK60 k
    induction k with
    | zero => intro v1_L31 meetingNames_L31 stepNames_L31 firstUses_L31 secondUses_L31 endUses_L31 lastNames_L31 namesOf_L31 homeBlock_L31 homePlace_L31 ls H locs hl hP hD hS hw; exact False.elim hw
    | succ k ih =>
      intro v1_L31 meetingNames_L31 stepNames_L31 firstUses_L31 secondUses_L31 endUses_L31 lastNames_L31 namesOf_L31 homeBlock_L31 homePlace_L31 ls H locs hl hP hD hS hw
      refine lv_iload_n hx hb dNamedForm_assemble_31 rfl (lv_at hl 1 rfl) ?_
      refine lv_aload_n hx hb dNamedForm_assemble_32 rfl (lv_at hl 0 rfl) ?_
      refine va_get (D := D) (ci := 3) (v := .ref (ad 11)) (C := "OnceNamed$NamedForm") (T := TX3) (N := 14) hx hb hts (fun w h => List.mem_cons_of_mem _ (inX3 w h)) hown hK hP 12 rfl rfl 1 (by decide) (hts _ (List.mem_cons_of_mem _ kw_121)) (fun _ h9 => h9) rfl dNamedForm_assemble_33 ?_
      dsimp only [lpNamedForm_assemble_31] at hw
      refine xci (va_runV ⟨hx, hb, hml, hown, hts⟩ (ktGraph_reachedCount l D cA ad N _ orderSize reached _ hw) (cwV 0 hts (goodV kw_315 kw_316 kw_317 kw_5 kw_318) rfl rfl rfl (by decide +kernel) ⟨Nat.le_of_ble_eq_true rfl, Nat.le_of_ble_eq_true rfl⟩) (xpreV hK hP hD hN [7] rfl rfl 7 rfl rfl) rfl rfl hl.1 rfl (lv_room (Nat.le_of_ble_eq_true rfl)) dNamedForm_assemble_36 ⟨Nat.le_of_ble_eq_true rfl, Nat.le_of_ble_eq_true rfl⟩) hP hD hS hA [7] [0, 1, 2, 3, 4, 5, 6, 8, 9, 10, 11, 12, 13, 14, 15, 16, 17, 18, 19, 20, 21, 22] rfl rfl rfl rfl [0, 1, 2, 3, 4, 5, 6, 22, 7, 8, 9, 10, 11, 12, 13, 14, 15, 16, 17, 18, 19, 20, 21] rfl (fun _ => rfl) (fun r36 u H locs hw hP hD hS => ?_)
      have hP : va_P D vwCl (wdNamedForm_assemble cA ad N stepCount kind target first second forkVariable orderSize reached forerunners frontiers parents order meetingNames_L31 meetingUses_1 stepNames_L31 firstUses_L31 secondUses_L31 endUses_L31 lastNames_L31 namesOf_L31 homeBlock_L31 homePlace_L31) H := hP
      have hD : va_D A (wdNamedForm_assemble cA ad N stepCount kind target first second forkVariable orderSize reached forerunners frontiers parents order meetingNames_L31 meetingUses_1 stepNames_L31 firstUses_L31 secondUses_L31 endUses_L31 lastNames_L31 namesOf_L31 homeBlock_L31 homePlace_L31) := hD
      refine lv_icmp_ge (tgt := 60) hx hb dNamedForm_assemble_39 rfl (fun hc => ?_) (fun hc => ?_)
      · have hw := hw.1 hc
        exact hK60 v1_L31 meetingNames_L31 stepNames_L31 firstUses_L31 secondUses_L31 endUses_L31 lastNames_L31 namesOf_L31 homeBlock_L31 homePlace_L31 _ _ _ (lv_sub hl [0, 1] rfl) hP hD hS hw
      · have hw := hw.2 hc
        refine lv_aload_n hx hb dNamedForm_assemble_42 rfl (lv_at hl 0 rfl) ?_
        refine lv_aload_n hx hb dNamedForm_assemble_43 rfl (lv_at hl 0 rfl) ?_
        refine va_get (D := D) (ci := 3) (v := .ref (ad 11)) (C := "OnceNamed$NamedForm") (T := TX3) (N := 14) hx hb hts (fun w h => List.mem_cons_of_mem _ (inX3 w h)) hown hK hP 12 rfl rfl 1 (by decide) (hts _ (List.mem_cons_of_mem _ kw_121)) (fun _ h9 => h9) rfl dNamedForm_assemble_44 ?_
        refine lv_iload_n hx hb dNamedForm_assemble_47 rfl (lv_at hl 1 rfl) ?_
        refine xci (va_runV ⟨hx, hb, hml, hown, hts⟩ (ktGraph_inOrder l D cA ad N _ orderSize reached order v1_L31 _ hw) (cwV 1 hts (goodV kw_319 kw_320 kw_321 kw_5 kw_322) rfl rfl rfl (by decide +kernel) ⟨Nat.le_of_ble_eq_true rfl, Nat.le_of_ble_eq_true rfl⟩) (xpreV hK hP hD hN [7, 11] rfl rfl 7 rfl rfl) rfl rfl hl.1 rfl (lv_room (Nat.le_of_ble_eq_true rfl)) dNamedForm_assemble_48 ⟨Nat.le_of_ble_eq_true rfl, Nat.le_of_ble_eq_true rfl⟩) hP hD hS hA [7, 11] [0, 1, 2, 3, 4, 5, 6, 8, 9, 10, 12, 13, 14, 15, 16, 17, 18, 19, 20, 21, 22] rfl rfl rfl rfl [0, 1, 2, 3, 4, 5, 6, 21, 7, 8, 9, 22, 10, 11, 12, 13, 14, 15, 16, 17, 18, 19, 20] rfl (fun _ => rfl) (fun r48 u H locs hw hP hD hS => ?_)
        have hP : va_P D vwCl (wdNamedForm_assemble cA ad N stepCount kind target first second forkVariable orderSize reached forerunners frontiers parents order meetingNames_L31 meetingUses_1 stepNames_L31 firstUses_L31 secondUses_L31 endUses_L31 lastNames_L31 namesOf_L31 homeBlock_L31 homePlace_L31) H := hP
        have hD : va_D A (wdNamedForm_assemble cA ad N stepCount kind target first second forkVariable orderSize reached forerunners frontiers parents order meetingNames_L31 meetingUses_1 stepNames_L31 firstUses_L31 secondUses_L31 endUses_L31 lastNames_L31 namesOf_L31 homeBlock_L31 homePlace_L31) := hD
        refine xcv (va_runV ⟨hx, hb, hml, hown, hts⟩ (ktNamedForm_nameBlock l D cA ad N _ stepCount kind target first second forkVariable orderSize reached parents meetingNames_L31 stepNames_L31 firstUses_L31 secondUses_L31 endUses_L31 lastNames_L31 namesOf_L31 homeBlock_L31 homePlace_L31 r48 _ hw) (cwV 1 hts (goodV kw_343 kw_345 ks_1_8 kw_6 kw_346) rfl rfl rfl (by decide +kernel) ⟨Nat.le_of_ble_eq_true rfl, Nat.le_of_ble_eq_true rfl⟩) (xpreV hK hP hD hN [0, 1, 2, 3, 4, 5, 6, 7, 10, 12, 13, 15, 16, 17, 18, 19, 20, 21, 22] rfl rfl 12 rfl rfl) rfl rfl hl.1 rfl (lv_room (Nat.le_of_ble_eq_true rfl)) dNamedForm_assemble_51 ⟨Nat.le_of_ble_eq_true rfl, Nat.le_of_ble_eq_true rfl⟩) hP hD hS hA [0, 1, 2, 3, 4, 5, 6, 7, 10, 12, 13, 15, 16, 17, 18, 19, 20, 21, 22] [8, 9, 11, 14] rfl rfl rfl rfl [4, 5, 6, 7, 8, 9, 10, 11, 0, 1, 12, 2, 13, 14, 3, 15, 16, 17, 18, 19, 20, 21, 22] rfl (fun _ => rfl) (fun u H locs hw hP hD hS => ?_)
        obtain ⟨meetingNames_51, stepNames_51, firstUses_51, secondUses_51, endUses_51, lastNames_51, namesOf_51, homeBlock_51, homePlace_51⟩ := u
        try dsimp only at hw
        have hP : va_P D vwCl (wdNamedForm_assemble cA ad N stepCount kind target first second forkVariable orderSize reached forerunners frontiers parents order meetingNames_51 meetingUses_1 stepNames_51 firstUses_51 secondUses_51 endUses_51 lastNames_51 namesOf_51 homeBlock_51 homePlace_51) H := hP
        have hD : va_D A (wdNamedForm_assemble cA ad N stepCount kind target first second forkVariable orderSize reached forerunners frontiers parents order meetingNames_51 meetingUses_1 stepNames_51 firstUses_51 secondUses_51 endUses_51 lastNames_51 namesOf_51 homeBlock_51 homePlace_51) := hD
        refine lv_iinc (k := 1) (v := (v1_L31 + 1)) (lv' := [(1, .int (v1_L31 + 1)), (0, .ref (ad 18))]) hx hb dNamedForm_assemble_54 hl rfl rfl (by decide) rfl (fun ls hl => ?_)
        refine lv_goto (tgt := 31) hx hb dNamedForm_assemble_57 rfl ?_
        exact ih (v1_L31 + 1) meetingNames_51 stepNames_51 firstUses_51 secondUses_51 endUses_51 lastNames_51 namesOf_51 homeBlock_51 homePlace_51 _ _ _ (lv_sub hl [1, 0] rfl) hP hD hS hw
  refine hlp31 _ ?_ k31 0 meetingNames_1 stepNames_1 firstUses_1 secondUses_1 endUses_1 lastNames_x29 namesOf_x29 homeBlock_x29 homePlace_x29 _ _ _ (lv_sub hl [1, 0] rfl) hP hD hS hw
  intro v1_x60 meetingNames_x60 stepNames_x60 firstUses_x60 secondUses_x60 endUses_x60 lastNames_x60 namesOf_x60 homeBlock_x60 homePlace_x60 ls H locs hl hP hD hS hw
  try dsimp only at hw
  refine lv_aload_n hx hb dNamedForm_assemble_60 rfl (lv_at hl 0 rfl) ?_
  refine xcv (va_runV ⟨hx, hb, hml, hown, hts⟩ (ktNamedForm_findMeetingUses l D cA ad N _ orderSize reached forerunners meetingNames_x60 meetingUses_1 lastNames_x60 _ hw) (cwV 0 hts (goodV kw_385 kw_387 ks_1_11 kw_6 kw_388) rfl rfl rfl (by decide +kernel) ⟨Nat.le_of_ble_eq_true rfl, Nat.le_of_ble_eq_true rfl⟩) (xpreV hK hP hD hN [7, 8, 12, 13, 14, 19] rfl rfl 12 rfl rfl) rfl rfl hl.1 rfl (lv_room (Nat.le_of_ble_eq_true rfl)) dNamedForm_assemble_61 ⟨Nat.le_of_ble_eq_true rfl, Nat.le_of_ble_eq_true rfl⟩) hP hD hS hA [7, 8, 12, 13, 14, 19] [0, 1, 2, 3, 4, 5, 6, 9, 10, 11, 15, 16, 17, 18, 20, 21, 22] rfl rfl rfl rfl [0, 1, 2, 3, 4, 5, 6, 17, 18, 7, 8, 9, 19, 20, 21, 10, 11, 12, 13, 22, 14, 15, 16] rfl (fun _ => rfl) (fun meetingUses_61 H locs hw hP hD hS => ?_)
  try dsimp only at hw
  have hP : va_P D vwCl (wdNamedForm_assemble cA ad N stepCount kind target first second forkVariable orderSize reached forerunners frontiers parents order meetingNames_x60 meetingUses_61 stepNames_x60 firstUses_x60 secondUses_x60 endUses_x60 lastNames_x60 namesOf_x60 homeBlock_x60 homePlace_x60) H := hP
  have hD : va_D A (wdNamedForm_assemble cA ad N stepCount kind target first second forkVariable orderSize reached forerunners frontiers parents order meetingNames_x60 meetingUses_61 stepNames_x60 firstUses_x60 secondUses_x60 endUses_x60 lastNames_x60 namesOf_x60 homeBlock_x60 homePlace_x60) := hD
  refine lv_iconst (v := 0) hx hb dNamedForm_assemble_64 (by decide) ?_
  refine lv_istore_n (lv' := [(1, .int 0), (0, .ref (ad 18))]) hx hb dNamedForm_assemble_65 rfl hl (by decide) rfl (fun ls hl => ?_)
  refine lv_iconst (v := 0) hx hb dNamedForm_assemble_66 (by decide) ?_
  refine lv_istore_n (lv' := [(2, .int 0), (1, .int 0), (0, .ref (ad 18))]) hx hb dNamedForm_assemble_67 rfl hl (by decide) rfl (fun ls hl => ?_)
  obtain ⟨k68, hw⟩ := hw
  have hlp68 : ∀ (k : Nat), ∀ (v1_L68 : Int32) (v2_L68 : Int32) (ls : Array Slot) (H : Heap) (locs : List Loc), lv_has ls 3 [(0, .ref (ad 18)), (1, .int v1_L68), (2, .int v2_L68)] → va_P D vwCl (wdNamedForm_assemble cA ad N stepCount kind target first second forkVariable orderSize reached forerunners frontiers parents order meetingNames_x60 meetingUses_61 stepNames_x60 firstUses_x60 secondUses_x60 endUses_x60 lastNames_x60 namesOf_x60 homeBlock_x60 homePlace_x60) H → va_D A (wdNamedForm_assemble cA ad N stepCount kind target first second forkVariable orderSize reached forerunners frontiers parents order meetingNames_x60 meetingUses_61 stepNames_x60 firstUses_x60 secondUses_x60 endUses_x60 lastNames_x60 namesOf_x60 homeBlock_x60 homePlace_x60) → va_S A s.heap H locs → lpNamedForm_assemble_68 meetingNames_x60 meetingUses_61 stepNames_x60 firstUses_x60 secondUses_x60 endUses_x60 lastNames_x60 namesOf_x60 homeBlock_x60 homePlace_x60 post k v1_L68 v2_L68 → W p l e (headSpec (Cond.code yNamedForm_assemble cNamedForm_assemble 3 (some .int) :: xW) rmNamedForm_assemble).room s m ([.ref (ad 18)] : List Value).toArray below meth c H locs 0 0 Q (F0 m 68 ls []) := by
    intro k
    induction k with
    | zero => intro v1_L68 v2_L68 ls H locs hl hP hD hS hw; exact False.elim hw
    | succ k ih =>
      intro v1_L68 v2_L68 ls H locs hl hP hD hS hw
      refine lv_iload_n hx hb dNamedForm_assemble_68 rfl (lv_at hl 2 rfl) ?_
      refine lv_bipush (v := 6) hx hb dNamedForm_assemble_69 (by decide) ?_
      refine lv_icmp_ge (tgt := 89) hx hb dNamedForm_assemble_71 rfl (fun hc => ?_) (fun hc => ?_)
      · have hw := hw.1 hc
        refine lv_iload_n hx hb dNamedForm_assemble_89 rfl (lv_at hl 1 rfl) ?_
        exact hend v1_L68 meetingNames_x60 meetingUses_61 stepNames_x60 firstUses_x60 secondUses_x60 endUses_x60 lastNames_x60 namesOf_x60 homeBlock_x60 homePlace_x60 _ _ _ _ dNamedForm_assemble_90 hP hD hS hw
      · have hw := hw.2 hc
        refine lv_iload_n hx hb dNamedForm_assemble_74 rfl (lv_at hl 1 rfl) ?_
        refine lv_aload_n hx hb dNamedForm_assemble_75 rfl (lv_at hl 0 rfl) ?_
        refine va_get (D := D) (ci := 3) (v := .ref (ad 26)) (C := "OnceNamed$NamedForm") (T := TX3) (N := 14) hx hb hts (fun w h => List.mem_cons_of_mem _ (inX3 w h)) hown hK hP 12 rfl rfl 10 (by decide) (hts _ (List.mem_cons_of_mem _ kw_130)) (fun _ h9 => h9) rfl dNamedForm_assemble_76 ?_
        refine lv_iload_n hx hb dNamedForm_assemble_79 rfl (lv_at hl 2 rfl) ?_
        have ho := hw.1
        have hw := hw.2
        refine va_iald hx hb hK hP 20 0 rfl rfl ho dNamedForm_assemble_80 ?_
        refine lv_iadd hx hb dNamedForm_assemble_81 ?_
        refine lv_topi (fun v1_82 e_v1_82 => ?_)
        have hw := hw v1_82 e_v1_82
        refine lv_istore_n (lv' := [(1, .int v1_82), (0, .ref (ad 18)), (2, .int v2_L68)]) hx hb dNamedForm_assemble_82 rfl hl (by decide) rfl (fun ls hl => ?_)
        refine lv_iinc (k := 2) (v := (v2_L68 + 1)) (lv' := [(2, .int (v2_L68 + 1)), (1, .int v1_82), (0, .ref (ad 18))]) hx hb dNamedForm_assemble_83 hl rfl rfl (by decide) rfl (fun ls hl => ?_)
        refine lv_goto (tgt := 68) hx hb dNamedForm_assemble_86 rfl ?_
        exact ih v1_82 (v2_L68 + 1) _ _ _ (lv_sub hl [2, 1, 0] rfl) hP hD hS hw
  refine hlp68 k68 0 0 _ _ _ (lv_sub hl [2, 1, 0] rfl) hP hD hS hw
abbrev wdNamedForm_isUseSound (cA : ClassId) (ad : Nat → Nat) (N : Nat) (orderSize : Int32) (reached : Int32) (blw : Nat → Int32) (homeBlock : Nat → Int32) (homePlace : Nat → Int32) : va_W := [((ad 11), .inr (2, [.int (nI N), .ref (ad 12), .ref (ad 13), .ref (ad 14), .ref (ad 15), .ref (ad 16), .ref (ad 17), .int orderSize, .int reached])), ((ad 13), .inl (cA, N, .inl blw)), ((ad 18), .inr (3, [.ref (ad 1), .ref (ad 11), .int (nI N), .ref (ad 19), .ref (ad 20), .ref (ad 21), .ref (ad 22), .ref (ad 23), .ref (ad 24), .ref (ad 25), .ref (ad 26), .ref (ad 27), .ref (ad 28), .ref (ad 29)])), ((ad 27), .inl (cA, 600, .inl homeBlock)), ((ad 28), .inl (cA, 600, .inl homePlace))]
abbrev qcNamedForm_isUseSound (D : va_G) (cA : ClassId) (ad : Nat → Nat) (N : Nat) (orderSize : Int32) (reached : Int32) (blw : Nat → Int32) (homeBlock : Nat → Int32) (homePlace : Nat → Int32) (post : Bool → Prop) (A : Nat → Prop) : Array Value → State → Outcome → State → Prop := va_Qi (S := Unit) (fun r u => ∃ z : Bool, r = bI z ∧ post z ) (fun u t => xB D [(cA, .int)] A (wdNamedForm_isUseSound cA ad N orderSize reached blw homeBlock homePlace) t) A
abbrev rmNamedForm_isUseSound : Room := { frames := 2, cells := 0, slots := 0, locals := 43 }
set_option maxHeartbeats 4000000 in
set_option maxRecDepth 100000 in
theorem ktNamedForm_isUseSound (l : Launch) (D : va_G) (cA : ClassId) (ad : Nat → Nat) (N : Nat) (sz : Nat) (orderSize : Int32) (reached : Int32) (blw : Nat → Int32) (homeBlock : Nat → Int32) (homePlace : Nat → Int32) (v1 : Int32) (v2 : Int32) (v3 : Int32) (post : Bool → Prop) (hw : wpNamedForm_isUseSound N blw homeBlock homePlace v1 v2 v3 post) : Met l yNamedForm_isUseSound (Cond.code yNamedForm_isUseSound cNamedForm_isUseSound 5 (some .boolean) :: xW) rmNamedForm_isUseSound (va_Pc [.ref (ad 18), .int v1, .int v2, .int v3] (xPc D [(cA, .int)] (wdNamedForm_isUseSound cA ad N orderSize reached blw homeBlock homePlace) sz)) (qcNamedForm_isUseSound D cA ad N orderSize reached blw homeBlock homePlace post (va_A (wdNamedForm_isUseSound cA ad N orderSize reached blw homeBlock homePlace) sz)) 0 0 (va_A (wdNamedForm_isUseSound cA ad N orderSize reached blw homeBlock homePlace) sz) := by
  refine Met.ofW (cc := cNamedForm_isUseSound) (maxL := 5) (ret := (some .boolean)) (by decide) rfl ?_
  intro p e s m args below meth c s₁ B hml hv
  obtain ⟨rfl, hsz, hP, hK, hD0, hN⟩ := hv
  have hx := B.exec
  have hb := B.bytes
  have hr := B.returns
  have hts := atoms_spec (ws := (Cond.code yNamedForm_isUseSound cNamedForm_isUseSound 5 (some .boolean) :: xW)) B.pre
  have hown : s.vm.findClass "OnceNamed$NamedForm" = some m.cls := findClass_of_methodNamed B.named
  have hlocks := B.notSynchronized
  subst hsz
  have hD := hD0.self (sz := s.heap.size)
  generalize hAe : va_A (wdNamedForm_isUseSound cA ad N orderSize reached blw homeBlock homePlace) s.heap.size = A at hD ⊢
  have hA : ∀ q : Nat, s.heap.size ≤ q → A q := fun q h => by rw [← hAe]; exact Or.inr h
  have hS : va_S A s.heap s.heap [] := va_S.rf
  have hend : ∀ (r : Bool)  (H : Heap) (locs : List Loc) (pc : Nat) (ls : Array Slot), decode cNamedForm_isUseSound pc = .ok (.ireturn, 1) → va_P D vwCl (wdNamedForm_isUseSound cA ad N orderSize reached blw homeBlock homePlace) H → va_D A (wdNamedForm_isUseSound cA ad N orderSize reached blw homeBlock homePlace) → va_S A s.heap H locs → post r  → W p l e (headSpec (Cond.code yNamedForm_isUseSound cNamedForm_isUseSound 5 (some .boolean) :: xW) rmNamedForm_isUseSound).room s m ([.ref (ad 18), .int v1, .int v2, .int v3] : List Value).toArray below meth c H locs 0 0 (MQ below (qcNamedForm_isUseSound D cA ad N orderSize reached blw homeBlock homePlace post A) ([.ref (ad 18), .int v1, .int v2, .int v3] : List Value).toArray s 0 0 A) (F0 m pc ls [.int (bI r)]) := fun r  H locs pc ls hd hP hD hS hw => W.zret (v := bI r) hx hb hr (bI_nar r) (fun t ht hW => ⟨⟨bI r, (), rfl, ⟨r, rfl, hw⟩, ⟨by rw [ht]; exact hP, va_K.moved hW.alike hK, hD⟩⟩, hS.F ht⟩) hS.2.2 hd
  generalize hQ : MQ below (qcNamedForm_isUseSound D cA ad N orderSize reached blw homeBlock homePlace post A) ([.ref (ad 18), .int v1, .int v2, .int v3] : List Value).toArray s 0 0 A = Q at hend ⊢
  have hl := lv_entry ([.ref (ad 18), .int v1, .int v2, .int v3]) (n := 5) (Nat.le_of_ble_eq_true rfl)
  rw [lg_entry_eq]
  generalize (lg_sl ([.ref (ad 18), .int v1, .int v2, .int v3]) ++ List.replicate (5 - (lg_sl ([.ref (ad 18), .int v1, .int v2, .int v3])).length) Slot.unset).toArray = ls at hl ⊢
  have hl : lv_has ls 5 [(0, .ref (ad 18)), (1, .int v1), (2, .int v2), (3, .int v3)] := hl
  unfold wpNamedForm_isUseSound at hw
  refine lv_iload_n hx hb dNamedForm_isUseSound_0 rfl (lv_at hl 1 rfl) ?_
  refine lv_iconst (v := (-1)) hx hb dNamedForm_isUseSound_1 (by decide) ?_
  refine lv_icmp_ne (tgt := 7) hx hb dNamedForm_isUseSound_2 rfl (fun hc => ?_) (fun hc => ?_)
  · have hw := hw.1 hc
    refine lv_aload_n hx hb dNamedForm_isUseSound_7 rfl (lv_at hl 0 rfl) ?_
    refine va_get (D := D) (ci := 3) (v := .ref (ad 27)) (C := "OnceNamed$NamedForm") (T := TX3) (N := 14) hx hb hts (fun w h => List.mem_cons_of_mem _ (inX3 w h)) hown hK hP 2 rfl rfl 11 (by decide) (hts _ (List.mem_cons_of_mem _ kw_131)) (fun _ h9 => h9) rfl dNamedForm_isUseSound_8 ?_
    refine lv_iload_n hx hb dNamedForm_isUseSound_11 rfl (lv_at hl 1 rfl) ?_
    have ho := hw.1
    have hw := hw.2
    refine va_iald hx hb hK hP 3 0 rfl rfl ho dNamedForm_isUseSound_12 ?_
    refine lv_topi (fun v4_13 e_v4_13 => ?_)
    have hw := hw v4_13 e_v4_13
    refine lv_istore (lv' := [(4, .int v4_13), (0, .ref (ad 18)), (1, .int v1), (2, .int v2), (3, .int v3)]) hx hb dNamedForm_isUseSound_13 hl (by decide) rfl (fun ls hl => ?_)
    refine lv_iload hx hb dNamedForm_isUseSound_15 (lv_at hl 0 rfl) ?_
    refine lv_aload_n hx hb dNamedForm_isUseSound_17 rfl (lv_at hl 1 rfl) ?_
    refine va_get (D := D) (ci := 3) (v := .int (nI N)) (C := "OnceNamed$NamedForm") (T := TX3) (N := 14) hx hb hts (fun w h => List.mem_cons_of_mem _ (inX3 w h)) hown hK hP 2 rfl rfl 2 (by decide) (hts _ (List.mem_cons_of_mem _ kw_122)) (fun _ h9 => h9) rfl dNamedForm_isUseSound_18 ?_
    refine lv_icmp_ne (tgt := 26) hx hb dNamedForm_isUseSound_21 rfl (fun hc => ?_) (fun hc => ?_)
    · have hw := hw.1 hc
      refine lv_iload hx hb dNamedForm_isUseSound_26 (lv_at hl 0 rfl) ?_
      refine lv_iload_n hx hb dNamedForm_isUseSound_28 rfl (lv_at hl 3 rfl) ?_
      refine lv_icmp_ne (tgt := 50) hx hb dNamedForm_isUseSound_29 rfl (fun hc => ?_) (fun hc => ?_)
      · have hw := hw.1 hc
        refine lv_aload_n hx hb dNamedForm_isUseSound_50 rfl (lv_at hl 1 rfl) ?_
        refine va_get (D := D) (ci := 3) (v := .ref (ad 11)) (C := "OnceNamed$NamedForm") (T := TX3) (N := 14) hx hb hts (fun w h => List.mem_cons_of_mem _ (inX3 w h)) hown hK hP 2 rfl rfl 1 (by decide) (hts _ (List.mem_cons_of_mem _ kw_121)) (fun _ h9 => h9) rfl dNamedForm_isUseSound_51 ?_
        refine lv_iload hx hb dNamedForm_isUseSound_54 (lv_at hl 0 rfl) ?_
        refine lv_iload_n hx hb dNamedForm_isUseSound_56 rfl (lv_at hl 3 rfl) ?_
        refine xci (va_runV ⟨hx, hb, hml, hown, hts⟩ (ktGraph_hasBelow l D cA ad N _ orderSize reached blw v4_13 v2 _ hw) (cwV 2 hts (goodV kw_600 kw_601 kw_602 kw_5 kw_603) rfl rfl rfl (by decide +kernel) ⟨Nat.le_of_ble_eq_true rfl, Nat.le_of_ble_eq_true rfl⟩) (xpreV hK hP hD hN [0, 1] rfl rfl 0 rfl rfl) rfl rfl hl.1 rfl (lv_room (Nat.le_of_ble_eq_true rfl)) dNamedForm_isUseSound_57 ⟨Nat.le_of_ble_eq_true rfl, Nat.le_of_ble_eq_true rfl⟩) hP hD hS hA [0, 1] [2, 3, 4] rfl rfl rfl rfl [3, 4, 0, 1, 2] rfl (fun _ => rfl) (fun r57 u H locs hw hP hD hS => ?_)
        obtain ⟨r57, rfl, hw⟩ := hw
        have hP : va_P D vwCl (wdNamedForm_isUseSound cA ad N orderSize reached blw homeBlock homePlace) H := hP
        have hD : va_D A (wdNamedForm_isUseSound cA ad N orderSize reached blw homeBlock homePlace) := hD
        exact hend r57 _ _ _ _ dNamedForm_isUseSound_60 hP hD hS hw
      · have hw := hw.2 hc
        refine lv_aload_n hx hb dNamedForm_isUseSound_32 rfl (lv_at hl 1 rfl) ?_
        refine va_get (D := D) (ci := 3) (v := .ref (ad 28)) (C := "OnceNamed$NamedForm") (T := TX3) (N := 14) hx hb hts (fun w h => List.mem_cons_of_mem _ (inX3 w h)) hown hK hP 2 rfl rfl 12 (by decide) (hts _ (List.mem_cons_of_mem _ kw_132)) (fun _ h9 => h9) rfl dNamedForm_isUseSound_33 ?_
        refine lv_iload_n hx hb dNamedForm_isUseSound_36 rfl (lv_at hl 2 rfl) ?_
        have ho := hw.1
        have hw := hw.2
        refine va_iald hx hb hK hP 4 0 rfl rfl ho dNamedForm_isUseSound_37 ?_
        refine lv_iload_n hx hb dNamedForm_isUseSound_38 rfl (lv_at hl 4 rfl) ?_
        refine lv_icmp_ge (tgt := 46) hx hb dNamedForm_isUseSound_39 rfl (fun hc => ?_) (fun hc => ?_)
        · have hw := hw.1 hc
          refine lv_iconst (v := 0) hx hb dNamedForm_isUseSound_46 (by decide) ?_
          refine lv_goto (tgt := 60) hx hb dNamedForm_isUseSound_47 rfl ?_
          exact hend false _ _ _ _ dNamedForm_isUseSound_60 hP hD hS hw
        · have hw := hw.2 hc
          refine lv_iconst (v := 1) hx hb dNamedForm_isUseSound_42 (by decide) ?_
          refine lv_goto (tgt := 60) hx hb dNamedForm_isUseSound_43 rfl ?_
          exact hend true _ _ _ _ dNamedForm_isUseSound_60 hP hD hS hw
    · have hw := hw.2 hc
      refine lv_iconst (v := 1) hx hb dNamedForm_isUseSound_24 (by decide) ?_
      exact hend true _ _ _ _ dNamedForm_isUseSound_25 hP hD hS hw
  · have hw := hw.2 hc
    refine lv_iconst (v := 1) hx hb dNamedForm_isUseSound_5 (by decide) ?_
    exact hend true _ _ _ _ dNamedForm_isUseSound_6 hP hD hS hw
