abbrev wdNamedForm_isBlockSound (cA : ClassId) (ad : Nat → Nat) (N : Nat) (stepCount : Nat → Int32) (orderSize : Int32) (reached : Int32) (blw : Nat → Int32) (firstUses : Nat → Int32) (secondUses : Nat → Int32) (endUses : Nat → Int32) (homeBlock : Nat → Int32) (homePlace : Nat → Int32) : va_W := [((ad 1), .inr (1, [.int (nI N), .ref (ad 2), .ref (ad 3), .ref (ad 4), .ref (ad 5), .ref (ad 6), .ref (ad 7), .ref (ad 8), .ref (ad 9), .ref (ad 10)])), ((ad 2), .inl (cA, N, .inl stepCount)), ((ad 11), .inr (2, [.int (nI N), .ref (ad 12), .ref (ad 13), .ref (ad 14), .ref (ad 15), .ref (ad 16), .ref (ad 17), .int orderSize, .int reached])), ((ad 13), .inl (cA, N, .inl blw)), ((ad 18), .inr (3, [.ref (ad 1), .ref (ad 11), .int (nI N), .ref (ad 19), .ref (ad 20), .ref (ad 21), .ref (ad 22), .ref (ad 23), .ref (ad 24), .ref (ad 25), .ref (ad 26), .ref (ad 27), .ref (ad 28), .ref (ad 29)])), ((ad 22), .inl (cA, N * 6, .inl firstUses)), ((ad 23), .inl (cA, N * 6, .inl secondUses)), ((ad 24), .inl (cA, N, .inl endUses)), ((ad 27), .inl (cA, 600, .inl homeBlock)), ((ad 28), .inl (cA, 600, .inl homePlace))]
abbrev qcNamedForm_isBlockSound (D : va_G) (cA : ClassId) (ad : Nat → Nat) (N : Nat) (stepCount : Nat → Int32) (orderSize : Int32) (reached : Int32) (blw : Nat → Int32) (firstUses : Nat → Int32) (secondUses : Nat → Int32) (endUses : Nat → Int32) (homeBlock : Nat → Int32) (homePlace : Nat → Int32) (post : Bool → Prop) (A : Nat → Prop) : Array Value → State → Outcome → State → Prop := va_Qi (S := Unit) (fun r u => ∃ z : Bool, r = bI z ∧ post z ) (fun u t => xB D [(cA, .int)] A (wdNamedForm_isBlockSound cA ad N stepCount orderSize reached blw firstUses secondUses endUses homeBlock homePlace) t) A
abbrev rmNamedForm_isBlockSound : Room := { frames := 3, cells := 0, slots := 0, locals := 67 }
set_option maxHeartbeats 4000000 in
set_option maxRecDepth 100000 in
theorem ktNamedForm_isBlockSound (l : Launch) (D : va_G) (cA : ClassId) (ad : Nat → Nat) (N : Nat) (sz : Nat) (stepCount : Nat → Int32) (orderSize : Int32) (reached : Int32) (blw : Nat → Int32) (firstUses : Nat → Int32) (secondUses : Nat → Int32) (endUses : Nat → Int32) (homeBlock : Nat → Int32) (homePlace : Nat → Int32) (v1 : Int32) (post : Bool → Prop) (hw : wpNamedForm_isBlockSound N stepCount blw firstUses secondUses endUses homeBlock homePlace v1 post) : Met l yNamedForm_isBlockSound (Cond.code yNamedForm_isBlockSound cNamedForm_isBlockSound 4 (some .boolean) :: xW) rmNamedForm_isBlockSound (va_Pc [.ref (ad 18), .int v1] (xPc D [(cA, .int)] (wdNamedForm_isBlockSound cA ad N stepCount orderSize reached blw firstUses secondUses endUses homeBlock homePlace) sz)) (qcNamedForm_isBlockSound D cA ad N stepCount orderSize reached blw firstUses secondUses endUses homeBlock homePlace post (va_A (wdNamedForm_isBlockSound cA ad N stepCount orderSize reached blw firstUses secondUses endUses homeBlock homePlace) sz)) 0 0 (va_A (wdNamedForm_isBlockSound cA ad N stepCount orderSize reached blw firstUses secondUses endUses homeBlock homePlace) sz) := by
  refine Met.ofW (cc := cNamedForm_isBlockSound) (maxL := 4) (ret := (some .boolean)) (by decide) rfl ?_
  intro p e s m args below meth c s₁ B hml hv
  obtain ⟨rfl, hsz, hP, hK, hD0, hN⟩ := hv
  have hx := B.exec
  have hb := B.bytes
  have hr := B.returns
  have hts := atoms_spec (ws := (Cond.code yNamedForm_isBlockSound cNamedForm_isBlockSound 4 (some .boolean) :: xW)) B.pre
  have hown : s.vm.findClass "OnceNamed$NamedForm" = some m.cls := findClass_of_methodNamed B.named
  have hlocks := B.notSynchronized
  subst hsz
  have hD := hD0.self (sz := s.heap.size)
  generalize hAe : va_A (wdNamedForm_isBlockSound cA ad N stepCount orderSize reached blw firstUses secondUses endUses homeBlock homePlace) s.heap.size = A at hD ⊢
  have hA : ∀ q : Nat, s.heap.size ≤ q → A q := fun q h => by rw [← hAe]; exact Or.inr h
  have hS : va_S A s.heap s.heap [] := va_S.rf
  have hend : ∀ (r : Bool)  (H : Heap) (locs : List Loc) (pc : Nat) (ls : Array Slot), decode cNamedForm_isBlockSound pc = .ok (.ireturn, 1) → va_P D vwCl (wdNamedForm_isBlockSound cA ad N stepCount orderSize reached blw firstUses secondUses endUses homeBlock homePlace) H → va_D A (wdNamedForm_isBlockSound cA ad N stepCount orderSize reached blw firstUses secondUses endUses homeBlock homePlace) → va_S A s.heap H locs → post r  → W p l e (headSpec (Cond.code yNamedForm_isBlockSound cNamedForm_isBlockSound 4 (some .boolean) :: xW) rmNamedForm_isBlockSound).room s m ([.ref (ad 18), .int v1] : List Value).toArray below meth c H locs 0 0 (MQ below (qcNamedForm_isBlockSound D cA ad N stepCount orderSize reached blw firstUses secondUses endUses homeBlock homePlace post A) ([.ref (ad 18), .int v1] : List Value).toArray s 0 0 A) (F0 m pc ls [.int (bI r)]) := fun r  H locs pc ls hd hP hD hS hw => W.zret (v := bI r) hx hb hr (bI_nar r) (fun t ht hW => ⟨⟨bI r, (), rfl, ⟨r, rfl, hw⟩, ⟨by rw [ht]; exact hP, va_K.moved hW.alike hK, hD⟩⟩, hS.F ht⟩) hS.2.2 hd
  generalize hQ : MQ below (qcNamedForm_isBlockSound D cA ad N stepCount orderSize reached blw firstUses secondUses endUses homeBlock homePlace post A) ([.ref (ad 18), .int v1] : List Value).toArray s 0 0 A = Q at hend ⊢
  have hl := lv_entry ([.ref (ad 18), .int v1]) (n := 4) (Nat.le_of_ble_eq_true rfl)
  rw [lg_entry_eq]
  generalize (lg_sl ([.ref (ad 18), .int v1]) ++ List.replicate (4 - (lg_sl ([.ref (ad 18), .int v1])).length) Slot.unset).toArray = ls at hl ⊢
  have hl : lv_has ls 4 [(0, .ref (ad 18)), (1, .int v1)] := hl
  unfold wpNamedForm_isBlockSound at hw
  refine lv_iconst (v := 0) hx hb dNamedForm_isBlockSound_0 (by decide) ?_
  refine lv_istore_n (lv' := [(2, .int 0), (0, .ref (ad 18)), (1, .int v1)]) hx hb dNamedForm_isBlockSound_1 rfl hl (by decide) rfl (fun ls hl => ?_)
  obtain ⟨k2, hw⟩ := hw
  have hlp2 : ∀ (K59 : Int32 → Prop), (∀ (v2_x59 : Int32) (ls : Array Slot) (H : Heap) (locs : List Loc), lv_has ls 4 [(0, .ref (ad 18)), (1, .int v1), (2, .int v2_x59)] → va_P D vwCl (wdNamedForm_isBlockSound cA ad N stepCount orderSize reached blw firstUses secondUses endUses homeBlock homePlace) H → va_D A (wdNamedForm_isBlockSound cA ad N stepCount orderSize reached blw firstUses secondUses endUses homeBlock homePlace) → va_S A s.heap H locs → K59 v2_x59 → W p l e (headSpec (Cond.code yNamedForm_isBlockSound cNamedForm_isBlockSound 4 (some .boolean) :: xW) rmNamedForm_isBlockSound).room s m ([.ref (ad 18), .int v1] : List Value).toArray below meth c H locs 0 0 Q (F0 m 59 ls [])) → ∀ (k : Nat), ∀ (v2_L2 : Int32) (ls : Array Slot) (H : Heap) (locs : List Loc), lv_has ls 4 [(0, .ref (ad 18)), (1, .int v1), (2, .int v2_L2)] → va_P D vwCl (wdNamedForm_isBlockSound cA ad N stepCount orderSize reached blw firstUses secondUses endUses homeBlock homePlace) H → va_D A (wdNamedForm_isBlockSound cA ad N stepCount orderSize reached blw firstUses secondUses endUses homeBlock homePlace) → va_S A s.heap H locs → lpNamedForm_isBlockSound_2 N v1 stepCount blw firstUses secondUses homeBlock homePlace post K59 k v2_L2 → W p l e (headSpec (Cond.code yNamedForm_isBlockSound cNamedForm_isBlockSound 4 (some .boolean) :: xW) rmNamedForm_isBlockSound).room s m ([.ref (ad 18), .int v1] : List Value).toArray below meth c H locs 0 0 Q (F0 m 2 ls []) := by
    intro K59 hK59 k
    induction k with
    | zero => intro v2_L2 ls H locs hl hP hD hS hw; exact False.elim hw
    | succ k ih =>
      intro v2_L2 ls H locs hl hP hD hS hw
      refine lv_iload_n hx hb dNamedForm_isBlockSound_2 rfl (lv_at hl 2 rfl) ?_
      refine lv_aload_n hx hb dNamedForm_isBlockSound_3 rfl (lv_at hl 0 rfl) ?_
      refine va_get (D := D) (ci := 3) (v := .ref (ad 1)) (C := "OnceNamed$NamedForm") (T := TX3) (N := 14) hx hb hts (fun w h => List.mem_cons_of_mem _ (inX3 w h)) hown hK hP 4 rfl rfl 0 (by decide) (hts _ (List.mem_cons_of_mem _ kw_120)) (fun _ h9 => h9) rfl dNamedForm_isBlockSound_4 ?_
      refine lv_iload_n hx hb dNamedForm_isBlockSound_7 rfl (lv_at hl 1 rfl) ?_
      dsimp only [lpNamedForm_isBlockSound_2] at hw
      refine xci (va_runV ⟨hx, hb, hml, hown, hts⟩ (ktProgram_stepsOf l D cA ad N _ stepCount v1 _ hw) (cwV 1 hts (goodV kw_354 kw_355 kw_356 kw_3 kw_357) rfl rfl rfl (by decide +kernel) ⟨Nat.le_of_ble_eq_true rfl, Nat.le_of_ble_eq_true rfl⟩) (xpreV hK hP hD hN [0, 1] rfl rfl 0 rfl rfl) rfl rfl hl.1 rfl (lv_room (Nat.le_of_ble_eq_true rfl)) dNamedForm_isBlockSound_8 ⟨Nat.le_of_ble_eq_true rfl, Nat.le_of_ble_eq_true rfl⟩) hP hD hS hA [0, 1] [2, 3, 4, 5, 6, 7, 8, 9] rfl rfl rfl rfl [8, 9, 0, 1, 2, 3, 4, 5, 6, 7] rfl (fun _ => rfl) (fun r8 u H locs hw hP hD hS => ?_)
      have hP : va_P D vwCl (wdNamedForm_isBlockSound cA ad N stepCount orderSize reached blw firstUses secondUses endUses homeBlock homePlace) H := hP
      have hD : va_D A (wdNamedForm_isBlockSound cA ad N stepCount orderSize reached blw firstUses secondUses endUses homeBlock homePlace) := hD
      refine lv_icmp_ge (tgt := 59) hx hb dNamedForm_isBlockSound_11 rfl (fun hc => ?_) (fun hc => ?_)
      · have hw := hw.1 hc
        exact hK59 v2_L2 _ _ _ (lv_sub hl [0, 1, 2] rfl) hP hD hS hw
      · have hw := hw.2 hc
        refine lv_iload_n hx hb dNamedForm_isBlockSound_14 rfl (lv_at hl 1 rfl) ?_
        refine lv_bipush (v := 6) hx hb dNamedForm_isBlockSound_15 (by decide) ?_
        refine lv_imul hx hb dNamedForm_isBlockSound_17 ?_
        refine lv_iload_n hx hb dNamedForm_isBlockSound_18 rfl (lv_at hl 2 rfl) ?_
        refine lv_iadd hx hb dNamedForm_isBlockSound_19 ?_
        refine lv_topi (fun v3_20 e_v3_20 => ?_)
        have hw := hw v3_20 e_v3_20
        refine lv_istore_n (lv' := [(3, .int v3_20), (0, .ref (ad 18)), (1, .int v1), (2, .int v2_L2)]) hx hb dNamedForm_isBlockSound_20 rfl hl (by decide) rfl (fun ls hl => ?_)
        refine lv_aload_n hx hb dNamedForm_isBlockSound_21 rfl (lv_at hl 1 rfl) ?_
        refine lv_aload_n hx hb dNamedForm_isBlockSound_22 rfl (lv_at hl 1 rfl) ?_
        refine va_get (D := D) (ci := 3) (v := .ref (ad 22)) (C := "OnceNamed$NamedForm") (T := TX3) (N := 14) hx hb hts (fun w h => List.mem_cons_of_mem _ (inX3 w h)) hown hK hP 4 rfl rfl 6 (by decide) (hts _ (List.mem_cons_of_mem _ kw_126)) (fun _ h9 => h9) rfl dNamedForm_isBlockSound_23 ?_
        refine lv_iload_n hx hb dNamedForm_isBlockSound_26 rfl (lv_at hl 0 rfl) ?_
        have ho := hw.1
        have hw := hw.2
        refine va_iald hx hb hK hP 5 0 rfl rfl ho dNamedForm_isBlockSound_27 ?_
        refine lv_iload_n hx hb dNamedForm_isBlockSound_28 rfl (lv_at hl 2 rfl) ?_
        refine lv_iload_n hx hb dNamedForm_isBlockSound_29 rfl (lv_at hl 3 rfl) ?_
        refine xci (va_runV ⟨hx, hb, hml, hown, hts⟩ (ktNamedForm_isUseSound l D cA ad N _ orderSize reached blw homeBlock homePlace (firstUses (Int32.toNatClampNeg v3_20)) v1 v2_L2 _ hw) (cwV 3 hts (goodV kw_596 kw_598 ks_2_3 kw_6 kw_599) rfl rfl rfl (by decide +kernel) ⟨Nat.le_of_ble_eq_true rfl, Nat.le_of_ble_eq_true rfl⟩) (xpreV hK hP hD hN [2, 3, 4, 8, 9] rfl rfl 4 rfl rfl) rfl rfl hl.1 rfl (lv_room (Nat.le_of_ble_eq_true rfl)) dNamedForm_isBlockSound_30 ⟨Nat.le_of_ble_eq_true rfl, Nat.le_of_ble_eq_true rfl⟩) hP hD hS hA [2, 3, 4, 8, 9] [0, 1, 5, 6, 7] rfl rfl rfl rfl [0, 1, 5, 6, 7, 2, 3, 4, 8, 9] rfl (fun _ => rfl) (fun r30 u H locs hw hP hD hS => ?_)
        obtain ⟨r30, rfl, hw⟩ := hw
        have hP : va_P D vwCl (wdNamedForm_isBlockSound cA ad N stepCount orderSize reached blw firstUses secondUses endUses homeBlock homePlace) H := hP
        have hD : va_D A (wdNamedForm_isBlockSound cA ad N stepCount orderSize reached blw firstUses secondUses endUses homeBlock homePlace) := hD
        refine lv_if_eq (tgt := 51) hx hb dNamedForm_isBlockSound_33 rfl (fun hc => ?_) (fun hc => ?_)
        · have hw := hw.1 (bI_0 hc)
          refine lv_iconst (v := 0) hx hb dNamedForm_isBlockSound_51 (by decide) ?_
          exact hend false _ _ _ _ dNamedForm_isBlockSound_52 hP hD hS hw
        · have hw := hw.2 (bI_1 hc)
          refine lv_aload_n hx hb dNamedForm_isBlockSound_36 rfl (lv_at hl 1 rfl) ?_
          refine lv_aload_n hx hb dNamedForm_isBlockSound_37 rfl (lv_at hl 1 rfl) ?_
          refine va_get (D := D) (ci := 3) (v := .ref (ad 23)) (C := "OnceNamed$NamedForm") (T := TX3) (N := 14) hx hb hts (fun w h => List.mem_cons_of_mem _ (inX3 w h)) hown hK hP 4 rfl rfl 7 (by decide) (hts _ (List.mem_cons_of_mem _ kw_127)) (fun _ h9 => h9) rfl dNamedForm_isBlockSound_38 ?_
          refine lv_iload_n hx hb dNamedForm_isBlockSound_41 rfl (lv_at hl 0 rfl) ?_
          have ho := hw.1
          have hw := hw.2
          refine va_iald hx hb hK hP 6 0 rfl rfl ho dNamedForm_isBlockSound_42 ?_
          refine lv_iload_n hx hb dNamedForm_isBlockSound_43 rfl (lv_at hl 2 rfl) ?_
          refine lv_iload_n hx hb dNamedForm_isBlockSound_44 rfl (lv_at hl 3 rfl) ?_
          refine xci (va_runV ⟨hx, hb, hml, hown, hts⟩ (ktNamedForm_isUseSound l D cA ad N _ orderSize reached blw homeBlock homePlace (secondUses (Int32.toNatClampNeg v3_20)) v1 v2_L2 _ hw) (cwV 3 hts (goodV kw_596 kw_598 ks_2_3 kw_6 kw_599) rfl rfl rfl (by decide +kernel) ⟨Nat.le_of_ble_eq_true rfl, Nat.le_of_ble_eq_true rfl⟩) (xpreV hK hP hD hN [2, 3, 4, 8, 9] rfl rfl 4 rfl rfl) rfl rfl hl.1 rfl (lv_room (Nat.le_of_ble_eq_true rfl)) dNamedForm_isBlockSound_45 ⟨Nat.le_of_ble_eq_true rfl, Nat.le_of_ble_eq_true rfl⟩) hP hD hS hA [2, 3, 4, 8, 9] [0, 1, 5, 6, 7] rfl rfl rfl rfl [0, 1, 5, 6, 7, 2, 3, 4, 8, 9] rfl (fun _ => rfl) (fun r45 u H locs hw hP hD hS => ?_)
          obtain ⟨r45, rfl, hw⟩ := hw
          have hP : va_P D vwCl (wdNamedForm_isBlockSound cA ad N stepCount orderSize reached blw firstUses secondUses endUses homeBlock homePlace) H := hP
          have hD : va_D A (wdNamedForm_isBlockSound cA ad N stepCount orderSize reached blw firstUses secondUses endUses homeBlock homePlace) := hD
          refine lv_if_ne (tgt := 53) hx hb dNamedForm_isBlockSound_48 rfl (fun hc => ?_) (fun hc => ?_)
          · have hw := hw.1 (bI_1 hc)
            refine lv_iinc (k := 3) (v := (v2_L2 + 1)) (lv' := [(2, .int (v2_L2 + 1)), (3, .int v3_20), (0, .ref (ad 18)), (1, .int v1)]) hx hb dNamedForm_isBlockSound_53 hl rfl rfl (by decide) rfl (fun ls hl => ?_)
            refine lv_goto (tgt := 2) hx hb dNamedForm_isBlockSound_56 rfl ?_
            exact ih (v2_L2 + 1) _ _ _ (lv_sub hl [2, 3, 0] rfl) hP hD hS hw
          · have hw := hw.2 (bI_0 hc)
            refine lv_iconst (v := 0) hx hb dNamedForm_isBlockSound_51 (by decide) ?_
            exact hend false _ _ _ _ dNamedForm_isBlockSound_52 hP hD hS hw
  refine hlp2 _ ?_ k2 0 _ _ _ (lv_sub hl [1, 2, 0] rfl) hP hD hS hw
  intro v2_x59 ls H locs hl hP hD hS hw
  try dsimp only at hw
  refine lv_aload_n hx hb dNamedForm_isBlockSound_59 rfl (lv_at hl 0 rfl) ?_
  refine lv_aload_n hx hb dNamedForm_isBlockSound_60 rfl (lv_at hl 0 rfl) ?_
  refine va_get (D := D) (ci := 3) (v := .ref (ad 24)) (C := "OnceNamed$NamedForm") (T := TX3) (N := 14) hx hb hts (fun w h => List.mem_cons_of_mem _ (inX3 w h)) hown hK hP 4 rfl rfl 8 (by decide) (hts _ (List.mem_cons_of_mem _ kw_128)) (fun _ h9 => h9) rfl dNamedForm_isBlockSound_61 ?_
  refine lv_iload_n hx hb dNamedForm_isBlockSound_64 rfl (lv_at hl 1 rfl) ?_
  have ho := hw.1
  have hw := hw.2
  refine va_iald hx hb hK hP 7 0 rfl rfl ho dNamedForm_isBlockSound_65 ?_
  refine lv_iload_n hx hb dNamedForm_isBlockSound_66 rfl (lv_at hl 1 rfl) ?_
  refine lv_bipush (v := 6) hx hb dNamedForm_isBlockSound_67 (by decide) ?_
  refine xci (va_runV ⟨hx, hb, hml, hown, hts⟩ (ktNamedForm_isUseSound l D cA ad N _ orderSize reached blw homeBlock homePlace (endUses (Int32.toNatClampNeg v1)) v1 6 _ hw) (cwV 3 hts (goodV kw_596 kw_598 ks_2_3 kw_6 kw_599) rfl rfl rfl (by decide +kernel) ⟨Nat.le_of_ble_eq_true rfl, Nat.le_of_ble_eq_true rfl⟩) (xpreV hK hP hD hN [2, 3, 4, 8, 9] rfl rfl 4 rfl rfl) rfl rfl hl.1 rfl (lv_room (Nat.le_of_ble_eq_true rfl)) dNamedForm_isBlockSound_69 ⟨Nat.le_of_ble_eq_true rfl, Nat.le_of_ble_eq_true rfl⟩) hP hD hS hA [2, 3, 4, 8, 9] [0, 1, 5, 6, 7] rfl rfl rfl rfl [0, 1, 5, 6, 7, 2, 3, 4, 8, 9] rfl (fun _ => rfl) (fun r69 u H locs hw hP hD hS => ?_)
  obtain ⟨r69, rfl, hw⟩ := hw
  have hP : va_P D vwCl (wdNamedForm_isBlockSound cA ad N stepCount orderSize reached blw firstUses secondUses endUses homeBlock homePlace) H := hP
  have hD : va_D A (wdNamedForm_isBlockSound cA ad N stepCount orderSize reached blw firstUses secondUses endUses homeBlock homePlace) := hD
  exact hend r69 _ _ _ _ dNamedForm_isBlockSound_72 hP hD hS hw
abbrev wdNamedForm_areMeetingsSound (cA : ClassId) (ad : Nat → Nat) (N : Nat) (orderSize : Int32) (reached : Int32) (blw : Nat → Int32) (meetingUses : Nat → Int32) (homeBlock : Nat → Int32) (homePlace : Nat → Int32) : va_W := [((ad 11), .inr (2, [.int (nI N), .ref (ad 12), .ref (ad 13), .ref (ad 14), .ref (ad 15), .ref (ad 16), .ref (ad 17), .int orderSize, .int reached])), ((ad 13), .inl (cA, N, .inl blw)), ((ad 18), .inr (3, [.ref (ad 1), .ref (ad 11), .int (nI N), .ref (ad 19), .ref (ad 20), .ref (ad 21), .ref (ad 22), .ref (ad 23), .ref (ad 24), .ref (ad 25), .ref (ad 26), .ref (ad 27), .ref (ad 28), .ref (ad 29)])), ((ad 20), .inl (cA, N * 6 * (N + 1), .inl meetingUses)), ((ad 27), .inl (cA, 600, .inl homeBlock)), ((ad 28), .inl (cA, 600, .inl homePlace))]
abbrev qcNamedForm_areMeetingsSound (D : va_G) (cA : ClassId) (ad : Nat → Nat) (N : Nat) (orderSize : Int32) (reached : Int32) (blw : Nat → Int32) (meetingUses : Nat → Int32) (homeBlock : Nat → Int32) (homePlace : Nat → Int32) (post : Bool → Prop) (A : Nat → Prop) : Array Value → State → Outcome → State → Prop := va_Qi (S := Unit) (fun r u => ∃ z : Bool, r = bI z ∧ post z ) (fun u t => xB D [(cA, .int)] A (wdNamedForm_areMeetingsSound cA ad N orderSize reached blw meetingUses homeBlock homePlace) t) A
abbrev rmNamedForm_areMeetingsSound : Room := { frames := 3, cells := 0, slots := 0, locals := 67 }
set_option maxHeartbeats 4000000 in
set_option maxRecDepth 100000 in
theorem ktNamedForm_areMeetingsSound (l : Launch) (D : va_G) (cA : ClassId) (ad : Nat → Nat) (N : Nat) (sz : Nat) (orderSize : Int32) (reached : Int32) (blw : Nat → Int32) (meetingUses : Nat → Int32) (homeBlock : Nat → Int32) (homePlace : Nat → Int32) (v1 : Int32) (post : Bool → Prop) (hw : wpNamedForm_areMeetingsSound N blw meetingUses homeBlock homePlace v1 post) : Met l yNamedForm_areMeetingsSound (Cond.code yNamedForm_areMeetingsSound cNamedForm_areMeetingsSound 4 (some .boolean) :: xW) rmNamedForm_areMeetingsSound (va_Pc [.ref (ad 18), .int v1] (xPc D [(cA, .int)] (wdNamedForm_areMeetingsSound cA ad N orderSize reached blw meetingUses homeBlock homePlace) sz)) (qcNamedForm_areMeetingsSound D cA ad N orderSize reached blw meetingUses homeBlock homePlace post (va_A (wdNamedForm_areMeetingsSound cA ad N orderSize reached blw meetingUses homeBlock homePlace) sz)) 0 0 (va_A (wdNamedForm_areMeetingsSound cA ad N orderSize reached blw meetingUses homeBlock homePlace) sz) := by
  refine Met.ofW (cc := cNamedForm_areMeetingsSound) (maxL := 4) (ret := (some .boolean)) (by decide) rfl ?_
  intro p e s m args below meth c s₁ B hml hv
  obtain ⟨rfl, hsz, hP, hK, hD0, hN⟩ := hv
  have hx := B.exec
  have hb := B.bytes
  have hr := B.returns
  have hts := atoms_spec (ws := (Cond.code yNamedForm_areMeetingsSound cNamedForm_areMeetingsSound 4 (some .boolean) :: xW)) B.pre
  have hown : s.vm.findClass "OnceNamed$NamedForm" = some m.cls := findClass_of_methodNamed B.named
  have hlocks := B.notSynchronized
  subst hsz
  have hD := hD0.self (sz := s.heap.size)
  generalize hAe : va_A (wdNamedForm_areMeetingsSound cA ad N orderSize reached blw meetingUses homeBlock homePlace) s.heap.size = A at hD ⊢
  have hA : ∀ q : Nat, s.heap.size ≤ q → A q := fun q h => by rw [← hAe]; exact Or.inr h
  have hS : va_S A s.heap s.heap [] := va_S.rf
  have hend : ∀ (r : Bool)  (H : Heap) (locs : List Loc) (pc : Nat) (ls : Array Slot), decode cNamedForm_areMeetingsSound pc = .ok (.ireturn, 1) → va_P D vwCl (wdNamedForm_areMeetingsSound cA ad N orderSize reached blw meetingUses homeBlock homePlace) H → va_D A (wdNamedForm_areMeetingsSound cA ad N orderSize reached blw meetingUses homeBlock homePlace) → va_S A s.heap H locs → post r  → W p l e (headSpec (Cond.code yNamedForm_areMeetingsSound cNamedForm_areMeetingsSound 4 (some .boolean) :: xW) rmNamedForm_areMeetingsSound).room s m ([.ref (ad 18), .int v1] : List Value).toArray below meth c H locs 0 0 (MQ below (qcNamedForm_areMeetingsSound D cA ad N orderSize reached blw meetingUses homeBlock homePlace post A) ([.ref (ad 18), .int v1] : List Value).toArray s 0 0 A) (F0 m pc ls [.int (bI r)]) := fun r  H locs pc ls hd hP hD hS hw => W.zret (v := bI r) hx hb hr (bI_nar r) (fun t ht hW => ⟨⟨bI r, (), rfl, ⟨r, rfl, hw⟩, ⟨by rw [ht]; exact hP, va_K.moved hW.alike hK, hD⟩⟩, hS.F ht⟩) hS.2.2 hd
  generalize hQ : MQ below (qcNamedForm_areMeetingsSound D cA ad N orderSize reached blw meetingUses homeBlock homePlace post A) ([.ref (ad 18), .int v1] : List Value).toArray s 0 0 A = Q at hend ⊢
  have hl := lv_entry ([.ref (ad 18), .int v1]) (n := 4) (Nat.le_of_ble_eq_true rfl)
  rw [lg_entry_eq]
  generalize (lg_sl ([.ref (ad 18), .int v1]) ++ List.replicate (4 - (lg_sl ([.ref (ad 18), .int v1])).length) Slot.unset).toArray = ls at hl ⊢
  have hl : lv_has ls 4 [(0, .ref (ad 18)), (1, .int v1)] := hl
  unfold wpNamedForm_areMeetingsSound at hw
  refine lv_iconst (v := 0) hx hb dNamedForm_areMeetingsSound_0 (by decide) ?_
  refine lv_istore_n (lv' := [(2, .int 0), (0, .ref (ad 18)), (1, .int v1)]) hx hb dNamedForm_areMeetingsSound_1 rfl hl (by decide) rfl (fun ls hl => ?_)
  obtain ⟨k2, hw⟩ := hw
  have hlp2 : ∀ (k : Nat), ∀ (v2_L2 : Int32) (ls : Array Slot) (H : Heap) (locs : List Loc), lv_has ls 4 [(0, .ref (ad 18)), (1, .int v1), (2, .int v2_L2)] → va_P D vwCl (wdNamedForm_areMeetingsSound cA ad N orderSize reached blw meetingUses homeBlock homePlace) H → va_D A (wdNamedForm_areMeetingsSound cA ad N orderSize reached blw meetingUses homeBlock homePlace) → va_S A s.heap H locs → lpNamedForm_areMeetingsSound_2 N v1 blw meetingUses homeBlock homePlace post k v2_L2 → W p l e (headSpec (Cond.code yNamedForm_areMeetingsSound cNamedForm_areMeetingsSound 4 (some .boolean) :: xW) rmNamedForm_areMeetingsSound).room s m ([.ref (ad 18), .int v1] : List Value).toArray below meth c H locs 0 0 Q (F0 m 2 ls []) := by
    intro k
    induction k with
    | zero => intro v2_L2 ls H locs hl hP hD hS hw; exact False.elim hw
    | succ k ih =>
      intro v2_L2 ls H locs hl hP hD hS hw
      refine lv_iload_n hx hb dNamedForm_areMeetingsSound_2 rfl (lv_at hl 2 rfl) ?_
      refine lv_bipush (v := 6) hx hb dNamedForm_areMeetingsSound_3 (by decide) ?_
      refine lv_icmp_ge (tgt := 54) hx hb dNamedForm_areMeetingsSound_5 rfl (fun hc => ?_) (fun hc => ?_)
      · have hw := hw.1 hc
        refine lv_iconst (v := 1) hx hb dNamedForm_areMeetingsSound_54 (by decide) ?_
        exact hend true _ _ _ _ dNamedForm_areMeetingsSound_55 hP hD hS hw
      · have hw := hw.2 hc
        refine lv_iconst (v := 0) hx hb dNamedForm_areMeetingsSound_8 (by decide) ?_
        refine lv_istore_n (lv' := [(3, .int 0), (0, .ref (ad 18)), (1, .int v1), (2, .int v2_L2)]) hx hb dNamedForm_areMeetingsSound_9 rfl hl (by decide) rfl (fun ls hl => ?_)
        obtain ⟨k10, hw⟩ := hw
        have hlp10 : ∀ (K48 : Int32 → Prop), (∀ (v3_x48 : Int32) (ls : Array Slot) (H : Heap) (locs : List Loc), lv_has ls 4 [(0, .ref (ad 18)), (1, .int v1), (2, .int v2_L2), (3, .int v3_x48)] → va_P D vwCl (wdNamedForm_areMeetingsSound cA ad N orderSize reached blw meetingUses homeBlock homePlace) H → va_D A (wdNamedForm_areMeetingsSound cA ad N orderSize reached blw meetingUses homeBlock homePlace) → va_S A s.heap H locs → K48 v3_x48 → W p l e (headSpec (Cond.code yNamedForm_areMeetingsSound cNamedForm_areMeetingsSound 4 (some .boolean) :: xW) rmNamedForm_areMeetingsSound).room s m ([.ref (ad 18), .int v1] : List Value).toArray below meth c H locs 0 0 Q (F0 m 48 ls [])) → ∀ (k : Nat), ∀ (v3_L10 : Int32) (ls : Array Slot) (H : Heap) (locs : List Loc), lv_has ls 4 [(0, .ref (ad 18)), (1, .int v1), (2, .int v2_L2), (3, .int v3_L10)] → va_P D vwCl (wdNamedForm_areMeetingsSound cA ad N orderSize reached blw meetingUses homeBlock homePlace) H → va_D A (wdNamedForm_areMeetingsSound cA ad N orderSize reached blw meetingUses homeBlock homePlace) → va_S A s.heap H locs → lpNamedForm_areMeetingsSound_10 N v1 v2_L2 blw meetingUses homeBlock homePlace post K48 k v3_L10 → W p l e (headSpec (Cond.code yNamedForm_areMeetingsSound cNamedForm_areMeetingsSound 4 (some .boolean) :: xW) rmNamedForm_areMeetingsSound).room s m ([.ref (ad 18), .int v1] : List Value).toArray below meth c H locs 0 0 Q (F0 m 10 ls []) := by
          intro K48 hK48 k
          induction k with
          | zero => intro v3_L10 ls H locs hl hP hD hS hw; exact False.elim hw
          | succ k ih =>
            intro v3_L10 ls H locs hl hP hD hS hw
            refine lv_iload_n hx hb dNamedForm_areMeetingsSound_10 rfl (lv_at hl 3 rfl) ?_
            refine lv_aload_n hx hb dNamedForm_areMeetingsSound_11 rfl (lv_at hl 0 rfl) ?_
            refine va_get (D := D) (ci := 3) (v := .int (nI N)) (C := "OnceNamed$NamedForm") (T := TX3) (N := 14) hx hb hts (fun w h => List.mem_cons_of_mem _ (inX3 w h)) hown hK hP 2 rfl rfl 2 (by decide) (hts _ (List.mem_cons_of_mem _ kw_122)) (fun _ h9 => h9) rfl dNamedForm_areMeetingsSound_12 ?_
            refine lv_icmp_gt (tgt := 48) hx hb dNamedForm_areMeetingsSound_15 rfl (fun hc => ?_) (fun hc => ?_)
            · have hw := hw.1 hc
              exact hK48 v3_L10 _ _ _ (lv_sub hl [0, 1, 2, 3] rfl) hP hD hS hw
            · have hw := hw.2 hc
              refine lv_aload_n hx hb dNamedForm_areMeetingsSound_18 rfl (lv_at hl 0 rfl) ?_
              refine lv_aload_n hx hb dNamedForm_areMeetingsSound_19 rfl (lv_at hl 0 rfl) ?_
              refine va_get (D := D) (ci := 3) (v := .ref (ad 20)) (C := "OnceNamed$NamedForm") (T := TX3) (N := 14) hx hb hts (fun w h => List.mem_cons_of_mem _ (inX3 w h)) hown hK hP 2 rfl rfl 4 (by decide) (hts _ (List.mem_cons_of_mem _ kw_124)) (fun _ h9 => h9) rfl dNamedForm_areMeetingsSound_20 ?_
              refine lv_aload_n hx hb dNamedForm_areMeetingsSound_23 rfl (lv_at hl 0 rfl) ?_
              refine lv_iload_n hx hb dNamedForm_areMeetingsSound_24 rfl (lv_at hl 1 rfl) ?_
              refine lv_iload_n hx hb dNamedForm_areMeetingsSound_25 rfl (lv_at hl 2 rfl) ?_
              refine lv_iload_n hx hb dNamedForm_areMeetingsSound_26 rfl (lv_at hl 3 rfl) ?_
              refine xci (va_runV ⟨hx, hb, hml, hown, hts⟩ (ktNamedForm_useOfMeeting l D cA ad N _ v1 v2_L2 v3_L10 _ hw) (cwV 3 hts (goodV kw_397 kw_399 ks_1_13 kw_6 kw_400) rfl rfl rfl (by decide +kernel) ⟨Nat.le_of_ble_eq_true rfl, Nat.le_of_ble_eq_true rfl⟩) (xpreV hK hP hD hN [2] rfl rfl 2 rfl rfl) rfl rfl hl.1 rfl (lv_room (Nat.le_of_ble_eq_true rfl)) dNamedForm_areMeetingsSound_27 ⟨Nat.le_of_ble_eq_true rfl, Nat.le_of_ble_eq_true rfl⟩) hP hD hS hA [2] [0, 1, 3, 4, 5] rfl rfl rfl rfl [0, 1, 5, 2, 3, 4] rfl (fun _ => rfl) (fun r27 u H locs hw hP hD hS => ?_)
              have hP : va_P D vwCl (wdNamedForm_areMeetingsSound cA ad N orderSize reached blw meetingUses homeBlock homePlace) H := hP
              have hD : va_D A (wdNamedForm_areMeetingsSound cA ad N orderSize reached blw meetingUses homeBlock homePlace) := hD
              have ho := hw.1
              have hw := hw.2
              refine va_iald hx hb hK hP 3 0 rfl rfl ho dNamedForm_areMeetingsSound_30 ?_
              refine lv_iload_n hx hb dNamedForm_areMeetingsSound_31 rfl (lv_at hl 3 rfl) ?_
              refine lv_bipush (v := 6) hx hb dNamedForm_areMeetingsSound_32 (by decide) ?_
              refine xci (va_runV ⟨hx, hb, hml, hown, hts⟩ (ktNamedForm_isUseSound l D cA ad N _ orderSize reached blw homeBlock homePlace (meetingUses (Int32.toNatClampNeg r27)) v3_L10 6 _ hw) (cwV 3 hts (goodV kw_596 kw_598 ks_2_3 kw_6 kw_599) rfl rfl rfl (by decide +kernel) ⟨Nat.le_of_ble_eq_true rfl, Nat.le_of_ble_eq_true rfl⟩) (xpreV hK hP hD hN [0, 1, 2, 4, 5] rfl rfl 2 rfl rfl) rfl rfl hl.1 rfl (lv_room (Nat.le_of_ble_eq_true rfl)) dNamedForm_areMeetingsSound_34 ⟨Nat.le_of_ble_eq_true rfl, Nat.le_of_ble_eq_true rfl⟩) hP hD hS hA [0, 1, 2, 4, 5] [3] rfl rfl rfl rfl [1, 2, 3, 0, 4, 5] rfl (fun _ => rfl) (fun r34 u H locs hw hP hD hS => ?_)
              obtain ⟨r34, rfl, hw⟩ := hw
              have hP : va_P D vwCl (wdNamedForm_areMeetingsSound cA ad N orderSize reached blw meetingUses homeBlock homePlace) H := hP
              have hD : va_D A (wdNamedForm_areMeetingsSound cA ad N orderSize reached blw meetingUses homeBlock homePlace) := hD
              refine lv_if_ne (tgt := 42) hx hb dNamedForm_areMeetingsSound_37 rfl (fun hc => ?_) (fun hc => ?_)
              · have hw := hw.1 (bI_1 hc)
                refine lv_iinc (k := 3) (v := (v3_L10 + 1)) (lv' := [(3, .int (v3_L10 + 1)), (0, .ref (ad 18)), (1, .int v1), (2, .int v2_L2)]) hx hb dNamedForm_areMeetingsSound_42 hl rfl rfl (by decide) rfl (fun ls hl => ?_)
                refine lv_goto (tgt := 10) hx hb dNamedForm_areMeetingsSound_45 rfl ?_
                exact ih (v3_L10 + 1) _ _ _ (lv_sub hl [1, 2, 3, 0] rfl) hP hD hS hw
              · have hw := hw.2 (bI_0 hc)
                refine lv_iconst (v := 0) hx hb dNamedForm_areMeetingsSound_40 (by decide) ?_
                exact hend false _ _ _ _ dNamedForm_areMeetingsSound_41 hP hD hS hw
        refine hlp10 _ ?_ k10 0 _ _ _ (lv_sub hl [1, 2, 3, 0] rfl) hP hD hS hw
        intro v3_x48 ls H locs hl hP hD hS hw
        try dsimp only at hw
        refine lv_iinc (k := 2) (v := (v2_L2 + 1)) (lv' := [(2, .int (v2_L2 + 1)), (0, .ref (ad 18)), (1, .int v1), (3, .int v3_x48)]) hx hb dNamedForm_areMeetingsSound_48 hl rfl rfl (by decide) rfl (fun ls hl => ?_)
        refine lv_goto (tgt := 2) hx hb dNamedForm_areMeetingsSound_51 rfl ?_
        exact ih (v2_L2 + 1) _ _ _ (lv_sub hl [1, 2, 0] rfl) hP hD hS hw
  refine hlp2 k2 0 _ _ _ (lv_sub hl [1, 2, 0] rfl) hP hD hS hw
abbrev wdNamedForm_isSound (cA : ClassId) (ad : Nat → Nat) (N : Nat) (stepCount : Nat → Int32) (orderSize : Int32) (reached : Int32) (blw : Nat → Int32) (order : Nat → Int32) (meetingUses : Nat → Int32) (firstUses : Nat → Int32) (secondUses : Nat → Int32) (endUses : Nat → Int32) (homeBlock : Nat → Int32) (homePlace : Nat → Int32) : va_W := [((ad 1), .inr (1, [.int (nI N), .ref (ad 2), .ref (ad 3), .ref (ad 4), .ref (ad 5), .ref (ad 6), .ref (ad 7), .ref (ad 8), .ref (ad 9), .ref (ad 10)])), ((ad 2), .inl (cA, N, .inl stepCount)), ((ad 11), .inr (2, [.int (nI N), .ref (ad 12), .ref (ad 13), .ref (ad 14), .ref (ad 15), .ref (ad 16), .ref (ad 17), .int orderSize, .int reached])), ((ad 13), .inl (cA, N, .inl blw)), ((ad 16), .inl (cA, N, .inl order)), ((ad 18), .inr (3, [.ref (ad 1), .ref (ad 11), .int (nI N), .ref (ad 19), .ref (ad 20), .ref (ad 21), .ref (ad 22), .ref (ad 23), .ref (ad 24), .ref (ad 25), .ref (ad 26), .ref (ad 27), .ref (ad 28), .ref (ad 29)])), ((ad 20), .inl (cA, N * 6 * (N + 1), .inl meetingUses)), ((ad 22), .inl (cA, N * 6, .inl firstUses)), ((ad 23), .inl (cA, N * 6, .inl secondUses)), ((ad 24), .inl (cA, N, .inl endUses)), ((ad 27), .inl (cA, 600, .inl homeBlock)), ((ad 28), .inl (cA, 600, .inl homePlace))]
abbrev qcNamedForm_isSound (D : va_G) (cA : ClassId) (ad : Nat → Nat) (N : Nat) (stepCount : Nat → Int32) (orderSize : Int32) (reached : Int32) (blw : Nat → Int32) (order : Nat → Int32) (meetingUses : Nat → Int32) (firstUses : Nat → Int32) (secondUses : Nat → Int32) (endUses : Nat → Int32) (homeBlock : Nat → Int32) (homePlace : Nat → Int32) (post : Bool → Prop) (A : Nat → Prop) : Array Value → State → Outcome → State → Prop := va_Qi (S := Unit) (fun r u => ∃ z : Bool, r = bI z ∧ post z ) (fun u t => xB D [(cA, .int)] A (wdNamedForm_isSound cA ad N stepCount orderSize reached blw order meetingUses firstUses secondUses endUses homeBlock homePlace) t) A
abbrev rmNamedForm_isSound : Room := { frames := 4, cells := 0, slots := 0, locals := 90 }
set_option maxHeartbeats 4000000 in
set_option maxRecDepth 100000 in
theorem ktNamedForm_isSound (l : Launch) (D : va_G) (cA : ClassId) (ad : Nat → Nat) (N : Nat) (sz : Nat) (stepCount : Nat → Int32) (orderSize : Int32) (reached : Int32) (blw : Nat → Int32) (order : Nat → Int32) (meetingUses : Nat → Int32) (firstUses : Nat → Int32) (secondUses : Nat → Int32) (endUses : Nat → Int32) (homeBlock : Nat → Int32) (homePlace : Nat → Int32)  (post : Bool → Prop) (hw : wpNamedForm_isSound N stepCount orderSize blw order meetingUses firstUses secondUses endUses homeBlock homePlace post) : Met l yNamedForm_isSound (Cond.code yNamedForm_isSound cNamedForm_isSound 3 (some .boolean) :: xW) rmNamedForm_isSound (va_Pc [.ref (ad 18)] (xPc D [(cA, .int)] (wdNamedForm_isSound cA ad N stepCount orderSize reached blw order meetingUses firstUses secondUses endUses homeBlock homePlace) sz)) (qcNamedForm_isSound D cA ad N stepCount orderSize reached blw order meetingUses firstUses secondUses endUses homeBlock homePlace post (va_A (wdNamedForm_isSound cA ad N stepCount orderSize reached blw order meetingUses firstUses secondUses endUses homeBlock homePlace) sz)) 0 0 (va_A (wdNamedForm_isSound cA ad N stepCount orderSize reached blw order meetingUses firstUses secondUses endUses homeBlock homePlace) sz) := by
  refine Met.ofW (cc := cNamedForm_isSound) (maxL := 3) (ret := (some .boolean)) (by decide) rfl ?_
  intro p e s m args below meth c s₁ B hml hv
  obtain ⟨rfl, hsz, hP, hK, hD0, hN⟩ := hv
  have hx := B.exec
  have hb := B.bytes
  have hr := B.returns
  have hts := atoms_spec (ws := (Cond.code yNamedForm_isSound cNamedForm_isSound 3 (some .boolean) :: xW)) B.pre
  have hown : s.vm.findClass "OnceNamed$NamedForm" = some m.cls := findClass_of_methodNamed B.named
  have hlocks := B.notSynchronized
  subst hsz
  have hD := hD0.self (sz := s.heap.size)
  generalize hAe : va_A (wdNamedForm_isSound cA ad N stepCount orderSize reached blw order meetingUses firstUses secondUses endUses homeBlock homePlace) s.heap.size = A at hD ⊢
  have hA : ∀ q : Nat, s.heap.size ≤ q → A q := fun q h => by rw [← hAe]; exact Or.inr h
  have hS : va_S A s.heap s.heap [] := va_S.rf
  have hend : ∀ (r : Bool)  (H : Heap) (locs : List Loc) (pc : Nat) (ls : Array Slot), decode cNamedForm_isSound pc = .ok (.ireturn, 1) → va_P D vwCl (wdNamedForm_isSound cA ad N stepCount orderSize reached blw order meetingUses firstUses secondUses endUses homeBlock homePlace) H → va_D A (wdNamedForm_isSound cA ad N stepCount orderSize reached blw order meetingUses firstUses secondUses endUses homeBlock homePlace) → va_S A s.heap H locs → post r  → W p l e (headSpec (Cond.code yNamedForm_isSound cNamedForm_isSound 3 (some .boolean) :: xW) rmNamedForm_isSound).room s m ([.ref (ad 18)] : List Value).toArray below meth c H locs 0 0 (MQ below (qcNamedForm_isSound D cA ad N stepCount orderSize reached blw order meetingUses firstUses secondUses endUses homeBlock homePlace post A) ([.ref (ad 18)] : List Value).toArray s 0 0 A) (F0 m pc ls [.int (bI r)]) := fun r  H locs pc ls hd hP hD hS hw => W.zret (v := bI r) hx hb hr (bI_nar r) (fun t ht hW => ⟨⟨bI r, (), rfl, ⟨r, rfl, hw⟩, ⟨by rw [ht]; exact hP, va_K.moved hW.alike hK, hD⟩⟩, hS.F ht⟩) hS.2.2 hd
  generalize hQ : MQ below (qcNamedForm_isSound D cA ad N stepCount orderSize reached blw order meetingUses firstUses secondUses endUses homeBlock homePlace post A) ([.ref (ad 18)] : List Value).toArray s 0 0 A = Q at hend ⊢
  have hl := lv_entry ([.ref (ad 18)]) (n := 3) (Nat.le_of_ble_eq_true rfl)
  rw [lg_entry_eq]
  generalize (lg_sl ([.ref (ad 18)]) ++ List.replicate (3 - (lg_sl ([.ref (ad 18)])).length) Slot.unset).toArray = ls at hl ⊢
  have hl : lv_has ls 3 [(0, .ref (ad 18))] := hl
  unfold wpNamedForm_isSound at hw
  refine lv_iconst (v := 0) hx hb dNamedForm_isSound_0 (by decide) ?_
  refine lv_istore_n (lv' := [(1, .int 0), (0, .ref (ad 18))]) hx hb dNamedForm_isSound_1 rfl hl (by decide) rfl (fun ls hl => ?_)
  obtain ⟨k2, hw⟩ := hw
  have hlp2 : ∀ (k : Nat), ∀ (v1_L2 : Int32) (ls : Array Slot) (H : Heap) (locs : List Loc), lv_has ls 3 [(0, .ref (ad 18)), (1, .int v1_L2)] → va_P D vwCl (wdNamedForm_isSound cA ad N stepCount orderSize reached blw order meetingUses firstUses secondUses endUses homeBlock homePlace) H → va_D A (wdNamedForm_isSound cA ad N stepCount orderSize reached blw order meetingUses firstUses secondUses endUses homeBlock homePlace) → va_S A s.heap H locs → lpNamedForm_isSound_2 N stepCount orderSize blw order meetingUses firstUses secondUses endUses homeBlock homePlace post k v1_L2 → W p l e (headSpec (Cond.code yNamedForm_isSound cNamedForm_isSound 3 (some .boolean) :: xW) rmNamedForm_isSound).room s m ([.ref (ad 18)] : List Value).toArray below meth c H locs 0 0 Q (F0 m 2 ls []) := by
    intro k
    induction k with
    | zero => intro v1_L2 ls H locs hl hP hD hS hw; exact False.elim hw
    | succ k ih =>
      intro v1_L2 ls H locs hl hP hD hS hw
      refine lv_iload_n hx hb dNamedForm_isSound_2 rfl (lv_at hl 1 rfl) ?_
      refine lv_aload_n hx hb dNamedForm_isSound_3 rfl (lv_at hl 0 rfl) ?_
      refine va_get (D := D) (ci := 3) (v := .ref (ad 11)) (C := "OnceNamed$NamedForm") (T := TX3) (N := 14) hx hb hts (fun w h => List.mem_cons_of_mem _ (inX3 w h)) hown hK hP 5 rfl rfl 1 (by decide) (hts _ (List.mem_cons_of_mem _ kw_121)) (fun _ h9 => h9) rfl dNamedForm_isSound_4 ?_
      dsimp only [lpNamedForm_isSound_2] at hw
      refine xci (va_runV ⟨hx, hb, hml, hown, hts⟩ (ktGraph_reachedCount l D cA ad N _ orderSize reached _ hw) (cwV 0 hts (goodV kw_315 kw_316 kw_317 kw_5 kw_318) rfl rfl rfl (by decide +kernel) ⟨Nat.le_of_ble_eq_true rfl, Nat.le_of_ble_eq_true rfl⟩) (xpreV hK hP hD hN [2] rfl rfl 2 rfl rfl) rfl rfl hl.1 rfl (lv_room (Nat.le_of_ble_eq_true rfl)) dNamedForm_isSound_7 ⟨Nat.le_of_ble_eq_true rfl, Nat.le_of_ble_eq_true rfl⟩) hP hD hS hA [2] [0, 1, 3, 4, 5, 6, 7, 8, 9, 10, 11] rfl rfl rfl rfl [0, 1, 11, 2, 3, 4, 5, 6, 7, 8, 9, 10] rfl (fun _ => rfl) (fun r7 u H locs hw hP hD hS => ?_)
      have hP : va_P D vwCl (wdNamedForm_isSound cA ad N stepCount orderSize reached blw order meetingUses firstUses secondUses endUses homeBlock homePlace) H := hP
      have hD : va_D A (wdNamedForm_isSound cA ad N stepCount orderSize reached blw order meetingUses firstUses secondUses endUses homeBlock homePlace) := hD
      refine lv_icmp_ge (tgt := 46) hx hb dNamedForm_isSound_10 rfl (fun hc => ?_) (fun hc => ?_)
      · have hw := hw.1 hc
        refine lv_iconst (v := 1) hx hb dNamedForm_isSound_46 (by decide) ?_
        exact hend true _ _ _ _ dNamedForm_isSound_47 hP hD hS hw
      · have hw := hw.2 hc
        refine lv_aload_n hx hb dNamedForm_isSound_13 rfl (lv_at hl 0 rfl) ?_
        refine va_get (D := D) (ci := 3) (v := .ref (ad 11)) (C := "OnceNamed$NamedForm") (T := TX3) (N := 14) hx hb hts (fun w h => List.mem_cons_of_mem _ (inX3 w h)) hown hK hP 5 rfl rfl 1 (by decide) (hts _ (List.mem_cons_of_mem _ kw_121)) (fun _ h9 => h9) rfl dNamedForm_isSound_14 ?_
        refine lv_iload_n hx hb dNamedForm_isSound_17 rfl (lv_at hl 1 rfl) ?_
        refine xci (va_runV ⟨hx, hb, hml, hown, hts⟩ (ktGraph_inOrder l D cA ad N _ orderSize reached order v1_L2 _ hw) (cwV 1 hts (goodV kw_319 kw_320 kw_321 kw_5 kw_322) rfl rfl rfl (by decide +kernel) ⟨Nat.le_of_ble_eq_true rfl, Nat.le_of_ble_eq_true rfl⟩) (xpreV hK hP hD hN [2, 4] rfl rfl 2 rfl rfl) rfl rfl hl.1 rfl (lv_room (Nat.le_of_ble_eq_true rfl)) dNamedForm_isSound_18 ⟨Nat.le_of_ble_eq_true rfl, Nat.le_of_ble_eq_true rfl⟩) hP hD hS hA [2, 4] [0, 1, 3, 5, 6, 7, 8, 9, 10, 11] rfl rfl rfl rfl [0, 1, 10, 2, 11, 3, 4, 5, 6, 7, 8, 9] rfl (fun _ => rfl) (fun r18 u H locs hw hP hD hS => ?_)
        have hP : va_P D vwCl (wdNamedForm_isSound cA ad N stepCount orderSize reached blw order meetingUses firstUses secondUses endUses homeBlock homePlace) H := hP
        have hD : va_D A (wdNamedForm_isSound cA ad N stepCount orderSize reached blw order meetingUses firstUses secondUses endUses homeBlock homePlace) := hD
        refine lv_istore_n (lv' := [(2, .int r18), (0, .ref (ad 18)), (1, .int v1_L2)]) hx hb dNamedForm_isSound_21 rfl hl (by decide) rfl (fun ls hl => ?_)
        refine lv_aload_n hx hb dNamedForm_isSound_22 rfl (lv_at hl 1 rfl) ?_
        refine lv_iload_n hx hb dNamedForm_isSound_23 rfl (lv_at hl 0 rfl) ?_
        refine xci (va_runV ⟨hx, hb, hml, hown, hts⟩ (ktNamedForm_isBlockSound l D cA ad N _ stepCount orderSize reached blw firstUses secondUses endUses homeBlock homePlace r18 _ hw) (cwV 1 hts (goodV kw_592 kw_594 ks_2_2 kw_6 kw_595) rfl rfl rfl (by decide +kernel) ⟨Nat.le_of_ble_eq_true rfl, Nat.le_of_ble_eq_true rfl⟩) (xpreV hK hP hD hN [0, 1, 2, 3, 5, 7, 8, 9, 10, 11] rfl rfl 5 rfl rfl) rfl rfl hl.1 rfl (lv_room (Nat.le_of_ble_eq_true rfl)) dNamedForm_isSound_24 ⟨Nat.le_of_ble_eq_true rfl, Nat.le_of_ble_eq_true rfl⟩) hP hD hS hA [0, 1, 2, 3, 5, 7, 8, 9, 10, 11] [4, 6] rfl rfl rfl rfl [2, 3, 4, 5, 0, 6, 1, 7, 8, 9, 10, 11] rfl (fun _ => rfl) (fun r24 u H locs hw hP hD hS => ?_)
        obtain ⟨r24, rfl, hw⟩ := hw
        have hP : va_P D vwCl (wdNamedForm_isSound cA ad N stepCount orderSize reached blw order meetingUses firstUses secondUses endUses homeBlock homePlace) H := hP
        have hD : va_D A (wdNamedForm_isSound cA ad N stepCount orderSize reached blw order meetingUses firstUses secondUses endUses homeBlock homePlace) := hD
        refine lv_if_eq (tgt := 38) hx hb dNamedForm_isSound_27 rfl (fun hc => ?_) (fun hc => ?_)
        · have hw := hw.1 (bI_0 hc)
          refine lv_iconst (v := 0) hx hb dNamedForm_isSound_38 (by decide) ?_
          exact hend false _ _ _ _ dNamedForm_isSound_39 hP hD hS hw
        · have hw := hw.2 (bI_1 hc)
          refine lv_aload_n hx hb dNamedForm_isSound_30 rfl (lv_at hl 1 rfl) ?_
          refine lv_iload_n hx hb dNamedForm_isSound_31 rfl (lv_at hl 0 rfl) ?_
          refine xci (va_runV ⟨hx, hb, hml, hown, hts⟩ (ktNamedForm_areMeetingsSound l D cA ad N _ orderSize reached blw meetingUses homeBlock homePlace r18 _ hw) (cwV 1 hts (goodV kw_604 kw_606 ks_2_4 kw_6 kw_607) rfl rfl rfl (by decide +kernel) ⟨Nat.le_of_ble_eq_true rfl, Nat.le_of_ble_eq_true rfl⟩) (xpreV hK hP hD hN [2, 3, 5, 6, 10, 11] rfl rfl 5 rfl rfl) rfl rfl hl.1 rfl (lv_room (Nat.le_of_ble_eq_true rfl)) dNamedForm_isSound_32 ⟨Nat.le_of_ble_eq_true rfl, Nat.le_of_ble_eq_true rfl⟩) hP hD hS hA [2, 3, 5, 6, 10, 11] [0, 1, 4, 7, 8, 9] rfl rfl rfl rfl [0, 1, 6, 7, 2, 8, 9, 3, 4, 5, 10, 11] rfl (fun _ => rfl) (fun r32 u H locs hw hP hD hS => ?_)
          obtain ⟨r32, rfl, hw⟩ := hw
          have hP : va_P D vwCl (wdNamedForm_isSound cA ad N stepCount orderSize reached blw order meetingUses firstUses secondUses endUses homeBlock homePlace) H := hP
          have hD : va_D A (wdNamedForm_isSound cA ad N stepCount orderSize reached blw order meetingUses firstUses secondUses endUses homeBlock homePlace) := hD
          refine lv_if_ne (tgt := 40) hx hb dNamedForm_isSound_35 rfl (fun hc => ?_) (fun hc => ?_)
          · have hw := hw.1 (bI_1 hc)
            refine lv_iinc (k := 2) (v := (v1_L2 + 1)) (lv' := [(1, .int (v1_L2 + 1)), (2, .int r18), (0, .ref (ad 18))]) hx hb dNamedForm_isSound_40 hl rfl rfl (by decide) rfl (fun ls hl => ?_)
            refine lv_goto (tgt := 2) hx hb dNamedForm_isSound_43 rfl ?_
            exact ih (v1_L2 + 1) _ _ _ (lv_sub hl [2, 0] rfl) hP hD hS hw
          · have hw := hw.2 (bI_0 hc)
            refine lv_iconst (v := 0) hx hb dNamedForm_isSound_38 (by decide) ?_
            exact hend false _ _ _ _ dNamedForm_isSound_39 hP hD hS hw
  refine hlp2 k2 0 _ _ _ (lv_sub hl [1, 0] rfl) hP hD hS hw
abbrev wdNamedForm_replaceAll (cA : ClassId) (ad : Nat → Nat) (N : Nat) (R1a : Nat) (R1n : Nat) (standsFor : Nat → Int32) (R1c : Nat → Int32) : va_W := [((ad 18), .inr (3, [.ref (ad 1), .ref (ad 11), .int (nI N), .ref (ad 19), .ref (ad 20), .ref (ad 21), .ref (ad 22), .ref (ad 23), .ref (ad 24), .ref (ad 25), .ref (ad 26), .ref (ad 27), .ref (ad 28), .ref (ad 29)])), ((ad 29), .inl (cA, 600, .inl standsFor)), (R1a, .inl (cA, R1n, .inl R1c))]
abbrev qcNamedForm_replaceAll (D : va_G) (cA : ClassId) (ad : Nat → Nat) (N : Nat) (R1a : Nat) (R1n : Nat) (standsFor : Nat → Int32) (R1c : Nat → Int32) (post : (Nat → Int32) → Prop) (A : Nat → Prop) : Array Value → State → Outcome → State → Prop := va_Qv (S := (Nat → Int32)) (fun u => post u) (fun u t => xB D [(cA, .int)] A (wdNamedForm_replaceAll cA ad N R1a R1n standsFor u) t) A
abbrev rmNamedForm_replaceAll : Room := { frames := 0, cells := 0, slots := 0, locals := 0 }
set_option maxHeartbeats 4000000 in
set_option maxRecDepth 100000 in
theorem ktNamedForm_replaceAll (l : Launch) (D : va_G) (cA : ClassId) (ad : Nat → Nat) (N : Nat) (R1a : Nat) (R1n : Nat) (sz : Nat) (standsFor : Nat → Int32) (R1c : Nat → Int32)  (post : (Nat → Int32) → Prop) (hw : wpNamedForm_replaceAll R1n standsFor R1c post) : Met l yNamedForm_replaceAll (Cond.code yNamedForm_replaceAll cNamedForm_replaceAll 3 none :: xW) rmNamedForm_replaceAll (va_Pc [.ref (ad 18), .ref R1a] (xPc D [(cA, .int)] (wdNamedForm_replaceAll cA ad N R1a R1n standsFor R1c) sz)) (qcNamedForm_replaceAll D cA ad N R1a R1n standsFor R1c post (va_A (wdNamedForm_replaceAll cA ad N R1a R1n standsFor R1c) sz)) 0 0 (va_A (wdNamedForm_replaceAll cA ad N R1a R1n standsFor R1c) sz) := by
  refine Met.ofW (cc := cNamedForm_replaceAll) (maxL := 3) (ret := none) (by decide) rfl ?_
  intro p e s m args below meth c s₁ B hml hv
  obtain ⟨rfl, hsz, hP, hK, hD0, hN⟩ := hv
  have hx := B.exec
  have hb := B.bytes
  have hr := B.returns
  have hts := atoms_spec (ws := (Cond.code yNamedForm_replaceAll cNamedForm_replaceAll 3 none :: xW)) B.pre
  have hown : s.vm.findClass "OnceNamed$NamedForm" = some m.cls := findClass_of_methodNamed B.named
  have hlocks := B.notSynchronized
  subst hsz
  have hD := hD0.self (sz := s.heap.size)
  generalize hAe : va_A (wdNamedForm_replaceAll cA ad N R1a R1n standsFor R1c) s.heap.size = A at hD ⊢
  have hA : ∀ q : Nat, s.heap.size ≤ q → A q := fun q h => by rw [← hAe]; exact Or.inr h
  have hS : va_S A s.heap s.heap [] := va_S.rf
  have hend : ∀ (u0 : Nat → Int32) (H : Heap) (locs : List Loc) (pc : Nat) (ls : Array Slot), decode cNamedForm_replaceAll pc = .ok (.return_, 1) → va_P D vwCl (wdNamedForm_replaceAll cA ad N R1a R1n standsFor u0) H → va_D A (wdNamedForm_replaceAll cA ad N R1a R1n standsFor u0) → va_S A s.heap H locs → post u0 → W p l e (headSpec (Cond.code yNamedForm_replaceAll cNamedForm_replaceAll 3 none :: xW) rmNamedForm_replaceAll).room s m ([.ref (ad 18), .ref R1a] : List Value).toArray below meth c H locs 0 0 (MQ below (qcNamedForm_replaceAll D cA ad N R1a R1n standsFor R1c post A) ([.ref (ad 18), .ref R1a] : List Value).toArray s 0 0 A) (F0 m pc ls []) := fun u0 H locs pc ls hd hP hD hS hw => W.vret hx hb hr (fun t ht hW => ⟨⟨u0, rfl, hw, ⟨by rw [ht]; exact hP, va_K.moved hW.alike hK, hD⟩⟩, hS.F ht⟩) hS.2.2 hd
  generalize hQ : MQ below (qcNamedForm_replaceAll D cA ad N R1a R1n standsFor R1c post A) ([.ref (ad 18), .ref R1a] : List Value).toArray s 0 0 A = Q at hend ⊢
  have hl := lv_entry ([.ref (ad 18), .ref R1a]) (n := 3) (Nat.le_of_ble_eq_true rfl)
  rw [lg_entry_eq]
  generalize (lg_sl ([.ref (ad 18), .ref R1a]) ++ List.replicate (3 - (lg_sl ([.ref (ad 18), .ref R1a])).length) Slot.unset).toArray = ls at hl ⊢
  have hl : lv_has ls 3 [(0, .ref (ad 18)), (1, .ref R1a)] := hl
  unfold wpNamedForm_replaceAll at hw
  refine lv_iconst (v := 0) hx hb dNamedForm_replaceAll_0 (by decide) ?_
  refine lv_istore_n (lv' := [(2, .int 0), (0, .ref (ad 18)), (1, .ref R1a)]) hx hb dNamedForm_replaceAll_1 rfl hl (by decide) rfl (fun ls hl => ?_)
  obtain ⟨k2, hw⟩ := hw
  have hlp2 : ∀ (k : Nat), ∀ (v2_L2 : Int32) (R1c_L2 : Nat → Int32) (ls : Array Slot) (H : Heap) (locs : List Loc), lv_has ls 3 [(0, .ref (ad 18)), (1, .ref R1a), (2, .int v2_L2)] → va_P D vwCl (wdNamedForm_replaceAll cA ad N R1a R1n standsFor R1c_L2) H → va_D A (wdNamedForm_replaceAll cA ad N R1a R1n standsFor R1c_L2) → va_S A s.heap H locs → lpNamedForm_replaceAll_2 R1n standsFor post k v2_L2 R1c_L2 → W p l e (headSpec (Cond.code yNamedForm_replaceAll cNamedForm_replaceAll 3 none :: xW) rmNamedForm_replaceAll).room s m ([.ref (ad 18), .ref R1a] : List Value).toArray below meth c H locs 0 0 Q (F0 m 2 ls []) := by
    intro k
    induction k with
    | zero => intro v2_L2 R1c_L2 ls H locs hl hP hD hS hw; exact False.elim hw
    | succ k ih =>
      intro v2_L2 R1c_L2 ls H locs hl hP hD hS hw
      refine lv_iload_n hx hb dNamedForm_replaceAll_2 rfl (lv_at hl 2 rfl) ?_
      refine lv_aload_n hx hb dNamedForm_replaceAll_3 rfl (lv_at hl 1 rfl) ?_
      refine va_alen (v := nI R1n) hx hb hK hP 2 0 rfl rfl rfl dNamedForm_replaceAll_4 ?_
      refine lv_icmp_ge (tgt := 32) hx hb dNamedForm_replaceAll_5 rfl (fun hc => ?_) (fun hc => ?_)
      · have hw := hw.1 hc
        exact hend R1c_L2 _ _ _ _ dNamedForm_replaceAll_32 hP hD hS hw
      · have hw := hw.2 hc
        refine lv_aload_n hx hb dNamedForm_replaceAll_8 rfl (lv_at hl 1 rfl) ?_
        refine lv_iload_n hx hb dNamedForm_replaceAll_9 rfl (lv_at hl 2 rfl) ?_
        have ho := hw.1
        have hw := hw.2
        refine va_iald hx hb hK hP 2 0 rfl rfl ho dNamedForm_replaceAll_10 ?_
        refine lv_iconst (v := (-1)) hx hb dNamedForm_replaceAll_11 (by decide) ?_
        refine lv_icmp_eq (tgt := 26) hx hb dNamedForm_replaceAll_12 rfl (fun hc => ?_) (fun hc => ?_)
        · have hw := hw.1 hc
          refine lv_iinc (k := 2) (v := (v2_L2 + 1)) (lv' := [(2, .int (v2_L2 + 1)), (0, .ref (ad 18)), (1, .ref R1a)]) hx hb dNamedForm_replaceAll_26 hl rfl rfl (by decide) rfl (fun ls hl => ?_)
          refine lv_goto (tgt := 2) hx hb dNamedForm_replaceAll_29 rfl ?_
          exact ih (v2_L2 + 1) R1c_L2 _ _ _ (lv_sub hl [1, 2, 0] rfl) hP hD hS hw
        · have hw := hw.2 hc
          refine lv_aload_n hx hb dNamedForm_replaceAll_15 rfl (lv_at hl 1 rfl) ?_
          refine lv_iload_n hx hb dNamedForm_replaceAll_16 rfl (lv_at hl 2 rfl) ?_
          refine lv_aload_n hx hb dNamedForm_replaceAll_17 rfl (lv_at hl 0 rfl) ?_
          refine va_get (D := D) (ci := 3) (v := .ref (ad 29)) (C := "OnceNamed$NamedForm") (T := TX3) (N := 14) hx hb hts (fun w h => List.mem_cons_of_mem _ (inX3 w h)) hown hK hP 0 rfl rfl 13 (by decide) (hts _ (List.mem_cons_of_mem _ kw_133)) (fun _ h9 => h9) rfl dNamedForm_replaceAll_18 ?_
          refine lv_aload_n hx hb dNamedForm_replaceAll_21 rfl (lv_at hl 1 rfl) ?_
          refine lv_iload_n hx hb dNamedForm_replaceAll_22 rfl (lv_at hl 2 rfl) ?_
          have ho := hw.1
          have hw := hw.2
          refine va_iald hx hb hK hP 2 0 rfl rfl ho dNamedForm_replaceAll_23 ?_
          have ho := hw.1
          have hw := hw.2
          refine va_iald hx hb hK hP 1 0 rfl rfl ho dNamedForm_replaceAll_24 ?_
          have ho := hw.1
          have hw := hw.2
          refine va_iast hx hb hK hP hD hS 2 0 rfl rfl ho dNamedForm_replaceAll_25 (fun H locs hP hD hS => ?_)
          have hP : va_P D vwCl (wdNamedForm_replaceAll cA ad N R1a R1n standsFor (upd R1c_L2 (Int32.toNatClampNeg v2_L2) (standsFor (Int32.toNatClampNeg (R1c_L2 (Int32.toNatClampNeg v2_L2)))))) H := hP
          have hD : va_D A (wdNamedForm_replaceAll cA ad N R1a R1n standsFor (upd R1c_L2 (Int32.toNatClampNeg v2_L2) (standsFor (Int32.toNatClampNeg (R1c_L2 (Int32.toNatClampNeg v2_L2)))))) := hD
          refine lv_iinc (k := 2) (v := (v2_L2 + 1)) (lv' := [(2, .int (v2_L2 + 1)), (0, .ref (ad 18)), (1, .ref R1a)]) hx hb dNamedForm_replaceAll_26 hl rfl rfl (by decide) rfl (fun ls hl => ?_)
          refine lv_goto (tgt := 2) hx hb dNamedForm_replaceAll_29 rfl ?_
          exact ih (v2_L2 + 1) (upd R1c_L2 (Int32.toNatClampNeg v2_L2) (standsFor (Int32.toNatClampNeg (R1c_L2 (Int32.toNatClampNeg v2_L2))))) _ _ _ (lv_sub hl [1, 2, 0] rfl) hP hD hS hw
  refine hlp2 k2 0 R1c _ _ _ (lv_sub hl [1, 2, 0] rfl) hP hD hS hw
abbrev wdNamedForm_dropCopiesOf (cA : ClassId) (ad : Nat → Nat) (N : Nat) (stepCount : Nat → Int32) (kind : Nat → Int32) (stepNames : Nat → Int32) (firstUses : Nat → Int32) (homeBlock : Nat → Int32) (standsFor : Nat → Int32) : va_W := [((ad 1), .inr (1, [.int (nI N), .ref (ad 2), .ref (ad 3), .ref (ad 4), .ref (ad 5), .ref (ad 6), .ref (ad 7), .ref (ad 8), .ref (ad 9), .ref (ad 10)])), ((ad 2), .inl (cA, N, .inl stepCount)), ((ad 3), .inl (cA, N * 6, .inl kind)), ((ad 18), .inr (3, [.ref (ad 1), .ref (ad 11), .int (nI N), .ref (ad 19), .ref (ad 20), .ref (ad 21), .ref (ad 22), .ref (ad 23), .ref (ad 24), .ref (ad 25), .ref (ad 26), .ref (ad 27), .ref (ad 28), .ref (ad 29)])), ((ad 21), .inl (cA, N * 6, .inl stepNames)), ((ad 22), .inl (cA, N * 6, .inl firstUses)), ((ad 27), .inl (cA, 600, .inl homeBlock)), ((ad 29), .inl (cA, 600, .inl standsFor))]
abbrev qcNamedForm_dropCopiesOf (D : va_G) (cA : ClassId) (ad : Nat → Nat) (N : Nat) (stepCount : Nat → Int32) (kind : Nat → Int32) (stepNames : Nat → Int32) (firstUses : Nat → Int32) (homeBlock : Nat → Int32) (standsFor : Nat → Int32) (post : Int32 → (Nat → Int32) → (Nat → Int32) → (Nat → Int32) → (Nat → Int32) → Prop) (A : Nat → Prop) : Array Value → State → Outcome → State → Prop := va_Qi (S := (Nat → Int32) × (Nat → Int32) × (Nat → Int32) × (Nat → Int32)) (fun r u => post r u.1 u.2.1 u.2.2.1 u.2.2.2) (fun u t => xB D [(cA, .int)] A (wdNamedForm_dropCopiesOf cA ad N stepCount kind u.1 u.2.1 u.2.2.1 u.2.2.2) t) A
abbrev rmNamedForm_dropCopiesOf : Room := { frames := 1, cells := 0, slots := 0, locals := 22 }
set_option maxHeartbeats 4000000 in
set_option maxRecDepth 100000 in
theorem ktNamedForm_dropCopiesOf (l : Launch) (D : va_G) (cA : ClassId) (ad : Nat → Nat) (N : Nat) (sz : Nat) (stepCount : Nat → Int32) (kind : Nat → Int32) (stepNames : Nat → Int32) (firstUses : Nat → Int32) (homeBlock : Nat → Int32) (standsFor : Nat → Int32) (v1 : Int32) (post : Int32 → (Nat → Int32) → (Nat → Int32) → (Nat → Int32) → (Nat → Int32) → Prop) (hw : wpNamedForm_dropCopiesOf N stepCount kind stepNames firstUses homeBlock standsFor v1 post) : Met l yNamedForm_dropCopiesOf (Cond.code yNamedForm_dropCopiesOf cNamedForm_dropCopiesOf 5 (some .int) :: xW) rmNamedForm_dropCopiesOf (va_Pc [.ref (ad 18), .int v1] (xPc D [(cA, .int)] (wdNamedForm_dropCopiesOf cA ad N stepCount kind stepNames firstUses homeBlock standsFor) sz)) (qcNamedForm_dropCopiesOf D cA ad N stepCount kind stepNames firstUses homeBlock standsFor post (va_A (wdNamedForm_dropCopiesOf cA ad N stepCount kind stepNames firstUses homeBlock standsFor) sz)) 0 0 (va_A (wdNamedForm_dropCopiesOf cA ad N stepCount kind stepNames firstUses homeBlock standsFor) sz) := by
  refine Met.ofW (cc := cNamedForm_dropCopiesOf) (maxL := 5) (ret := (some .int)) (by decide) rfl ?_
  intro p e s m args below meth c s₁ B hml hv
  obtain ⟨rfl, hsz, hP, hK, hD0, hN⟩ := hv
  have hx := B.exec
  have hb := B.bytes
  have hr := B.returns
  have hts := atoms_spec (ws := (Cond.code yNamedForm_dropCopiesOf cNamedForm_dropCopiesOf 5 (some .int) :: xW)) B.pre
  have hown : s.vm.findClass "OnceNamed$NamedForm" = some m.cls := findClass_of_methodNamed B.named
  have hlocks := B.notSynchronized
  subst hsz
  have hD := hD0.self (sz := s.heap.size)
  generalize hAe : va_A (wdNamedForm_dropCopiesOf cA ad N stepCount kind stepNames firstUses homeBlock standsFor) s.heap.size = A at hD ⊢
  have hA : ∀ q : Nat, s.heap.size ≤ q → A q := fun q h => by rw [← hAe]; exact Or.inr h
  have hS : va_S A s.heap s.heap [] := va_S.rf
  have hend : ∀ (r : Int32) (u0 : Nat → Int32) (u1 : Nat → Int32) (u2 : Nat → Int32) (u3 : Nat → Int32) (H : Heap) (locs : List Loc) (pc : Nat) (ls : Array Slot), decode cNamedForm_dropCopiesOf pc = .ok (.ireturn, 1) → va_P D vwCl (wdNamedForm_dropCopiesOf cA ad N stepCount kind u0 u1 u2 u3) H → va_D A (wdNamedForm_dropCopiesOf cA ad N stepCount kind u0 u1 u2 u3) → va_S A s.heap H locs → post r u0 u1 u2 u3 → W p l e (headSpec (Cond.code yNamedForm_dropCopiesOf cNamedForm_dropCopiesOf 5 (some .int) :: xW) rmNamedForm_dropCopiesOf).room s m ([.ref (ad 18), .int v1] : List Value).toArray below meth c H locs 0 0 (MQ below (qcNamedForm_dropCopiesOf D cA ad N stepCount kind stepNames firstUses homeBlock standsFor post A) ([.ref (ad 18), .int v1] : List Value).toArray s 0 0 A) (F0 m pc ls [.int r]) := fun r u0 u1 u2 u3 H locs pc ls hd hP hD hS hw => W.iret (v := r) hx hb hr (fun t ht hW => ⟨⟨r, (u0, u1, u2, u3), rfl, hw, ⟨by rw [ht]; exact hP, va_K.moved hW.alike hK, hD⟩⟩, hS.F ht⟩) hS.2.2 hd
  generalize hQ : MQ below (qcNamedForm_dropCopiesOf D cA ad N stepCount kind stepNames firstUses homeBlock standsFor post A) ([.ref (ad 18), .int v1] : List Value).toArray s 0 0 A = Q at hend ⊢
  have hl := lv_entry ([.ref (ad 18), .int v1]) (n := 5) (Nat.le_of_ble_eq_true rfl)
  rw [lg_entry_eq]
  generalize (lg_sl ([.ref (ad 18), .int v1]) ++ List.replicate (5 - (lg_sl ([.ref (ad 18), .int v1])).length) Slot.unset).toArray = ls at hl ⊢
  have hl : lv_has ls 5 [(0, .ref (ad 18)), (1, .int v1)] := hl
  unfold wpNamedForm_dropCopiesOf at hw
  refine lv_iconst (v := 0) hx hb dNamedForm_dropCopiesOf_0 (by decide) ?_
  refine lv_istore_n (lv' := [(2, .int 0), (0, .ref (ad 18)), (1, .int v1)]) hx hb dNamedForm_dropCopiesOf_1 rfl hl (by decide) rfl (fun ls hl => ?_)
  refine lv_iconst (v := 0) hx hb dNamedForm_dropCopiesOf_2 (by decide) ?_
  refine lv_istore_n (lv' := [(3, .int 0), (2, .int 0), (0, .ref (ad 18)), (1, .int v1)]) hx hb dNamedForm_dropCopiesOf_3 rfl hl (by decide) rfl (fun ls hl => ?_)
  obtain ⟨k4, hw⟩ := hw
  have hlp4 : ∀ (k : Nat), ∀ (v2_L4 : Int32) (v3_L4 : Int32) (stepNames_L4 : Nat → Int32) (firstUses_L4 : Nat → Int32) (homeBlock_L4 : Nat → Int32) (standsFor_L4 : Nat → Int32) (ls : Array Slot) (H : Heap) (locs : List Loc), lv_has ls 5 [(0, .ref (ad 18)), (1, .int v1), (2, .int v2_L4), (3, .int v3_L4)] → va_P D vwCl (wdNamedForm_dropCopiesOf cA ad N stepCount kind stepNames_L4 firstUses_L4 homeBlock_L4 standsFor_L4) H → va_D A (wdNamedForm_dropCopiesOf cA ad N stepCount kind stepNames_L4 firstUses_L4 homeBlock_L4 standsFor_L4) → va_S A s.heap H locs → lpNamedForm_dropCopiesOf_4 N v1 stepCount kind post k v2_L4 v3_L4 stepNames_L4 firstUses_L4 homeBlock_L4 standsFor_L4 → W p l e (headSpec (Cond.code yNamedForm_dropCopiesOf cNamedForm_dropCopiesOf 5 (some .int) :: xW) rmNamedForm_dropCopiesOf).room s m ([.ref (ad 18), .int v1] : List Value).toArray below meth c H locs 0 0 Q (F0 m 4 ls []) := by
    intro k
    induction k with
    | zero => intro v2_L4 v3_L4 stepNames_L4 firstUses_L4 homeBlock_L4 standsFor_L4 ls H locs hl hP hD hS hw; exact False.elim hw
    | succ k ih =>
      intro v2_L4 v3_L4 stepNames_L4 firstUses_L4 homeBlock_L4 standsFor_L4 ls H locs hl hP hD hS hw
      refine lv_iload_n hx hb dNamedForm_dropCopiesOf_4 rfl (lv_at hl 3 rfl) ?_
      refine lv_aload_n hx hb dNamedForm_dropCopiesOf_5 rfl (lv_at hl 0 rfl) ?_
      refine va_get (D := D) (ci := 3) (v := .ref (ad 1)) (C := "OnceNamed$NamedForm") (T := TX3) (N := 14) hx hb hts (fun w h => List.mem_cons_of_mem _ (inX3 w h)) hown hK hP 3 rfl rfl 0 (by decide) (hts _ (List.mem_cons_of_mem _ kw_120)) (fun _ h9 => h9) rfl dNamedForm_dropCopiesOf_6 ?_
      refine lv_iload_n hx hb dNamedForm_dropCopiesOf_9 rfl (lv_at hl 1 rfl) ?_
      dsimp only [lpNamedForm_dropCopiesOf_4] at hw
      refine xci (va_runV ⟨hx, hb, hml, hown, hts⟩ (ktProgram_stepsOf l D cA ad N _ stepCount v1 _ hw) (cwV 1 hts (goodV kw_354 kw_355 kw_356 kw_3 kw_357) rfl rfl rfl (by decide +kernel) ⟨Nat.le_of_ble_eq_true rfl, Nat.le_of_ble_eq_true rfl⟩) (xpreV hK hP hD hN [0, 1] rfl rfl 0 rfl rfl) rfl rfl hl.1 rfl (lv_room (Nat.le_of_ble_eq_true rfl)) dNamedForm_dropCopiesOf_10 ⟨Nat.le_of_ble_eq_true rfl, Nat.le_of_ble_eq_true rfl⟩) hP hD hS hA [0, 1] [2, 3, 4, 5, 6, 7] rfl rfl rfl rfl [6, 7, 0, 1, 2, 3, 4, 5] rfl (fun _ => rfl) (fun r10 u H locs hw hP hD hS => ?_)
      have hP : va_P D vwCl (wdNamedForm_dropCopiesOf cA ad N stepCount kind stepNames_L4 firstUses_L4 homeBlock_L4 standsFor_L4) H := hP
      have hD : va_D A (wdNamedForm_dropCopiesOf cA ad N stepCount kind stepNames_L4 firstUses_L4 homeBlock_L4 standsFor_L4) := hD
      refine lv_icmp_ge (tgt := 110) hx hb dNamedForm_dropCopiesOf_13 rfl (fun hc => ?_) (fun hc => ?_)
      · have hw := hw.1 hc
        refine lv_iload_n hx hb dNamedForm_dropCopiesOf_110 rfl (lv_at hl 2 rfl) ?_
        exact hend v2_L4 stepNames_L4 firstUses_L4 homeBlock_L4 standsFor_L4 _ _ _ _ dNamedForm_dropCopiesOf_111 hP hD hS hw
      · have hw := hw.2 hc
        refine lv_iload_n hx hb dNamedForm_dropCopiesOf_16 rfl (lv_at hl 1 rfl) ?_
        refine lv_bipush (v := 6) hx hb dNamedForm_dropCopiesOf_17 (by decide) ?_
        refine lv_imul hx hb dNamedForm_dropCopiesOf_19 ?_
        refine lv_iload_n hx hb dNamedForm_dropCopiesOf_20 rfl (lv_at hl 3 rfl) ?_
        refine lv_iadd hx hb dNamedForm_dropCopiesOf_21 ?_
        refine lv_topi (fun v4_22 e_v4_22 => ?_)
        have hw := hw v4_22 e_v4_22
        refine lv_istore (lv' := [(4, .int v4_22), (0, .ref (ad 18)), (1, .int v1), (2, .int v2_L4), (3, .int v3_L4)]) hx hb dNamedForm_dropCopiesOf_22 hl (by decide) rfl (fun ls hl => ?_)
        refine lv_aload_n hx hb dNamedForm_dropCopiesOf_24 rfl (lv_at hl 1 rfl) ?_
        refine va_get (D := D) (ci := 3) (v := .ref (ad 1)) (C := "OnceNamed$NamedForm") (T := TX3) (N := 14) hx hb hts (fun w h => List.mem_cons_of_mem _ (inX3 w h)) hown hK hP 3 rfl rfl 0 (by decide) (hts _ (List.mem_cons_of_mem _ kw_120)) (fun _ h9 => h9) rfl dNamedForm_dropCopiesOf_25 ?_
        refine lv_iload_n hx hb dNamedForm_dropCopiesOf_28 rfl (lv_at hl 2 rfl) ?_
        refine lv_iload_n hx hb dNamedForm_dropCopiesOf_29 rfl (lv_at hl 4 rfl) ?_
        refine xci (va_runV ⟨hx, hb, hml, hown, hts⟩ (ktProgram_kindOf l D cA ad N _ kind v1 v3_L4 _ hw) (cwV 2 hts (goodV kw_617 kw_618 kw_619 kw_3 kw_620) rfl rfl rfl (by decide +kernel) ⟨Nat.le_of_ble_eq_true rfl, Nat.le_of_ble_eq_true rfl⟩) (xpreV hK hP hD hN [0, 2] rfl rfl 0 rfl rfl) rfl rfl hl.1 rfl (lv_room (Nat.le_of_ble_eq_true rfl)) dNamedForm_dropCopiesOf_30 ⟨Nat.le_of_ble_eq_true rfl, Nat.le_of_ble_eq_true rfl⟩) hP hD hS hA [0, 2] [1, 3, 4, 5, 6, 7] rfl rfl rfl rfl [6, 0, 7, 1, 2, 3, 4, 5] rfl (fun _ => rfl) (fun r30 u H locs hw hP hD hS => ?_)
        have hP : va_P D vwCl (wdNamedForm_dropCopiesOf cA ad N stepCount kind stepNames_L4 firstUses_L4 homeBlock_L4 standsFor_L4) H := hP
        have hD : va_D A (wdNamedForm_dropCopiesOf cA ad N stepCount kind stepNames_L4 firstUses_L4 homeBlock_L4 standsFor_L4) := hD
        refine lv_iconst (v := 1) hx hb dNamedForm_dropCopiesOf_33 (by decide) ?_
        refine lv_icmp_ne (tgt := 104) hx hb dNamedForm_dropCopiesOf_34 rfl (fun hc => ?_) (fun hc => ?_)
        · have hw := hw.1 hc
          refine lv_iinc (k := 4) (v := (v3_L4 + 1)) (lv' := [(3, .int (v3_L4 + 1)), (4, .int v4_22), (0, .ref (ad 18)), (1, .int v1), (2, .int v2_L4)]) hx hb dNamedForm_dropCopiesOf_104 hl rfl rfl (by decide) rfl (fun ls hl => ?_)
          refine lv_goto (tgt := 4) hx hb dNamedForm_dropCopiesOf_107 rfl ?_
          exact ih v2_L4 (v3_L4 + 1) stepNames_L4 firstUses_L4 homeBlock_L4 standsFor_L4 _ _ _ (lv_sub hl [2, 3, 4, 0] rfl) hP hD hS hw
        · have hw := hw.2 hc
          refine lv_aload_n hx hb dNamedForm_dropCopiesOf_37 rfl (lv_at hl 1 rfl) ?_
          refine va_get (D := D) (ci := 3) (v := .ref (ad 21)) (C := "OnceNamed$NamedForm") (T := TX3) (N := 14) hx hb hts (fun w h => List.mem_cons_of_mem _ (inX3 w h)) hown hK hP 3 rfl rfl 5 (by decide) (hts _ (List.mem_cons_of_mem _ kw_125)) (fun _ h9 => h9) rfl dNamedForm_dropCopiesOf_38 ?_
          refine lv_iload hx hb dNamedForm_dropCopiesOf_41 (lv_at hl 0 rfl) ?_
          have ho := hw.1
          have hw := hw.2
          refine va_iald hx hb hK hP 4 0 rfl rfl ho dNamedForm_dropCopiesOf_43 ?_
          refine lv_iconst (v := (-1)) hx hb dNamedForm_dropCopiesOf_44 (by decide) ?_
          refine lv_icmp_eq (tgt := 104) hx hb dNamedForm_dropCopiesOf_45 rfl (fun hc => ?_) (fun hc => ?_)
          · have hw := hw.1 hc
            refine lv_iinc (k := 4) (v := (v3_L4 + 1)) (lv' := [(3, .int (v3_L4 + 1)), (4, .int v4_22), (0, .ref (ad 18)), (1, .int v1), (2, .int v2_L4)]) hx hb dNamedForm_dropCopiesOf_104 hl rfl rfl (by decide) rfl (fun ls hl => ?_)
            refine lv_goto (tgt := 4) hx hb dNamedForm_dropCopiesOf_107 rfl ?_
            exact ih v2_L4 (v3_L4 + 1) stepNames_L4 firstUses_L4 homeBlock_L4 standsFor_L4 _ _ _ (lv_sub hl [2, 3, 4, 0] rfl) hP hD hS hw
          · have hw := hw.2 hc
            refine lv_aload_n hx hb dNamedForm_dropCopiesOf_48 rfl (lv_at hl 1 rfl) ?_
            refine va_get (D := D) (ci := 3) (v := .ref (ad 29)) (C := "OnceNamed$NamedForm") (T := TX3) (N := 14) hx hb hts (fun w h => List.mem_cons_of_mem _ (inX3 w h)) hown hK hP 3 rfl rfl 13 (by decide) (hts _ (List.mem_cons_of_mem _ kw_133)) (fun _ h9 => h9) rfl dNamedForm_dropCopiesOf_49 ?_
            refine lv_aload_n hx hb dNamedForm_dropCopiesOf_52 rfl (lv_at hl 1 rfl) ?_
            refine va_get (D := D) (ci := 3) (v := .ref (ad 21)) (C := "OnceNamed$NamedForm") (T := TX3) (N := 14) hx hb hts (fun w h => List.mem_cons_of_mem _ (inX3 w h)) hown hK hP 3 rfl rfl 5 (by decide) (hts _ (List.mem_cons_of_mem _ kw_125)) (fun _ h9 => h9) rfl dNamedForm_dropCopiesOf_53 ?_
            refine lv_iload hx hb dNamedForm_dropCopiesOf_56 (lv_at hl 0 rfl) ?_
            have ho := hw.1
            have hw := hw.2
            refine va_iald hx hb hK hP 4 0 rfl rfl ho dNamedForm_dropCopiesOf_58 ?_
            refine lv_aload_n hx hb dNamedForm_dropCopiesOf_59 rfl (lv_at hl 1 rfl) ?_
            refine va_get (D := D) (ci := 3) (v := .ref (ad 29)) (C := "OnceNamed$NamedForm") (T := TX3) (N := 14) hx hb hts (fun w h => List.mem_cons_of_mem _ (inX3 w h)) hown hK hP 3 rfl rfl 13 (by decide) (hts _ (List.mem_cons_of_mem _ kw_133)) (fun _ h9 => h9) rfl dNamedForm_dropCopiesOf_60 ?_
            refine lv_aload_n hx hb dNamedForm_dropCopiesOf_63 rfl (lv_at hl 1 rfl) ?_
            refine va_get (D := D) (ci := 3) (v := .ref (ad 22)) (C := "OnceNamed$NamedForm") (T := TX3) (N := 14) hx hb hts (fun w h => List.mem_cons_of_mem _ (inX3 w h)) hown hK hP 3 rfl rfl 6 (by decide) (hts _ (List.mem_cons_of_mem _ kw_126)) (fun _ h9 => h9) rfl dNamedForm_dropCopiesOf_64 ?_
            refine lv_iload hx hb dNamedForm_dropCopiesOf_67 (lv_at hl 0 rfl) ?_
            have ho := hw.1
            have hw := hw.2
            refine va_iald hx hb hK hP 5 0 rfl rfl ho dNamedForm_dropCopiesOf_69 ?_
            have ho := hw.1
            have hw := hw.2
            refine va_iald hx hb hK hP 7 0 rfl rfl ho dNamedForm_dropCopiesOf_70 ?_
            have ho := hw.1
            have hw := hw.2
            refine va_iast hx hb hK hP hD hS 7 0 rfl rfl ho dNamedForm_dropCopiesOf_71 (fun H locs hP hD hS => ?_)
            have hP : va_P D vwCl (wdNamedForm_dropCopiesOf cA ad N stepCount kind stepNames_L4 firstUses_L4 homeBlock_L4 (upd standsFor_L4 (Int32.toNatClampNeg (stepNames_L4 (Int32.toNatClampNeg v4_22))) (standsFor_L4 (Int32.toNatClampNeg (firstUses_L4 (Int32.toNatClampNeg v4_22)))))) H := hP
            have hD : va_D A (wdNamedForm_dropCopiesOf cA ad N stepCount kind stepNames_L4 firstUses_L4 homeBlock_L4 (upd standsFor_L4 (Int32.toNatClampNeg (stepNames_L4 (Int32.toNatClampNeg v4_22))) (standsFor_L4 (Int32.toNatClampNeg (firstUses_L4 (Int32.toNatClampNeg v4_22)))))) := hD
            refine lv_aload_n hx hb dNamedForm_dropCopiesOf_72 rfl (lv_at hl 1 rfl) ?_
            refine va_get (D := D) (ci := 3) (v := .ref (ad 27)) (C := "OnceNamed$NamedForm") (T := TX3) (N := 14) hx hb hts (fun w h => List.mem_cons_of_mem _ (inX3 w h)) hown hK hP 3 rfl rfl 11 (by decide) (hts _ (List.mem_cons_of_mem _ kw_131)) (fun _ h9 => h9) rfl dNamedForm_dropCopiesOf_73 ?_
            refine lv_aload_n hx hb dNamedForm_dropCopiesOf_76 rfl (lv_at hl 1 rfl) ?_
            refine va_get (D := D) (ci := 3) (v := .ref (ad 21)) (C := "OnceNamed$NamedForm") (T := TX3) (N := 14) hx hb hts (fun w h => List.mem_cons_of_mem _ (inX3 w h)) hown hK hP 3 rfl rfl 5 (by decide) (hts _ (List.mem_cons_of_mem _ kw_125)) (fun _ h9 => h9) rfl dNamedForm_dropCopiesOf_77 ?_
            refine lv_iload hx hb dNamedForm_dropCopiesOf_80 (lv_at hl 0 rfl) ?_
            have ho := hw.1
            have hw := hw.2
            refine va_iald hx hb hK hP 4 0 rfl rfl ho dNamedForm_dropCopiesOf_82 ?_
            refine lv_iconst (v := (-1)) hx hb dNamedForm_dropCopiesOf_83 (by decide) ?_
            have ho := hw.1
            have hw := hw.2
            refine va_iast hx hb hK hP hD hS 6 0 rfl rfl ho dNamedForm_dropCopiesOf_84 (fun H locs hP hD hS => ?_)
            have hP : va_P D vwCl (wdNamedForm_dropCopiesOf cA ad N stepCount kind stepNames_L4 firstUses_L4 (upd homeBlock_L4 (Int32.toNatClampNeg (stepNames_L4 (Int32.toNatClampNeg v4_22))) (-1)) (upd standsFor_L4 (Int32.toNatClampNeg (stepNames_L4 (Int32.toNatClampNeg v4_22))) (standsFor_L4 (Int32.toNatClampNeg (firstUses_L4 (Int32.toNatClampNeg v4_22)))))) H := hP
            have hD : va_D A (wdNamedForm_dropCopiesOf cA ad N stepCount kind stepNames_L4 firstUses_L4 (upd homeBlock_L4 (Int32.toNatClampNeg (stepNames_L4 (Int32.toNatClampNeg v4_22))) (-1)) (upd standsFor_L4 (Int32.toNatClampNeg (stepNames_L4 (Int32.toNatClampNeg v4_22))) (standsFor_L4 (Int32.toNatClampNeg (firstUses_L4 (Int32.toNatClampNeg v4_22)))))) := hD
            refine lv_aload_n hx hb dNamedForm_dropCopiesOf_85 rfl (lv_at hl 1 rfl) ?_
            refine va_get (D := D) (ci := 3) (v := .ref (ad 21)) (C := "OnceNamed$NamedForm") (T := TX3) (N := 14) hx hb hts (fun w h => List.mem_cons_of_mem _ (inX3 w h)) hown hK hP 3 rfl rfl 5 (by decide) (hts _ (List.mem_cons_of_mem _ kw_125)) (fun _ h9 => h9) rfl dNamedForm_dropCopiesOf_86 ?_
            refine lv_iload hx hb dNamedForm_dropCopiesOf_89 (lv_at hl 0 rfl) ?_
            refine lv_iconst (v := (-1)) hx hb dNamedForm_dropCopiesOf_91 (by decide) ?_
            have ho := hw.1
            have hw := hw.2
            refine va_iast hx hb hK hP hD hS 4 0 rfl rfl ho dNamedForm_dropCopiesOf_92 (fun H locs hP hD hS => ?_)
            have hP : va_P D vwCl (wdNamedForm_dropCopiesOf cA ad N stepCount kind (upd stepNames_L4 (Int32.toNatClampNeg v4_22) (-1)) firstUses_L4 (upd homeBlock_L4 (Int32.toNatClampNeg (stepNames_L4 (Int32.toNatClampNeg v4_22))) (-1)) (upd standsFor_L4 (Int32.toNatClampNeg (stepNames_L4 (Int32.toNatClampNeg v4_22))) (standsFor_L4 (Int32.toNatClampNeg (firstUses_L4 (Int32.toNatClampNeg v4_22)))))) H := hP
            have hD : va_D A (wdNamedForm_dropCopiesOf cA ad N stepCount kind (upd stepNames_L4 (Int32.toNatClampNeg v4_22) (-1)) firstUses_L4 (upd homeBlock_L4 (Int32.toNatClampNeg (stepNames_L4 (Int32.toNatClampNeg v4_22))) (-1)) (upd standsFor_L4 (Int32.toNatClampNeg (stepNames_L4 (Int32.toNatClampNeg v4_22))) (standsFor_L4 (Int32.toNatClampNeg (firstUses_L4 (Int32.toNatClampNeg v4_22)))))) := hD
            refine lv_aload_n hx hb dNamedForm_dropCopiesOf_93 rfl (lv_at hl 1 rfl) ?_
            refine va_get (D := D) (ci := 3) (v := .ref (ad 22)) (C := "OnceNamed$NamedForm") (T := TX3) (N := 14) hx hb hts (fun w h => List.mem_cons_of_mem _ (inX3 w h)) hown hK hP 3 rfl rfl 6 (by decide) (hts _ (List.mem_cons_of_mem _ kw_126)) (fun _ h9 => h9) rfl dNamedForm_dropCopiesOf_94 ?_
            refine lv_iload hx hb dNamedForm_dropCopiesOf_97 (lv_at hl 0 rfl) ?_
            refine lv_iconst (v := (-1)) hx hb dNamedForm_dropCopiesOf_99 (by decide) ?_
            have ho := hw.1
            have hw := hw.2
            refine va_iast hx hb hK hP hD hS 5 0 rfl rfl ho dNamedForm_dropCopiesOf_100 (fun H locs hP hD hS => ?_)
            have hP : va_P D vwCl (wdNamedForm_dropCopiesOf cA ad N stepCount kind (upd stepNames_L4 (Int32.toNatClampNeg v4_22) (-1)) (upd firstUses_L4 (Int32.toNatClampNeg v4_22) (-1)) (upd homeBlock_L4 (Int32.toNatClampNeg (stepNames_L4 (Int32.toNatClampNeg v4_22))) (-1)) (upd standsFor_L4 (Int32.toNatClampNeg (stepNames_L4 (Int32.toNatClampNeg v4_22))) (standsFor_L4 (Int32.toNatClampNeg (firstUses_L4 (Int32.toNatClampNeg v4_22)))))) H := hP
            have hD : va_D A (wdNamedForm_dropCopiesOf cA ad N stepCount kind (upd stepNames_L4 (Int32.toNatClampNeg v4_22) (-1)) (upd firstUses_L4 (Int32.toNatClampNeg v4_22) (-1)) (upd homeBlock_L4 (Int32.toNatClampNeg (stepNames_L4 (Int32.toNatClampNeg v4_22))) (-1)) (upd standsFor_L4 (Int32.toNatClampNeg (stepNames_L4 (Int32.toNatClampNeg v4_22))) (standsFor_L4 (Int32.toNatClampNeg (firstUses_L4 (Int32.toNatClampNeg v4_22)))))) := hD
            refine lv_iinc (k := 3) (v := (v2_L4 + 1)) (lv' := [(2, .int (v2_L4 + 1)), (4, .int v4_22), (0, .ref (ad 18)), (1, .int v1), (3, .int v3_L4)]) hx hb dNamedForm_dropCopiesOf_101 hl rfl rfl (by decide) rfl (fun ls hl => ?_)
            refine lv_iinc (k := 4) (v := (v3_L4 + 1)) (lv' := [(3, .int (v3_L4 + 1)), (2, .int (v2_L4 + 1)), (4, .int v4_22), (0, .ref (ad 18)), (1, .int v1)]) hx hb dNamedForm_dropCopiesOf_104 hl rfl rfl (by decide) rfl (fun ls hl => ?_)
            refine lv_goto (tgt := 4) hx hb dNamedForm_dropCopiesOf_107 rfl ?_
            exact ih (v2_L4 + 1) (v3_L4 + 1) (upd stepNames_L4 (Int32.toNatClampNeg v4_22) (-1)) (upd firstUses_L4 (Int32.toNatClampNeg v4_22) (-1)) (upd homeBlock_L4 (Int32.toNatClampNeg (stepNames_L4 (Int32.toNatClampNeg v4_22))) (-1)) (upd standsFor_L4 (Int32.toNatClampNeg (stepNames_L4 (Int32.toNatClampNeg v4_22))) (standsFor_L4 (Int32.toNatClampNeg (firstUses_L4 (Int32.toNatClampNeg v4_22))))) _ _ _ (lv_sub hl [3, 4, 1, 0] rfl) hP hD hS hw
  refine hlp4 k4 0 0 stepNames firstUses homeBlock standsFor _ _ _ (lv_sub hl [2, 3, 1, 0] rfl) hP hD hS hw
abbrev wdNamedForm_dropCopies (cA : ClassId) (ad : Nat → Nat) (N : Nat) (stepCount : Nat → Int32) (kind : Nat → Int32) (orderSize : Int32) (reached : Int32) (order : Nat → Int32) (meetingUses : Nat → Int32) (stepNames : Nat → Int32) (firstUses : Nat → Int32) (secondUses : Nat → Int32) (endUses : Nat → Int32) (homeBlock : Nat → Int32) (standsFor : Nat → Int32) : va_W := [((ad 1), .inr (1, [.int (nI N), .ref (ad 2), .ref (ad 3), .ref (ad 4), .ref (ad 5), .ref (ad 6), .ref (ad 7), .ref (ad 8), .ref (ad 9), .ref (ad 10)])), ((ad 2), .inl (cA, N, .inl stepCount)), ((ad 3), .inl (cA, N * 6, .inl kind)), ((ad 11), .inr (2, [.int (nI N), .ref (ad 12), .ref (ad 13), .ref (ad 14), .ref (ad 15), .ref (ad 16), .ref (ad 17), .int orderSize, .int reached])), ((ad 16), .inl (cA, N, .inl order)), ((ad 18), .inr (3, [.ref (ad 1), .ref (ad 11), .int (nI N), .ref (ad 19), .ref (ad 20), .ref (ad 21), .ref (ad 22), .ref (ad 23), .ref (ad 24), .ref (ad 25), .ref (ad 26), .ref (ad 27), .ref (ad 28), .ref (ad 29)])), ((ad 20), .inl (cA, N * 6 * (N + 1), .inl meetingUses)), ((ad 21), .inl (cA, N * 6, .inl stepNames)), ((ad 22), .inl (cA, N * 6, .inl firstUses)), ((ad 23), .inl (cA, N * 6, .inl secondUses)), ((ad 24), .inl (cA, N, .inl endUses)), ((ad 27), .inl (cA, 600, .inl homeBlock)), ((ad 29), .inl (cA, 600, .inl standsFor))]
abbrev qcNamedForm_dropCopies (D : va_G) (cA : ClassId) (ad : Nat → Nat) (N : Nat) (stepCount : Nat → Int32) (kind : Nat → Int32) (orderSize : Int32) (reached : Int32) (order : Nat → Int32) (meetingUses : Nat → Int32) (stepNames : Nat → Int32) (firstUses : Nat → Int32) (secondUses : Nat → Int32) (endUses : Nat → Int32) (homeBlock : Nat → Int32) (standsFor : Nat → Int32) (post : Int32 → (Nat → Int32) → (Nat → Int32) → (Nat → Int32) → (Nat → Int32) → (Nat → Int32) → (Nat → Int32) → (Nat → Int32) → Prop) (A : Nat → Prop) : Array Value → State → Outcome → State → Prop := va_Qi (S := (Nat → Int32) × (Nat → Int32) × (Nat → Int32) × (Nat → Int32) × (Nat → Int32) × (Nat → Int32) × (Nat → Int32)) (fun r u => post r u.1 u.2.1 u.2.2.1 u.2.2.2.1 u.2.2.2.2.1 u.2.2.2.2.2.1 u.2.2.2.2.2.2) (fun u t => xB D [(cA, .int)] A (wdNamedForm_dropCopies cA ad N stepCount kind orderSize reached order u.1 u.2.1 u.2.2.1 u.2.2.2.1 u.2.2.2.2.1 u.2.2.2.2.2.1 u.2.2.2.2.2.2) t) A
abbrev rmNamedForm_dropCopies : Room := { frames := 2, cells := 0, slots := 0, locals := 46 }
set_option maxHeartbeats 4000000 in
set_option maxRecDepth 100000 in
theorem ktNamedForm_dropCopies (l : Launch) (D : va_G) (cA : ClassId) (ad : Nat → Nat) (N : Nat) (sz : Nat) (stepCount : Nat → Int32) (kind : Nat → Int32) (orderSize : Int32) (reached : Int32) (order : Nat → Int32) (meetingUses : Nat → Int32) (stepNames : Nat → Int32) (firstUses : Nat → Int32) (secondUses : Nat → Int32) (endUses : Nat → Int32) (homeBlock : Nat → Int32) (standsFor : Nat → Int32)  (post : Int32 → (Nat → Int32) → (Nat → Int32) → (Nat → Int32) → (Nat → Int32) → (Nat → Int32) → (Nat → Int32) → (Nat → Int32) → Prop) (hw : wpNamedForm_dropCopies N stepCount kind orderSize order meetingUses stepNames firstUses secondUses endUses homeBlock standsFor post) : Met l yNamedForm_dropCopies (Cond.code yNamedForm_dropCopies cNamedForm_dropCopies 3 (some .int) :: xW) rmNamedForm_dropCopies (va_Pc [.ref (ad 18)] (xPc D [(cA, .int)] (wdNamedForm_dropCopies cA ad N stepCount kind orderSize reached order meetingUses stepNames firstUses secondUses endUses homeBlock standsFor) sz)) (qcNamedForm_dropCopies D cA ad N stepCount kind orderSize reached order meetingUses stepNames firstUses secondUses endUses homeBlock standsFor post (va_A (wdNamedForm_dropCopies cA ad N stepCount kind orderSize reached order meetingUses stepNames firstUses secondUses endUses homeBlock standsFor) sz)) 0 0 (va_A (wdNamedForm_dropCopies cA ad N stepCount kind orderSize reached order meetingUses stepNames firstUses secondUses endUses homeBlock standsFor) sz) := by
  refine Met.ofW (cc := cNamedForm_dropCopies) (maxL := 3) (ret := (some .int)) (by decide) rfl ?_
  intro p e s m args below meth c s₁ B hml hv
  obtain ⟨rfl, hsz, hP, hK, hD0, hN⟩ := hv
  have hx := B.exec
  have hb := B.bytes
  have hr := B.returns
  have hts := atoms_spec (ws := (Cond.code yNamedForm_dropCopies cNamedForm_dropCopies 3 (some .int) :: xW)) B.pre
  have hown : s.vm.findClass "OnceNamed$NamedForm" = some m.cls := findClass_of_methodNamed B.named
  have hlocks := B.notSynchronized
  subst hsz
  have hD := hD0.self (sz := s.heap.size)
  generalize hAe : va_A (wdNamedForm_dropCopies cA ad N stepCount kind orderSize reached order meetingUses stepNames firstUses secondUses endUses homeBlock standsFor) s.heap.size = A at hD ⊢
  have hA : ∀ q : Nat, s.heap.size ≤ q → A q := fun q h => by rw [← hAe]; exact Or.inr h
  have hS : va_S A s.heap s.heap [] := va_S.rf
  have hend : ∀ (r : Int32) (u0 : Nat → Int32) (u1 : Nat → Int32) (u2 : Nat → Int32) (u3 : Nat → Int32) (u4 : Nat → Int32) (u5 : Nat → Int32) (u6 : Nat → Int32) (H : Heap) (locs : List Loc) (pc : Nat) (ls : Array Slot), decode cNamedForm_dropCopies pc = .ok (.ireturn, 1) → va_P D vwCl (wdNamedForm_dropCopies cA ad N stepCount kind orderSize reached order u0 u1 u2 u3 u4 u5 u6) H → va_D A (wdNamedForm_dropCopies cA ad N stepCount kind orderSize reached order u0 u1 u2 u3 u4 u5 u6) → va_S A s.heap H locs → post r u0 u1 u2 u3 u4 u5 u6 → W p l e (headSpec (Cond.code yNamedForm_dropCopies cNamedForm_dropCopies 3 (some .int) :: xW) rmNamedForm_dropCopies).room s m ([.ref (ad 18)] : List Value).toArray below meth c H locs 0 0 (MQ below (qcNamedForm_dropCopies D cA ad N stepCount kind orderSize reached order meetingUses stepNames firstUses secondUses endUses homeBlock standsFor post A) ([.ref (ad 18)] : List Value).toArray s 0 0 A) (F0 m pc ls [.int r]) := fun r u0 u1 u2 u3 u4 u5 u6 H locs pc ls hd hP hD hS hw => W.iret (v := r) hx hb hr (fun t ht hW => ⟨⟨r, (u0, u1, u2, u3, u4, u5, u6), rfl, hw, ⟨by rw [ht]; exact hP, va_K.moved hW.alike hK, hD⟩⟩, hS.F ht⟩) hS.2.2 hd
  generalize hQ : MQ below (qcNamedForm_dropCopies D cA ad N stepCount kind orderSize reached order meetingUses stepNames firstUses secondUses endUses homeBlock standsFor post A) ([.ref (ad 18)] : List Value).toArray s 0 0 A = Q at hend ⊢
  have hl := lv_entry ([.ref (ad 18)]) (n := 3) (Nat.le_of_ble_eq_true rfl)
  rw [lg_entry_eq]
  generalize (lg_sl ([.ref (ad 18)]) ++ List.replicate (3 - (lg_sl ([.ref (ad 18)])).length) Slot.unset).toArray = ls at hl ⊢
  have hl : lv_has ls 3 [(0, .ref (ad 18))] := hl
  unfold wpNamedForm_dropCopies at hw
  refine lv_iconst (v := 0) hx hb dNamedForm_dropCopies_0 (by decide) ?_
  refine lv_istore_n (lv' := [(1, .int 0), (0, .ref (ad 18))]) hx hb dNamedForm_dropCopies_1 rfl hl (by decide) rfl (fun ls hl => ?_)
  obtain ⟨k2, hw⟩ := hw
  have hlp2 : ∀ (K22 : Int32 → (Nat → Int32) → Prop), (∀ (v1_x22 : Int32) (standsFor_x22 : Nat → Int32) (ls : Array Slot) (H : Heap) (locs : List Loc), lv_has ls 3 [(0, .ref (ad 18)), (1, .int v1_x22)] → va_P D vwCl (wdNamedForm_dropCopies cA ad N stepCount kind orderSize reached order meetingUses stepNames firstUses secondUses endUses homeBlock standsFor_x22) H → va_D A (wdNamedForm_dropCopies cA ad N stepCount kind orderSize reached order meetingUses stepNames firstUses secondUses endUses homeBlock standsFor_x22) → va_S A s.heap H locs → K22 v1_x22 standsFor_x22 → W p l e (headSpec (Cond.code yNamedForm_dropCopies cNamedForm_dropCopies 3 (some .int) :: xW) rmNamedForm_dropCopies).room s m ([.ref (ad 18)] : List Value).toArray below meth c H locs 0 0 Q (F0 m 22 ls [])) → ∀ (k : Nat), ∀ (v1_L2 : Int32) (standsFor_L2 : Nat → Int32) (ls : Array Slot) (H : Heap) (locs : List Loc), lv_has ls 3 [(0, .ref (ad 18)), (1, .int v1_L2)] → va_P D vwCl (wdNamedForm_dropCopies cA ad N stepCount kind orderSize reached order meetingUses stepNames firstUses secondUses endUses homeBlock standsFor_L2) H → va_D A (wdNamedForm_dropCopies cA ad N stepCount kind orderSize reached order meetingUses stepNames firstUses secondUses endUses homeBlock standsFor_L2) → va_S A s.heap H locs → lpNamedForm_dropCopies_2 K22 k v1_L2 standsFor_L2 → W p l e (headSpec (Cond.code yNamedForm_dropCopies cNamedForm_dropCopies 3 (some .int) :: xW) rmNamedForm_dropCopies).room s m ([.ref (ad 18)] : List Value).toArray below meth c H locs 0 0 Q (F0 m 2 ls []) := by
    intro K22 hK22 k
    induction k with
    | zero => intro v1_L2 standsFor_L2 ls H locs hl hP hD hS hw; exact False.elim hw
    | succ k ih =>
      intro v1_L2 standsFor_L2 ls H locs hl hP hD hS hw
      refine lv_iload_n hx hb dNamedForm_dropCopies_2 rfl (lv_at hl 1 rfl) ?_
      refine lv_sipush (v := 600) hx hb dNamedForm_dropCopies_3 (by decide) ?_
      refine lv_icmp_ge (tgt := 22) hx hb dNamedForm_dropCopies_6 rfl (fun hc => ?_) (fun hc => ?_)
      · have hw := hw.1 hc
        exact hK22 v1_L2 standsFor_L2 _ _ _ (lv_sub hl [0, 1] rfl) hP hD hS hw
      · have hw := hw.2 hc
        refine lv_aload_n hx hb dNamedForm_dropCopies_9 rfl (lv_at hl 0 rfl) ?_
        refine va_get (D := D) (ci := 3) (v := .ref (ad 29)) (C := "OnceNamed$NamedForm") (T := TX3) (N := 14) hx hb hts (fun w h => List.mem_cons_of_mem _ (inX3 w h)) hown hK hP 5 rfl rfl 13 (by decide) (hts _ (List.mem_cons_of_mem _ kw_133)) (fun _ h9 => h9) rfl dNamedForm_dropCopies_10 ?_
        refine lv_iload_n hx hb dNamedForm_dropCopies_13 rfl (lv_at hl 1 rfl) ?_
        refine lv_iload_n hx hb dNamedForm_dropCopies_14 rfl (lv_at hl 1 rfl) ?_
        have ho := hw.1
        have hw := hw.2
        refine va_iast hx hb hK hP hD hS 12 0 rfl rfl ho dNamedForm_dropCopies_15 (fun H locs hP hD hS => ?_)
        have hP : va_P D vwCl (wdNamedForm_dropCopies cA ad N stepCount kind orderSize reached order meetingUses stepNames firstUses secondUses endUses homeBlock (upd standsFor_L2 (Int32.toNatClampNeg v1_L2) v1_L2)) H := hP
        have hD : va_D A (wdNamedForm_dropCopies cA ad N stepCount kind orderSize reached order meetingUses stepNames firstUses secondUses endUses homeBlock (upd standsFor_L2 (Int32.toNatClampNeg v1_L2) v1_L2)) := hD
        refine lv_iinc (k := 1) (v := (v1_L2 + 1)) (lv' := [(1, .int (v1_L2 + 1)), (0, .ref (ad 18))]) hx hb dNamedForm_dropCopies_16 hl rfl rfl (by decide) rfl (fun ls hl => ?_)
        refine lv_goto (tgt := 2) hx hb dNamedForm_dropCopies_19 rfl ?_
        exact ih (v1_L2 + 1) (upd standsFor_L2 (Int32.toNatClampNeg v1_L2) v1_L2) _ _ _ (lv_sub hl [1, 0] rfl) hP hD hS hw
  refine hlp2 _ ?_ k2 0 standsFor _ _ _ (lv_sub hl [1, 0] rfl) hP hD hS hw
  intro v1_x22 standsFor_x22 ls H locs hl hP hD hS hw
  try dsimp only at hw
  refine lv_iconst (v := 0) hx hb dNamedForm_dropCopies_22 (by decide) ?_
  refine lv_istore_n (lv' := [(1, .int 0), (0, .ref (ad 18))]) hx hb dNamedForm_dropCopies_23 rfl hl (by decide) rfl (fun ls hl => ?_)
  refine lv_iconst (v := 0) hx hb dNamedForm_dropCopies_24 (by decide) ?_
  refine lv_istore_n (lv' := [(2, .int 0), (1, .int 0), (0, .ref (ad 18))]) hx hb dNamedForm_dropCopies_25 rfl hl (by decide) rfl (fun ls hl => ?_)
  obtain ⟨k26, hw⟩ := hw
  have hlp26 : ∀ (K58 : Int32 → Int32 → (Nat → Int32) → (Nat → Int32) → (Nat → Int32) → (Nat → Int32) → Prop), (∀ (v1_x58 : Int32) (v2_x58 : Int32) (stepNames_x58 : Nat → Int32) (firstUses_x58 : Nat → Int32) (homeBlock_x58 : Nat → Int32) (standsFor_x58 : Nat → Int32) (ls : Array Slot) (H : Heap) (locs : List Loc), lv_has ls 3 [(0, .ref (ad 18)), (1, .int v1_x58), (2, .int v2_x58)] → va_P D vwCl (wdNamedForm_dropCopies cA ad N stepCount kind orderSize reached order meetingUses stepNames_x58 firstUses_x58 secondUses endUses homeBlock_x58 standsFor_x58) H → va_D A (wdNamedForm_dropCopies cA ad N stepCount kind orderSize reached order meetingUses stepNames_x58 firstUses_x58 secondUses endUses homeBlock_x58 standsFor_x58) → va_S A s.heap H locs → K58 v1_x58 v2_x58 stepNames_x58 firstUses_x58 homeBlock_x58 standsFor_x58 → W p l e (headSpec (Cond.code yNamedForm_dropCopies cNamedForm_dropCopies 3 (some .int) :: xW) rmNamedForm_dropCopies).room s m ([.ref (ad 18)] : List Value).toArray below meth c H locs 0 0 Q (F0 m 58 ls [])) → ∀ (k : Nat), ∀ (v1_L26 : Int32) (v2_L26 : Int32) (stepNames_L26 : Nat → Int32) (firstUses_L26 : Nat → Int32) (homeBlock_L26 : Nat → Int32) (standsFor_L26 : Nat → Int32) (ls : Array Slot) (H : Heap) (locs : List Loc), lv_has ls 3 [(0, .ref (ad 18)), (1, .int v1_L26), (2, .int v2_L26)] → va_P D vwCl (wdNamedForm_dropCopies cA ad N stepCount kind orderSize reached order meetingUses stepNames_L26 firstUses_L26 secondUses endUses homeBlock_L26 standsFor_L26) H → va_D A (wdNamedForm_dropCopies cA ad N stepCount kind orderSize reached order meetingUses stepNames_L26 firstUses_L26 secondUses endUses homeBlock_L26 standsFor_L26) → va_S A s.heap H locs → lpNamedForm_dropCopies_26 N stepCount kind orderSize order K58 k v1_L26 v2_L26 stepNames_L26 firstUses_L26 homeBlock_L26 standsFor_L26 → W p l e (headSpec (Cond.code yNamedForm_dropCopies cNamedForm_dropCopies 3 (some .int) :: xW) rmNamedForm_dropCopies).room s m ([.ref (ad 18)] : List Value).toArray below meth c H locs 0 0 Q (F0 m 26 ls []) := by
    intro K58 hK58 k
    induction k with
    | zero => intro v1_L26 v2_L26 stepNames_L26 firstUses_L26 homeBlock_L26 standsFor_L26 ls H locs hl hP hD hS hw; exact False.elim hw
    | succ k ih =>
      intro v1_L26 v2_L26 stepNames_L26 firstUses_L26 homeBlock_L26 standsFor_L26 ls H locs hl hP hD hS hw
      refine lv_iload_n hx hb dNamedForm_dropCopies_26 rfl (lv_at hl 2 rfl) ?_
      refine lv_aload_n hx hb dNamedForm_dropCopies_27 rfl (lv_at hl 0 rfl) ?_
      refine va_get (D := D) (ci := 3) (v := .ref (ad 11)) (C := "OnceNamed$NamedForm") (T := TX3) (N := 14) hx hb hts (fun w h => List.mem_cons_of_mem _ (inX3 w h)) hown hK hP 5 rfl rfl 1 (by decide) (hts _ (List.mem_cons_of_mem _ kw_121)) (fun _ h9 => h9) rfl dNamedForm_dropCopies_28 ?_
      dsimp only [lpNamedForm_dropCopies_26] at hw
      refine xci (va_runV ⟨hx, hb, hml, hown, hts⟩ (ktGraph_reachedCount l D cA ad N _ orderSize reached _ hw) (cwV 0 hts (goodV kw_315 kw_316 kw_317 kw_5 kw_318) rfl rfl rfl (by decide +kernel) ⟨Nat.le_of_ble_eq_true rfl, Nat.le_of_ble_eq_true rfl⟩) (xpreV hK hP hD hN [3] rfl rfl 3 rfl rfl) rfl rfl hl.1 rfl (lv_room (Nat.le_of_ble_eq_true rfl)) dNamedForm_dropCopies_31 ⟨Nat.le_of_ble_eq_true rfl, Nat.le_of_ble_eq_true rfl⟩) hP hD hS hA [3] [0, 1, 2, 4, 5, 6, 7, 8, 9, 10, 11, 12] rfl rfl rfl rfl [0, 1, 2, 12, 3, 4, 5, 6, 7, 8, 9, 10, 11] rfl (fun _ => rfl) (fun r31 u H locs hw hP hD hS => ?_)
      have hP : va_P D vwCl (wdNamedForm_dropCopies cA ad N stepCount kind orderSize reached order meetingUses stepNames_L26 firstUses_L26 secondUses endUses homeBlock_L26 standsFor_L26) H := hP
      have hD : va_D A (wdNamedForm_dropCopies cA ad N stepCount kind orderSize reached order meetingUses stepNames_L26 firstUses_L26 secondUses endUses homeBlock_L26 standsFor_L26) := hD
      refine lv_icmp_ge (tgt := 58) hx hb dNamedForm_dropCopies_34 rfl (fun hc => ?_) (fun hc => ?_)
      · have hw := hw.1 hc
        exact hK58 v1_L26 v2_L26 stepNames_L26 firstUses_L26 homeBlock_L26 standsFor_L26 _ _ _ (lv_sub hl [0, 1, 2] rfl) hP hD hS hw
      · have hw := hw.2 hc
        refine lv_iload_n hx hb dNamedForm_dropCopies_37 rfl (lv_at hl 1 rfl) ?_
        refine lv_aload_n hx hb dNamedForm_dropCopies_38 rfl (lv_at hl 0 rfl) ?_
        refine lv_aload_n hx hb dNamedForm_dropCopies_39 rfl (lv_at hl 0 rfl) ?_
        refine va_get (D := D) (ci := 3) (v := .ref (ad 11)) (C := "OnceNamed$NamedForm") (T := TX3) (N := 14) hx hb hts (fun w h => List.mem_cons_of_mem _ (inX3 w h)) hown hK hP 5 rfl rfl 1 (by decide) (hts _ (List.mem_cons_of_mem _ kw_121)) (fun _ h9 => h9) rfl dNamedForm_dropCopies_40 ?_
        refine lv_iload_n hx hb dNamedForm_dropCopies_43 rfl (lv_at hl 2 rfl) ?_
        refine xci (va_runV ⟨hx, hb, hml, hown, hts⟩ (ktGraph_inOrder l D cA ad N _ orderSize reached order v2_L26 _ hw) (cwV 1 hts (goodV kw_319 kw_320 kw_321 kw_5 kw_322) rfl rfl rfl (by decide +kernel) ⟨Nat.le_of_ble_eq_true rfl, Nat.le_of_ble_eq_true rfl⟩) (xpreV hK hP hD hN [3, 4] rfl rfl 3 rfl rfl) rfl rfl hl.1 rfl (lv_room (Nat.le_of_ble_eq_true rfl)) dNamedForm_dropCopies_44 ⟨Nat.le_of_ble_eq_true rfl, Nat.le_of_ble_eq_true rfl⟩) hP hD hS hA [3, 4] [0, 1, 2, 5, 6, 7, 8, 9, 10, 11, 12] rfl rfl rfl rfl [0, 1, 2, 11, 12, 3, 4, 5, 6, 7, 8, 9, 10] rfl (fun _ => rfl) (fun r44 u H locs hw hP hD hS => ?_)
        have hP : va_P D vwCl (wdNamedForm_dropCopies cA ad N stepCount kind orderSize reached order meetingUses stepNames_L26 firstUses_L26 secondUses endUses homeBlock_L26 standsFor_L26) H := hP
        have hD : va_D A (wdNamedForm_dropCopies cA ad N stepCount kind orderSize reached order meetingUses stepNames_L26 firstUses_L26 secondUses endUses homeBlock_L26 standsFor_L26) := hD
        refine xci (va_runV ⟨hx, hb, hml, hown, hts⟩ (ktNamedForm_dropCopiesOf l D cA ad N _ stepCount kind stepNames_L26 firstUses_L26 homeBlock_L26 standsFor_L26 r44 _ hw) (cwV 1 hts (goodV kw_613 kw_615 ks_2_5 kw_6 kw_616) rfl rfl rfl (by decide +kernel) ⟨Nat.le_of_ble_eq_true rfl, Nat.le_of_ble_eq_true rfl⟩) (xpreV hK hP hD hN [0, 1, 2, 5, 7, 8, 11, 12] rfl rfl 5 rfl rfl) rfl rfl hl.1 rfl (lv_room (Nat.le_of_ble_eq_true rfl)) dNamedForm_dropCopies_47 ⟨Nat.le_of_ble_eq_true rfl, Nat.le_of_ble_eq_true rfl⟩) hP hD hS hA [0, 1, 2, 5, 7, 8, 11, 12] [3, 4, 6, 9, 10] rfl rfl rfl rfl [5, 6, 7, 0, 1, 8, 2, 9, 10, 3, 4, 11, 12] rfl (fun _ => rfl) (fun r47 u H locs hw hP hD hS => ?_)
        obtain ⟨stepNames_47, firstUses_47, homeBlock_47, standsFor_47⟩ := u
        try dsimp only at hw
        have hP : va_P D vwCl (wdNamedForm_dropCopies cA ad N stepCount kind orderSize reached order meetingUses stepNames_47 firstUses_47 secondUses endUses homeBlock_47 standsFor_47) H := hP
        have hD : va_D A (wdNamedForm_dropCopies cA ad N stepCount kind orderSize reached order meetingUses stepNames_47 firstUses_47 secondUses endUses homeBlock_47 standsFor_47) := hD
        refine lv_iadd hx hb dNamedForm_dropCopies_50 ?_
        refine lv_topi (fun v1_51 e_v1_51 => ?_)
        have hw := hw v1_51 e_v1_51
        refine lv_istore_n (lv' := [(1, .int v1_51), (0, .ref (ad 18)), (2, .int v2_L26)]) hx hb dNamedForm_dropCopies_51 rfl hl (by decide) rfl (fun ls hl => ?_)
        refine lv_iinc (k := 2) (v := (v2_L26 + 1)) (lv' := [(2, .int (v2_L26 + 1)), (1, .int v1_51), (0, .ref (ad 18))]) hx hb dNamedForm_dropCopies_52 hl rfl rfl (by decide) rfl (fun ls hl => ?_)
        refine lv_goto (tgt := 26) hx hb dNamedForm_dropCopies_55 rfl ?_
        exact ih v1_51 (v2_L26 + 1) stepNames_47 firstUses_47 homeBlock_47 standsFor_47 _ _ _ (lv_sub hl [2, 1, 0] rfl) hP hD hS hw
  refine hlp26 _ ?_ k26 0 0 stepNames firstUses homeBlock standsFor_x22 _ _ _ (lv_sub hl [2, 1, 0] rfl) hP hD hS hw
  intro v1_x58 v2_x58 stepNames_x58 firstUses_x58 homeBlock_x58 standsFor_x58 ls H locs hl hP hD hS hw
  try dsimp only at hw
  refine lv_aload_n hx hb dNamedForm_dropCopies_58 rfl (lv_at hl 0 rfl) ?_
  refine lv_aload_n hx hb dNamedForm_dropCopies_59 rfl (lv_at hl 0 rfl) ?_
  refine va_get (D := D) (ci := 3) (v := .ref (ad 22)) (C := "OnceNamed$NamedForm") (T := TX3) (N := 14) hx hb hts (fun w h => List.mem_cons_of_mem _ (inX3 w h)) hown hK hP 5 rfl rfl 6 (by decide) (hts _ (List.mem_cons_of_mem _ kw_126)) (fun _ h9 => h9) rfl dNamedForm_dropCopies_60 ?_
  refine xcv (va_runV ⟨hx, hb, hml, hown, hts⟩ (ktNamedForm_replaceAll l D cA ad N (ad 22) (N * 6) _ standsFor_x58 firstUses_x58 _ hw) (cwV 1 hts (goodV kw_621 kw_623 ks_2_6 kw_6 kw_624) rfl rfl rfl (by decide +kernel) ⟨Nat.le_of_ble_eq_true rfl, Nat.le_of_ble_eq_true rfl⟩) (xpreV hK hP hD hN [5, 12, 8] rfl rfl 5 rfl rfl) rfl rfl hl.1 rfl (lv_room (Nat.le_of_ble_eq_true rfl)) dNamedForm_dropCopies_63 ⟨Nat.le_of_ble_eq_true rfl, Nat.le_of_ble_eq_true rfl⟩) hP hD hS hA [5, 12, 8] [0, 1, 2, 3, 4, 6, 7, 9, 10, 11] rfl rfl rfl rfl [0, 1, 2, 3, 4, 10, 5, 6, 12, 7, 8, 9, 11] rfl (fun _ => rfl) (fun firstUses_63 H locs hw hP hD hS => ?_)
  try dsimp only at hw
  have hP : va_P D vwCl (wdNamedForm_dropCopies cA ad N stepCount kind orderSize reached order meetingUses stepNames_x58 firstUses_63 secondUses endUses homeBlock_x58 standsFor_x58) H := hP
  have hD : va_D A (wdNamedForm_dropCopies cA ad N stepCount kind orderSize reached order meetingUses stepNames_x58 firstUses_63 secondUses endUses homeBlock_x58 standsFor_x58) := hD
  refine lv_aload_n hx hb dNamedForm_dropCopies_66 rfl (lv_at hl 0 rfl) ?_
  refine lv_aload_n hx hb dNamedForm_dropCopies_67 rfl (lv_at hl 0 rfl) ?_
  refine va_get (D := D) (ci := 3) (v := .ref (ad 23)) (C := "OnceNamed$NamedForm") (T := TX3) (N := 14) hx hb hts (fun w h => List.mem_cons_of_mem _ (inX3 w h)) hown hK hP 5 rfl rfl 7 (by decide) (hts _ (List.mem_cons_of_mem _ kw_127)) (fun _ h9 => h9) rfl dNamedForm_dropCopies_68 ?_
  refine xcv (va_runV ⟨hx, hb, hml, hown, hts⟩ (ktNamedForm_replaceAll l D cA ad N (ad 23) (N * 6) _ standsFor_x58 secondUses _ hw) (cwV 1 hts (goodV kw_621 kw_623 ks_2_6 kw_6 kw_624) rfl rfl rfl (by decide +kernel) ⟨Nat.le_of_ble_eq_true rfl, Nat.le_of_ble_eq_true rfl⟩) (xpreV hK hP hD hN [5, 12, 9] rfl rfl 5 rfl rfl) rfl rfl hl.1 rfl (lv_room (Nat.le_of_ble_eq_true rfl)) dNamedForm_dropCopies_71 ⟨Nat.le_of_ble_eq_true rfl, Nat.le_of_ble_eq_true rfl⟩) hP hD hS hA [5, 12, 9] [0, 1, 2, 3, 4, 6, 7, 8, 10, 11] rfl rfl rfl rfl [0, 1, 2, 3, 4, 10, 5, 6, 7, 12, 8, 9, 11] rfl (fun _ => rfl) (fun secondUses_71 H locs hw hP hD hS => ?_)
  try dsimp only at hw
  have hP : va_P D vwCl (wdNamedForm_dropCopies cA ad N stepCount kind orderSize reached order meetingUses stepNames_x58 firstUses_63 secondUses_71 endUses homeBlock_x58 standsFor_x58) H := hP
  have hD : va_D A (wdNamedForm_dropCopies cA ad N stepCount kind orderSize reached order meetingUses stepNames_x58 firstUses_63 secondUses_71 endUses homeBlock_x58 standsFor_x58) := hD
  refine lv_aload_n hx hb dNamedForm_dropCopies_74 rfl (lv_at hl 0 rfl) ?_
  refine lv_aload_n hx hb dNamedForm_dropCopies_75 rfl (lv_at hl 0 rfl) ?_
  refine va_get (D := D) (ci := 3) (v := .ref (ad 24)) (C := "OnceNamed$NamedForm") (T := TX3) (N := 14) hx hb hts (fun w h => List.mem_cons_of_mem _ (inX3 w h)) hown hK hP 5 rfl rfl 8 (by decide) (hts _ (List.mem_cons_of_mem _ kw_128)) (fun _ h9 => h9) rfl dNamedForm_dropCopies_76 ?_
  refine xcv (va_runV ⟨hx, hb, hml, hown, hts⟩ (ktNamedForm_replaceAll l D cA ad N (ad 24) N _ standsFor_x58 endUses _ hw) (cwV 1 hts (goodV kw_621 kw_623 ks_2_6 kw_6 kw_624) rfl rfl rfl (by decide +kernel) ⟨Nat.le_of_ble_eq_true rfl, Nat.le_of_ble_eq_true rfl⟩) (xpreV hK hP hD hN [5, 12, 10] rfl rfl 5 rfl rfl) rfl rfl hl.1 rfl (lv_room (Nat.le_of_ble_eq_true rfl)) dNamedForm_dropCopies_79 ⟨Nat.le_of_ble_eq_true rfl, Nat.le_of_ble_eq_true rfl⟩) hP hD hS hA [5, 12, 10] [0, 1, 2, 3, 4, 6, 7, 8, 9, 11] rfl rfl rfl rfl [0, 1, 2, 3, 4, 10, 5, 6, 7, 8, 12, 9, 11] rfl (fun _ => rfl) (fun endUses_79 H locs hw hP hD hS => ?_)
  try dsimp only at hw
  have hP : va_P D vwCl (wdNamedForm_dropCopies cA ad N stepCount kind orderSize reached order meetingUses stepNames_x58 firstUses_63 secondUses_71 endUses_79 homeBlock_x58 standsFor_x58) H := hP
  have hD : va_D A (wdNamedForm_dropCopies cA ad N stepCount kind orderSize reached order meetingUses stepNames_x58 firstUses_63 secondUses_71 endUses_79 homeBlock_x58 standsFor_x58) := hD
  refine lv_aload_n hx hb dNamedForm_dropCopies_82 rfl (lv_at hl 0 rfl) ?_
  refine lv_aload_n hx hb dNamedForm_dropCopies_83 rfl (lv_at hl 0 rfl) ?_
  refine va_get (D := D) (ci := 3) (v := .ref (ad 20)) (C := "OnceNamed$NamedForm") (T := TX3) (N := 14) hx hb hts (fun w h => List.mem_cons_of_mem _ (inX3 w h)) hown hK hP 5 rfl rfl 4 (by decide) (hts _ (List.mem_cons_of_mem _ kw_124)) (fun _ h9 => h9) rfl dNamedForm_dropCopies_84 ?_
  refine xcv (va_runV ⟨hx, hb, hml, hown, hts⟩ (ktNamedForm_replaceAll l D cA ad N (ad 20) (N * 6 * (N + 1)) _ standsFor_x58 meetingUses _ hw) (cwV 1 hts (goodV kw_621 kw_623 ks_2_6 kw_6 kw_624) rfl rfl rfl (by decide +kernel) ⟨Nat.le_of_ble_eq_true rfl, Nat.le_of_ble_eq_true rfl⟩) (xpreV hK hP hD hN [5, 12, 6] rfl rfl 5 rfl rfl) rfl rfl hl.1 rfl (lv_room (Nat.le_of_ble_eq_true rfl)) dNamedForm_dropCopies_87 ⟨Nat.le_of_ble_eq_true rfl, Nat.le_of_ble_eq_true rfl⟩) hP hD hS hA [5, 12, 6] [0, 1, 2, 3, 4, 7, 8, 9, 10, 11] rfl rfl rfl rfl [0, 1, 2, 3, 4, 10, 12, 5, 6, 7, 8, 9, 11] rfl (fun _ => rfl) (fun meetingUses_87 H locs hw hP hD hS => ?_)
  try dsimp only at hw
  have hP : va_P D vwCl (wdNamedForm_dropCopies cA ad N stepCount kind orderSize reached order meetingUses_87 stepNames_x58 firstUses_63 secondUses_71 endUses_79 homeBlock_x58 standsFor_x58) H := hP
  have hD : va_D A (wdNamedForm_dropCopies cA ad N stepCount kind orderSize reached order meetingUses_87 stepNames_x58 firstUses_63 secondUses_71 endUses_79 homeBlock_x58 standsFor_x58) := hD
  refine lv_iload_n hx hb dNamedForm_dropCopies_90 rfl (lv_at hl 1 rfl) ?_
  exact hend v1_x58 meetingUses_87 stepNames_x58 firstUses_63 secondUses_71 endUses_79 homeBlock_x58 standsFor_x58 _ _ _ _ dNamedForm_dropCopies_91 hP hD hS hw
