abbrev wdOn_requireStep (cA : ClassId) (ad : Nat → Nat) (N : Nat) (formStands : Bool) (stepCount : Nat → Int32) : va_W := [((ad 0), .inr (0, [.int (nI N), .ref (ad 1), .ref (ad 11), .ref (ad 18), .ref (ad 30), .ref (ad 35), .ref (ad 38), .ref (ad 40), .ref (ad 42), .int (bI formStands)])), ((ad 1), .inr (1, [.int (nI N), .ref (ad 2), .ref (ad 3), .ref (ad 4), .ref (ad 5), .ref (ad 6), .ref (ad 7), .ref (ad 8), .ref (ad 9), .ref (ad 10)])), ((ad 2), .inl (cA, N, .inl stepCount))]
abbrev qcOn_requireStep (D : va_G) (cA : ClassId) (ad : Nat → Nat) (N : Nat) (formStands : Bool) (stepCount : Nat → Int32) (post : Prop) (postX : Nat → Prop) (A : Nat → Prop) : Array Value → State → Outcome → State → Prop := xQv (S := Unit) (fun u => post ) (fun k u => postX k ) (fun u t => xB D [(cA, .int)] A (wdOn_requireStep cA ad N formStands stepCount) t) A
abbrev rmOn_requireStep : Room := { frames := 6, cells := 1, slots := 6, locals := 90 }
set_option maxHeartbeats 4000000 in
set_option maxRecDepth 100000 in
theorem ktOn_requireStep (l : Launch) (hfl : l.flags = Jvm.pinnedFlags ++ [Jvm.noTraceFlag]) (D : va_G) (cA : ClassId) (ad : Nat → Nat) (N : Nat) (sz : Nat) (formStands : Bool) (stepCount : Nat → Int32) (v1 : Int32) (v2 : Int32) (post : Prop) (postX : Nat → Prop) (hw : wpOn_requireStep N stepCount v1 v2 post postX) : MetX l yOn_requireStep (Cond.code yOn_requireStep cOn_requireStep 3 none :: xW) rmOn_requireStep (va_Pc [.ref (ad 0), .int v1, .int v2] (xPcE D [(cA, .int)] (wdOn_requireStep cA ad N formStands stepCount) sz)) (qcOn_requireStep D cA ad N formStands stepCount post postX (va_A (wdOn_requireStep cA ad N formStands stepCount) sz)) 1 6 (va_A (wdOn_requireStep cA ad N formStands stepCount) sz) := by
  refine MetX.ofW (cc := cOn_requireStep) (maxL := 3) (ret := none) (by decide) rfl ?_
  intro p e s m args below meth c s₁ B hml hv
  obtain ⟨rfl, ⟨hsz, hP, hK, hD0, hN⟩, hE0⟩ := hv
  have hx := B.exec
  have hb := B.bytes
  have hr := B.returns
  have hts := atoms_spec (ws := (Cond.code yOn_requireStep cOn_requireStep 3 none :: xW)) B.pre
  have hown : s.vm.findClass "OnceNamed" = some m.cls := findClass_of_methodNamed B.named
  have hlocks := B.notSynchronized
  subst hsz
  have hD := hD0.self (sz := s.heap.size)
  have hE := xEEfull hE0
  have htr := Launch.traces_off hfl B.admits
  have hout := xnoout (B.noHandlers (hts _ List.mem_cons_self))
  have htsx : ∀ w ∈ xW, w.before ([.ref (ad 0), .int v1, .int v2] : List Value).toArray s = true := fun w h => hts w (List.mem_cons_of_mem _ h)
  generalize hAe : va_A (wdOn_requireStep cA ad N formStands stepCount) s.heap.size = A at hD hE ⊢
  have hA : ∀ q : Nat, s.heap.size ≤ q → A q := fun q h => by rw [← hAe]; exact Or.inr h
  have hS : va_S A s.heap s.heap [] := va_S.rf
  have hend : ∀  (H : Heap) (locs : List Loc) (pc : Nat) (ls : Array Slot), decode cOn_requireStep pc = .ok (.return_, 1) → va_P D vwCl (wdOn_requireStep cA ad N formStands stepCount) H → va_D A (wdOn_requireStep cA ad N formStands stepCount) → va_S A s.heap H locs → post  → W p l e (headSpec (Cond.code yOn_requireStep cOn_requireStep 3 none :: xW) rmOn_requireStep).room s m ([.ref (ad 0), .int v1, .int v2] : List Value).toArray below meth c H locs 1 6 (MQX below (qcOn_requireStep D cA ad N formStands stepCount post postX A) ([.ref (ad 0), .int v1, .int v2] : List Value).toArray s 1 6 A) (F0 m pc ls []) := fun  H locs pc ls hd hP hD hS hw => xWmono (fun _ => MQX.of) (W.vret hx hb hr (fun t ht hW => ⟨Or.inl ⟨(), rfl, hw, ⟨by rw [ht]; exact hP, va_K.moved hW.alike hK, hD⟩⟩, hS.F ht⟩) hS.2.2 hd)
  have hendX : ∀ (k x : Nat)  (t : State) (locs : List Loc) (cells slots : Nat), cells ≤ 1 → slots ≤ 6 → t.status = .running → Ended t below (.threw x) → s.WarmedH t.vm → s.sameButNew ({ t with vm := s.vm } : State) locs cells slots → xExc k x s.heap.size t → va_P D vwCl (wdOn_requireStep cA ad N formStands stepCount) t.heap → va_D A (wdOn_requireStep cA ad N formStands stepCount) → va_S A s.heap t.heap locs → postX k  → MQX below (qcOn_requireStep D cA ad N formStands stepCount post postX A) ([.ref (ad 0), .int v1, .int v2] : List Value).toArray s 1 6 A t := fun k x  t locs cells slots h1 h2 b1 b2 b3 b4 b5 hP hD hS hw => ⟨.threw x, b1, b2, ⟨Or.inr ⟨k, x, (), rfl, b5, hw, ⟨hP, va_K.moved b3.alike hK, hD⟩⟩, hS.F rfl⟩, locs, ⟨b3, b4.mono h1 h2⟩, hS.2.2⟩
  generalize hQ : MQX below (qcOn_requireStep D cA ad N formStands stepCount post postX A) ([.ref (ad 0), .int v1, .int v2] : List Value).toArray s 1 6 A = Q at hend hendX ⊢
  have hl := lv_entry ([.ref (ad 0), .int v1, .int v2]) (n := 3) (Nat.le_of_ble_eq_true rfl)
  rw [lg_entry_eq]
  generalize (lg_sl ([.ref (ad 0), .int v1, .int v2]) ++ List.replicate (3 - (lg_sl ([.ref (ad 0), .int v1, .int v2])).length) Slot.unset).toArray = ls at hl ⊢
  have hl : lv_has ls 3 [(0, .ref (ad 0)), (1, .int v1), (2, .int v2)] := hl
  unfold wpOn_requireStep at hw
  refine lv_iload_n hx hb dOn_requireStep_0 rfl (lv_at hl 2 rfl) ?_
  refine lv_if_lt (tgt := 16) hx hb dOn_requireStep_1 rfl (fun hc => ?_) (fun hc => ?_)
  · have hw := hw.1 hc
    exact xthrowB 0 hx hb htr hown htsx (by decide) xat_0 kw_417 kw_15 hE hS (List.mem_of_getElem? (i := 8) rfl) (hout _) hlocks (hl.1.trans hml.symm) dOn_requireStep_16 dOn_requireStep_19 (Or.inr ⟨dOn_requireStep_20, rfl⟩) dOn_requireStep_23 dOn_requireStep_26 (Nat.le_of_ble_eq_true rfl) (Nat.le_of_ble_eq_true rfl) (Nat.le_of_ble_eq_true rfl) (Nat.le_of_ble_eq_true rfl) (fun x t b1 b2 b3 b4 b5 b6 b7 => hendX 0 x  t _ _ _ (Nat.le_of_ble_eq_true rfl) (Nat.le_of_ble_eq_true rfl) b1 b2 b3 b4 b5 (xPkeep hP b7) hD (xSkeep hS b6 b7) hw)
  · have hw := hw.2 hc
    refine lv_iload_n hx hb dOn_requireStep_4 rfl (lv_at hl 2 rfl) ?_
    refine lv_aload_n hx hb dOn_requireStep_5 rfl (lv_at hl 0 rfl) ?_
    refine va_get (D := D) (ci := 0) (v := .ref (ad 1)) (C := "OnceNamed") (T := TX0) (N := 10) hx hb hts (fun w h => List.mem_cons_of_mem _ (inX0 w h)) hown hK hP 0 rfl rfl 1 (by decide) (hts _ (List.mem_cons_of_mem _ kw_268)) (fun _ h9 => h9) rfl dOn_requireStep_6 ?_
    refine lv_iload_n hx hb dOn_requireStep_9 rfl (lv_at hl 1 rfl) ?_
    refine xci (va_runV ⟨hx, hb, hml, hown, hts⟩ (ktProgram_stepsOf l D cA ad N _ stepCount v1 _ hw) (cwV 1 hts (goodV kw_499 kw_355 kw_356 kw_3 kw_357) rfl rfl rfl (by decide +kernel) ⟨Nat.le_of_ble_eq_true rfl, Nat.le_of_ble_eq_true rfl⟩) (xpreV hK hP hD hN [1, 2] rfl rfl 1 rfl rfl) rfl rfl hl.1 rfl (lv_room (Nat.le_of_ble_eq_true rfl)) dOn_requireStep_10 ⟨Nat.le_of_ble_eq_true rfl, Nat.le_of_ble_eq_true rfl⟩) hP hD hS hA [1, 2] [0] rfl rfl rfl rfl [0, 1, 2] rfl (fun _ => rfl) (fun r10 u H locs hw hP hD hS => ?_)
    have hP : va_P D vwCl (wdOn_requireStep cA ad N formStands stepCount) H := hP
    have hD : va_D A (wdOn_requireStep cA ad N formStands stepCount) := hD
    refine lv_icmp_lt (tgt := 27) hx hb dOn_requireStep_13 rfl (fun hc => ?_) (fun hc => ?_)
    · have hw := hw.1 hc
      refine W.widen (k := 1) (n := 6) (Nat.le_of_ble_eq_true rfl) (Nat.le_of_ble_eq_true rfl) ?_
      exact hend  _ _ _ _ dOn_requireStep_27 hP hD hS hw
    · have hw := hw.2 hc
      exact xthrowB 0 hx hb htr hown htsx (by decide) xat_0 kw_417 kw_15 hE hS (List.mem_of_getElem? (i := 8) rfl) (hout _) hlocks (hl.1.trans hml.symm) dOn_requireStep_16 dOn_requireStep_19 (Or.inr ⟨dOn_requireStep_20, rfl⟩) dOn_requireStep_23 dOn_requireStep_26 (Nat.le_of_ble_eq_true rfl) (Nat.le_of_ble_eq_true rfl) (Nat.le_of_ble_eq_true rfl) (Nat.le_of_ble_eq_true rfl) (fun x t b1 b2 b3 b4 b5 b6 b7 => hendX 0 x  t _ _ _ (Nat.le_of_ble_eq_true rfl) (Nat.le_of_ble_eq_true rfl) b1 b2 b3 b4 b5 (xPkeep hP b7) hD (xSkeep hS b6 b7) hw)
abbrev wdOn_sets (cA : ClassId) (ad : Nat → Nat) (N : Nat) (formStands : Bool) (stepCount : Nat → Int32) (stepNames : Nat → Int32) : va_W := [((ad 0), .inr (0, [.int (nI N), .ref (ad 1), .ref (ad 11), .ref (ad 18), .ref (ad 30), .ref (ad 35), .ref (ad 38), .ref (ad 40), .ref (ad 42), .int (bI formStands)])), ((ad 1), .inr (1, [.int (nI N), .ref (ad 2), .ref (ad 3), .ref (ad 4), .ref (ad 5), .ref (ad 6), .ref (ad 7), .ref (ad 8), .ref (ad 9), .ref (ad 10)])), ((ad 2), .inl (cA, N, .inl stepCount)), ((ad 18), .inr (3, [.ref (ad 1), .ref (ad 11), .int (nI N), .ref (ad 19), .ref (ad 20), .ref (ad 21), .ref (ad 22), .ref (ad 23), .ref (ad 24), .ref (ad 25), .ref (ad 26), .ref (ad 27), .ref (ad 28), .ref (ad 29)])), ((ad 21), .inl (cA, N * 6, .inl stepNames))]
abbrev qcOn_sets (D : va_G) (cA : ClassId) (ad : Nat → Nat) (N : Nat) (formStands : Bool) (stepCount : Nat → Int32) (stepNames : Nat → Int32) (post : Int32 → Prop) (postX : Nat → Prop) (A : Nat → Prop) : Array Value → State → Outcome → State → Prop := xQi (S := Unit) (fun r u => post r ) (fun k u => postX k ) (fun u t => xB D [(cA, .int)] A (wdOn_sets cA ad N formStands stepCount stepNames) t) A
abbrev rmOn_sets : Room := { frames := 7, cells := 3, slots := 18, locals := 112 }
set_option maxHeartbeats 4000000 in
set_option maxRecDepth 100000 in
theorem ktOn_sets (l : Launch) (hfl : l.flags = Jvm.pinnedFlags ++ [Jvm.noTraceFlag]) (D : va_G) (cA : ClassId) (ad : Nat → Nat) (N : Nat) (sz : Nat) (formStands : Bool) (stepCount : Nat → Int32) (stepNames : Nat → Int32) (v1 : Int32) (v2 : Int32) (post : Int32 → Prop) (postX : Nat → Prop) (hw : wpOn_sets N formStands stepCount stepNames v1 v2 post postX) : MetX l yOn_sets (Cond.code yOn_sets cOn_sets 3 (some .int) :: xW) rmOn_sets (va_Pc [.ref (ad 0), .int v1, .int v2] (xPcE D [(cA, .int)] (wdOn_sets cA ad N formStands stepCount stepNames) sz)) (qcOn_sets D cA ad N formStands stepCount stepNames post postX (va_A (wdOn_sets cA ad N formStands stepCount stepNames) sz)) 3 18 (va_A (wdOn_sets cA ad N formStands stepCount stepNames) sz) := by
  refine MetX.ofW (cc := cOn_sets) (maxL := 3) (ret := (some .int)) (by decide) rfl ?_
  intro p e s m args below meth c s₁ B hml hv
  obtain ⟨rfl, ⟨hsz, hP, hK, hD0, hN⟩, hE0⟩ := hv
  have hx := B.exec
  have hb := B.bytes
  have hr := B.returns
  have hts := atoms_spec (ws := (Cond.code yOn_sets cOn_sets 3 (some .int) :: xW)) B.pre
  have hown : s.vm.findClass "OnceNamed" = some m.cls := findClass_of_methodNamed B.named
  have hlocks := B.notSynchronized
  subst hsz
  have hD := hD0.self (sz := s.heap.size)
  have hE := xEEfull hE0
  have htr := Launch.traces_off hfl B.admits
  have hout := xnoout (B.noHandlers (hts _ List.mem_cons_self))
  have htsx : ∀ w ∈ xW, w.before ([.ref (ad 0), .int v1, .int v2] : List Value).toArray s = true := fun w h => hts w (List.mem_cons_of_mem _ h)
  generalize hAe : va_A (wdOn_sets cA ad N formStands stepCount stepNames) s.heap.size = A at hD hE ⊢
  have hA : ∀ q : Nat, s.heap.size ≤ q → A q := fun q h => by rw [← hAe]; exact Or.inr h
  have hS : va_S A s.heap s.heap [] := va_S.rf
  have hend : ∀ (r : Int32)  (H : Heap) (locs : List Loc) (pc : Nat) (ls : Array Slot), decode cOn_sets pc = .ok (.ireturn, 1) → va_P D vwCl (wdOn_sets cA ad N formStands stepCount stepNames) H → va_D A (wdOn_sets cA ad N formStands stepCount stepNames) → va_S A s.heap H locs → post r  → W p l e (headSpec (Cond.code yOn_sets cOn_sets 3 (some .int) :: xW) rmOn_sets).room s m ([.ref (ad 0), .int v1, .int v2] : List Value).toArray below meth c H locs 3 18 (MQX below (qcOn_sets D cA ad N formStands stepCount stepNames post postX A) ([.ref (ad 0), .int v1, .int v2] : List Value).toArray s 3 18 A) (F0 m pc ls [.int r]) := fun r  H locs pc ls hd hP hD hS hw => xWmono (fun _ => MQX.of) (W.iret (v := r) hx hb hr (fun t ht hW => ⟨Or.inl ⟨r, (), rfl, hw, ⟨by rw [ht]; exact hP, va_K.moved hW.alike hK, hD⟩⟩, hS.F ht⟩) hS.2.2 hd)
  have hendX : ∀ (k x : Nat)  (t : State) (locs : List Loc) (cells slots : Nat), cells ≤ 3 → slots ≤ 18 → t.status = .running → Ended t below (.threw x) → s.WarmedH t.vm → s.sameButNew ({ t with vm := s.vm } : State) locs cells slots → xExc k x s.heap.size t → va_P D vwCl (wdOn_sets cA ad N formStands stepCount stepNames) t.heap → va_D A (wdOn_sets cA ad N formStands stepCount stepNames) → va_S A s.heap t.heap locs → postX k  → MQX below (qcOn_sets D cA ad N formStands stepCount stepNames post postX A) ([.ref (ad 0), .int v1, .int v2] : List Value).toArray s 3 18 A t := fun k x  t locs cells slots h1 h2 b1 b2 b3 b4 b5 hP hD hS hw => ⟨.threw x, b1, b2, ⟨Or.inr ⟨k, x, (), rfl, b5, hw, ⟨hP, va_K.moved b3.alike hK, hD⟩⟩, hS.F rfl⟩, locs, ⟨b3, b4.mono h1 h2⟩, hS.2.2⟩
  generalize hQ : MQX below (qcOn_sets D cA ad N formStands stepCount stepNames post postX A) ([.ref (ad 0), .int v1, .int v2] : List Value).toArray s 3 18 A = Q at hend hendX ⊢
  have hl := lv_entry ([.ref (ad 0), .int v1, .int v2]) (n := 3) (Nat.le_of_ble_eq_true rfl)
  rw [lg_entry_eq]
  generalize (lg_sl ([.ref (ad 0), .int v1, .int v2]) ++ List.replicate (3 - (lg_sl ([.ref (ad 0), .int v1, .int v2])).length) Slot.unset).toArray = ls at hl ⊢
  have hl : lv_has ls 3 [(0, .ref (ad 0)), (1, .int v1), (2, .int v2)] := hl
  unfold wpOn_sets at hw
  refine lv_aload_n hx hb dOn_sets_0 rfl (lv_at hl 0 rfl) ?_
  refine xcxv (xrunV ⟨hx, hb, hml, hown, hts⟩ (ktOn_requireForm l hfl D cA ad N _ formStands _ _ hw) (cwV 0 hts (goodV kw_568 kw_570 ks_2_1 kw_1 kw_571) rfl rfl rfl (by decide +kernel) ⟨Nat.le_of_ble_eq_true rfl, Nat.le_of_ble_eq_true rfl⟩) (xpreVE hE hS hK hP hD hN [0] rfl rfl 0 rfl rfl) rfl rfl hl.1 rfl (lv_room (Nat.le_of_ble_eq_true rfl)) dOn_sets_1 ⟨Nat.le_of_ble_eq_true rfl, Nat.le_of_ble_eq_true rfl⟩) (hout _) hlocks hP hD hS hA [0] [1, 2, 3, 4] rfl rfl rfl rfl [4, 0, 1, 2, 3] rfl (fun _ => rfl) (fun u H locs hw hP hD hS => ?_) (fun k x u t locs b1 b2 b3 b4 b5 b6 b7 b8 b9 => hendX k x  t locs _ _ (Nat.le_of_ble_eq_true rfl) (Nat.le_of_ble_eq_true rfl) b1 b2 b3 b4 b5 b6 b7 b8 b9)
  have hP : va_P D vwCl (wdOn_sets cA ad N formStands stepCount stepNames) H := hP
  have hD : va_D A (wdOn_sets cA ad N formStands stepCount stepNames) := hD
  refine lv_aload_n hx hb dOn_sets_4 rfl (lv_at hl 0 rfl) ?_
  refine lv_iload_n hx hb dOn_sets_5 rfl (lv_at hl 1 rfl) ?_
  refine xcxv (xrunV ⟨hx, hb, hml, hown, hts⟩ (ktOn_requireBlock l hfl D cA ad N _ formStands v1 _ _ hw) (cwV 1 hts (goodV kw_413 kw_415 ks_1_14 kw_1 kw_416) rfl rfl rfl (by decide +kernel) ⟨Nat.le_of_ble_eq_true rfl, Nat.le_of_ble_eq_true rfl⟩) (xpreVE hE hS hK hP hD hN [0] rfl rfl 0 rfl rfl) rfl rfl hl.1 rfl (lv_room (Nat.le_of_ble_eq_true rfl)) dOn_sets_6 ⟨Nat.le_of_ble_eq_true rfl, Nat.le_of_ble_eq_true rfl⟩) (hout _) hlocks hP hD hS hA [0] [1, 2, 3, 4] rfl rfl rfl rfl [4, 0, 1, 2, 3] rfl (fun _ => rfl) (fun u H locs hw hP hD hS => ?_) (fun k x u t locs b1 b2 b3 b4 b5 b6 b7 b8 b9 => hendX k x  t locs _ _ (Nat.le_of_ble_eq_true rfl) (Nat.le_of_ble_eq_true rfl) b1 b2 b3 b4 b5 b6 b7 b8 b9)
  have hP : va_P D vwCl (wdOn_sets cA ad N formStands stepCount stepNames) H := hP
  have hD : va_D A (wdOn_sets cA ad N formStands stepCount stepNames) := hD
  refine lv_aload_n hx hb dOn_sets_9 rfl (lv_at hl 0 rfl) ?_
  refine lv_iload_n hx hb dOn_sets_10 rfl (lv_at hl 1 rfl) ?_
  refine lv_iload_n hx hb dOn_sets_11 rfl (lv_at hl 2 rfl) ?_
  refine xcxv (xrunV ⟨hx, hb, hml, hown, hts⟩ (ktOn_requireStep l hfl D cA ad N _ formStands stepCount v1 v2 _ _ hw) (cwV 2 hts (goodV kw_691 kw_693 ks_2_9 kw_1 kw_694) rfl rfl rfl (by decide +kernel) ⟨Nat.le_of_ble_eq_true rfl, Nat.le_of_ble_eq_true rfl⟩) (xpreVE hE hS hK hP hD hN [0, 1, 2] rfl rfl 0 rfl rfl) rfl rfl hl.1 rfl (lv_room (Nat.le_of_ble_eq_true rfl)) dOn_sets_12 ⟨Nat.le_of_ble_eq_true rfl, Nat.le_of_ble_eq_true rfl⟩) (hout _) hlocks hP hD hS hA [0, 1, 2] [3, 4] rfl rfl rfl rfl [2, 3, 4, 0, 1] rfl (fun _ => rfl) (fun u H locs hw hP hD hS => ?_) (fun k x u t locs b1 b2 b3 b4 b5 b6 b7 b8 b9 => hendX k x  t locs _ _ (Nat.le_of_ble_eq_true rfl) (Nat.le_of_ble_eq_true rfl) b1 b2 b3 b4 b5 b6 b7 b8 b9)
  have hP : va_P D vwCl (wdOn_sets cA ad N formStands stepCount stepNames) H := hP
  have hD : va_D A (wdOn_sets cA ad N formStands stepCount stepNames) := hD
  refine lv_aload_n hx hb dOn_sets_15 rfl (lv_at hl 0 rfl) ?_
  refine va_get (D := D) (ci := 0) (v := .ref (ad 18)) (C := "OnceNamed") (T := TX0) (N := 10) hx hb hts (fun w h => List.mem_cons_of_mem _ (inX0 w h)) hown hK hP 0 rfl rfl 3 (by decide) (hts _ (List.mem_cons_of_mem _ kw_270)) (fun _ h9 => h9) rfl dOn_sets_16 ?_
  refine lv_iload_n hx hb dOn_sets_19 rfl (lv_at hl 1 rfl) ?_
  refine lv_iload_n hx hb dOn_sets_20 rfl (lv_at hl 2 rfl) ?_
  refine xci (va_runV ⟨hx, hb, hml, hown, hts⟩ (ktNamedForm_nameSet l D cA ad N _ stepNames v1 v2 _ hw) (cwV 2 hts (goodV kw_696 kw_697 kw_698 kw_6 kw_699) rfl rfl rfl (by decide +kernel) ⟨Nat.le_of_ble_eq_true rfl, Nat.le_of_ble_eq_true rfl⟩) (xpreV hK hP hD hN [3, 4] rfl rfl 3 rfl rfl) rfl rfl hl.1 rfl (lv_room (Nat.le_of_ble_eq_true rfl)) dOn_sets_21 ⟨Nat.le_of_ble_eq_true rfl, Nat.le_of_ble_eq_true rfl⟩) hP hD hS hA [3, 4] [0, 1, 2] rfl rfl rfl rfl [0, 1, 2, 3, 4] rfl (fun _ => rfl) (fun r21 u H locs hw hP hD hS => ?_)
  have hP : va_P D vwCl (wdOn_sets cA ad N formStands stepCount stepNames) H := hP
  have hD : va_D A (wdOn_sets cA ad N formStands stepCount stepNames) := hD
  exact hend r21 _ _ _ _ dOn_sets_24 hP hD hS hw
abbrev wdOn_requireUse (cA : ClassId) (ad : Nat → Nat) (N : Nat) (formStands : Bool) (stepCount : Nat → Int32) : va_W := [((ad 0), .inr (0, [.int (nI N), .ref (ad 1), .ref (ad 11), .ref (ad 18), .ref (ad 30), .ref (ad 35), .ref (ad 38), .ref (ad 40), .ref (ad 42), .int (bI formStands)])), ((ad 1), .inr (1, [.int (nI N), .ref (ad 2), .ref (ad 3), .ref (ad 4), .ref (ad 5), .ref (ad 6), .ref (ad 7), .ref (ad 8), .ref (ad 9), .ref (ad 10)])), ((ad 2), .inl (cA, N, .inl stepCount))]
abbrev qcOn_requireUse (D : va_G) (cA : ClassId) (ad : Nat → Nat) (N : Nat) (formStands : Bool) (stepCount : Nat → Int32) (post : Prop) (postX : Nat → Prop) (A : Nat → Prop) : Array Value → State → Outcome → State → Prop := xQv (S := Unit) (fun u => post ) (fun k u => postX k ) (fun u t => xB D [(cA, .int)] A (wdOn_requireUse cA ad N formStands stepCount) t) A
abbrev rmOn_requireUse : Room := { frames := 7, cells := 3, slots := 18, locals := 112 }
set_option maxHeartbeats 4000000 in
set_option maxRecDepth 100000 in
theorem ktOn_requireUse (l : Launch) (hfl : l.flags = Jvm.pinnedFlags ++ [Jvm.noTraceFlag]) (D : va_G) (cA : ClassId) (ad : Nat → Nat) (N : Nat) (sz : Nat) (formStands : Bool) (stepCount : Nat → Int32) (v1 : Int32) (v2 : Int32) (v3 : Int32) (post : Prop) (postX : Nat → Prop) (hw : wpOn_requireUse N stepCount v1 v2 v3 post postX) : MetX l yOn_requireUse (Cond.code yOn_requireUse cOn_requireUse 4 none :: xW) rmOn_requireUse (va_Pc [.ref (ad 0), .int v1, .int v2, .int v3] (xPcE D [(cA, .int)] (wdOn_requireUse cA ad N formStands stepCount) sz)) (qcOn_requireUse D cA ad N formStands stepCount post postX (va_A (wdOn_requireUse cA ad N formStands stepCount) sz)) 3 18 (va_A (wdOn_requireUse cA ad N formStands stepCount) sz) := by
  refine MetX.ofW (cc := cOn_requireUse) (maxL := 4) (ret := none) (by decide) rfl ?_
  intro p e s m args below meth c s₁ B hml hv
  obtain ⟨rfl, ⟨hsz, hP, hK, hD0, hN⟩, hE0⟩ := hv
  have hx := B.exec
  have hb := B.bytes
  have hr := B.returns
  have hts := atoms_spec (ws := (Cond.code yOn_requireUse cOn_requireUse 4 none :: xW)) B.pre
  have hown : s.vm.findClass "OnceNamed" = some m.cls := findClass_of_methodNamed B.named
  have hlocks := B.notSynchronized
  subst hsz
  have hD := hD0.self (sz := s.heap.size)
  have hE := xEEfull hE0
  have htr := Launch.traces_off hfl B.admits
  have hout := xnoout (B.noHandlers (hts _ List.mem_cons_self))
  have htsx : ∀ w ∈ xW, w.before ([.ref (ad 0), .int v1, .int v2, .int v3] : List Value).toArray s = true := fun w h => hts w (List.mem_cons_of_mem _ h)
  generalize hAe : va_A (wdOn_requireUse cA ad N formStands stepCount) s.heap.size = A at hD hE ⊢
  have hA : ∀ q : Nat, s.heap.size ≤ q → A q := fun q h => by rw [← hAe]; exact Or.inr h
  have hS : va_S A s.heap s.heap [] := va_S.rf
  have hend : ∀  (H : Heap) (locs : List Loc) (pc : Nat) (ls : Array Slot), decode cOn_requireUse pc = .ok (.return_, 1) → va_P D vwCl (wdOn_requireUse cA ad N formStands stepCount) H → va_D A (wdOn_requireUse cA ad N formStands stepCount) → va_S A s.heap H locs → post  → W p l e (headSpec (Cond.code yOn_requireUse cOn_requireUse 4 none :: xW) rmOn_requireUse).room s m ([.ref (ad 0), .int v1, .int v2, .int v3] : List Value).toArray below meth c H locs 3 18 (MQX below (qcOn_requireUse D cA ad N formStands stepCount post postX A) ([.ref (ad 0), .int v1, .int v2, .int v3] : List Value).toArray s 3 18 A) (F0 m pc ls []) := fun  H locs pc ls hd hP hD hS hw => xWmono (fun _ => MQX.of) (W.vret hx hb hr (fun t ht hW => ⟨Or.inl ⟨(), rfl, hw, ⟨by rw [ht]; exact hP, va_K.moved hW.alike hK, hD⟩⟩, hS.F ht⟩) hS.2.2 hd)
  have hendX : ∀ (k x : Nat)  (t : State) (locs : List Loc) (cells slots : Nat), cells ≤ 3 → slots ≤ 18 → t.status = .running → Ended t below (.threw x) → s.WarmedH t.vm → s.sameButNew ({ t with vm := s.vm } : State) locs cells slots → xExc k x s.heap.size t → va_P D vwCl (wdOn_requireUse cA ad N formStands stepCount) t.heap → va_D A (wdOn_requireUse cA ad N formStands stepCount) → va_S A s.heap t.heap locs → postX k  → MQX below (qcOn_requireUse D cA ad N formStands stepCount post postX A) ([.ref (ad 0), .int v1, .int v2, .int v3] : List Value).toArray s 3 18 A t := fun k x  t locs cells slots h1 h2 b1 b2 b3 b4 b5 hP hD hS hw => ⟨.threw x, b1, b2, ⟨Or.inr ⟨k, x, (), rfl, b5, hw, ⟨hP, va_K.moved b3.alike hK, hD⟩⟩, hS.F rfl⟩, locs, ⟨b3, b4.mono h1 h2⟩, hS.2.2⟩
  generalize hQ : MQX below (qcOn_requireUse D cA ad N formStands stepCount post postX A) ([.ref (ad 0), .int v1, .int v2, .int v3] : List Value).toArray s 3 18 A = Q at hend hendX ⊢
  have hl := lv_entry ([.ref (ad 0), .int v1, .int v2, .int v3]) (n := 4) (Nat.le_of_ble_eq_true rfl)
  rw [lg_entry_eq]
  generalize (lg_sl ([.ref (ad 0), .int v1, .int v2, .int v3]) ++ List.replicate (4 - (lg_sl ([.ref (ad 0), .int v1, .int v2, .int v3])).length) Slot.unset).toArray = ls at hl ⊢
  have hl : lv_has ls 4 [(0, .ref (ad 0)), (1, .int v1), (2, .int v2), (3, .int v3)] := hl
  unfold wpOn_requireUse at hw
  refine lv_aload_n hx hb dOn_requireUse_0 rfl (lv_at hl 0 rfl) ?_
  refine lv_iload_n hx hb dOn_requireUse_1 rfl (lv_at hl 1 rfl) ?_
  refine xcxv (xrunV ⟨hx, hb, hml, hown, hts⟩ (ktOn_requireBlock l hfl D cA ad N _ formStands v1 _ _ hw) (cwV 1 hts (goodV kw_413 kw_415 ks_1_14 kw_1 kw_416) rfl rfl rfl (by decide +kernel) ⟨Nat.le_of_ble_eq_true rfl, Nat.le_of_ble_eq_true rfl⟩) (xpreVE hE hS hK hP hD hN [0] rfl rfl 0 rfl rfl) rfl rfl hl.1 rfl (lv_room (Nat.le_of_ble_eq_true rfl)) dOn_requireUse_2 ⟨Nat.le_of_ble_eq_true rfl, Nat.le_of_ble_eq_true rfl⟩) (hout _) hlocks hP hD hS hA [0] [1, 2] rfl rfl rfl rfl [2, 0, 1] rfl (fun _ => rfl) (fun u H locs hw hP hD hS => ?_) (fun k x u t locs b1 b2 b3 b4 b5 b6 b7 b8 b9 => hendX k x  t locs _ _ (Nat.le_of_ble_eq_true rfl) (Nat.le_of_ble_eq_true rfl) b1 b2 b3 b4 b5 b6 b7 b8 b9)
  have hP : va_P D vwCl (wdOn_requireUse cA ad N formStands stepCount) H := hP
  have hD : va_D A (wdOn_requireUse cA ad N formStands stepCount) := hD
  refine lv_iload_n hx hb dOn_requireUse_5 rfl (lv_at hl 2 rfl) ?_
  refine lv_iconst (v := (-1)) hx hb dOn_requireUse_6 (by decide) ?_
  refine lv_icmp_ne (tgt := 11) hx hb dOn_requireUse_7 rfl (fun hc => ?_) (fun hc => ?_)
  · have hw := hw.1 hc
    refine lv_aload_n hx hb dOn_requireUse_11 rfl (lv_at hl 0 rfl) ?_
    refine lv_iload_n hx hb dOn_requireUse_12 rfl (lv_at hl 1 rfl) ?_
    refine lv_iload_n hx hb dOn_requireUse_13 rfl (lv_at hl 2 rfl) ?_
    refine xcxv (xrunV ⟨hx, hb, hml, hown, hts⟩ (ktOn_requireStep l hfl D cA ad N _ formStands stepCount v1 v2 _ _ hw) (cwV 2 hts (goodV kw_691 kw_693 ks_2_9 kw_1 kw_694) rfl rfl rfl (by decide +kernel) ⟨Nat.le_of_ble_eq_true rfl, Nat.le_of_ble_eq_true rfl⟩) (xpreVE hE hS hK hP hD hN [0, 1, 2] rfl rfl 0 rfl rfl) rfl rfl hl.1 rfl (lv_room (Nat.le_of_ble_eq_true rfl)) dOn_requireUse_14 ⟨Nat.le_of_ble_eq_true rfl, Nat.le_of_ble_eq_true rfl⟩) (hout _) hlocks hP hD hS hA [0, 1, 2] [] rfl rfl rfl rfl [0, 1, 2] rfl (fun _ => rfl) (fun u H locs hw hP hD hS => ?_) (fun k x u t locs b1 b2 b3 b4 b5 b6 b7 b8 b9 => hendX k x  t locs _ _ (Nat.le_of_ble_eq_true rfl) (Nat.le_of_ble_eq_true rfl) b1 b2 b3 b4 b5 b6 b7 b8 b9)
    have hP : va_P D vwCl (wdOn_requireUse cA ad N formStands stepCount) H := hP
    have hD : va_D A (wdOn_requireUse cA ad N formStands stepCount) := hD
    refine lv_iload_n hx hb dOn_requireUse_17 rfl (lv_at hl 3 rfl) ?_
    refine lv_if_eq (tgt := 37) hx hb dOn_requireUse_18 rfl (fun hc => ?_) (fun hc => ?_)
    · have hw := hw.1 hc
      refine W.widen (k := 3) (n := 18) (Nat.le_of_ble_eq_true rfl) (Nat.le_of_ble_eq_true rfl) ?_
      exact hend  _ _ _ _ dOn_requireUse_37 hP hD hS hw
    · have hw := hw.2 hc
      refine lv_iload_n hx hb dOn_requireUse_21 rfl (lv_at hl 3 rfl) ?_
      refine lv_iconst (v := 1) hx hb dOn_requireUse_22 (by decide) ?_
      refine lv_icmp_eq (tgt := 37) hx hb dOn_requireUse_23 rfl (fun hc => ?_) (fun hc => ?_)
      · have hw := hw.1 hc
        refine W.widen (k := 3) (n := 18) (Nat.le_of_ble_eq_true rfl) (Nat.le_of_ble_eq_true rfl) ?_
        exact hend  _ _ _ _ dOn_requireUse_37 hP hD hS hw
      · have hw := hw.2 hc
        exact xthrowB 0 hx hb htr hown htsx (by decide) xat_0 kw_417 kw_15 hE hS (List.mem_of_getElem? (i := 9) rfl) (hout _) hlocks (hl.1.trans hml.symm) dOn_requireUse_26 dOn_requireUse_29 (Or.inr ⟨dOn_requireUse_30, rfl⟩) dOn_requireUse_33 dOn_requireUse_36 (Nat.le_of_ble_eq_true rfl) (Nat.le_of_ble_eq_true rfl) (Nat.le_of_ble_eq_true rfl) (Nat.le_of_ble_eq_true rfl) (fun x t b1 b2 b3 b4 b5 b6 b7 => hendX 0 x  t _ _ _ (Nat.le_of_ble_eq_true rfl) (Nat.le_of_ble_eq_true rfl) b1 b2 b3 b4 b5 (xPkeep hP b7) hD (xSkeep hS b6 b7) hw)
  · have hw := hw.2 hc
    refine W.widen (k := 3) (n := 18) (Nat.le_of_ble_eq_true rfl) (Nat.le_of_ble_eq_true rfl) ?_
    exact hend  _ _ _ _ dOn_requireUse_10 hP hD hS hw
abbrev wdOn_nameUsed (cA : ClassId) (ad : Nat → Nat) (N : Nat) (formStands : Bool) (firstUses : Nat → Int32) (secondUses : Nat → Int32) (endUses : Nat → Int32) : va_W := [((ad 0), .inr (0, [.int (nI N), .ref (ad 1), .ref (ad 11), .ref (ad 18), .ref (ad 30), .ref (ad 35), .ref (ad 38), .ref (ad 40), .ref (ad 42), .int (bI formStands)])), ((ad 18), .inr (3, [.ref (ad 1), .ref (ad 11), .int (nI N), .ref (ad 19), .ref (ad 20), .ref (ad 21), .ref (ad 22), .ref (ad 23), .ref (ad 24), .ref (ad 25), .ref (ad 26), .ref (ad 27), .ref (ad 28), .ref (ad 29)])), ((ad 22), .inl (cA, N * 6, .inl firstUses)), ((ad 23), .inl (cA, N * 6, .inl secondUses)), ((ad 24), .inl (cA, N, .inl endUses))]
abbrev qcOn_nameUsed (D : va_G) (cA : ClassId) (ad : Nat → Nat) (N : Nat) (formStands : Bool) (firstUses : Nat → Int32) (secondUses : Nat → Int32) (endUses : Nat → Int32) (post : Int32 → Prop) (A : Nat → Prop) : Array Value → State → Outcome → State → Prop := va_Qi (S := Unit) (fun r u => post r ) (fun u t => xB D [(cA, .int)] A (wdOn_nameUsed cA ad N formStands firstUses secondUses endUses) t) A
abbrev rmOn_nameUsed : Room := { frames := 1, cells := 0, slots := 0, locals := 24 }
set_option maxHeartbeats 4000000 in
set_option maxRecDepth 100000 in
theorem ktOn_nameUsed (l : Launch) (D : va_G) (cA : ClassId) (ad : Nat → Nat) (N : Nat) (sz : Nat) (formStands : Bool) (firstUses : Nat → Int32) (secondUses : Nat → Int32) (endUses : Nat → Int32) (v1 : Int32) (v2 : Int32) (v3 : Int32) (post : Int32 → Prop) (hw : wpOn_nameUsed N firstUses secondUses endUses v1 v2 v3 post) : Met l yOn_nameUsed (Cond.code yOn_nameUsed cOn_nameUsed 4 (some .int) :: xW) rmOn_nameUsed (va_Pc [.ref (ad 0), .int v1, .int v2, .int v3] (xPc D [(cA, .int)] (wdOn_nameUsed cA ad N formStands firstUses secondUses endUses) sz)) (qcOn_nameUsed D cA ad N formStands firstUses secondUses endUses post (va_A (wdOn_nameUsed cA ad N formStands firstUses secondUses endUses) sz)) 0 0 (va_A (wdOn_nameUsed cA ad N formStands firstUses secondUses endUses) sz) := by
  refine Met.ofW (cc := cOn_nameUsed) (maxL := 4) (ret := (some .int)) (by decide) rfl ?_
  intro p e s m args below meth c s₁ B hml hv
  obtain ⟨rfl, hsz, hP, hK, hD0, hN⟩ := hv
  have hx := B.exec
  have hb := B.bytes
  have hr := B.returns
  have hts := atoms_spec (ws := (Cond.code yOn_nameUsed cOn_nameUsed 4 (some .int) :: xW)) B.pre
  have hown : s.vm.findClass "OnceNamed" = some m.cls := findClass_of_methodNamed B.named
  have hlocks := B.notSynchronized
  subst hsz
  have hD := hD0.self (sz := s.heap.size)
  generalize hAe : va_A (wdOn_nameUsed cA ad N formStands firstUses secondUses endUses) s.heap.size = A at hD ⊢
  have hA : ∀ q : Nat, s.heap.size ≤ q → A q := fun q h => by rw [← hAe]; exact Or.inr h
  have hS : va_S A s.heap s.heap [] := va_S.rf
  have hend : ∀ (r : Int32)  (H : Heap) (locs : List Loc) (pc : Nat) (ls : Array Slot), decode cOn_nameUsed pc = .ok (.ireturn, 1) → va_P D vwCl (wdOn_nameUsed cA ad N formStands firstUses secondUses endUses) H → va_D A (wdOn_nameUsed cA ad N formStands firstUses secondUses endUses) → va_S A s.heap H locs → post r  → W p l e (headSpec (Cond.code yOn_nameUsed cOn_nameUsed 4 (some .int) :: xW) rmOn_nameUsed).room s m ([.ref (ad 0), .int v1, .int v2, .int v3] : List Value).toArray below meth c H locs 0 0 (MQ below (qcOn_nameUsed D cA ad N formStands firstUses secondUses endUses post A) ([.ref (ad 0), .int v1, .int v2, .int v3] : List Value).toArray s 0 0 A) (F0 m pc ls [.int r]) := fun r  H locs pc ls hd hP hD hS hw => W.iret (v := r) hx hb hr (fun t ht hW => ⟨⟨r, (), rfl, hw, ⟨by rw [ht]; exact hP, va_K.moved hW.alike hK, hD⟩⟩, hS.F ht⟩) hS.2.2 hd
  generalize hQ : MQ below (qcOn_nameUsed D cA ad N formStands firstUses secondUses endUses post A) ([.ref (ad 0), .int v1, .int v2, .int v3] : List Value).toArray s 0 0 A = Q at hend ⊢
  have hl := lv_entry ([.ref (ad 0), .int v1, .int v2, .int v3]) (n := 4) (Nat.le_of_ble_eq_true rfl)
  rw [lg_entry_eq]
  generalize (lg_sl ([.ref (ad 0), .int v1, .int v2, .int v3]) ++ List.replicate (4 - (lg_sl ([.ref (ad 0), .int v1, .int v2, .int v3])).length) Slot.unset).toArray = ls at hl ⊢
  have hl : lv_has ls 4 [(0, .ref (ad 0)), (1, .int v1), (2, .int v2), (3, .int v3)] := hl
  unfold wpOn_nameUsed at hw
  refine lv_iload_n hx hb dOn_nameUsed_0 rfl (lv_at hl 2 rfl) ?_
  refine lv_iconst (v := (-1)) hx hb dOn_nameUsed_1 (by decide) ?_
  refine lv_icmp_ne (tgt := 16) hx hb dOn_nameUsed_2 rfl (fun hc => ?_) (fun hc => ?_)
  · have hw := hw.1 hc
    refine lv_aload_n hx hb dOn_nameUsed_16 rfl (lv_at hl 0 rfl) ?_
    refine va_get (D := D) (ci := 0) (v := .ref (ad 18)) (C := "OnceNamed") (T := TX0) (N := 10) hx hb hts (fun w h => List.mem_cons_of_mem _ (inX0 w h)) hown hK hP 0 rfl rfl 3 (by decide) (hts _ (List.mem_cons_of_mem _ kw_270)) (fun _ h9 => h9) rfl dOn_nameUsed_17 ?_
    refine lv_iload_n hx hb dOn_nameUsed_20 rfl (lv_at hl 1 rfl) ?_
    refine lv_iload_n hx hb dOn_nameUsed_21 rfl (lv_at hl 2 rfl) ?_
    refine lv_iload_n hx hb dOn_nameUsed_22 rfl (lv_at hl 3 rfl) ?_
    refine xci (va_runV ⟨hx, hb, hml, hown, hts⟩ (ktNamedForm_stepUse l D cA ad N _ firstUses secondUses v1 v2 v3 _ hw) (cwV 3 hts (goodV kw_720 kw_721 kw_722 kw_6 kw_723) rfl rfl rfl (by decide +kernel) ⟨Nat.le_of_ble_eq_true rfl, Nat.le_of_ble_eq_true rfl⟩) (xpreV hK hP hD hN [1, 2, 3] rfl rfl 1 rfl rfl) rfl rfl hl.1 rfl (lv_room (Nat.le_of_ble_eq_true rfl)) dOn_nameUsed_23 ⟨Nat.le_of_ble_eq_true rfl, Nat.le_of_ble_eq_true rfl⟩) hP hD hS hA [1, 2, 3] [0, 4] rfl rfl rfl rfl [0, 2, 3, 4, 1] rfl (fun _ => rfl) (fun r23 u H locs hw hP hD hS => ?_)
    have hP : va_P D vwCl (wdOn_nameUsed cA ad N formStands firstUses secondUses endUses) H := hP
    have hD : va_D A (wdOn_nameUsed cA ad N formStands firstUses secondUses endUses) := hD
    exact hend r23 _ _ _ _ dOn_nameUsed_26 hP hD hS hw
  · have hw := hw.2 hc
    refine lv_aload_n hx hb dOn_nameUsed_5 rfl (lv_at hl 0 rfl) ?_
    refine va_get (D := D) (ci := 0) (v := .ref (ad 18)) (C := "OnceNamed") (T := TX0) (N := 10) hx hb hts (fun w h => List.mem_cons_of_mem _ (inX0 w h)) hown hK hP 0 rfl rfl 3 (by decide) (hts _ (List.mem_cons_of_mem _ kw_270)) (fun _ h9 => h9) rfl dOn_nameUsed_6 ?_
    refine lv_iload_n hx hb dOn_nameUsed_9 rfl (lv_at hl 1 rfl) ?_
    refine xci (va_runV ⟨hx, hb, hml, hown, hts⟩ (ktNamedForm_endUse l D cA ad N _ endUses v1 _ hw) (cwV 1 hts (goodV kw_716 kw_717 kw_718 kw_6 kw_719) rfl rfl rfl (by decide +kernel) ⟨Nat.le_of_ble_eq_true rfl, Nat.le_of_ble_eq_true rfl⟩) (xpreV hK hP hD hN [1, 4] rfl rfl 1 rfl rfl) rfl rfl hl.1 rfl (lv_room (Nat.le_of_ble_eq_true rfl)) dOn_nameUsed_10 ⟨Nat.le_of_ble_eq_true rfl, Nat.le_of_ble_eq_true rfl⟩) hP hD hS hA [1, 4] [0, 2, 3] rfl rfl rfl rfl [0, 3, 1, 2, 4] rfl (fun _ => rfl) (fun r10 u H locs hw hP hD hS => ?_)
    have hP : va_P D vwCl (wdOn_nameUsed cA ad N formStands firstUses secondUses endUses) H := hP
    have hD : va_D A (wdOn_nameUsed cA ad N formStands firstUses secondUses endUses) := hD
    refine lv_goto (tgt := 26) hx hb dOn_nameUsed_13 rfl ?_
    exact hend r10 _ _ _ _ dOn_nameUsed_26 hP hD hS hw
abbrev wdOn_use (cA : ClassId) (ad : Nat → Nat) (N : Nat) (formStands : Bool) (stepCount : Nat → Int32) (firstUses : Nat → Int32) (secondUses : Nat → Int32) (endUses : Nat → Int32) : va_W := [((ad 0), .inr (0, [.int (nI N), .ref (ad 1), .ref (ad 11), .ref (ad 18), .ref (ad 30), .ref (ad 35), .ref (ad 38), .ref (ad 40), .ref (ad 42), .int (bI formStands)])), ((ad 1), .inr (1, [.int (nI N), .ref (ad 2), .ref (ad 3), .ref (ad 4), .ref (ad 5), .ref (ad 6), .ref (ad 7), .ref (ad 8), .ref (ad 9), .ref (ad 10)])), ((ad 2), .inl (cA, N, .inl stepCount)), ((ad 18), .inr (3, [.ref (ad 1), .ref (ad 11), .int (nI N), .ref (ad 19), .ref (ad 20), .ref (ad 21), .ref (ad 22), .ref (ad 23), .ref (ad 24), .ref (ad 25), .ref (ad 26), .ref (ad 27), .ref (ad 28), .ref (ad 29)])), ((ad 22), .inl (cA, N * 6, .inl firstUses)), ((ad 23), .inl (cA, N * 6, .inl secondUses)), ((ad 24), .inl (cA, N, .inl endUses))]
abbrev qcOn_use (D : va_G) (cA : ClassId) (ad : Nat → Nat) (N : Nat) (formStands : Bool) (stepCount : Nat → Int32) (firstUses : Nat → Int32) (secondUses : Nat → Int32) (endUses : Nat → Int32) (post : Int32 → Prop) (postX : Nat → Prop) (A : Nat → Prop) : Array Value → State → Outcome → State → Prop := xQi (S := Unit) (fun r u => post r ) (fun k u => postX k ) (fun u t => xB D [(cA, .int)] A (wdOn_use cA ad N formStands stepCount firstUses secondUses endUses) t) A
abbrev rmOn_use : Room := { frames := 8, cells := 4, slots := 24, locals := 135 }
set_option maxHeartbeats 4000000 in
set_option maxRecDepth 100000 in
theorem ktOn_use (l : Launch) (hfl : l.flags = Jvm.pinnedFlags ++ [Jvm.noTraceFlag]) (D : va_G) (cA : ClassId) (ad : Nat → Nat) (N : Nat) (sz : Nat) (formStands : Bool) (stepCount : Nat → Int32) (firstUses : Nat → Int32) (secondUses : Nat → Int32) (endUses : Nat → Int32) (v1 : Int32) (v2 : Int32) (v3 : Int32) (post : Int32 → Prop) (postX : Nat → Prop) (hw : wpOn_use N formStands stepCount firstUses secondUses endUses v1 v2 v3 post postX) : MetX l yOn_use (Cond.code yOn_use cOn_use 4 (some .int) :: xW) rmOn_use (va_Pc [.ref (ad 0), .int v1, .int v2, .int v3] (xPcE D [(cA, .int)] (wdOn_use cA ad N formStands stepCount firstUses secondUses endUses) sz)) (qcOn_use D cA ad N formStands stepCount firstUses secondUses endUses post postX (va_A (wdOn_use cA ad N formStands stepCount firstUses secondUses endUses) sz)) 4 24 (va_A (wdOn_use cA ad N formStands stepCount firstUses secondUses endUses) sz) := by
  refine MetX.ofW (cc := cOn_use) (maxL := 4) (ret := (some .int)) (by decide) rfl ?_
  intro p e s m args below meth c s₁ B hml hv
  obtain ⟨rfl, ⟨hsz, hP, hK, hD0, hN⟩, hE0⟩ := hv
  have hx := B.exec
  have hb := B.bytes
  have hr := B.returns
  have hts := atoms_spec (ws := (Cond.code yOn_use cOn_use 4 (some .int) :: xW)) B.pre
  have hown : s.vm.findClass "OnceNamed" = some m.cls := findClass_of_methodNamed B.named
  have hlocks := B.notSynchronized
  subst hsz
  have hD := hD0.self (sz := s.heap.size)
  have hE := xEEfull hE0
  have htr := Launch.traces_off hfl B.admits
  have hout := xnoout (B.noHandlers (hts _ List.mem_cons_self))
  have htsx : ∀ w ∈ xW, w.before ([.ref (ad 0), .int v1, .int v2, .int v3] : List Value).toArray s = true := fun w h => hts w (List.mem_cons_of_mem _ h)
  generalize hAe : va_A (wdOn_use cA ad N formStands stepCount firstUses secondUses endUses) s.heap.size = A at hD hE ⊢
  have hA : ∀ q : Nat, s.heap.size ≤ q → A q := fun q h => by rw [← hAe]; exact Or.inr h
  have hS : va_S A s.heap s.heap [] := va_S.rf
  have hend : ∀ (r : Int32)  (H : Heap) (locs : List Loc) (pc : Nat) (ls : Array Slot), decode cOn_use pc = .ok (.ireturn, 1) → va_P D vwCl (wdOn_use cA ad N formStands stepCount firstUses secondUses endUses) H → va_D A (wdOn_use cA ad N formStands stepCount firstUses secondUses endUses) → va_S A s.heap H locs → post r  → W p l e (headSpec (Cond.code yOn_use cOn_use 4 (some .int) :: xW) rmOn_use).room s m ([.ref (ad 0), .int v1, .int v2, .int v3] : List Value).toArray below meth c H locs 4 24 (MQX below (qcOn_use D cA ad N formStands stepCount firstUses secondUses endUses post postX A) ([.ref (ad 0), .int v1, .int v2, .int v3] : List Value).toArray s 4 24 A) (F0 m pc ls [.int r]) := fun r  H locs pc ls hd hP hD hS hw => xWmono (fun _ => MQX.of) (W.iret (v := r) hx hb hr (fun t ht hW => ⟨Or.inl ⟨r, (), rfl, hw, ⟨by rw [ht]; exact hP, va_K.moved hW.alike hK, hD⟩⟩, hS.F ht⟩) hS.2.2 hd)
  have hendX : ∀ (k x : Nat)  (t : State) (locs : List Loc) (cells slots : Nat), cells ≤ 4 → slots ≤ 24 → t.status = .running → Ended t below (.threw x) → s.WarmedH t.vm → s.sameButNew ({ t with vm := s.vm } : State) locs cells slots → xExc k x s.heap.size t → va_P D vwCl (wdOn_use cA ad N formStands stepCount firstUses secondUses endUses) t.heap → va_D A (wdOn_use cA ad N formStands stepCount firstUses secondUses endUses) → va_S A s.heap t.heap locs → postX k  → MQX below (qcOn_use D cA ad N formStands stepCount firstUses secondUses endUses post postX A) ([.ref (ad 0), .int v1, .int v2, .int v3] : List Value).toArray s 4 24 A t := fun k x  t locs cells slots h1 h2 b1 b2 b3 b4 b5 hP hD hS hw => ⟨.threw x, b1, b2, ⟨Or.inr ⟨k, x, (), rfl, b5, hw, ⟨hP, va_K.moved b3.alike hK, hD⟩⟩, hS.F rfl⟩, locs, ⟨b3, b4.mono h1 h2⟩, hS.2.2⟩
  generalize hQ : MQX below (qcOn_use D cA ad N formStands stepCount firstUses secondUses endUses post postX A) ([.ref (ad 0), .int v1, .int v2, .int v3] : List Value).toArray s 4 24 A = Q at hend hendX ⊢
  have hl := lv_entry ([.ref (ad 0), .int v1, .int v2, .int v3]) (n := 4) (Nat.le_of_ble_eq_true rfl)
  rw [lg_entry_eq]
  generalize (lg_sl ([.ref (ad 0), .int v1, .int v2, .int v3]) ++ List.replicate (4 - (lg_sl ([.ref (ad 0), .int v1, .int v2, .int v3])).length) Slot.unset).toArray = ls at hl ⊢
  have hl : lv_has ls 4 [(0, .ref (ad 0)), (1, .int v1), (2, .int v2), (3, .int v3)] := hl
  unfold wpOn_use at hw
  refine lv_aload_n hx hb dOn_use_0 rfl (lv_at hl 0 rfl) ?_
  refine xcxv (xrunV ⟨hx, hb, hml, hown, hts⟩ (ktOn_requireForm l hfl D cA ad N _ formStands _ _ hw) (cwV 0 hts (goodV kw_568 kw_570 ks_2_1 kw_1 kw_571) rfl rfl rfl (by decide +kernel) ⟨Nat.le_of_ble_eq_true rfl, Nat.le_of_ble_eq_true rfl⟩) (xpreVE hE hS hK hP hD hN [0] rfl rfl 0 rfl rfl) rfl rfl hl.1 rfl (lv_room (Nat.le_of_ble_eq_true rfl)) dOn_use_1 ⟨Nat.le_of_ble_eq_true rfl, Nat.le_of_ble_eq_true rfl⟩) (hout _) hlocks hP hD hS hA [0] [1, 2, 3, 4, 5, 6] rfl rfl rfl rfl [6, 0, 1, 2, 3, 4, 5] rfl (fun _ => rfl) (fun u H locs hw hP hD hS => ?_) (fun k x u t locs b1 b2 b3 b4 b5 b6 b7 b8 b9 => hendX k x  t locs _ _ (Nat.le_of_ble_eq_true rfl) (Nat.le_of_ble_eq_true rfl) b1 b2 b3 b4 b5 b6 b7 b8 b9)
  have hP : va_P D vwCl (wdOn_use cA ad N formStands stepCount firstUses secondUses endUses) H := hP
  have hD : va_D A (wdOn_use cA ad N formStands stepCount firstUses secondUses endUses) := hD
  refine lv_aload_n hx hb dOn_use_4 rfl (lv_at hl 0 rfl) ?_
  refine lv_iload_n hx hb dOn_use_5 rfl (lv_at hl 1 rfl) ?_
  refine lv_iload_n hx hb dOn_use_6 rfl (lv_at hl 2 rfl) ?_
  refine lv_iload_n hx hb dOn_use_7 rfl (lv_at hl 3 rfl) ?_
  refine xcxv (xrunV ⟨hx, hb, hml, hown, hts⟩ (ktOn_requireUse l hfl D cA ad N _ formStands stepCount v1 v2 v3 _ _ hw) (cwV 3 hts (goodV kw_707 kw_709 ks_2_10 kw_1 kw_710) rfl rfl rfl (by decide +kernel) ⟨Nat.le_of_ble_eq_true rfl, Nat.le_of_ble_eq_true rfl⟩) (xpreVE hE hS hK hP hD hN [0, 1, 2] rfl rfl 0 rfl rfl) rfl rfl hl.1 rfl (lv_room (Nat.le_of_ble_eq_true rfl)) dOn_use_8 ⟨Nat.le_of_ble_eq_true rfl, Nat.le_of_ble_eq_true rfl⟩) (hout _) hlocks hP hD hS hA [0, 1, 2] [3, 4, 5, 6] rfl rfl rfl rfl [4, 5, 6, 0, 1, 2, 3] rfl (fun _ => rfl) (fun u H locs hw hP hD hS => ?_) (fun k x u t locs b1 b2 b3 b4 b5 b6 b7 b8 b9 => hendX k x  t locs _ _ (Nat.le_of_ble_eq_true rfl) (Nat.le_of_ble_eq_true rfl) b1 b2 b3 b4 b5 b6 b7 b8 b9)
  have hP : va_P D vwCl (wdOn_use cA ad N formStands stepCount firstUses secondUses endUses) H := hP
  have hD : va_D A (wdOn_use cA ad N formStands stepCount firstUses secondUses endUses) := hD
  refine lv_aload_n hx hb dOn_use_11 rfl (lv_at hl 0 rfl) ?_
  refine lv_iload_n hx hb dOn_use_12 rfl (lv_at hl 1 rfl) ?_
  refine lv_iload_n hx hb dOn_use_13 rfl (lv_at hl 2 rfl) ?_
  refine lv_iload_n hx hb dOn_use_14 rfl (lv_at hl 3 rfl) ?_
  refine xci (va_runV ⟨hx, hb, hml, hown, hts⟩ (ktOn_nameUsed l D cA ad N _ formStands firstUses secondUses endUses v1 v2 v3 _ hw) (cwV 3 hts (goodV kw_712 kw_714 ks_2_11 kw_1 kw_715) rfl rfl rfl (by decide +kernel) ⟨Nat.le_of_ble_eq_true rfl, Nat.le_of_ble_eq_true rfl⟩) (xpreV hK hP hD hN [0, 3, 4, 5, 6] rfl rfl 0 rfl rfl) rfl rfl hl.1 rfl (lv_room (Nat.le_of_ble_eq_true rfl)) dOn_use_15 ⟨Nat.le_of_ble_eq_true rfl, Nat.le_of_ble_eq_true rfl⟩) hP hD hS hA [0, 3, 4, 5, 6] [1, 2] rfl rfl rfl rfl [2, 0, 1, 3, 4, 5, 6] rfl (fun _ => rfl) (fun r15 u H locs hw hP hD hS => ?_)
  have hP : va_P D vwCl (wdOn_use cA ad N formStands stepCount firstUses secondUses endUses) H := hP
  have hD : va_D A (wdOn_use cA ad N formStands stepCount firstUses secondUses endUses) := hD
  exact hend r15 _ _ _ _ dOn_use_18 hP hD hS hw
abbrev wdOn_requireThere (cA : ClassId) (ad : Nat → Nat) (N : Nat)  : va_W := []
abbrev qcOn_requireThere (D : va_G) (cA : ClassId) (ad : Nat → Nat) (N : Nat)  (post : Prop) (postX : Nat → Prop) (A : Nat → Prop) : Array Value → State → Outcome → State → Prop := xQv (S := Unit) (fun u => post ) (fun k u => postX k ) (fun u t => xB D [(cA, .int)] A (wdOn_requireThere cA ad N) t) A
abbrev rmOn_requireThere : Room := { frames := 6, cells := 1, slots := 6, locals := 90 }
set_option maxHeartbeats 4000000 in
set_option maxRecDepth 100000 in
theorem ktOn_requireThere (l : Launch) (hfl : l.flags = Jvm.pinnedFlags ++ [Jvm.noTraceFlag]) (D : va_G) (cA : ClassId) (ad : Nat → Nat) (N : Nat) (sz : Nat)  (v0 : Int32) (post : Prop) (postX : Nat → Prop) (hw : wpOn_requireThere v0 post postX) : MetX l yOn_requireThere (Cond.code yOn_requireThere cOn_requireThere 1 none :: xW) rmOn_requireThere (va_Pc [.int v0] (xPcE D [(cA, .int)] (wdOn_requireThere cA ad N) sz)) (qcOn_requireThere D cA ad N  post postX (va_A (wdOn_requireThere cA ad N) sz)) 1 6 (va_A (wdOn_requireThere cA ad N) sz) := by
  refine MetX.ofW (cc := cOn_requireThere) (maxL := 1) (ret := none) (by decide) rfl ?_
  intro p e s m args below meth c s₁ B hml hv
  obtain ⟨rfl, ⟨hsz, hP, hK, hD0, hN⟩, hE0⟩ := hv
  have hx := B.exec
  have hb := B.bytes
  have hr := B.returns
  have hts := atoms_spec (ws := (Cond.code yOn_requireThere cOn_requireThere 1 none :: xW)) B.pre
  have hown : s.vm.findClass "OnceNamed" = some m.cls := findClass_of_methodNamed B.named
  have hlocks := B.notSynchronized
  subst hsz
  have hD := hD0.self (sz := s.heap.size)
  have hE := xEEfull hE0
  have htr := Launch.traces_off hfl B.admits
  have hout := xnoout (B.noHandlers (hts _ List.mem_cons_self))
  have htsx : ∀ w ∈ xW, w.before ([.int v0] : List Value).toArray s = true := fun w h => hts w (List.mem_cons_of_mem _ h)
  generalize hAe : va_A (wdOn_requireThere cA ad N) s.heap.size = A at hD hE ⊢
  have hA : ∀ q : Nat, s.heap.size ≤ q → A q := fun q h => by rw [← hAe]; exact Or.inr h
  have hS : va_S A s.heap s.heap [] := va_S.rf
  have hend : ∀  (H : Heap) (locs : List Loc) (pc : Nat) (ls : Array Slot), decode cOn_requireThere pc = .ok (.return_, 1) → va_P D vwCl (wdOn_requireThere cA ad N) H → va_D A (wdOn_requireThere cA ad N) → va_S A s.heap H locs → post  → W p l e (headSpec (Cond.code yOn_requireThere cOn_requireThere 1 none :: xW) rmOn_requireThere).room s m ([.int v0] : List Value).toArray below meth c H locs 1 6 (MQX below (qcOn_requireThere D cA ad N  post postX A) ([.int v0] : List Value).toArray s 1 6 A) (F0 m pc ls []) := fun  H locs pc ls hd hP hD hS hw => xWmono (fun _ => MQX.of) (W.vret hx hb hr (fun t ht hW => ⟨Or.inl ⟨(), rfl, hw, ⟨by rw [ht]; exact hP, va_K.moved hW.alike hK, hD⟩⟩, hS.F ht⟩) hS.2.2 hd)
  have hendX : ∀ (k x : Nat)  (t : State) (locs : List Loc) (cells slots : Nat), cells ≤ 1 → slots ≤ 6 → t.status = .running → Ended t below (.threw x) → s.WarmedH t.vm → s.sameButNew ({ t with vm := s.vm } : State) locs cells slots → xExc k x s.heap.size t → va_P D vwCl (wdOn_requireThere cA ad N) t.heap → va_D A (wdOn_requireThere cA ad N) → va_S A s.heap t.heap locs → postX k  → MQX below (qcOn_requireThere D cA ad N  post postX A) ([.int v0] : List Value).toArray s 1 6 A t := fun k x  t locs cells slots h1 h2 b1 b2 b3 b4 b5 hP hD hS hw => ⟨.threw x, b1, b2, ⟨Or.inr ⟨k, x, (), rfl, b5, hw, ⟨hP, va_K.moved b3.alike hK, hD⟩⟩, hS.F rfl⟩, locs, ⟨b3, b4.mono h1 h2⟩, hS.2.2⟩
  generalize hQ : MQX below (qcOn_requireThere D cA ad N  post postX A) ([.int v0] : List Value).toArray s 1 6 A = Q at hend hendX ⊢
  have hl := lv_entry ([.int v0]) (n := 1) (Nat.le_of_ble_eq_true rfl)
  rw [lg_entry_eq]
  generalize (lg_sl ([.int v0]) ++ List.replicate (1 - (lg_sl ([.int v0])).length) Slot.unset).toArray = ls at hl ⊢
  have hl : lv_has ls 1 [(0, .int v0)] := hl
  unfold wpOn_requireThere at hw
  refine lv_iload_n hx hb dOn_requireThere_0 rfl (lv_at hl 0 rfl) ?_
  refine lv_iconst (v := (-1)) hx hb dOn_requireThere_1 (by decide) ?_
  refine lv_icmp_ne (tgt := 16) hx hb dOn_requireThere_2 rfl (fun hc => ?_) (fun hc => ?_)
  · have hw := hw.1 hc
    refine W.widen (k := 1) (n := 6) (Nat.le_of_ble_eq_true rfl) (Nat.le_of_ble_eq_true rfl) ?_
    exact hend  _ _ _ _ dOn_requireThere_16 hP hD hS hw
  · have hw := hw.2 hc
    exact xthrowB 0 hx hb htr hown htsx (by decide) xat_0 kw_417 kw_15 hE hS (List.mem_of_getElem? (i := 10) rfl) (hout _) hlocks (hl.1.trans hml.symm) dOn_requireThere_5 dOn_requireThere_8 (Or.inr ⟨dOn_requireThere_9, rfl⟩) dOn_requireThere_12 dOn_requireThere_15 (Nat.le_of_ble_eq_true rfl) (Nat.le_of_ble_eq_true rfl) (Nat.le_of_ble_eq_true rfl) (Nat.le_of_ble_eq_true rfl) (fun x t b1 b2 b3 b4 b5 b6 b7 => hendX 0 x  t _ _ _ (Nat.le_of_ble_eq_true rfl) (Nat.le_of_ble_eq_true rfl) b1 b2 b3 b4 b5 (xPkeep hP b7) hD (xSkeep hS b6 b7) hw)
abbrev wdOn_requireName (cA : ClassId) (ad : Nat → Nat) (N : Nat) (formStands : Bool) (homeBlock : Nat → Int32) : va_W := [((ad 0), .inr (0, [.int (nI N), .ref (ad 1), .ref (ad 11), .ref (ad 18), .ref (ad 30), .ref (ad 35), .ref (ad 38), .ref (ad 40), .ref (ad 42), .int (bI formStands)])), ((ad 18), .inr (3, [.ref (ad 1), .ref (ad 11), .int (nI N), .ref (ad 19), .ref (ad 20), .ref (ad 21), .ref (ad 22), .ref (ad 23), .ref (ad 24), .ref (ad 25), .ref (ad 26), .ref (ad 27), .ref (ad 28), .ref (ad 29)])), ((ad 27), .inl (cA, 600, .inl homeBlock))]
abbrev qcOn_requireName (D : va_G) (cA : ClassId) (ad : Nat → Nat) (N : Nat) (formStands : Bool) (homeBlock : Nat → Int32) (post : Prop) (postX : Nat → Prop) (A : Nat → Prop) : Array Value → State → Outcome → State → Prop := xQv (S := Unit) (fun u => post ) (fun k u => postX k ) (fun u t => xB D [(cA, .int)] A (wdOn_requireName cA ad N formStands homeBlock) t) A
abbrev rmOn_requireName : Room := { frames := 6, cells := 1, slots := 6, locals := 90 }
set_option maxHeartbeats 4000000 in
set_option maxRecDepth 100000 in
theorem ktOn_requireName (l : Launch) (hfl : l.flags = Jvm.pinnedFlags ++ [Jvm.noTraceFlag]) (D : va_G) (cA : ClassId) (ad : Nat → Nat) (N : Nat) (sz : Nat) (formStands : Bool) (homeBlock : Nat → Int32) (v1 : Int32) (post : Prop) (postX : Nat → Prop) (hw : wpOn_requireName homeBlock v1 post postX) : MetX l yOn_requireName (Cond.code yOn_requireName cOn_requireName 2 none :: xW) rmOn_requireName (va_Pc [.ref (ad 0), .int v1] (xPcE D [(cA, .int)] (wdOn_requireName cA ad N formStands homeBlock) sz)) (qcOn_requireName D cA ad N formStands homeBlock post postX (va_A (wdOn_requireName cA ad N formStands homeBlock) sz)) 1 6 (va_A (wdOn_requireName cA ad N formStands homeBlock) sz) := by
  refine MetX.ofW (cc := cOn_requireName) (maxL := 2) (ret := none) (by decide) rfl ?_
  intro p e s m args below meth c s₁ B hml hv
  obtain ⟨rfl, ⟨hsz, hP, hK, hD0, hN⟩, hE0⟩ := hv
  have hx := B.exec
  have hb := B.bytes
  have hr := B.returns
  have hts := atoms_spec (ws := (Cond.code yOn_requireName cOn_requireName 2 none :: xW)) B.pre
  have hown : s.vm.findClass "OnceNamed" = some m.cls := findClass_of_methodNamed B.named
  have hlocks := B.notSynchronized
  subst hsz
  have hD := hD0.self (sz := s.heap.size)
  have hE := xEEfull hE0
  have htr := Launch.traces_off hfl B.admits
  have hout := xnoout (B.noHandlers (hts _ List.mem_cons_self))
  have htsx : ∀ w ∈ xW, w.before ([.ref (ad 0), .int v1] : List Value).toArray s = true := fun w h => hts w (List.mem_cons_of_mem _ h)
  generalize hAe : va_A (wdOn_requireName cA ad N formStands homeBlock) s.heap.size = A at hD hE ⊢
  have hA : ∀ q : Nat, s.heap.size ≤ q → A q := fun q h => by rw [← hAe]; exact Or.inr h
  have hS : va_S A s.heap s.heap [] := va_S.rf
  have hend : ∀  (H : Heap) (locs : List Loc) (pc : Nat) (ls : Array Slot), decode cOn_requireName pc = .ok (.return_, 1) → va_P D vwCl (wdOn_requireName cA ad N formStands homeBlock) H → va_D A (wdOn_requireName cA ad N formStands homeBlock) → va_S A s.heap H locs → post  → W p l e (headSpec (Cond.code yOn_requireName cOn_requireName 2 none :: xW) rmOn_requireName).room s m ([.ref (ad 0), .int v1] : List Value).toArray below meth c H locs 1 6 (MQX below (qcOn_requireName D cA ad N formStands homeBlock post postX A) ([.ref (ad 0), .int v1] : List Value).toArray s 1 6 A) (F0 m pc ls []) := fun  H locs pc ls hd hP hD hS hw => xWmono (fun _ => MQX.of) (W.vret hx hb hr (fun t ht hW => ⟨Or.inl ⟨(), rfl, hw, ⟨by rw [ht]; exact hP, va_K.moved hW.alike hK, hD⟩⟩, hS.F ht⟩) hS.2.2 hd)
  have hendX : ∀ (k x : Nat)  (t : State) (locs : List Loc) (cells slots : Nat), cells ≤ 1 → slots ≤ 6 → t.status = .running → Ended t below (.threw x) → s.WarmedH t.vm → s.sameButNew ({ t with vm := s.vm } : State) locs cells slots → xExc k x s.heap.size t → va_P D vwCl (wdOn_requireName cA ad N formStands homeBlock) t.heap → va_D A (wdOn_requireName cA ad N formStands homeBlock) → va_S A s.heap t.heap locs → postX k  → MQX below (qcOn_requireName D cA ad N formStands homeBlock post postX A) ([.ref (ad 0), .int v1] : List Value).toArray s 1 6 A t := fun k x  t locs cells slots h1 h2 b1 b2 b3 b4 b5 hP hD hS hw => ⟨.threw x, b1, b2, ⟨Or.inr ⟨k, x, (), rfl, b5, hw, ⟨hP, va_K.moved b3.alike hK, hD⟩⟩, hS.F rfl⟩, locs, ⟨b3, b4.mono h1 h2⟩, hS.2.2⟩
  generalize hQ : MQX below (qcOn_requireName D cA ad N formStands homeBlock post postX A) ([.ref (ad 0), .int v1] : List Value).toArray s 1 6 A = Q at hend hendX ⊢
  have hl := lv_entry ([.ref (ad 0), .int v1]) (n := 2) (Nat.le_of_ble_eq_true rfl)
  rw [lg_entry_eq]
  generalize (lg_sl ([.ref (ad 0), .int v1]) ++ List.replicate (2 - (lg_sl ([.ref (ad 0), .int v1])).length) Slot.unset).toArray = ls at hl ⊢
  have hl : lv_has ls 2 [(0, .ref (ad 0)), (1, .int v1)] := hl
  unfold wpOn_requireName at hw
  refine lv_aload_n hx hb dOn_requireName_0 rfl (lv_at hl 0 rfl) ?_
  refine va_get (D := D) (ci := 0) (v := .ref (ad 18)) (C := "OnceNamed") (T := TX0) (N := 10) hx hb hts (fun w h => List.mem_cons_of_mem _ (inX0 w h)) hown hK hP 0 rfl rfl 3 (by decide) (hts _ (List.mem_cons_of_mem _ kw_270)) (fun _ h9 => h9) rfl dOn_requireName_1 ?_
  refine lv_iload_n hx hb dOn_requireName_4 rfl (lv_at hl 1 rfl) ?_
  refine xci (va_runV ⟨hx, hb, hml, hown, hts⟩ (ktNamedForm_hasName l D cA ad N _ homeBlock v1 _ hw) (cwV 1 hts (goodV kw_739 kw_740 kw_741 kw_6 kw_742) rfl rfl rfl (by decide +kernel) ⟨Nat.le_of_ble_eq_true rfl, Nat.le_of_ble_eq_true rfl⟩) (xpreV hK hP hD hN [1, 2] rfl rfl 1 rfl rfl) rfl rfl hl.1 rfl (lv_room (Nat.le_of_ble_eq_true rfl)) dOn_requireName_5 ⟨Nat.le_of_ble_eq_true rfl, Nat.le_of_ble_eq_true rfl⟩) hP hD hS hA [1, 2] [0] rfl rfl rfl rfl [0, 1, 2] rfl (fun _ => rfl) (fun r5 u H locs hw hP hD hS => ?_)
  obtain ⟨r5, rfl, hw⟩ := hw
  have hP : va_P D vwCl (wdOn_requireName cA ad N formStands homeBlock) H := hP
  have hD : va_D A (wdOn_requireName cA ad N formStands homeBlock) := hD
  refine lv_if_ne (tgt := 22) hx hb dOn_requireName_8 rfl (fun hc => ?_) (fun hc => ?_)
  · have hw := hw.1 (bI_1 hc)
    refine W.widen (k := 1) (n := 6) (Nat.le_of_ble_eq_true rfl) (Nat.le_of_ble_eq_true rfl) ?_
    exact hend  _ _ _ _ dOn_requireName_22 hP hD hS hw
  · have hw := hw.2 (bI_0 hc)
    exact xthrowB 0 hx hb htr hown htsx (by decide) xat_0 kw_417 kw_15 hE hS (List.mem_of_getElem? (i := 11) rfl) (hout _) hlocks (hl.1.trans hml.symm) dOn_requireName_11 dOn_requireName_14 (Or.inr ⟨dOn_requireName_15, rfl⟩) dOn_requireName_18 dOn_requireName_21 (Nat.le_of_ble_eq_true rfl) (Nat.le_of_ble_eq_true rfl) (Nat.le_of_ble_eq_true rfl) (Nat.le_of_ble_eq_true rfl) (fun x t b1 b2 b3 b4 b5 b6 b7 => hendX 0 x  t _ _ _ (Nat.le_of_ble_eq_true rfl) (Nat.le_of_ble_eq_true rfl) b1 b2 b3 b4 b5 (xPkeep hP b7) hD (xSkeep hS b6 b7) hw)
abbrev wdOn_alter (cA : ClassId) (ad : Nat → Nat) (N : Nat) (formStands : Bool) (stepCount : Nat → Int32) (firstUses : Nat → Int32) (secondUses : Nat → Int32) (endUses : Nat → Int32) (homeBlock : Nat → Int32) : va_W := [((ad 0), .inr (0, [.int (nI N), .ref (ad 1), .ref (ad 11), .ref (ad 18), .ref (ad 30), .ref (ad 35), .ref (ad 38), .ref (ad 40), .ref (ad 42), .int (bI formStands)])), ((ad 1), .inr (1, [.int (nI N), .ref (ad 2), .ref (ad 3), .ref (ad 4), .ref (ad 5), .ref (ad 6), .ref (ad 7), .ref (ad 8), .ref (ad 9), .ref (ad 10)])), ((ad 2), .inl (cA, N, .inl stepCount)), ((ad 18), .inr (3, [.ref (ad 1), .ref (ad 11), .int (nI N), .ref (ad 19), .ref (ad 20), .ref (ad 21), .ref (ad 22), .ref (ad 23), .ref (ad 24), .ref (ad 25), .ref (ad 26), .ref (ad 27), .ref (ad 28), .ref (ad 29)])), ((ad 22), .inl (cA, N * 6, .inl firstUses)), ((ad 23), .inl (cA, N * 6, .inl secondUses)), ((ad 24), .inl (cA, N, .inl endUses)), ((ad 27), .inl (cA, 600, .inl homeBlock))]
abbrev qcOn_alter (D : va_G) (cA : ClassId) (ad : Nat → Nat) (N : Nat) (formStands : Bool) (stepCount : Nat → Int32) (firstUses : Nat → Int32) (secondUses : Nat → Int32) (endUses : Nat → Int32) (homeBlock : Nat → Int32) (post : (Nat → Int32) → (Nat → Int32) → (Nat → Int32) → Prop) (postX : Nat → (Nat → Int32) → (Nat → Int32) → (Nat → Int32) → Prop) (A : Nat → Prop) : Array Value → State → Outcome → State → Prop := xQv (S := (Nat → Int32) × (Nat → Int32) × (Nat → Int32)) (fun u => post u.1 u.2.1 u.2.2) (fun k u => postX k u.1 u.2.1 u.2.2) (fun u t => xB D [(cA, .int)] A (wdOn_alter cA ad N formStands stepCount u.1 u.2.1 u.2.2 homeBlock) t) A
abbrev rmOn_alter : Room := { frames := 8, cells := 6, slots := 36, locals := 135 }
set_option maxHeartbeats 4000000 in
set_option maxRecDepth 100000 in
theorem ktOn_alter (l : Launch) (hfl : l.flags = Jvm.pinnedFlags ++ [Jvm.noTraceFlag]) (D : va_G) (cA : ClassId) (ad : Nat → Nat) (N : Nat) (sz : Nat) (formStands : Bool) (stepCount : Nat → Int32) (firstUses : Nat → Int32) (secondUses : Nat → Int32) (endUses : Nat → Int32) (homeBlock : Nat → Int32) (v1 : Int32) (v2 : Int32) (v3 : Int32) (v4 : Int32) (post : (Nat → Int32) → (Nat → Int32) → (Nat → Int32) → Prop) (postX : Nat → (Nat → Int32) → (Nat → Int32) → (Nat → Int32) → Prop) (hw : wpOn_alter N formStands stepCount firstUses secondUses endUses homeBlock v1 v2 v3 v4 post postX) : MetX l yOn_alter (Cond.code yOn_alter cOn_alter 5 none :: xW) rmOn_alter (va_Pc [.ref (ad 0), .int v1, .int v2, .int v3, .int v4] (xPcE D [(cA, .int)] (wdOn_alter cA ad N formStands stepCount firstUses secondUses endUses homeBlock) sz)) (qcOn_alter D cA ad N formStands stepCount firstUses secondUses endUses homeBlock post postX (va_A (wdOn_alter cA ad N formStands stepCount firstUses secondUses endUses homeBlock) sz)) 6 36 (va_A (wdOn_alter cA ad N formStands stepCount firstUses secondUses endUses homeBlock) sz) := by
  refine MetX.ofW (cc := cOn_alter) (maxL := 5) (ret := none) (by decide) rfl ?_
  intro p e s m args below meth c s₁ B hml hv
  obtain ⟨rfl, ⟨hsz, hP, hK, hD0, hN⟩, hE0⟩ := hv
  have hx := B.exec
  have hb := B.bytes
  have hr := B.returns
  have hts := atoms_spec (ws := (Cond.code yOn_alter cOn_alter 5 none :: xW)) B.pre
  have hown : s.vm.findClass "OnceNamed" = some m.cls := findClass_of_methodNamed B.named
  have hlocks := B.notSynchronized
  subst hsz
  have hD := hD0.self (sz := s.heap.size)
  have hE := xEEfull hE0
  have htr := Launch.traces_off hfl B.admits
  have hout := xnoout (B.noHandlers (hts _ List.mem_cons_self))
  have htsx : ∀ w ∈ xW, w.before ([.ref (ad 0), .int v1, .int v2, .int v3, .int v4] : List Value).toArray s = true := fun w h => hts w (List.mem_cons_of_mem _ h)
  generalize hAe : va_A (wdOn_alter cA ad N formStands stepCount firstUses secondUses endUses homeBlock) s.heap.size = A at hD hE ⊢
  have hA : ∀ q : Nat, s.heap.size ≤ q → A q := fun q h => by rw [← hAe]; exact Or.inr h
  have hS : va_S A s.heap s.heap [] := va_S.rf
  have hend : ∀ (u0 : Nat → Int32) (u1 : Nat → Int32) (u2 : Nat → Int32) (H : Heap) (locs : List Loc) (pc : Nat) (ls : Array Slot), decode cOn_alter pc = .ok (.return_, 1) → va_P D vwCl (wdOn_alter cA ad N formStands stepCount u0 u1 u2 homeBlock) H → va_D A (wdOn_alter cA ad N formStands stepCount u0 u1 u2 homeBlock) → va_S A s.heap H locs → post u0 u1 u2 → W p l e (headSpec (Cond.code yOn_alter cOn_alter 5 none :: xW) rmOn_alter).room s m ([.ref (ad 0), .int v1, .int v2, .int v3, .int v4] : List Value).toArray below meth c H locs 6 36 (MQX below (qcOn_alter D cA ad N formStands stepCount firstUses secondUses endUses homeBlock post postX A) ([.ref (ad 0), .int v1, .int v2, .int v3, .int v4] : List Value).toArray s 6 36 A) (F0 m pc ls []) := fun u0 u1 u2 H locs pc ls hd hP hD hS hw => xWmono (fun _ => MQX.of) (W.vret hx hb hr (fun t ht hW => ⟨Or.inl ⟨(u0, u1, u2), rfl, hw, ⟨by rw [ht]; exact hP, va_K.moved hW.alike hK, hD⟩⟩, hS.F ht⟩) hS.2.2 hd)
  have hendX : ∀ (k x : Nat) (u0 : Nat → Int32) (u1 : Nat → Int32) (u2 : Nat → Int32) (t : State) (locs : List Loc) (cells slots : Nat), cells ≤ 6 → slots ≤ 36 → t.status = .running → Ended t below (.threw x) → s.WarmedH t.vm → s.sameButNew ({ t with vm := s.vm } : State) locs cells slots → xExc k x s.heap.size t → va_P D vwCl (wdOn_alter cA ad N formStands stepCount u0 u1 u2 homeBlock) t.heap → va_D A (wdOn_alter cA ad N formStands stepCount u0 u1 u2 homeBlock) → va_S A s.heap t.heap locs → postX k u0 u1 u2 → MQX below (qcOn_alter D cA ad N formStands stepCount firstUses secondUses endUses homeBlock post postX A) ([.ref (ad 0), .int v1, .int v2, .int v3, .int v4] : List Value).toArray s 6 36 A t := fun k x u0 u1 u2 t locs cells slots h1 h2 b1 b2 b3 b4 b5 hP hD hS hw => ⟨.threw x, b1, b2, ⟨Or.inr ⟨k, x, (u0, u1, u2), rfl, b5, hw, ⟨hP, va_K.moved b3.alike hK, hD⟩⟩, hS.F rfl⟩, locs, ⟨b3, b4.mono h1 h2⟩, hS.2.2⟩
  generalize hQ : MQX below (qcOn_alter D cA ad N formStands stepCount firstUses secondUses endUses homeBlock post postX A) ([.ref (ad 0), .int v1, .int v2, .int v3, .int v4] : List Value).toArray s 6 36 A = Q at hend hendX ⊢
  have hl := lv_entry ([.ref (ad 0), .int v1, .int v2, .int v3, .int v4]) (n := 5) (Nat.le_of_ble_eq_true rfl)
  rw [lg_entry_eq]
  generalize (lg_sl ([.ref (ad 0), .int v1, .int v2, .int v3, .int v4]) ++ List.replicate (5 - (lg_sl ([.ref (ad 0), .int v1, .int v2, .int v3, .int v4])).length) Slot.unset).toArray = ls at hl ⊢
  have hl : lv_has ls 5 [(0, .ref (ad 0)), (1, .int v1), (2, .int v2), (3, .int v3), (4, .int v4)] := hl
  unfold wpOn_alter at hw
  refine lv_aload_n hx hb dOn_alter_0 rfl (lv_at hl 0 rfl) ?_
  refine xcxv (xrunV ⟨hx, hb, hml, hown, hts⟩ (ktOn_requireForm l hfl D cA ad N _ formStands _ _ hw) (cwV 0 hts (goodV kw_568 kw_570 ks_2_1 kw_1 kw_571) rfl rfl rfl (by decide +kernel) ⟨Nat.le_of_ble_eq_true rfl, Nat.le_of_ble_eq_true rfl⟩) (xpreVE hE hS hK hP hD hN [0] rfl rfl 0 rfl rfl) rfl rfl hl.1 rfl (lv_room (Nat.le_of_ble_eq_true rfl)) dOn_alter_1 ⟨Nat.le_of_ble_eq_true rfl, Nat.le_of_ble_eq_true rfl⟩) (hout _) hlocks hP hD hS hA [0] [1, 2, 3, 4, 5, 6, 7] rfl rfl rfl rfl [7, 0, 1, 2, 3, 4, 5, 6] rfl (fun _ => rfl) (fun u H locs hw hP hD hS => ?_) (fun k x u t locs b1 b2 b3 b4 b5 b6 b7 b8 b9 => hendX k x firstUses secondUses endUses t locs _ _ (Nat.le_of_ble_eq_true rfl) (Nat.le_of_ble_eq_true rfl) b1 b2 b3 b4 b5 b6 b7 b8 b9)
  have hP : va_P D vwCl (wdOn_alter cA ad N formStands stepCount firstUses secondUses endUses homeBlock) H := hP
  have hD : va_D A (wdOn_alter cA ad N formStands stepCount firstUses secondUses endUses homeBlock) := hD
  refine lv_aload_n hx hb dOn_alter_4 rfl (lv_at hl 0 rfl) ?_
  refine lv_iload_n hx hb dOn_alter_5 rfl (lv_at hl 1 rfl) ?_
  refine lv_iload_n hx hb dOn_alter_6 rfl (lv_at hl 2 rfl) ?_
  refine lv_iload_n hx hb dOn_alter_7 rfl (lv_at hl 3 rfl) ?_
  refine xcxv (xrunV ⟨hx, hb, hml, hown, hts⟩ (ktOn_requireUse l hfl D cA ad N _ formStands stepCount v1 v2 v3 _ _ hw) (cwV 3 hts (goodV kw_707 kw_709 ks_2_10 kw_1 kw_710) rfl rfl rfl (by decide +kernel) ⟨Nat.le_of_ble_eq_true rfl, Nat.le_of_ble_eq_true rfl⟩) (xpreVE hE hS hK hP hD hN [0, 1, 2] rfl rfl 0 rfl rfl) rfl rfl hl.1 rfl (lv_room (Nat.le_of_ble_eq_true rfl)) dOn_alter_8 ⟨Nat.le_of_ble_eq_true rfl, Nat.le_of_ble_eq_true rfl⟩) (hout _) hlocks hP hD hS hA [0, 1, 2] [3, 4, 5, 6, 7] rfl rfl rfl rfl [5, 6, 7, 0, 1, 2, 3, 4] rfl (fun _ => rfl) (fun u H locs hw hP hD hS => ?_) (fun k x u t locs b1 b2 b3 b4 b5 b6 b7 b8 b9 => hendX k x firstUses secondUses endUses t locs _ _ (Nat.le_of_ble_eq_true rfl) (Nat.le_of_ble_eq_true rfl) b1 b2 b3 b4 b5 b6 b7 b8 b9)
  have hP : va_P D vwCl (wdOn_alter cA ad N formStands stepCount firstUses secondUses endUses homeBlock) H := hP
  have hD : va_D A (wdOn_alter cA ad N formStands stepCount firstUses secondUses endUses homeBlock) := hD
  refine lv_aload_n hx hb dOn_alter_11 rfl (lv_at hl 0 rfl) ?_
  refine lv_iload_n hx hb dOn_alter_12 rfl (lv_at hl 1 rfl) ?_
  refine lv_iload_n hx hb dOn_alter_13 rfl (lv_at hl 2 rfl) ?_
  refine lv_iload_n hx hb dOn_alter_14 rfl (lv_at hl 3 rfl) ?_
  refine xci (va_runV ⟨hx, hb, hml, hown, hts⟩ (ktOn_nameUsed l D cA ad N _ formStands firstUses secondUses endUses v1 v2 v3 _ hw) (cwV 3 hts (goodV kw_712 kw_714 ks_2_11 kw_1 kw_715) rfl rfl rfl (by decide +kernel) ⟨Nat.le_of_ble_eq_true rfl, Nat.le_of_ble_eq_true rfl⟩) (xpreV hK hP hD hN [0, 3, 4, 5, 6] rfl rfl 0 rfl rfl) rfl rfl hl.1 rfl (lv_room (Nat.le_of_ble_eq_true rfl)) dOn_alter_15 ⟨Nat.le_of_ble_eq_true rfl, Nat.le_of_ble_eq_true rfl⟩) hP hD hS hA [0, 3, 4, 5, 6] [1, 2, 7] rfl rfl rfl rfl [3, 0, 1, 4, 5, 6, 7, 2] rfl (fun _ => rfl) (fun r15 u H locs hw hP hD hS => ?_)
  have hP : va_P D vwCl (wdOn_alter cA ad N formStands stepCount firstUses secondUses endUses homeBlock) H := hP
  have hD : va_D A (wdOn_alter cA ad N formStands stepCount firstUses secondUses endUses homeBlock) := hD
  refine xcxv (xrunS ⟨hx, hb, hml, hown, hts⟩ (ktOn_requireThere l hfl D cA ad N _ r15 _ _ hw) (va_cwS 1 hts (goodS kw_731 kw_732 kw_1 kw_733) rfl rfl rfl (by decide +kernel) ⟨Nat.le_of_ble_eq_true rfl, Nat.le_of_ble_eq_true rfl⟩) (xpreSE hE hS hK hP hD hN [] rfl rfl) rfl rfl hl.1 rfl (lv_room (Nat.le_of_ble_eq_true rfl)) dOn_alter_18 ⟨Nat.le_of_ble_eq_true rfl, Nat.le_of_ble_eq_true rfl⟩) (hout _) hlocks hP hD hS hA [] [0, 1, 2, 3, 4, 5, 6, 7] rfl rfl rfl rfl [0, 1, 2, 3, 4, 5, 6, 7] rfl (fun _ => rfl) (fun u H locs hw hP hD hS => ?_) (fun k x u t locs b1 b2 b3 b4 b5 b6 b7 b8 b9 => hendX k x firstUses secondUses endUses t locs _ _ (Nat.le_of_ble_eq_true rfl) (Nat.le_of_ble_eq_true rfl) b1 b2 b3 b4 b5 b6 b7 b8 b9)
  have hP : va_P D vwCl (wdOn_alter cA ad N formStands stepCount firstUses secondUses endUses homeBlock) H := hP
  have hD : va_D A (wdOn_alter cA ad N formStands stepCount firstUses secondUses endUses homeBlock) := hD
  refine lv_aload_n hx hb dOn_alter_21 rfl (lv_at hl 0 rfl) ?_
  refine lv_iload hx hb dOn_alter_22 (lv_at hl 4 rfl) ?_
  refine xcxv (xrunV ⟨hx, hb, hml, hown, hts⟩ (ktOn_requireName l hfl D cA ad N _ formStands homeBlock v4 _ _ hw) (cwV 1 hts (goodV kw_735 kw_737 ks_2_12 kw_1 kw_738) rfl rfl rfl (by decide +kernel) ⟨Nat.le_of_ble_eq_true rfl, Nat.le_of_ble_eq_true rfl⟩) (xpreVE hE hS hK hP hD hN [0, 3, 7] rfl rfl 0 rfl rfl) rfl rfl hl.1 rfl (lv_room (Nat.le_of_ble_eq_true rfl)) dOn_alter_24 ⟨Nat.le_of_ble_eq_true rfl, Nat.le_of_ble_eq_true rfl⟩) (hout _) hlocks hP hD hS hA [0, 3, 7] [1, 2, 4, 5, 6] rfl rfl rfl rfl [5, 0, 1, 6, 2, 3, 4, 7] rfl (fun _ => rfl) (fun u H locs hw hP hD hS => ?_) (fun k x u t locs b1 b2 b3 b4 b5 b6 b7 b8 b9 => hendX k x firstUses secondUses endUses t locs _ _ (Nat.le_of_ble_eq_true rfl) (Nat.le_of_ble_eq_true rfl) b1 b2 b3 b4 b5 b6 b7 b8 b9)
  have hP : va_P D vwCl (wdOn_alter cA ad N formStands stepCount firstUses secondUses endUses homeBlock) H := hP
  have hD : va_D A (wdOn_alter cA ad N formStands stepCount firstUses secondUses endUses homeBlock) := hD
  refine lv_iload_n hx hb dOn_alter_27 rfl (lv_at hl 2 rfl) ?_
  refine lv_iconst (v := (-1)) hx hb dOn_alter_28 (by decide) ?_
  refine lv_icmp_ne (tgt := 45) hx hb dOn_alter_29 rfl (fun hc => ?_) (fun hc => ?_)
  · have hw := hw.1 hc
    refine lv_aload_n hx hb dOn_alter_45 rfl (lv_at hl 0 rfl) ?_
    refine va_get (D := D) (ci := 0) (v := .ref (ad 18)) (C := "OnceNamed") (T := TX0) (N := 10) hx hb hts (fun w h => List.mem_cons_of_mem _ (inX0 w h)) hown hK hP 0 rfl rfl 3 (by decide) (hts _ (List.mem_cons_of_mem _ kw_270)) (fun _ h9 => h9) rfl dOn_alter_46 ?_
    refine lv_iload_n hx hb dOn_alter_49 rfl (lv_at hl 1 rfl) ?_
    refine lv_iload_n hx hb dOn_alter_50 rfl (lv_at hl 2 rfl) ?_
    refine lv_iload_n hx hb dOn_alter_51 rfl (lv_at hl 3 rfl) ?_
    refine lv_iload hx hb dOn_alter_52 (lv_at hl 4 rfl) ?_
    refine xcv (va_runV ⟨hx, hb, hml, hown, hts⟩ (ktNamedForm_changeStepUse l D cA ad N _ firstUses secondUses v1 v2 v3 v4 _ hw) (cwV 4 hts (goodV kw_748 kw_749 kw_750 kw_6 kw_751) rfl rfl rfl (by decide +kernel) ⟨Nat.le_of_ble_eq_true rfl, Nat.le_of_ble_eq_true rfl⟩) (xpreV hK hP hD hN [3, 4, 5] rfl rfl 3 rfl rfl) rfl rfl hl.1 rfl (lv_room (Nat.le_of_ble_eq_true rfl)) dOn_alter_54 ⟨Nat.le_of_ble_eq_true rfl, Nat.le_of_ble_eq_true rfl⟩) hP hD hS hA [3, 4, 5] [0, 1, 2, 6, 7] rfl rfl rfl rfl [0, 1, 2, 5, 6, 7, 3, 4] rfl (fun _ => rfl) (fun u H locs hw hP hD hS => ?_)
    obtain ⟨firstUses_54, secondUses_54⟩ := u
    try dsimp only at hw
    have hP : va_P D vwCl (wdOn_alter cA ad N formStands stepCount firstUses_54 secondUses_54 endUses homeBlock) H := hP
    have hD : va_D A (wdOn_alter cA ad N formStands stepCount firstUses_54 secondUses_54 endUses homeBlock) := hD
    exact hend firstUses_54 secondUses_54 endUses _ _ _ _ dOn_alter_57 hP hD hS hw
  · have hw := hw.2 hc
    refine lv_aload_n hx hb dOn_alter_32 rfl (lv_at hl 0 rfl) ?_
    refine va_get (D := D) (ci := 0) (v := .ref (ad 18)) (C := "OnceNamed") (T := TX0) (N := 10) hx hb hts (fun w h => List.mem_cons_of_mem _ (inX0 w h)) hown hK hP 0 rfl rfl 3 (by decide) (hts _ (List.mem_cons_of_mem _ kw_270)) (fun _ h9 => h9) rfl dOn_alter_33 ?_
    refine lv_iload_n hx hb dOn_alter_36 rfl (lv_at hl 1 rfl) ?_
    refine lv_iload hx hb dOn_alter_37 (lv_at hl 4 rfl) ?_
    refine xcv (va_runV ⟨hx, hb, hml, hown, hts⟩ (ktNamedForm_changeEndUse l D cA ad N _ endUses v1 v4 _ hw) (cwV 2 hts (goodV kw_744 kw_745 kw_746 kw_6 kw_747) rfl rfl rfl (by decide +kernel) ⟨Nat.le_of_ble_eq_true rfl, Nat.le_of_ble_eq_true rfl⟩) (xpreV hK hP hD hN [3, 6] rfl rfl 3 rfl rfl) rfl rfl hl.1 rfl (lv_room (Nat.le_of_ble_eq_true rfl)) dOn_alter_39 ⟨Nat.le_of_ble_eq_true rfl, Nat.le_of_ble_eq_true rfl⟩) hP hD hS hA [3, 6] [0, 1, 2, 4, 5, 7] rfl rfl rfl rfl [0, 1, 2, 6, 3, 4, 7, 5] rfl (fun _ => rfl) (fun endUses_39 H locs hw hP hD hS => ?_)
    try dsimp only at hw
    have hP : va_P D vwCl (wdOn_alter cA ad N formStands stepCount firstUses secondUses endUses_39 homeBlock) H := hP
    have hD : va_D A (wdOn_alter cA ad N formStands stepCount firstUses secondUses endUses_39 homeBlock) := hD
    refine lv_goto (tgt := 57) hx hb dOn_alter_42 rfl ?_
    exact hend firstUses secondUses endUses_39 _ _ _ _ dOn_alter_57 hP hD hS hw
abbrev wdOn_turn (cA : ClassId) (ad : Nat → Nat) (N : Nat) (formStands : Bool) (meetingUses : Nat → Int32) (homeBlock : Nat → Int32) : va_W := [((ad 0), .inr (0, [.int (nI N), .ref (ad 1), .ref (ad 11), .ref (ad 18), .ref (ad 30), .ref (ad 35), .ref (ad 38), .ref (ad 40), .ref (ad 42), .int (bI formStands)])), ((ad 18), .inr (3, [.ref (ad 1), .ref (ad 11), .int (nI N), .ref (ad 19), .ref (ad 20), .ref (ad 21), .ref (ad 22), .ref (ad 23), .ref (ad 24), .ref (ad 25), .ref (ad 26), .ref (ad 27), .ref (ad 28), .ref (ad 29)])), ((ad 20), .inl (cA, N * 6 * (N + 1), .inl meetingUses)), ((ad 27), .inl (cA, 600, .inl homeBlock))]
abbrev qcOn_turn (D : va_G) (cA : ClassId) (ad : Nat → Nat) (N : Nat) (formStands : Bool) (meetingUses : Nat → Int32) (homeBlock : Nat → Int32) (post : (Nat → Int32) → Prop) (postX : Nat → (Nat → Int32) → Prop) (A : Nat → Prop) : Array Value → State → Outcome → State → Prop := xQv (S := (Nat → Int32)) (fun u => post u) (fun k u => postX k u) (fun u t => xB D [(cA, .int)] A (wdOn_turn cA ad N formStands u homeBlock) t) A
abbrev rmOn_turn : Room := { frames := 8, cells := 6, slots := 36, locals := 134 }
set_option maxHeartbeats 4000000 in
set_option maxRecDepth 100000 in
theorem ktOn_turn (l : Launch) (hfl : l.flags = Jvm.pinnedFlags ++ [Jvm.noTraceFlag]) (D : va_G) (cA : ClassId) (ad : Nat → Nat) (N : Nat) (sz : Nat) (formStands : Bool) (meetingUses : Nat → Int32) (homeBlock : Nat → Int32) (v1 : Int32) (v2 : Int32) (v3 : Int32) (v4 : Int32) (post : (Nat → Int32) → Prop) (postX : Nat → (Nat → Int32) → Prop) (hw : wpOn_turn N formStands meetingUses homeBlock v1 v2 v3 v4 post postX) : MetX l yOn_turn (Cond.code yOn_turn cOn_turn 5 none :: xW) rmOn_turn (va_Pc [.ref (ad 0), .int v1, .int v2, .int v3, .int v4] (xPcE D [(cA, .int)] (wdOn_turn cA ad N formStands meetingUses homeBlock) sz)) (qcOn_turn D cA ad N formStands meetingUses homeBlock post postX (va_A (wdOn_turn cA ad N formStands meetingUses homeBlock) sz)) 6 36 (va_A (wdOn_turn cA ad N formStands meetingUses homeBlock) sz) := by
  refine MetX.ofW (cc := cOn_turn) (maxL := 5) (ret := none) (by decide) rfl ?_
  intro p e s m args below meth c s₁ B hml hv
  obtain ⟨rfl, ⟨hsz, hP, hK, hD0, hN⟩, hE0⟩ := hv
  have hx := B.exec
  have hb := B.bytes
  have hr := B.returns
  have hts := atoms_spec (ws := (Cond.code yOn_turn cOn_turn 5 none :: xW)) B.pre
  have hown : s.vm.findClass "OnceNamed" = some m.cls := findClass_of_methodNamed B.named
  have hlocks := B.notSynchronized
  subst hsz
  have hD := hD0.self (sz := s.heap.size)
  have hE := xEEfull hE0
  have htr := Launch.traces_off hfl B.admits
  have hout := xnoout (B.noHandlers (hts _ List.mem_cons_self))
  have htsx : ∀ w ∈ xW, w.before ([.ref (ad 0), .int v1, .int v2, .int v3, .int v4] : List Value).toArray s = true := fun w h => hts w (List.mem_cons_of_mem _ h)
  generalize hAe : va_A (wdOn_turn cA ad N formStands meetingUses homeBlock) s.heap.size = A at hD hE ⊢
  have hA : ∀ q : Nat, s.heap.size ≤ q → A q := fun q h => by rw [← hAe]; exact Or.inr h
  have hS : va_S A s.heap s.heap [] := va_S.rf
  have hend : ∀ (u0 : Nat → Int32) (H : Heap) (locs : List Loc) (pc : Nat) (ls : Array Slot), decode cOn_turn pc = .ok (.return_, 1) → va_P D vwCl (wdOn_turn cA ad N formStands u0 homeBlock) H → va_D A (wdOn_turn cA ad N formStands u0 homeBlock) → va_S A s.heap H locs → post u0 → W p l e (headSpec (Cond.code yOn_turn cOn_turn 5 none :: xW) rmOn_turn).room s m ([.ref (ad 0), .int v1, .int v2, .int v3, .int v4] : List Value).toArray below meth c H locs 6 36 (MQX below (qcOn_turn D cA ad N formStands meetingUses homeBlock post postX A) ([.ref (ad 0), .int v1, .int v2, .int v3, .int v4] : List Value).toArray s 6 36 A) (F0 m pc ls []) := fun u0 H locs pc ls hd hP hD hS hw => xWmono (fun _ => MQX.of) (W.vret hx hb hr (fun t ht hW => ⟨Or.inl ⟨u0, rfl, hw, ⟨by rw [ht]; exact hP, va_K.moved hW.alike hK, hD⟩⟩, hS.F ht⟩) hS.2.2 hd)
  have hendX : ∀ (k x : Nat) (u0 : Nat → Int32) (t : State) (locs : List Loc) (cells slots : Nat), cells ≤ 6 → slots ≤ 36 → t.status = .running → Ended t below (.threw x) → s.WarmedH t.vm → s.sameButNew ({ t with vm := s.vm } : State) locs cells slots → xExc k x s.heap.size t → va_P D vwCl (wdOn_turn cA ad N formStands u0 homeBlock) t.heap → va_D A (wdOn_turn cA ad N formStands u0 homeBlock) → va_S A s.heap t.heap locs → postX k u0 → MQX below (qcOn_turn D cA ad N formStands meetingUses homeBlock post postX A) ([.ref (ad 0), .int v1, .int v2, .int v3, .int v4] : List Value).toArray s 6 36 A t := fun k x u0 t locs cells slots h1 h2 b1 b2 b3 b4 b5 hP hD hS hw => ⟨.threw x, b1, b2, ⟨Or.inr ⟨k, x, u0, rfl, b5, hw, ⟨hP, va_K.moved b3.alike hK, hD⟩⟩, hS.F rfl⟩, locs, ⟨b3, b4.mono h1 h2⟩, hS.2.2⟩
  generalize hQ : MQX below (qcOn_turn D cA ad N formStands meetingUses homeBlock post postX A) ([.ref (ad 0), .int v1, .int v2, .int v3, .int v4] : List Value).toArray s 6 36 A = Q at hend hendX ⊢
  have hl := lv_entry ([.ref (ad 0), .int v1, .int v2, .int v3, .int v4]) (n := 5) (Nat.le_of_ble_eq_true rfl)
  rw [lg_entry_eq]
  generalize (lg_sl ([.ref (ad 0), .int v1, .int v2, .int v3, .int v4]) ++ List.replicate (5 - (lg_sl ([.ref (ad 0), .int v1, .int v2, .int v3, .int v4])).length) Slot.unset).toArray = ls at hl ⊢
  have hl : lv_has ls 5 [(0, .ref (ad 0)), (1, .int v1), (2, .int v2), (3, .int v3), (4, .int v4)] := hl
  unfold wpOn_turn at hw
  refine lv_aload_n hx hb dOn_turn_0 rfl (lv_at hl 0 rfl) ?_
  refine xcxv (xrunV ⟨hx, hb, hml, hown, hts⟩ (ktOn_requireForm l hfl D cA ad N _ formStands _ _ hw) (cwV 0 hts (goodV kw_568 kw_570 ks_2_1 kw_1 kw_571) rfl rfl rfl (by decide +kernel) ⟨Nat.le_of_ble_eq_true rfl, Nat.le_of_ble_eq_true rfl⟩) (xpreVE hE hS hK hP hD hN [0] rfl rfl 0 rfl rfl) rfl rfl hl.1 rfl (lv_room (Nat.le_of_ble_eq_true rfl)) dOn_turn_1 ⟨Nat.le_of_ble_eq_true rfl, Nat.le_of_ble_eq_true rfl⟩) (hout _) hlocks hP hD hS hA [0] [1, 2, 3] rfl rfl rfl rfl [3, 0, 1, 2] rfl (fun _ => rfl) (fun u H locs hw hP hD hS => ?_) (fun k x u t locs b1 b2 b3 b4 b5 b6 b7 b8 b9 => hendX k x meetingUses t locs _ _ (Nat.le_of_ble_eq_true rfl) (Nat.le_of_ble_eq_true rfl) b1 b2 b3 b4 b5 b6 b7 b8 b9)
  have hP : va_P D vwCl (wdOn_turn cA ad N formStands meetingUses homeBlock) H := hP
  have hD : va_D A (wdOn_turn cA ad N formStands meetingUses homeBlock) := hD
  refine lv_aload_n hx hb dOn_turn_4 rfl (lv_at hl 0 rfl) ?_
  refine lv_iload_n hx hb dOn_turn_5 rfl (lv_at hl 1 rfl) ?_
  refine lv_iload_n hx hb dOn_turn_6 rfl (lv_at hl 2 rfl) ?_
  refine lv_iload_n hx hb dOn_turn_7 rfl (lv_at hl 3 rfl) ?_
  refine xcxv (xrunV ⟨hx, hb, hml, hown, hts⟩ (ktOn_requireMeetingUse l hfl D cA ad N _ formStands v1 v2 v3 _ _ hw) (cwV 3 hts (goodV kw_671 kw_673 ks_2_7 kw_1 kw_674) rfl rfl rfl (by decide +kernel) ⟨Nat.le_of_ble_eq_true rfl, Nat.le_of_ble_eq_true rfl⟩) (xpreVE hE hS hK hP hD hN [0] rfl rfl 0 rfl rfl) rfl rfl hl.1 rfl (lv_room (Nat.le_of_ble_eq_true rfl)) dOn_turn_8 ⟨Nat.le_of_ble_eq_true rfl, Nat.le_of_ble_eq_true rfl⟩) (hout _) hlocks hP hD hS hA [0] [1, 2, 3] rfl rfl rfl rfl [3, 0, 1, 2] rfl (fun _ => rfl) (fun u H locs hw hP hD hS => ?_) (fun k x u t locs b1 b2 b3 b4 b5 b6 b7 b8 b9 => hendX k x meetingUses t locs _ _ (Nat.le_of_ble_eq_true rfl) (Nat.le_of_ble_eq_true rfl) b1 b2 b3 b4 b5 b6 b7 b8 b9)
  have hP : va_P D vwCl (wdOn_turn cA ad N formStands meetingUses homeBlock) H := hP
  have hD : va_D A (wdOn_turn cA ad N formStands meetingUses homeBlock) := hD
  refine lv_aload_n hx hb dOn_turn_11 rfl (lv_at hl 0 rfl) ?_
  refine va_get (D := D) (ci := 0) (v := .ref (ad 18)) (C := "OnceNamed") (T := TX0) (N := 10) hx hb hts (fun w h => List.mem_cons_of_mem _ (inX0 w h)) hown hK hP 0 rfl rfl 3 (by decide) (hts _ (List.mem_cons_of_mem _ kw_270)) (fun _ h9 => h9) rfl dOn_turn_12 ?_
  refine lv_iload_n hx hb dOn_turn_15 rfl (lv_at hl 1 rfl) ?_
  refine lv_iload_n hx hb dOn_turn_16 rfl (lv_at hl 2 rfl) ?_
  refine lv_iload_n hx hb dOn_turn_17 rfl (lv_at hl 3 rfl) ?_
  refine xci (va_runV ⟨hx, hb, hml, hown, hts⟩ (ktNamedForm_meetingUse l D cA ad N _ meetingUses v1 v2 v3 _ hw) (cwV 3 hts (goodV kw_680 kw_681 kw_682 kw_6 kw_683) rfl rfl rfl (by decide +kernel) ⟨Nat.le_of_ble_eq_true rfl, Nat.le_of_ble_eq_true rfl⟩) (xpreV hK hP hD hN [1, 2] rfl rfl 1 rfl rfl) rfl rfl hl.1 rfl (lv_room (Nat.le_of_ble_eq_true rfl)) dOn_turn_18 ⟨Nat.le_of_ble_eq_true rfl, Nat.le_of_ble_eq_true rfl⟩) hP hD hS hA [1, 2] [0, 3] rfl rfl rfl rfl [0, 2, 3, 1] rfl (fun _ => rfl) (fun r18 u H locs hw hP hD hS => ?_)
  have hP : va_P D vwCl (wdOn_turn cA ad N formStands meetingUses homeBlock) H := hP
  have hD : va_D A (wdOn_turn cA ad N formStands meetingUses homeBlock) := hD
  refine xcxv (xrunS ⟨hx, hb, hml, hown, hts⟩ (ktOn_requireThere l hfl D cA ad N _ r18 _ _ hw) (va_cwS 1 hts (goodS kw_731 kw_732 kw_1 kw_733) rfl rfl rfl (by decide +kernel) ⟨Nat.le_of_ble_eq_true rfl, Nat.le_of_ble_eq_true rfl⟩) (xpreSE hE hS hK hP hD hN [] rfl rfl) rfl rfl hl.1 rfl (lv_room (Nat.le_of_ble_eq_true rfl)) dOn_turn_21 ⟨Nat.le_of_ble_eq_true rfl, Nat.le_of_ble_eq_true rfl⟩) (hout _) hlocks hP hD hS hA [] [0, 1, 2, 3] rfl rfl rfl rfl [0, 1, 2, 3] rfl (fun _ => rfl) (fun u H locs hw hP hD hS => ?_) (fun k x u t locs b1 b2 b3 b4 b5 b6 b7 b8 b9 => hendX k x meetingUses t locs _ _ (Nat.le_of_ble_eq_true rfl) (Nat.le_of_ble_eq_true rfl) b1 b2 b3 b4 b5 b6 b7 b8 b9)
  have hP : va_P D vwCl (wdOn_turn cA ad N formStands meetingUses homeBlock) H := hP
  have hD : va_D A (wdOn_turn cA ad N formStands meetingUses homeBlock) := hD
  refine lv_aload_n hx hb dOn_turn_24 rfl (lv_at hl 0 rfl) ?_
  refine lv_iload hx hb dOn_turn_25 (lv_at hl 4 rfl) ?_
  refine xcxv (xrunV ⟨hx, hb, hml, hown, hts⟩ (ktOn_requireName l hfl D cA ad N _ formStands homeBlock v4 _ _ hw) (cwV 1 hts (goodV kw_735 kw_737 ks_2_12 kw_1 kw_738) rfl rfl rfl (by decide +kernel) ⟨Nat.le_of_ble_eq_true rfl, Nat.le_of_ble_eq_true rfl⟩) (xpreVE hE hS hK hP hD hN [0, 1, 3] rfl rfl 0 rfl rfl) rfl rfl hl.1 rfl (lv_room (Nat.le_of_ble_eq_true rfl)) dOn_turn_27 ⟨Nat.le_of_ble_eq_true rfl, Nat.le_of_ble_eq_true rfl⟩) (hout _) hlocks hP hD hS hA [0, 1, 3] [2] rfl rfl rfl rfl [1, 2, 0, 3] rfl (fun _ => rfl) (fun u H locs hw hP hD hS => ?_) (fun k x u t locs b1 b2 b3 b4 b5 b6 b7 b8 b9 => hendX k x meetingUses t locs _ _ (Nat.le_of_ble_eq_true rfl) (Nat.le_of_ble_eq_true rfl) b1 b2 b3 b4 b5 b6 b7 b8 b9)
  have hP : va_P D vwCl (wdOn_turn cA ad N formStands meetingUses homeBlock) H := hP
  have hD : va_D A (wdOn_turn cA ad N formStands meetingUses homeBlock) := hD
  refine lv_aload_n hx hb dOn_turn_30 rfl (lv_at hl 0 rfl) ?_
  refine va_get (D := D) (ci := 0) (v := .ref (ad 18)) (C := "OnceNamed") (T := TX0) (N := 10) hx hb hts (fun w h => List.mem_cons_of_mem _ (inX0 w h)) hown hK hP 0 rfl rfl 3 (by decide) (hts _ (List.mem_cons_of_mem _ kw_270)) (fun _ h9 => h9) rfl dOn_turn_31 ?_
  refine lv_iload_n hx hb dOn_turn_34 rfl (lv_at hl 1 rfl) ?_
  refine lv_iload_n hx hb dOn_turn_35 rfl (lv_at hl 2 rfl) ?_
  refine lv_iload_n hx hb dOn_turn_36 rfl (lv_at hl 3 rfl) ?_
  refine lv_iload hx hb dOn_turn_37 (lv_at hl 4 rfl) ?_
  refine xcv (va_runV ⟨hx, hb, hml, hown, hts⟩ (ktNamedForm_changeMeetingUse l D cA ad N _ meetingUses v1 v2 v3 v4 _ hw) (cwV 4 hts (goodV kw_759 kw_760 kw_761 kw_6 kw_762) rfl rfl rfl (by decide +kernel) ⟨Nat.le_of_ble_eq_true rfl, Nat.le_of_ble_eq_true rfl⟩) (xpreV hK hP hD hN [1, 2] rfl rfl 1 rfl rfl) rfl rfl hl.1 rfl (lv_room (Nat.le_of_ble_eq_true rfl)) dOn_turn_39 ⟨Nat.le_of_ble_eq_true rfl, Nat.le_of_ble_eq_true rfl⟩) hP hD hS hA [1, 2] [0, 3] rfl rfl rfl rfl [0, 2, 3, 1] rfl (fun _ => rfl) (fun meetingUses_39 H locs hw hP hD hS => ?_)
  try dsimp only at hw
  have hP : va_P D vwCl (wdOn_turn cA ad N formStands meetingUses_39 homeBlock) H := hP
  have hD : va_D A (wdOn_turn cA ad N formStands meetingUses_39 homeBlock) := hD
  exact hend meetingUses_39 _ _ _ _ dOn_turn_42 hP hD hS hw
abbrev wdOn_valid (cA : ClassId) (ad : Nat → Nat) (N : Nat) (formStands : Bool) (stepCount : Nat → Int32) (orderSize : Int32) (reached : Int32) (blw : Nat → Int32) (order : Nat → Int32) (meetingUses : Nat → Int32) (firstUses : Nat → Int32) (secondUses : Nat → Int32) (endUses : Nat → Int32) (homeBlock : Nat → Int32) (homePlace : Nat → Int32) : va_W := [((ad 0), .inr (0, [.int (nI N), .ref (ad 1), .ref (ad 11), .ref (ad 18), .ref (ad 30), .ref (ad 35), .ref (ad 38), .ref (ad 40), .ref (ad 42), .int (bI formStands)])), ((ad 1), .inr (1, [.int (nI N), .ref (ad 2), .ref (ad 3), .ref (ad 4), .ref (ad 5), .ref (ad 6), .ref (ad 7), .ref (ad 8), .ref (ad 9), .ref (ad 10)])), ((ad 2), .inl (cA, N, .inl stepCount)), ((ad 11), .inr (2, [.int (nI N), .ref (ad 12), .ref (ad 13), .ref (ad 14), .ref (ad 15), .ref (ad 16), .ref (ad 17), .int orderSize, .int reached])), ((ad 13), .inl (cA, N, .inl blw)), ((ad 16), .inl (cA, N, .inl order)), ((ad 18), .inr (3, [.ref (ad 1), .ref (ad 11), .int (nI N), .ref (ad 19), .ref (ad 20), .ref (ad 21), .ref (ad 22), .ref (ad 23), .ref (ad 24), .ref (ad 25), .ref (ad 26), .ref (ad 27), .ref (ad 28), .ref (ad 29)])), ((ad 20), .inl (cA, N * 6 * (N + 1), .inl meetingUses)), ((ad 22), .inl (cA, N * 6, .inl firstUses)), ((ad 23), .inl (cA, N * 6, .inl secondUses)), ((ad 24), .inl (cA, N, .inl endUses)), ((ad 27), .inl (cA, 600, .inl homeBlock)), ((ad 28), .inl (cA, 600, .inl homePlace))]
abbrev qcOn_valid (D : va_G) (cA : ClassId) (ad : Nat → Nat) (N : Nat) (formStands : Bool) (stepCount : Nat → Int32) (orderSize : Int32) (reached : Int32) (blw : Nat → Int32) (order : Nat → Int32) (meetingUses : Nat → Int32) (firstUses : Nat → Int32) (secondUses : Nat → Int32) (endUses : Nat → Int32) (homeBlock : Nat → Int32) (homePlace : Nat → Int32) (post : Bool → Prop) (postX : Nat → Prop) (A : Nat → Prop) : Array Value → State → Outcome → State → Prop := xQi (S := Unit) (fun r u => ∃ z : Bool, r = bI z ∧ post z ) (fun k u => postX k ) (fun u t => xB D [(cA, .int)] A (wdOn_valid cA ad N formStands stepCount orderSize reached blw order meetingUses firstUses secondUses endUses homeBlock homePlace) t) A
abbrev rmOn_valid : Room := { frames := 7, cells := 1, slots := 6, locals := 112 }
set_option maxHeartbeats 4000000 in
set_option maxRecDepth 100000 in
theorem ktOn_valid (l : Launch) (hfl : l.flags = Jvm.pinnedFlags ++ [Jvm.noTraceFlag]) (D : va_G) (cA : ClassId) (ad : Nat → Nat) (N : Nat) (sz : Nat) (formStands : Bool) (stepCount : Nat → Int32) (orderSize : Int32) (reached : Int32) (blw : Nat → Int32) (order : Nat → Int32) (meetingUses : Nat → Int32) (firstUses : Nat → Int32) (secondUses : Nat → Int32) (endUses : Nat → Int32) (homeBlock : Nat → Int32) (homePlace : Nat → Int32)  (post : Bool → Prop) (postX : Nat → Prop) (hw : wpOn_valid N formStands stepCount orderSize blw order meetingUses firstUses secondUses endUses homeBlock homePlace post postX) : MetX l yOn_valid (Cond.code yOn_valid cOn_valid 1 (some .boolean) :: xW) rmOn_valid (va_Pc [.ref (ad 0)] (xPcE D [(cA, .int)] (wdOn_valid cA ad N formStands stepCount orderSize reached blw order meetingUses firstUses secondUses endUses homeBlock homePlace) sz)) (qcOn_valid D cA ad N formStands stepCount orderSize reached blw order meetingUses firstUses secondUses endUses homeBlock homePlace post postX (va_A (wdOn_valid cA ad N formStands stepCount orderSize reached blw order meetingUses firstUses secondUses endUses homeBlock homePlace) sz)) 1 6 (va_A (wdOn_valid cA ad N formStands stepCount orderSize reached blw order meetingUses firstUses secondUses endUses homeBlock homePlace) sz) := by
  refine MetX.ofW (cc := cOn_valid) (maxL := 1) (ret := (some .boolean)) (by decide) rfl ?_
  intro p e s m args below meth c s₁ B hml hv
  obtain ⟨rfl, ⟨hsz, hP, hK, hD0, hN⟩, hE0⟩ := hv
  have hx := B.exec
  have hb := B.bytes
  have hr := B.returns
  have hts := atoms_spec (ws := (Cond.code yOn_valid cOn_valid 1 (some .boolean) :: xW)) B.pre
  have hown : s.vm.findClass "OnceNamed" = some m.cls := findClass_of_methodNamed B.named
  have hlocks := B.notSynchronized
  subst hsz
  have hD := hD0.self (sz := s.heap.size)
  have hE := xEEfull hE0
  have htr := Launch.traces_off hfl B.admits
  have hout := xnoout (B.noHandlers (hts _ List.mem_cons_self))
  have htsx : ∀ w ∈ xW, w.before ([.ref (ad 0)] : List Value).toArray s = true := fun w h => hts w (List.mem_cons_of_mem _ h)
  generalize hAe : va_A (wdOn_valid cA ad N formStands stepCount orderSize reached blw order meetingUses firstUses secondUses endUses homeBlock homePlace) s.heap.size = A at hD hE ⊢
  have hA : ∀ q : Nat, s.heap.size ≤ q → A q := fun q h => by rw [← hAe]; exact Or.inr h
  have hS : va_S A s.heap s.heap [] := va_S.rf
  have hend : ∀ (r : Bool)  (H : Heap) (locs : List Loc) (pc : Nat) (ls : Array Slot), decode cOn_valid pc = .ok (.ireturn, 1) → va_P D vwCl (wdOn_valid cA ad N formStands stepCount orderSize reached blw order meetingUses firstUses secondUses endUses homeBlock homePlace) H → va_D A (wdOn_valid cA ad N formStands stepCount orderSize reached blw order meetingUses firstUses secondUses endUses homeBlock homePlace) → va_S A s.heap H locs → post r  → W p l e (headSpec (Cond.code yOn_valid cOn_valid 1 (some .boolean) :: xW) rmOn_valid).room s m ([.ref (ad 0)] : List Value).toArray below meth c H locs 1 6 (MQX below (qcOn_valid D cA ad N formStands stepCount orderSize reached blw order meetingUses firstUses secondUses endUses homeBlock homePlace post postX A) ([.ref (ad 0)] : List Value).toArray s 1 6 A) (F0 m pc ls [.int (bI r)]) := fun r  H locs pc ls hd hP hD hS hw => xWmono (fun _ => MQX.of) (W.zret (v := bI r) hx hb hr (bI_nar r) (fun t ht hW => ⟨Or.inl ⟨bI r, (), rfl, ⟨r, rfl, hw⟩, ⟨by rw [ht]; exact hP, va_K.moved hW.alike hK, hD⟩⟩, hS.F ht⟩) hS.2.2 hd)
  have hendX : ∀ (k x : Nat)  (t : State) (locs : List Loc) (cells slots : Nat), cells ≤ 1 → slots ≤ 6 → t.status = .running → Ended t below (.threw x) → s.WarmedH t.vm → s.sameButNew ({ t with vm := s.vm } : State) locs cells slots → xExc k x s.heap.size t → va_P D vwCl (wdOn_valid cA ad N formStands stepCount orderSize reached blw order meetingUses firstUses secondUses endUses homeBlock homePlace) t.heap → va_D A (wdOn_valid cA ad N formStands stepCount orderSize reached blw order meetingUses firstUses secondUses endUses homeBlock homePlace) → va_S A s.heap t.heap locs → postX k  → MQX below (qcOn_valid D cA ad N formStands stepCount orderSize reached blw order meetingUses firstUses secondUses endUses homeBlock homePlace post postX A) ([.ref (ad 0)] : List Value).toArray s 1 6 A t := fun k x  t locs cells slots h1 h2 b1 b2 b3 b4 b5 hP hD hS hw => ⟨.threw x, b1, b2, ⟨Or.inr ⟨k, x, (), rfl, b5, hw, ⟨hP, va_K.moved b3.alike hK, hD⟩⟩, hS.F rfl⟩, locs, ⟨b3, b4.mono h1 h2⟩, hS.2.2⟩
  generalize hQ : MQX below (qcOn_valid D cA ad N formStands stepCount orderSize reached blw order meetingUses firstUses secondUses endUses homeBlock homePlace post postX A) ([.ref (ad 0)] : List Value).toArray s 1 6 A = Q at hend hendX ⊢
  have hl := lv_entry ([.ref (ad 0)]) (n := 1) (Nat.le_of_ble_eq_true rfl)
  rw [lg_entry_eq]
  generalize (lg_sl ([.ref (ad 0)]) ++ List.replicate (1 - (lg_sl ([.ref (ad 0)])).length) Slot.unset).toArray = ls at hl ⊢
  have hl : lv_has ls 1 [(0, .ref (ad 0))] := hl
  unfold wpOn_valid at hw
  refine lv_aload_n hx hb dOn_valid_0 rfl (lv_at hl 0 rfl) ?_
  refine xcxv (xrunV ⟨hx, hb, hml, hown, hts⟩ (ktOn_requireForm l hfl D cA ad N _ formStands _ _ hw) (cwV 0 hts (goodV kw_568 kw_570 ks_2_1 kw_1 kw_571) rfl rfl rfl (by decide +kernel) ⟨Nat.le_of_ble_eq_true rfl, Nat.le_of_ble_eq_true rfl⟩) (xpreVE hE hS hK hP hD hN [0] rfl rfl 0 rfl rfl) rfl rfl hl.1 rfl (lv_room (Nat.le_of_ble_eq_true rfl)) dOn_valid_1 ⟨Nat.le_of_ble_eq_true rfl, Nat.le_of_ble_eq_true rfl⟩) (hout _) hlocks hP hD hS hA [0] [1, 2, 3, 4, 5, 6, 7, 8, 9, 10, 11, 12] rfl rfl rfl rfl [12, 0, 1, 2, 3, 4, 5, 6, 7, 8, 9, 10, 11] rfl (fun _ => rfl) (fun u H locs hw hP hD hS => ?_) (fun k x u t locs b1 b2 b3 b4 b5 b6 b7 b8 b9 => hendX k x  t locs _ _ (Nat.le_of_ble_eq_true rfl) (Nat.le_of_ble_eq_true rfl) b1 b2 b3 b4 b5 b6 b7 b8 b9)
  have hP : va_P D vwCl (wdOn_valid cA ad N formStands stepCount orderSize reached blw order meetingUses firstUses secondUses endUses homeBlock homePlace) H := hP
  have hD : va_D A (wdOn_valid cA ad N formStands stepCount orderSize reached blw order meetingUses firstUses secondUses endUses homeBlock homePlace) := hD
  refine lv_aload_n hx hb dOn_valid_4 rfl (lv_at hl 0 rfl) ?_
  refine va_get (D := D) (ci := 0) (v := .ref (ad 18)) (C := "OnceNamed") (T := TX0) (N := 10) hx hb hts (fun w h => List.mem_cons_of_mem _ (inX0 w h)) hown hK hP 0 rfl rfl 3 (by decide) (hts _ (List.mem_cons_of_mem _ kw_270)) (fun _ h9 => h9) rfl dOn_valid_5 ?_
  refine xci (va_runV ⟨hx, hb, hml, hown, hts⟩ (ktNamedForm_isSound l D cA ad N _ stepCount orderSize reached blw order meetingUses firstUses secondUses endUses homeBlock homePlace _ hw) (cwV 0 hts (goodV kw_588 kw_589 kw_590 kw_6 kw_591) rfl rfl rfl (by decide +kernel) ⟨Nat.le_of_ble_eq_true rfl, Nat.le_of_ble_eq_true rfl⟩) (xpreV hK hP hD hN [1, 2, 3, 4, 5, 6, 7, 8, 9, 10, 11, 12] rfl rfl 6 rfl rfl) rfl rfl hl.1 rfl (lv_room (Nat.le_of_ble_eq_true rfl)) dOn_valid_8 ⟨Nat.le_of_ble_eq_true rfl, Nat.le_of_ble_eq_true rfl⟩) hP hD hS hA [1, 2, 3, 4, 5, 6, 7, 8, 9, 10, 11, 12] [0] rfl rfl rfl rfl [0, 1, 2, 3, 4, 5, 6, 7, 8, 9, 10, 11, 12] rfl (fun _ => rfl) (fun r8 u H locs hw hP hD hS => ?_)
  obtain ⟨r8, rfl, hw⟩ := hw
  have hP : va_P D vwCl (wdOn_valid cA ad N formStands stepCount orderSize reached blw order meetingUses firstUses secondUses endUses homeBlock homePlace) H := hP
  have hD : va_D A (wdOn_valid cA ad N formStands stepCount orderSize reached blw order meetingUses firstUses secondUses endUses homeBlock homePlace) := hD
  exact hend r8 _ _ _ _ dOn_valid_11 hP hD hS hw
