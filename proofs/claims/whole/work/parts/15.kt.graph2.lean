abbrev wdGraph_parentOf (cA : ClassId) (ad : Nat → Nat) (N : Nat) (orderSize : Int32) (reached : Int32) (parents : Nat → Int32) : va_W := [((ad 11), .inr (2, [.int (nI N), .ref (ad 12), .ref (ad 13), .ref (ad 14), .ref (ad 15), .ref (ad 16), .ref (ad 17), .int orderSize, .int reached])), ((ad 15), .inl (cA, N, .inl parents))]
abbrev qcGraph_parentOf (D : va_G) (cA : ClassId) (ad : Nat → Nat) (N : Nat) (orderSize : Int32) (reached : Int32) (parents : Nat → Int32) (post : Int32 → Prop) (A : Nat → Prop) : Array Value → State → Outcome → State → Prop := va_Qi (S := Unit) (fun r u => post r ) (fun u t => xB D [(cA, .int)] A (wdGraph_parentOf cA ad N orderSize reached parents) t) A
abbrev rmGraph_parentOf : Room := { frames := 0, cells := 0, slots := 0, locals := 0 }
set_option maxHeartbeats 4000000 in
set_option maxRecDepth 100000 in
theorem ktGraph_parentOf (l : Launch) (D : va_G) (cA : ClassId) (ad : Nat → Nat) (N : Nat) (sz : Nat) (orderSize : Int32) (reached : Int32) (parents : Nat → Int32) (v1 : Int32) (post : Int32 → Prop) (hw : wpGraph_parentOf N parents v1 post) : Met l yGraph_parentOf (Cond.code yGraph_parentOf cGraph_parentOf 2 (some .int) :: xW) rmGraph_parentOf (va_Pc [.ref (ad 11), .int v1] (xPc D [(cA, .int)] (wdGraph_parentOf cA ad N orderSize reached parents) sz)) (qcGraph_parentOf D cA ad N orderSize reached parents post (va_A (wdGraph_parentOf cA ad N orderSize reached parents) sz)) 0 0 (va_A (wdGraph_parentOf cA ad N orderSize reached parents) sz) := by
  refine Met.ofW (cc := cGraph_parentOf) (maxL := 2) (ret := (some .int)) (by decide) rfl ?_
  intro p e s m args below meth c s₁ B hml hv
  obtain ⟨rfl, hsz, hP, hK, hD0, hN⟩ := hv
  have hx := B.exec
  have hb := B.bytes
  have hr := B.returns
  have hts := atoms_spec (ws := (Cond.code yGraph_parentOf cGraph_parentOf 2 (some .int) :: xW)) B.pre
  have hown : s.vm.findClass "OnceNamed$Graph" = some m.cls := findClass_of_methodNamed B.named
  have hlocks := B.notSynchronized
  subst hsz
  have hD := hD0.self (sz := s.heap.size)
  generalize hAe : va_A (wdGraph_parentOf cA ad N orderSize reached parents) s.heap.size = A at hD ⊢
  have hA : ∀ q : Nat, s.heap.size ≤ q → A q := fun q h => by rw [← hAe]; exact Or.inr h
  have hS : va_S A s.heap s.heap [] := va_S.rf
  have hend : ∀ (r : Int32)  (H : Heap) (locs : List Loc) (pc : Nat) (ls : Array Slot), decode cGraph_parentOf pc = .ok (.ireturn, 1) → va_P D vwCl (wdGraph_parentOf cA ad N orderSize reached parents) H → va_D A (wdGraph_parentOf cA ad N orderSize reached parents) → va_S A s.heap H locs → post r  → W p l e (headSpec (Cond.code yGraph_parentOf cGraph_parentOf 2 (some .int) :: xW) rmGraph_parentOf).room s m ([.ref (ad 11), .int v1] : List Value).toArray below meth c H locs 0 0 (MQ below (qcGraph_parentOf D cA ad N orderSize reached parents post A) ([.ref (ad 11), .int v1] : List Value).toArray s 0 0 A) (F0 m pc ls [.int r]) := fun r  H locs pc ls hd hP hD hS hw => W.iret (v := r) hx hb hr (fun t ht hW => ⟨⟨r, (), rfl, hw, ⟨by rw [ht]; exact hP, va_K.moved hW.alike hK, hD⟩⟩, hS.F ht⟩) hS.2.2 hd
  generalize hQ : MQ below (qcGraph_parentOf D cA ad N orderSize reached parents post A) ([.ref (ad 11), .int v1] : List Value).toArray s 0 0 A = Q at hend ⊢
  have hl := lv_entry ([.ref (ad 11), .int v1]) (n := 2) (Nat.le_of_ble_eq_true rfl)
  rw [lg_entry_eq]
  generalize (lg_sl ([.ref (ad 11), .int v1]) ++ List.replicate (2 - (lg_sl ([.ref (ad 11), .int v1])).length) Slot.unset).toArray = ls at hl ⊢
  have hl : lv_has ls 2 [(0, .ref (ad 11)), (1, .int v1)] := hl
  unfold wpGraph_parentOf at hw
  refine lv_aload_n hx hb dGraph_parentOf_0 rfl (lv_at hl 0 rfl) ?_
  refine va_get (D := D) (ci := 2) (v := .ref (ad 15)) (C := "OnceNamed$Graph") (T := TX2) (N := 9) hx hb hts (fun w h => List.mem_cons_of_mem _ (inX2 w h)) hown hK hP 0 rfl rfl 4 (by decide) (hts _ (List.mem_cons_of_mem _ kw_86)) (fun _ h9 => h9) rfl dGraph_parentOf_1 ?_
  refine lv_iload_n hx hb dGraph_parentOf_4 rfl (lv_at hl 1 rfl) ?_
  have ho := hw.1
  have hw := hw.2
  refine va_iald hx hb hK hP 1 0 rfl rfl ho dGraph_parentOf_5 ?_
  exact hend (parents (Int32.toNatClampNeg v1)) _ _ _ _ dGraph_parentOf_6 hP hD hS hw
abbrev wdGraph_hasBelow (cA : ClassId) (ad : Nat → Nat) (N : Nat) (orderSize : Int32) (reached : Int32) (blw : Nat → Int32) : va_W := [((ad 11), .inr (2, [.int (nI N), .ref (ad 12), .ref (ad 13), .ref (ad 14), .ref (ad 15), .ref (ad 16), .ref (ad 17), .int orderSize, .int reached])), ((ad 13), .inl (cA, N, .inl blw))]
abbrev qcGraph_hasBelow (D : va_G) (cA : ClassId) (ad : Nat → Nat) (N : Nat) (orderSize : Int32) (reached : Int32) (blw : Nat → Int32) (post : Bool → Prop) (A : Nat → Prop) : Array Value → State → Outcome → State → Prop := va_Qi (S := Unit) (fun r u => ∃ z : Bool, r = bI z ∧ post z ) (fun u t => xB D [(cA, .int)] A (wdGraph_hasBelow cA ad N orderSize reached blw) t) A
abbrev rmGraph_hasBelow : Room := { frames := 1, cells := 0, slots := 0, locals := 21 }
set_option maxHeartbeats 4000000 in
set_option maxRecDepth 100000 in
theorem ktGraph_hasBelow (l : Launch) (D : va_G) (cA : ClassId) (ad : Nat → Nat) (N : Nat) (sz : Nat) (orderSize : Int32) (reached : Int32) (blw : Nat → Int32) (v1 : Int32) (v2 : Int32) (post : Bool → Prop) (hw : wpGraph_hasBelow N blw v1 v2 post) : Met l yGraph_hasBelow (Cond.code yGraph_hasBelow cGraph_hasBelow 3 (some .boolean) :: xW) rmGraph_hasBelow (va_Pc [.ref (ad 11), .int v1, .int v2] (xPc D [(cA, .int)] (wdGraph_hasBelow cA ad N orderSize reached blw) sz)) (qcGraph_hasBelow D cA ad N orderSize reached blw post (va_A (wdGraph_hasBelow cA ad N orderSize reached blw) sz)) 0 0 (va_A (wdGraph_hasBelow cA ad N orderSize reached blw) sz) := by
  refine Met.ofW (cc := cGraph_hasBelow) (maxL := 3) (ret := (some .boolean)) (by decide) rfl ?_
  intro p e s m args below meth c s₁ B hml hv
  obtain ⟨rfl, hsz, hP, hK, hD0, hN⟩ := hv
  have hx := B.exec
  have hb := B.bytes
  have hr := B.returns
  have hts := atoms_spec (ws := (Cond.code yGraph_hasBelow cGraph_hasBelow 3 (some .boolean) :: xW)) B.pre
  have hown : s.vm.findClass "OnceNamed$Graph" = some m.cls := findClass_of_methodNamed B.named
  have hlocks := B.notSynchronized
  subst hsz
  have hD := hD0.self (sz := s.heap.size)
  generalize hAe : va_A (wdGraph_hasBelow cA ad N orderSize reached blw) s.heap.size = A at hD ⊢
  have hA : ∀ q : Nat, s.heap.size ≤ q → A q := fun q h => by rw [← hAe]; exact Or.inr h
  have hS : va_S A s.heap s.heap [] := va_S.rf
  have hend : ∀ (r : Bool)  (H : Heap) (locs : List Loc) (pc : Nat) (ls : Array Slot), decode cGraph_hasBelow pc = .ok (.ireturn, 1) → va_P D vwCl (wdGraph_hasBelow cA ad N orderSize reached blw) H → va_D A (wdGraph_hasBelow cA ad N orderSize reached blw) → va_S A s.heap H locs → post r  → W p l e (headSpec (Cond.code yGraph_hasBelow cGraph_hasBelow 3 (some .boolean) :: xW) rmGraph_hasBelow).room s m ([.ref (ad 11), .int v1, .int v2] : List Value).toArray below meth c H locs 0 0 (MQ below (qcGraph_hasBelow D cA ad N orderSize reached blw post A) ([.ref (ad 11), .int v1, .int v2] : List Value).toArray s 0 0 A) (F0 m pc ls [.int (bI r)]) := fun r  H locs pc ls hd hP hD hS hw => W.zret (v := bI r) hx hb hr (bI_nar r) (fun t ht hW => ⟨⟨bI r, (), rfl, ⟨r, rfl, hw⟩, ⟨by rw [ht]; exact hP, va_K.moved hW.alike hK, hD⟩⟩, hS.F ht⟩) hS.2.2 hd
  generalize hQ : MQ below (qcGraph_hasBelow D cA ad N orderSize reached blw post A) ([.ref (ad 11), .int v1, .int v2] : List Value).toArray s 0 0 A = Q at hend ⊢
  have hl := lv_entry ([.ref (ad 11), .int v1, .int v2]) (n := 3) (Nat.le_of_ble_eq_true rfl)
  rw [lg_entry_eq]
  generalize (lg_sl ([.ref (ad 11), .int v1, .int v2]) ++ List.replicate (3 - (lg_sl ([.ref (ad 11), .int v1, .int v2])).length) Slot.unset).toArray = ls at hl ⊢
  have hl : lv_has ls 3 [(0, .ref (ad 11)), (1, .int v1), (2, .int v2)] := hl
  unfold wpGraph_hasBelow at hw
  refine lv_aload_n hx hb dGraph_hasBelow_0 rfl (lv_at hl 0 rfl) ?_
  refine va_get (D := D) (ci := 2) (v := .ref (ad 13)) (C := "OnceNamed$Graph") (T := TX2) (N := 9) hx hb hts (fun w h => List.mem_cons_of_mem _ (inX2 w h)) hown hK hP 0 rfl rfl 2 (by decide) (hts _ (List.mem_cons_of_mem _ kw_84)) (fun _ h9 => h9) rfl dGraph_hasBelow_1 ?_
  refine lv_iload_n hx hb dGraph_hasBelow_4 rfl (lv_at hl 1 rfl) ?_
  have ho := hw.1
  have hw := hw.2
  refine va_iald hx hb hK hP 1 0 rfl rfl ho dGraph_hasBelow_5 ?_
  refine lv_iload_n hx hb dGraph_hasBelow_6 rfl (lv_at hl 2 rfl) ?_
  refine xci (va_runSN ⟨hx, hb, hml, hown, hts⟩ (ktOn_has l D cA ad N _ (blw (Int32.toNatClampNeg v1)) v2 _ hw) ⟨va_cnB 2 hts (goodB kw_239) rfl rfl rfl hN.1 (hts _ (List.mem_cons_of_mem _ kw_1)) (by decide +kernel) ⟨Nat.le_of_ble_eq_true rfl, Nat.le_of_ble_eq_true rfl⟩, hts _ (List.mem_cons_of_mem _ kw_238), trivial⟩ (xpreS hK hP hD hN [] rfl rfl) rfl rfl hl.1 rfl (lv_room (Nat.le_of_ble_eq_true rfl)) dGraph_hasBelow_7 ⟨Nat.le_of_ble_eq_true rfl, Nat.le_of_ble_eq_true rfl⟩) hP hD hS hA [] [0, 1] rfl rfl rfl rfl [0, 1] rfl (fun _ => rfl) (fun r7 u H locs hw hP hD hS => ?_)
  obtain ⟨r7, rfl, hw⟩ := hw
  have hP : va_P D vwCl (wdGraph_hasBelow cA ad N orderSize reached blw) H := hP
  have hD : va_D A (wdGraph_hasBelow cA ad N orderSize reached blw) := hD
  exact hend r7 _ _ _ _ dGraph_hasBelow_10 hP hD hS hw
abbrev wdGraph_frontierOf (cA : ClassId) (ad : Nat → Nat) (N : Nat) (orderSize : Int32) (reached : Int32) (frontiers : Nat → Int32) : va_W := [((ad 11), .inr (2, [.int (nI N), .ref (ad 12), .ref (ad 13), .ref (ad 14), .ref (ad 15), .ref (ad 16), .ref (ad 17), .int orderSize, .int reached])), ((ad 14), .inl (cA, N, .inl frontiers))]
abbrev qcGraph_frontierOf (D : va_G) (cA : ClassId) (ad : Nat → Nat) (N : Nat) (orderSize : Int32) (reached : Int32) (frontiers : Nat → Int32) (post : Int32 → Prop) (A : Nat → Prop) : Array Value → State → Outcome → State → Prop := va_Qi (S := Unit) (fun r u => post r ) (fun u t => xB D [(cA, .int)] A (wdGraph_frontierOf cA ad N orderSize reached frontiers) t) A
abbrev rmGraph_frontierOf : Room := { frames := 0, cells := 0, slots := 0, locals := 0 }
set_option maxHeartbeats 4000000 in
set_option maxRecDepth 100000 in
theorem ktGraph_frontierOf (l : Launch) (D : va_G) (cA : ClassId) (ad : Nat → Nat) (N : Nat) (sz : Nat) (orderSize : Int32) (reached : Int32) (frontiers : Nat → Int32) (v1 : Int32) (post : Int32 → Prop) (hw : wpGraph_frontierOf N frontiers v1 post) : Met l yGraph_frontierOf (Cond.code yGraph_frontierOf cGraph_frontierOf 2 (some .int) :: xW) rmGraph_frontierOf (va_Pc [.ref (ad 11), .int v1] (xPc D [(cA, .int)] (wdGraph_frontierOf cA ad N orderSize reached frontiers) sz)) (qcGraph_frontierOf D cA ad N orderSize reached frontiers post (va_A (wdGraph_frontierOf cA ad N orderSize reached frontiers) sz)) 0 0 (va_A (wdGraph_frontierOf cA ad N orderSize reached frontiers) sz) := by
  refine Met.ofW (cc := cGraph_frontierOf) (maxL := 2) (ret := (some .int)) (by decide) rfl ?_
  intro p e s m args below meth c s₁ B hml hv
  obtain ⟨rfl, hsz, hP, hK, hD0, hN⟩ := hv
  have hx := B.exec
  have hb := B.bytes
  have hr := B.returns
  have hts := atoms_spec (ws := (Cond.code yGraph_frontierOf cGraph_frontierOf 2 (some .int) :: xW)) B.pre
  have hown : s.vm.findClass "OnceNamed$Graph" = some m.cls := findClass_of_methodNamed B.named
  have hlocks := B.notSynchronized
  subst hsz
  have hD := hD0.self (sz := s.heap.size)
  generalize hAe : va_A (wdGraph_frontierOf cA ad N orderSize reached frontiers) s.heap.size = A at hD ⊢
  have hA : ∀ q : Nat, s.heap.size ≤ q → A q := fun q h => by rw [← hAe]; exact Or.inr h
  have hS : va_S A s.heap s.heap [] := va_S.rf
  have hend : ∀ (r : Int32)  (H : Heap) (locs : List Loc) (pc : Nat) (ls : Array Slot), decode cGraph_frontierOf pc = .ok (.ireturn, 1) → va_P D vwCl (wdGraph_frontierOf cA ad N orderSize reached frontiers) H → va_D A (wdGraph_frontierOf cA ad N orderSize reached frontiers) → va_S A s.heap H locs → post r  → W p l e (headSpec (Cond.code yGraph_frontierOf cGraph_frontierOf 2 (some .int) :: xW) rmGraph_frontierOf).room s m ([.ref (ad 11), .int v1] : List Value).toArray below meth c H locs 0 0 (MQ below (qcGraph_frontierOf D cA ad N orderSize reached frontiers post A) ([.ref (ad 11), .int v1] : List Value).toArray s 0 0 A) (F0 m pc ls [.int r]) := fun r  H locs pc ls hd hP hD hS hw => W.iret (v := r) hx hb hr (fun t ht hW => ⟨⟨r, (), rfl, hw, ⟨by rw [ht]; exact hP, va_K.moved hW.alike hK, hD⟩⟩, hS.F ht⟩) hS.2.2 hd
  generalize hQ : MQ below (qcGraph_frontierOf D cA ad N orderSize reached frontiers post A) ([.ref (ad 11), .int v1] : List Value).toArray s 0 0 A = Q at hend ⊢
  have hl := lv_entry ([.ref (ad 11), .int v1]) (n := 2) (Nat.le_of_ble_eq_true rfl)
  rw [lg_entry_eq]
  generalize (lg_sl ([.ref (ad 11), .int v1]) ++ List.replicate (2 - (lg_sl ([.ref (ad 11), .int v1])).length) Slot.unset).toArray = ls at hl ⊢
  have hl : lv_has ls 2 [(0, .ref (ad 11)), (1, .int v1)] := hl
  unfold wpGraph_frontierOf at hw
  refine lv_aload_n hx hb dGraph_frontierOf_0 rfl (lv_at hl 0 rfl) ?_
  refine va_get (D := D) (ci := 2) (v := .ref (ad 14)) (C := "OnceNamed$Graph") (T := TX2) (N := 9) hx hb hts (fun w h => List.mem_cons_of_mem _ (inX2 w h)) hown hK hP 0 rfl rfl 3 (by decide) (hts _ (List.mem_cons_of_mem _ kw_85)) (fun _ h9 => h9) rfl dGraph_frontierOf_1 ?_
  refine lv_iload_n hx hb dGraph_frontierOf_4 rfl (lv_at hl 1 rfl) ?_
  have ho := hw.1
  have hw := hw.2
  refine va_iald hx hb hK hP 1 0 rfl rfl ho dGraph_frontierOf_5 ?_
  exact hend (frontiers (Int32.toNatClampNeg v1)) _ _ _ _ dGraph_frontierOf_6 hP hD hS hw
abbrev wdGraph_frontierOfAll (cA : ClassId) (ad : Nat → Nat) (N : Nat) (orderSize : Int32) (reached : Int32) (frontiers : Nat → Int32) : va_W := [((ad 11), .inr (2, [.int (nI N), .ref (ad 12), .ref (ad 13), .ref (ad 14), .ref (ad 15), .ref (ad 16), .ref (ad 17), .int orderSize, .int reached])), ((ad 14), .inl (cA, N, .inl frontiers))]
abbrev qcGraph_frontierOfAll (D : va_G) (cA : ClassId) (ad : Nat → Nat) (N : Nat) (orderSize : Int32) (reached : Int32) (frontiers : Nat → Int32) (post : Int32 → Prop) (A : Nat → Prop) : Array Value → State → Outcome → State → Prop := va_Qi (S := Unit) (fun r u => post r ) (fun u t => xB D [(cA, .int)] A (wdGraph_frontierOfAll cA ad N orderSize reached frontiers) t) A
abbrev rmGraph_frontierOfAll : Room := { frames := 1, cells := 0, slots := 0, locals := 21 }
set_option maxHeartbeats 4000000 in
set_option maxRecDepth 100000 in
theorem ktGraph_frontierOfAll (l : Launch) (D : va_G) (cA : ClassId) (ad : Nat → Nat) (N : Nat) (sz : Nat) (orderSize : Int32) (reached : Int32) (frontiers : Nat → Int32) (v1 : Int32) (post : Int32 → Prop) (hw : wpGraph_frontierOfAll N frontiers v1 post) : Met l yGraph_frontierOfAll (Cond.code yGraph_frontierOfAll cGraph_frontierOfAll 4 (some .int) :: xW) rmGraph_frontierOfAll (va_Pc [.ref (ad 11), .int v1] (xPc D [(cA, .int)] (wdGraph_frontierOfAll cA ad N orderSize reached frontiers) sz)) (qcGraph_frontierOfAll D cA ad N orderSize reached frontiers post (va_A (wdGraph_frontierOfAll cA ad N orderSize reached frontiers) sz)) 0 0 (va_A (wdGraph_frontierOfAll cA ad N orderSize reached frontiers) sz) := by
  refine Met.ofW (cc := cGraph_frontierOfAll) (maxL := 4) (ret := (some .int)) (by decide) rfl ?_
  intro p e s m args below meth c s₁ B hml hv
  obtain ⟨rfl, hsz, hP, hK, hD0, hN⟩ := hv
  have hx := B.exec
  have hb := B.bytes
  have hr := B.returns
  have hts := atoms_spec (ws := (Cond.code yGraph_frontierOfAll cGraph_frontierOfAll 4 (some .int) :: xW)) B.pre
  have hown : s.vm.findClass "OnceNamed$Graph" = some m.cls := findClass_of_methodNamed B.named
  have hlocks := B.notSynchronized
  subst hsz
  have hD := hD0.self (sz := s.heap.size)
  generalize hAe : va_A (wdGraph_frontierOfAll cA ad N orderSize reached frontiers) s.heap.size = A at hD ⊢
  have hA : ∀ q : Nat, s.heap.size ≤ q → A q := fun q h => by rw [← hAe]; exact Or.inr h
  have hS : va_S A s.heap s.heap [] := va_S.rf
  have hend : ∀ (r : Int32)  (H : Heap) (locs : List Loc) (pc : Nat) (ls : Array Slot), decode cGraph_frontierOfAll pc = .ok (.ireturn, 1) → va_P D vwCl (wdGraph_frontierOfAll cA ad N orderSize reached frontiers) H → va_D A (wdGraph_frontierOfAll cA ad N orderSize reached frontiers) → va_S A s.heap H locs → post r  → W p l e (headSpec (Cond.code yGraph_frontierOfAll cGraph_frontierOfAll 4 (some .int) :: xW) rmGraph_frontierOfAll).room s m ([.ref (ad 11), .int v1] : List Value).toArray below meth c H locs 0 0 (MQ below (qcGraph_frontierOfAll D cA ad N orderSize reached frontiers post A) ([.ref (ad 11), .int v1] : List Value).toArray s 0 0 A) (F0 m pc ls [.int r]) := fun r  H locs pc ls hd hP hD hS hw => W.iret (v := r) hx hb hr (fun t ht hW => ⟨⟨r, (), rfl, hw, ⟨by rw [ht]; exact hP, va_K.moved hW.alike hK, hD⟩⟩, hS.F ht⟩) hS.2.2 hd
  generalize hQ : MQ below (qcGraph_frontierOfAll D cA ad N orderSize reached frontiers post A) ([.ref (ad 11), .int v1] : List Value).toArray s 0 0 A = Q at hend ⊢
  have hl := lv_entry ([.ref (ad 11), .int v1]) (n := 4) (Nat.le_of_ble_eq_true rfl)
  rw [lg_entry_eq]
  generalize (lg_sl ([.ref (ad 11), .int v1]) ++ List.replicate (4 - (lg_sl ([.ref (ad 11), .int v1])).length) Slot.unset).toArray = ls at hl ⊢
  have hl : lv_has ls 4 [(0, .ref (ad 11)), (1, .int v1)] := hl
  unfold wpGraph_frontierOfAll at hw
  refine lv_iconst (v := 0) hx hb dGraph_frontierOfAll_0 (by decide) ?_
  refine lv_istore_n (lv' := [(2, .int 0), (0, .ref (ad 11)), (1, .int v1)]) hx hb dGraph_frontierOfAll_1 rfl hl (by decide) rfl (fun ls hl => ?_)
  refine lv_iconst (v := 0) hx hb dGraph_frontierOfAll_2 (by decide) ?_
  refine lv_istore_n (lv' := [(3, .int 0), (2, .int 0), (0, .ref (ad 11)), (1, .int v1)]) hx hb dGraph_frontierOfAll_3 rfl hl (by decide) rfl (fun ls hl => ?_)
  obtain ⟨k4, hw⟩ := hw
  have hlp4 : ∀ (k : Nat), ∀ (v2_L4 : Int32) (v3_L4 : Int32) (ls : Array Slot) (H : Heap) (locs : List Loc), lv_has ls 4 [(0, .ref (ad 11)), (1, .int v1), (2, .int v2_L4), (3, .int v3_L4)] → va_P D vwCl (wdGraph_frontierOfAll cA ad N orderSize reached frontiers) H → va_D A (wdGraph_frontierOfAll cA ad N orderSize reached frontiers) → va_S A s.heap H locs → lpGraph_frontierOfAll_4 N v1 frontiers post k v2_L4 v3_L4 → W p l e (headSpec (Cond.code yGraph_frontierOfAll cGraph_frontierOfAll 4 (some .int) :: xW) rmGraph_frontierOfAll).room s m ([.ref (ad 11), .int v1] : List Value).toArray below meth c H locs 0 0 Q (F0 m 4 ls []) := by
    intro k
    induction k with
    | zero => intro v2_L4 v3_L4 ls H locs hl hP hD hS hw; exact False.elim hw
    | succ k ih =>
      intro v2_L4 v3_L4 ls H locs hl hP hD hS hw
      refine lv_iload_n hx hb dGraph_frontierOfAll_4 rfl (lv_at hl 3 rfl) ?_
      refine lv_aload_n hx hb dGraph_frontierOfAll_5 rfl (lv_at hl 0 rfl) ?_
      refine va_get (D := D) (ci := 2) (v := .int (nI N)) (C := "OnceNamed$Graph") (T := TX2) (N := 9) hx hb hts (fun w h => List.mem_cons_of_mem _ (inX2 w h)) hown hK hP 0 rfl rfl 0 (by decide) (hts _ (List.mem_cons_of_mem _ kw_82)) (fun _ h9 => h9) rfl dGraph_frontierOfAll_6 ?_
      refine lv_icmp_ge (tgt := 35) hx hb dGraph_frontierOfAll_9 rfl (fun hc => ?_) (fun hc => ?_)
      · have hw := hw.1 hc
        refine lv_iload_n hx hb dGraph_frontierOfAll_35 rfl (lv_at hl 2 rfl) ?_
        exact hend v2_L4 _ _ _ _ dGraph_frontierOfAll_36 hP hD hS hw
      · have hw := hw.2 hc
        refine lv_iload_n hx hb dGraph_frontierOfAll_12 rfl (lv_at hl 1 rfl) ?_
        refine lv_iload_n hx hb dGraph_frontierOfAll_13 rfl (lv_at hl 3 rfl) ?_
        refine xci (va_runSN ⟨hx, hb, hml, hown, hts⟩ (ktOn_has l D cA ad N _ v1 v3_L4 _ hw) ⟨va_cnB 2 hts (goodB kw_239) rfl rfl rfl hN.1 (hts _ (List.mem_cons_of_mem _ kw_1)) (by decide +kernel) ⟨Nat.le_of_ble_eq_true rfl, Nat.le_of_ble_eq_true rfl⟩, hts _ (List.mem_cons_of_mem _ kw_238), trivial⟩ (xpreS hK hP hD hN [] rfl rfl) rfl rfl hl.1 rfl (lv_room (Nat.le_of_ble_eq_true rfl)) dGraph_frontierOfAll_14 ⟨Nat.le_of_ble_eq_true rfl, Nat.le_of_ble_eq_true rfl⟩) hP hD hS hA [] [0, 1] rfl rfl rfl rfl [0, 1] rfl (fun _ => rfl) (fun r14 u H locs hw hP hD hS => ?_)
        obtain ⟨r14, rfl, hw⟩ := hw
        have hP : va_P D vwCl (wdGraph_frontierOfAll cA ad N orderSize reached frontiers) H := hP
        have hD : va_D A (wdGraph_frontierOfAll cA ad N orderSize reached frontiers) := hD
        refine lv_if_eq (tgt := 29) hx hb dGraph_frontierOfAll_17 rfl (fun hc => ?_) (fun hc => ?_)
        · have hw := hw.1 (bI_0 hc)
          refine lv_iinc (k := 3) (v := (v3_L4 + 1)) (lv' := [(3, .int (v3_L4 + 1)), (0, .ref (ad 11)), (1, .int v1), (2, .int v2_L4)]) hx hb dGraph_frontierOfAll_29 hl rfl rfl (by decide) rfl (fun ls hl => ?_)
          refine lv_goto (tgt := 4) hx hb dGraph_frontierOfAll_32 rfl ?_
          exact ih v2_L4 (v3_L4 + 1) _ _ _ (lv_sub hl [1, 2, 3, 0] rfl) hP hD hS hw
        · have hw := hw.2 (bI_1 hc)
          refine lv_iload_n hx hb dGraph_frontierOfAll_20 rfl (lv_at hl 2 rfl) ?_
          refine lv_aload_n hx hb dGraph_frontierOfAll_21 rfl (lv_at hl 0 rfl) ?_
          refine va_get (D := D) (ci := 2) (v := .ref (ad 14)) (C := "OnceNamed$Graph") (T := TX2) (N := 9) hx hb hts (fun w h => List.mem_cons_of_mem _ (inX2 w h)) hown hK hP 0 rfl rfl 3 (by decide) (hts _ (List.mem_cons_of_mem _ kw_85)) (fun _ h9 => h9) rfl dGraph_frontierOfAll_22 ?_
          refine lv_iload_n hx hb dGraph_frontierOfAll_25 rfl (lv_at hl 3 rfl) ?_
          have ho := hw.1
          have hw := hw.2
          refine va_iald hx hb hK hP 1 0 rfl rfl ho dGraph_frontierOfAll_26 ?_
          refine lv_ior hx hb dGraph_frontierOfAll_27 ?_
          refine lv_topi (fun v2_28 e_v2_28 => ?_)
          have hw := hw v2_28 e_v2_28
          refine lv_istore_n (lv' := [(2, .int v2_28), (0, .ref (ad 11)), (1, .int v1), (3, .int v3_L4)]) hx hb dGraph_frontierOfAll_28 rfl hl (by decide) rfl (fun ls hl => ?_)
          refine lv_iinc (k := 3) (v := (v3_L4 + 1)) (lv' := [(3, .int (v3_L4 + 1)), (2, .int v2_28), (0, .ref (ad 11)), (1, .int v1)]) hx hb dGraph_frontierOfAll_29 hl rfl rfl (by decide) rfl (fun ls hl => ?_)
          refine lv_goto (tgt := 4) hx hb dGraph_frontierOfAll_32 rfl ?_
          exact ih v2_28 (v3_L4 + 1) _ _ _ (lv_sub hl [2, 3, 1, 0] rfl) hP hD hS hw
  refine hlp4 k4 0 0 _ _ _ (lv_sub hl [2, 3, 1, 0] rfl) hP hD hS hw
abbrev wdGraph_leadsTo (cA : ClassId) (ad : Nat → Nat) (N : Nat) (orderSize : Int32) (reached : Int32) (forerunners : Nat → Int32) : va_W := [((ad 11), .inr (2, [.int (nI N), .ref (ad 12), .ref (ad 13), .ref (ad 14), .ref (ad 15), .ref (ad 16), .ref (ad 17), .int orderSize, .int reached])), ((ad 12), .inl (cA, N, .inl forerunners))]
abbrev qcGraph_leadsTo (D : va_G) (cA : ClassId) (ad : Nat → Nat) (N : Nat) (orderSize : Int32) (reached : Int32) (forerunners : Nat → Int32) (post : Bool → Prop) (A : Nat → Prop) : Array Value → State → Outcome → State → Prop := va_Qi (S := Unit) (fun r u => ∃ z : Bool, r = bI z ∧ post z ) (fun u t => xB D [(cA, .int)] A (wdGraph_leadsTo cA ad N orderSize reached forerunners) t) A
abbrev rmGraph_leadsTo : Room := { frames := 1, cells := 0, slots := 0, locals := 21 }
set_option maxHeartbeats 4000000 in
set_option maxRecDepth 100000 in
theorem ktGraph_leadsTo (l : Launch) (D : va_G) (cA : ClassId) (ad : Nat → Nat) (N : Nat) (sz : Nat) (orderSize : Int32) (reached : Int32) (forerunners : Nat → Int32) (v1 : Int32) (v2 : Int32) (post : Bool → Prop) (hw : wpGraph_leadsTo N forerunners v1 v2 post) : Met l yGraph_leadsTo (Cond.code yGraph_leadsTo cGraph_leadsTo 3 (some .boolean) :: xW) rmGraph_leadsTo (va_Pc [.ref (ad 11), .int v1, .int v2] (xPc D [(cA, .int)] (wdGraph_leadsTo cA ad N orderSize reached forerunners) sz)) (qcGraph_leadsTo D cA ad N orderSize reached forerunners post (va_A (wdGraph_leadsTo cA ad N orderSize reached forerunners) sz)) 0 0 (va_A (wdGraph_leadsTo cA ad N orderSize reached forerunners) sz) := by
  refine Met.ofW (cc := cGraph_leadsTo) (maxL := 3) (ret := (some .boolean)) (by decide) rfl ?_
  intro p e s m args below meth c s₁ B hml hv
  obtain ⟨rfl, hsz, hP, hK, hD0, hN⟩ := hv
  have hx := B.exec
  have hb := B.bytes
  have hr := B.returns
  have hts := atoms_spec (ws := (Cond.code yGraph_leadsTo cGraph_leadsTo 3 (some .boolean) :: xW)) B.pre
  have hown : s.vm.findClass "OnceNamed$Graph" = some m.cls := findClass_of_methodNamed B.named
  have hlocks := B.notSynchronized
  subst hsz
  have hD := hD0.self (sz := s.heap.size)
  generalize hAe : va_A (wdGraph_leadsTo cA ad N orderSize reached forerunners) s.heap.size = A at hD ⊢
  have hA : ∀ q : Nat, s.heap.size ≤ q → A q := fun q h => by rw [← hAe]; exact Or.inr h
  have hS : va_S A s.heap s.heap [] := va_S.rf
  have hend : ∀ (r : Bool)  (H : Heap) (locs : List Loc) (pc : Nat) (ls : Array Slot), decode cGraph_leadsTo pc = .ok (.ireturn, 1) → va_P D vwCl (wdGraph_leadsTo cA ad N orderSize reached forerunners) H → va_D A (wdGraph_leadsTo cA ad N orderSize reached forerunners) → va_S A s.heap H locs → post r  → W p l e (headSpec (Cond.code yGraph_leadsTo cGraph_leadsTo 3 (some .boolean) :: xW) rmGraph_leadsTo).room s m ([.ref (ad 11), .int v1, .int v2] : List Value).toArray below meth c H locs 0 0 (MQ below (qcGraph_leadsTo D cA ad N orderSize reached forerunners post A) ([.ref (ad 11), .int v1, .int v2] : List Value).toArray s 0 0 A) (F0 m pc ls [.int (bI r)]) := fun r  H locs pc ls hd hP hD hS hw => W.zret (v := bI r) hx hb hr (bI_nar r) (fun t ht hW => ⟨⟨bI r, (), rfl, ⟨r, rfl, hw⟩, ⟨by rw [ht]; exact hP, va_K.moved hW.alike hK, hD⟩⟩, hS.F ht⟩) hS.2.2 hd
  generalize hQ : MQ below (qcGraph_leadsTo D cA ad N orderSize reached forerunners post A) ([.ref (ad 11), .int v1, .int v2] : List Value).toArray s 0 0 A = Q at hend ⊢
  have hl := lv_entry ([.ref (ad 11), .int v1, .int v2]) (n := 3) (Nat.le_of_ble_eq_true rfl)
  rw [lg_entry_eq]
  generalize (lg_sl ([.ref (ad 11), .int v1, .int v2]) ++ List.replicate (3 - (lg_sl ([.ref (ad 11), .int v1, .int v2])).length) Slot.unset).toArray = ls at hl ⊢
  have hl : lv_has ls 3 [(0, .ref (ad 11)), (1, .int v1), (2, .int v2)] := hl
  unfold wpGraph_leadsTo at hw
  refine lv_aload_n hx hb dGraph_leadsTo_0 rfl (lv_at hl 0 rfl) ?_
  refine va_get (D := D) (ci := 2) (v := .ref (ad 12)) (C := "OnceNamed$Graph") (T := TX2) (N := 9) hx hb hts (fun w h => List.mem_cons_of_mem _ (inX2 w h)) hown hK hP 0 rfl rfl 1 (by decide) (hts _ (List.mem_cons_of_mem _ kw_83)) (fun _ h9 => h9) rfl dGraph_leadsTo_1 ?_
  refine lv_iload_n hx hb dGraph_leadsTo_4 rfl (lv_at hl 2 rfl) ?_
  have ho := hw.1
  have hw := hw.2
  refine va_iald hx hb hK hP 1 0 rfl rfl ho dGraph_leadsTo_5 ?_
  refine lv_iload_n hx hb dGraph_leadsTo_6 rfl (lv_at hl 1 rfl) ?_
  refine xci (va_runSN ⟨hx, hb, hml, hown, hts⟩ (ktOn_has l D cA ad N _ (forerunners (Int32.toNatClampNeg v2)) v1 _ hw) ⟨va_cnB 2 hts (goodB kw_239) rfl rfl rfl hN.1 (hts _ (List.mem_cons_of_mem _ kw_1)) (by decide +kernel) ⟨Nat.le_of_ble_eq_true rfl, Nat.le_of_ble_eq_true rfl⟩, hts _ (List.mem_cons_of_mem _ kw_238), trivial⟩ (xpreS hK hP hD hN [] rfl rfl) rfl rfl hl.1 rfl (lv_room (Nat.le_of_ble_eq_true rfl)) dGraph_leadsTo_7 ⟨Nat.le_of_ble_eq_true rfl, Nat.le_of_ble_eq_true rfl⟩) hP hD hS hA [] [0, 1] rfl rfl rfl rfl [0, 1] rfl (fun _ => rfl) (fun r7 u H locs hw hP hD hS => ?_)
  obtain ⟨r7, rfl, hw⟩ := hw
  have hP : va_P D vwCl (wdGraph_leadsTo cA ad N orderSize reached forerunners) H := hP
  have hD : va_D A (wdGraph_leadsTo cA ad N orderSize reached forerunners) := hD
  exact hend r7 _ _ _ _ dGraph_leadsTo_10 hP hD hS hw
abbrev wdGraph_reachedCount (cA : ClassId) (ad : Nat → Nat) (N : Nat) (orderSize : Int32) (reached : Int32) : va_W := [((ad 11), .inr (2, [.int (nI N), .ref (ad 12), .ref (ad 13), .ref (ad 14), .ref (ad 15), .ref (ad 16), .ref (ad 17), .int orderSize, .int reached]))]
abbrev qcGraph_reachedCount (D : va_G) (cA : ClassId) (ad : Nat → Nat) (N : Nat) (orderSize : Int32) (reached : Int32) (post : Int32 → Prop) (A : Nat → Prop) : Array Value → State → Outcome → State → Prop := va_Qi (S := Unit) (fun r u => post r ) (fun u t => xB D [(cA, .int)] A (wdGraph_reachedCount cA ad N orderSize reached) t) A
abbrev rmGraph_reachedCount : Room := { frames := 0, cells := 0, slots := 0, locals := 0 }
set_option maxHeartbeats 4000000 in
set_option maxRecDepth 100000 in
theorem ktGraph_reachedCount (l : Launch) (D : va_G) (cA : ClassId) (ad : Nat → Nat) (N : Nat) (sz : Nat) (orderSize : Int32) (reached : Int32)  (post : Int32 → Prop) (hw : wpGraph_reachedCount orderSize post) : Met l yGraph_reachedCount (Cond.code yGraph_reachedCount cGraph_reachedCount 1 (some .int) :: xW) rmGraph_reachedCount (va_Pc [.ref (ad 11)] (xPc D [(cA, .int)] (wdGraph_reachedCount cA ad N orderSize reached) sz)) (qcGraph_reachedCount D cA ad N orderSize reached post (va_A (wdGraph_reachedCount cA ad N orderSize reached) sz)) 0 0 (va_A (wdGraph_reachedCount cA ad N orderSize reached) sz) := by
  refine Met.ofW (cc := cGraph_reachedCount) (maxL := 1) (ret := (some .int)) (by decide) rfl ?_
  intro p e s m args below meth c s₁ B hml hv
  obtain ⟨rfl, hsz, hP, hK, hD0, hN⟩ := hv
  have hx := B.exec
  have hb := B.bytes
  have hr := B.returns
  have hts := atoms_spec (ws := (Cond.code yGraph_reachedCount cGraph_reachedCount 1 (some .int) :: xW)) B.pre
  have hown : s.vm.findClass "OnceNamed$Graph" = some m.cls := findClass_of_methodNamed B.named
  have hlocks := B.notSynchronized
  subst hsz
  have hD := hD0.self (sz := s.heap.size)
  generalize hAe : va_A (wdGraph_reachedCount cA ad N orderSize reached) s.heap.size = A at hD ⊢
  have hA : ∀ q : Nat, s.heap.size ≤ q → A q := fun q h => by rw [← hAe]; exact Or.inr h
  have hS : va_S A s.heap s.heap [] := va_S.rf
  have hend : ∀ (r : Int32)  (H : Heap) (locs : List Loc) (pc : Nat) (ls : Array Slot), decode cGraph_reachedCount pc = .ok (.ireturn, 1) → va_P D vwCl (wdGraph_reachedCount cA ad N orderSize reached) H → va_D A (wdGraph_reachedCount cA ad N orderSize reached) → va_S A s.heap H locs → post r  → W p l e (headSpec (Cond.code yGraph_reachedCount cGraph_reachedCount 1 (some .int) :: xW) rmGraph_reachedCount).room s m ([.ref (ad 11)] : List Value).toArray below meth c H locs 0 0 (MQ below (qcGraph_reachedCount D cA ad N orderSize reached post A) ([.ref (ad 11)] : List Value).toArray s 0 0 A) (F0 m pc ls [.int r]) := fun r  H locs pc ls hd hP hD hS hw => W.iret (v := r) hx hb hr (fun t ht hW => ⟨⟨r, (), rfl, hw, ⟨by rw [ht]; exact hP, va_K.moved hW.alike hK, hD⟩⟩, hS.F ht⟩) hS.2.2 hd
  generalize hQ : MQ below (qcGraph_reachedCount D cA ad N orderSize reached post A) ([.ref (ad 11)] : List Value).toArray s 0 0 A = Q at hend ⊢
  have hl := lv_entry ([.ref (ad 11)]) (n := 1) (Nat.le_of_ble_eq_true rfl)
  rw [lg_entry_eq]
  generalize (lg_sl ([.ref (ad 11)]) ++ List.replicate (1 - (lg_sl ([.ref (ad 11)])).length) Slot.unset).toArray = ls at hl ⊢
  have hl : lv_has ls 1 [(0, .ref (ad 11))] := hl
  unfold wpGraph_reachedCount at hw
  refine lv_aload_n hx hb dGraph_reachedCount_0 rfl (lv_at hl 0 rfl) ?_
  refine va_get (D := D) (ci := 2) (v := .int orderSize) (C := "OnceNamed$Graph") (T := TX2) (N := 9) hx hb hts (fun w h => List.mem_cons_of_mem _ (inX2 w h)) hown hK hP 0 rfl rfl 7 (by decide) (hts _ (List.mem_cons_of_mem _ kw_89)) (fun _ h9 => h9) rfl dGraph_reachedCount_1 ?_
  exact hend orderSize _ _ _ _ dGraph_reachedCount_4 hP hD hS hw
abbrev wdGraph_inOrder (cA : ClassId) (ad : Nat → Nat) (N : Nat) (orderSize : Int32) (reached : Int32) (order : Nat → Int32) : va_W := [((ad 11), .inr (2, [.int (nI N), .ref (ad 12), .ref (ad 13), .ref (ad 14), .ref (ad 15), .ref (ad 16), .ref (ad 17), .int orderSize, .int reached])), ((ad 16), .inl (cA, N, .inl order))]
abbrev qcGraph_inOrder (D : va_G) (cA : ClassId) (ad : Nat → Nat) (N : Nat) (orderSize : Int32) (reached : Int32) (order : Nat → Int32) (post : Int32 → Prop) (A : Nat → Prop) : Array Value → State → Outcome → State → Prop := va_Qi (S := Unit) (fun r u => post r ) (fun u t => xB D [(cA, .int)] A (wdGraph_inOrder cA ad N orderSize reached order) t) A
abbrev rmGraph_inOrder : Room := { frames := 0, cells := 0, slots := 0, locals := 0 }
set_option maxHeartbeats 4000000 in
set_option maxRecDepth 100000 in
theorem ktGraph_inOrder (l : Launch) (D : va_G) (cA : ClassId) (ad : Nat → Nat) (N : Nat) (sz : Nat) (orderSize : Int32) (reached : Int32) (order : Nat → Int32) (v1 : Int32) (post : Int32 → Prop) (hw : wpGraph_inOrder N order v1 post) : Met l yGraph_inOrder (Cond.code yGraph_inOrder cGraph_inOrder 2 (some .int) :: xW) rmGraph_inOrder (va_Pc [.ref (ad 11), .int v1] (xPc D [(cA, .int)] (wdGraph_inOrder cA ad N orderSize reached order) sz)) (qcGraph_inOrder D cA ad N orderSize reached order post (va_A (wdGraph_inOrder cA ad N orderSize reached order) sz)) 0 0 (va_A (wdGraph_inOrder cA ad N orderSize reached order) sz) := by
  refine Met.ofW (cc := cGraph_inOrder) (maxL := 2) (ret := (some .int)) (by decide) rfl ?_
  intro p e s m args below meth c s₁ B hml hv
  obtain ⟨rfl, hsz, hP, hK, hD0, hN⟩ := hv
  have hx := B.exec
  have hb := B.bytes
  have hr := B.returns
  have hts := atoms_spec (ws := (Cond.code yGraph_inOrder cGraph_inOrder 2 (some .int) :: xW)) B.pre
  have hown : s.vm.findClass "OnceNamed$Graph" = some m.cls := findClass_of_methodNamed B.named
  have hlocks := B.notSynchronized
  subst hsz
  have hD := hD0.self (sz := s.heap.size)
  generalize hAe : va_A (wdGraph_inOrder cA ad N orderSize reached order) s.heap.size = A at hD ⊢
  have hA : ∀ q : Nat, s.heap.size ≤ q → A q := fun q h => by rw [← hAe]; exact Or.inr h
  have hS : va_S A s.heap s.heap [] := va_S.rf
  have hend : ∀ (r : Int32)  (H : Heap) (locs : List Loc) (pc : Nat) (ls : Array Slot), decode cGraph_inOrder pc = .ok (.ireturn, 1) → va_P D vwCl (wdGraph_inOrder cA ad N orderSize reached order) H → va_D A (wdGraph_inOrder cA ad N orderSize reached order) → va_S A s.heap H locs → post r  → W p l e (headSpec (Cond.code yGraph_inOrder cGraph_inOrder 2 (some .int) :: xW) rmGraph_inOrder).room s m ([.ref (ad 11), .int v1] : List Value).toArray below meth c H locs 0 0 (MQ below (qcGraph_inOrder D cA ad N orderSize reached order post A) ([.ref (ad 11), .int v1] : List Value).toArray s 0 0 A) (F0 m pc ls [.int r]) := fun r  H locs pc ls hd hP hD hS hw => W.iret (v := r) hx hb hr (fun t ht hW => ⟨⟨r, (), rfl, hw, ⟨by rw [ht]; exact hP, va_K.moved hW.alike hK, hD⟩⟩, hS.F ht⟩) hS.2.2 hd
  generalize hQ : MQ below (qcGraph_inOrder D cA ad N orderSize reached order post A) ([.ref (ad 11), .int v1] : List Value).toArray s 0 0 A = Q at hend ⊢
  have hl := lv_entry ([.ref (ad 11), .int v1]) (n := 2) (Nat.le_of_ble_eq_true rfl)
  rw [lg_entry_eq]
  generalize (lg_sl ([.ref (ad 11), .int v1]) ++ List.replicate (2 - (lg_sl ([.ref (ad 11), .int v1])).length) Slot.unset).toArray = ls at hl ⊢
  have hl : lv_has ls 2 [(0, .ref (ad 11)), (1, .int v1)] := hl
  unfold wpGraph_inOrder at hw
  refine lv_aload_n hx hb dGraph_inOrder_0 rfl (lv_at hl 0 rfl) ?_
  refine va_get (D := D) (ci := 2) (v := .ref (ad 16)) (C := "OnceNamed$Graph") (T := TX2) (N := 9) hx hb hts (fun w h => List.mem_cons_of_mem _ (inX2 w h)) hown hK hP 0 rfl rfl 5 (by decide) (hts _ (List.mem_cons_of_mem _ kw_87)) (fun _ h9 => h9) rfl dGraph_inOrder_1 ?_
  refine lv_iload_n hx hb dGraph_inOrder_4 rfl (lv_at hl 1 rfl) ?_
  have ho := hw.1
  have hw := hw.2
  refine va_iald hx hb hK hP 1 0 rfl rfl ho dGraph_inOrder_5 ?_
  exact hend (order (Int32.toNatClampNeg v1)) _ _ _ _ dGraph_inOrder_6 hP hD hS hw
