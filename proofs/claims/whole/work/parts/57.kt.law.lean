abbrev wdLw_step (cA : ClassId) (cL : ClassId) (ad : Nat → Nat) (oa : Nat) (N : Nat) (formStands : Bool) (stepCount : Nat → Int32) (kind : Nat → Int32) (target : Nat → Int32) (first : Nat → Int32) (second : Nat → Int32) (outc : Nat → Int64) : va_W := [((ad 0), .inr (0, [.int (nI N), .ref (ad 1), .ref (ad 11), .ref (ad 18), .ref (ad 30), .ref (ad 35), .ref (ad 38), .ref (ad 40), .ref (ad 42), .int (bI formStands)])), ((ad 1), .inr (1, [.int (nI N), .ref (ad 2), .ref (ad 3), .ref (ad 4), .ref (ad 5), .ref (ad 6), .ref (ad 7), .ref (ad 8), .ref (ad 9), .ref (ad 10)])), ((ad 2), .inl (cA, N, .inl stepCount)), ((ad 3), .inl (cA, N * 6, .inl kind)), ((ad 4), .inl (cA, N * 6, .inl target)), ((ad 5), .inl (cA, N * 6, .inl first)), ((ad 6), .inl (cA, N * 6, .inl second)), (oa, .inl (cL, 1, .inr (.inl outc)))]
abbrev qcLw_step (D : va_G) (cA : ClassId) (cL : ClassId) (ad : Nat → Nat) (oa : Nat) (N : Nat) (formStands : Bool) (stepCount : Nat → Int32) (kind : Nat → Int32) (target : Nat → Int32) (first : Nat → Int32) (second : Nat → Int32) (outc : Nat → Int64) (post : Int32 → Bool → (Nat → Int32) → (Nat → Int32) → (Nat → Int32) → (Nat → Int32) → (Nat → Int32) → (Nat → Int64) → Prop) (A : Nat → Prop) : Array Value → State → Outcome → State → Prop := va_Qi (S := (Bool) × (Nat → Int32) × (Nat → Int32) × (Nat → Int32) × (Nat → Int32) × (Nat → Int32) × (Nat → Int64)) (fun r u => post r u.1 u.2.1 u.2.2.1 u.2.2.2.1 u.2.2.2.2.1 u.2.2.2.2.2.1 u.2.2.2.2.2.2) (fun u t => xB D [(cA, .int), (cL, .long)] A (wdLw_step cA cL ad oa N u.1 u.2.1 u.2.2.1 u.2.2.2.1 u.2.2.2.2.1 u.2.2.2.2.2.1 u.2.2.2.2.2.2) t) A
abbrev rmLw_step : Room := { frames := 9, cells := 5, slots := 30, locals := 158 }
set_option maxHeartbeats 4000000 in
set_option maxRecDepth 100000 in
theorem ktLw_step (l : Launch) (hfl : l.flags = Jvm.pinnedFlags ++ [Jvm.noTraceFlag]) (D : va_G) (cA : ClassId) (cL : ClassId) (ad : Nat → Nat) (oa : Nat) (N : Nat) (sz : Nat) (formStands : Bool) (stepCount : Nat → Int32) (kind : Nat → Int32) (target : Nat → Int32) (first : Nat → Int32) (second : Nat → Int32) (outc : Nat → Int64) (v1 : Int32) (v2 : Int32) (v3 : Int32) (v4 : Int32) (v5 : Int32) (post : Int32 → Bool → (Nat → Int32) → (Nat → Int32) → (Nat → Int32) → (Nat → Int32) → (Nat → Int32) → (Nat → Int64) → Prop) (hw : wpLw_step N formStands stepCount kind target first second outc v1 v2 v3 v4 v5 post) : Met l yLw_step (Cond.codeWith yLw_step cLw_step 8 (some .int) [(0, 16, 19, 13), (0, 16, 23, 15)] :: xW) rmLw_step (va_Pc [.ref (ad 0), .int v1, .int v2, .int v3, .int v4, .int v5, .ref oa] (xPcL D [(cA, .int), (cL, .long)] (wdLw_step cA cL ad oa N formStands stepCount kind target first second outc) sz)) (qcLw_step D cA cL ad oa N formStands stepCount kind target first second outc post (va_A (wdLw_step cA cL ad oa N formStands stepCount kind target first second outc) sz)) 5 30 (va_A (wdLw_step cA cL ad oa N formStands stepCount kind target first second outc) sz) := by
  refine va_MetW (hh := [(0, 16, 19, 13), (0, 16, 23, 15)]) (cc := cLw_step) (maxL := 8) (ret := (some .int)) (by decide) rfl ?_
  intro p e s m args below meth c s₁ B hml hv
  obtain ⟨rfl, ⟨⟨hsz, hP, hK, hD0, hN⟩, hE0⟩, hNc⟩ := hv
  have hx := B.exec
  have hb := B.bytes
  have hr := B.returns
  have hts := atoms_spec (ws := (Cond.codeWith yLw_step cLw_step 8 (some .int) [(0, 16, 19, 13), (0, 16, 23, 15)] :: xW)) B.pre
  have hown : s.vm.findClass "OnceNamedLaw" = some m.cls := findClass_of_methodNamed B.named
  have hlocks := B.notSynchronized
  subst hsz
  have hD := hD0.self (sz := s.heap.size)
  have hE := xEEfull hE0
  have hexc := xhandlers B.named B.method (Stand.of_body B).code (hts _ List.mem_cons_self)
  generalize hAe : va_A (wdLw_step cA cL ad oa N formStands stepCount kind target first second outc) s.heap.size = A at hD hE ⊢
  have hA : ∀ q : Nat, s.heap.size ≤ q → A q := fun q h => by rw [← hAe]; exact Or.inr h
  have hS : va_S A s.heap s.heap [] := va_S.rf
  have hend : ∀ (r : Int32) (u0 : Bool) (u1 : Nat → Int32) (u2 : Nat → Int32) (u3 : Nat → Int32) (u4 : Nat → Int32) (u5 : Nat → Int32) (u6 : Nat → Int64) (H : Heap) (locs : List Loc) (pc : Nat) (ls : Array Slot), decode cLw_step pc = .ok (.ireturn, 1) → va_P D vwCl (wdLw_step cA cL ad oa N u0 u1 u2 u3 u4 u5 u6) H → va_D A (wdLw_step cA cL ad oa N u0 u1 u2 u3 u4 u5 u6) → va_S A s.heap H locs → post r u0 u1 u2 u3 u4 u5 u6 → W p l e (headSpec (Cond.codeWith yLw_step cLw_step 8 (some .int) [(0, 16, 19, 13), (0, 16, 23, 15)] :: xW) rmLw_step).room s m ([.ref (ad 0), .int v1, .int v2, .int v3, .int v4, .int v5, .ref oa] : List Value).toArray below meth c H locs 5 30 (MQ below (qcLw_step D cA cL ad oa N formStands stepCount kind target first second outc post A) ([.ref (ad 0), .int v1, .int v2, .int v3, .int v4, .int v5, .ref oa] : List Value).toArray s 5 30 A) (F0 m pc ls [.int r]) := fun r u0 u1 u2 u3 u4 u5 u6 H locs pc ls hd hP hD hS hw => W.iret (v := r) hx hb hr (fun t ht hW => ⟨⟨r, (u0, u1, u2, u3, u4, u5, u6), rfl, hw, ⟨by rw [ht]; exact hP, va_K.moved hW.alike hK, hD⟩⟩, hS.F ht⟩) hS.2.2 hd
  generalize hQ : MQ below (qcLw_step D cA cL ad oa N formStands stepCount kind target first second outc post A) ([.ref (ad 0), .int v1, .int v2, .int v3, .int v4, .int v5, .ref oa] : List Value).toArray s 5 30 A = Q at hend ⊢
  have hl := lv_entry ([.ref (ad 0), .int v1, .int v2, .int v3, .int v4, .int v5, .ref oa]) (n := 8) (Nat.le_of_ble_eq_true rfl)
  rw [lg_entry_eq]
  generalize (lg_sl ([.ref (ad 0), .int v1, .int v2, .int v3, .int v4, .int v5, .ref oa]) ++ List.replicate (8 - (lg_sl ([.ref (ad 0), .int v1, .int v2, .int v3, .int v4, .int v5, .ref oa])).length) Slot.unset).toArray = ls at hl ⊢
  have hl : lv_has ls 8 [(0, .ref (ad 0)), (1, .int v1), (2, .int v2), (3, .int v3), (4, .int v4), (5, .int v5), (6, .ref oa)] := hl
  unfold wpLw_step at hw
  refine lv_aload hx hb dLw_step_0 (lv_at hl 6 rfl) ?_
  refine lv_iconst (v := 0) hx hb dLw_step_2 (by decide) ?_
  refine lv_aload_n hx hb dLw_step_3 rfl (lv_at hl 0 rfl) ?_
  refine lv_iload_n hx hb dLw_step_4 rfl (lv_at hl 1 rfl) ?_
  refine lv_iload_n hx hb dLw_step_5 rfl (lv_at hl 2 rfl) ?_
  refine lv_iload_n hx hb dLw_step_6 rfl (lv_at hl 3 rfl) ?_
  refine lv_iload hx hb dLw_step_7 (lv_at hl 4 rfl) ?_
  refine lv_iload hx hb dLw_step_9 (lv_at hl 5 rfl) ?_
  refine xcci (xrunV ⟨hx, hb, hml, hown, hts⟩ (ktOn_step l hfl D cA ad N _ formStands stepCount kind target first second v1 v2 v3 v4 v5 _ _ hw) (cwV 5 hts (goodV kw_409 kw_410 kw_411 kw_1 kw_412) rfl rfl rfl (by decide +kernel) ⟨Nat.le_of_ble_eq_true rfl, Nat.le_of_ble_eq_true rfl⟩) (xpreVE hE hS (hK.sub [0] rfl) hP hD hN [0, 1, 2, 3, 4, 5, 6] rfl rfl 0 rfl rfl) rfl rfl hl.1 rfl (lv_room (Nat.le_of_ble_eq_true rfl)) dLw_step_11 ⟨Nat.le_of_ble_eq_true rfl, Nat.le_of_ble_eq_true rfl⟩) hown hNc [(⟨0, 16, 19, 13⟩, 0), (⟨0, 16, 23, 15⟩, 1)] hexc (by intro q hq; simp only [List.mem_cons, List.not_mem_nil, or_false] at hq; rcases hq with rfl | rfl; all_goals first | exact ⟨by decide, by decide, by decide, hts _ (List.mem_cons_of_mem _ kw_407)⟩ | exact ⟨by decide, by decide, by decide, hts _ (List.mem_cons_of_mem _ kw_408)⟩) (fun k u h => by rcases h.1 with rfl | rfl; all_goals exact ⟨by decide, by simp⟩) hP hD hS hA [0, 1, 2, 3, 4, 5, 6] [7] rfl rfl rfl rfl [1, 2, 3, 4, 5, 6, 7, 0] rfl (fun _ => rfl) (fun r11 u H locs hw hP hD hS => ?_) (fun k x u H locs hw hP hD hS => ?_)
  ·
    obtain ⟨formStands_11, stepCount_11, kind_11, target_11, first_11, second_11⟩ := u
    try dsimp only at hw
    have hP : va_P D vwCl (wdLw_step cA cL ad oa N formStands_11 stepCount_11 kind_11 target_11 first_11 second_11 outc) H := hP
    have hD : va_D A (wdLw_step cA cL ad oa N formStands_11 stepCount_11 kind_11 target_11 first_11 second_11 outc) := hD
    refine lv_i2l (v := (Int32.toInt64 r11)) hx hb dLw_step_14 rfl ?_
    have ho := hw.1
    have hw := hw.2
    refine va_last hx hb hK hP hD hS 7 1 rfl rfl ho dLw_step_15 (fun H locs hP hD hS => ?_)
    have hP : va_P D vwCl (wdLw_step cA cL ad oa N formStands_11 stepCount_11 kind_11 target_11 first_11 second_11 (vp_updL outc (Int32.toNatClampNeg 0) (Int32.toInt64 r11))) H := hP
    have hD : va_D A (wdLw_step cA cL ad oa N formStands_11 stepCount_11 kind_11 target_11 first_11 second_11 (vp_updL outc (Int32.toNatClampNeg 0) (Int32.toInt64 r11))) := hD
    refine lv_goto (tgt := 27) hx hb dLw_step_16 rfl ?_
    refine lv_iconst (v := 0) hx hb dLw_step_27 (by decide) ?_
    exact hend 0 formStands_11 stepCount_11 kind_11 target_11 first_11 second_11 (vp_updL outc (Int32.toNatClampNeg 0) (Int32.toInt64 r11)) _ _ _ _ dLw_step_28 hP hD hS hw
  ·
    obtain ⟨formStands_11, stepCount_11, kind_11, target_11, first_11, second_11⟩ := u
    try dsimp only at hw
    have hP : va_P D vwCl (wdLw_step cA cL ad oa N formStands_11 stepCount_11 kind_11 target_11 first_11 second_11 outc) H := hP
    have hD : va_D A (wdLw_step cA cL ad oa N formStands_11 stepCount_11 kind_11 target_11 first_11 second_11 outc) := hD
    obtain ⟨hk, hw⟩ := hw
    rcases hk with rfl | rfl
    · have hw := hw.1 rfl
      refine W.eq (g2 := F0 m 19 ls [.ref x]) rfl ?_
      refine lv_astore (lv' := [(7, .ref x), (0, .ref (ad 0)), (1, .int v1), (2, .int v2), (3, .int v3), (4, .int v4), (5, .int v5), (6, .ref oa)]) hx hb dLw_step_19 hl (by decide) rfl (fun ls hl => ?_)
      refine lv_iconst (v := 1) hx hb dLw_step_21 (by decide) ?_
      exact hend 1 formStands_11 stepCount_11 kind_11 target_11 first_11 second_11 outc _ _ _ _ dLw_step_22 hP hD hS hw
    · have hw := hw.2 rfl
      refine W.eq (g2 := F0 m 23 ls [.ref x]) rfl ?_
      refine lv_astore (lv' := [(7, .ref x), (0, .ref (ad 0)), (1, .int v1), (2, .int v2), (3, .int v3), (4, .int v4), (5, .int v5), (6, .ref oa)]) hx hb dLw_step_23 hl (by decide) rfl (fun ls hl => ?_)
      refine lv_iconst (v := 2) hx hb dLw_step_25 (by decide) ?_
      exact hend 2 formStands_11 stepCount_11 kind_11 target_11 first_11 second_11 outc _ _ _ _ dLw_step_26 hP hD hS hw
abbrev wdLw_go (cA : ClassId) (cL : ClassId) (ad : Nat → Nat) (oa : Nat) (N : Nat) (formStands : Bool) (forkVariable : Nat → Int32) (yes : Nat → Int32) (no : Nat → Int32) (orderSize : Int32) (reached : Int32) (forerunners : Nat → Int32) (blw : Nat → Int32) (frontiers : Nat → Int32) (parents : Nat → Int32) (order : Nat → Int32) (waiting : Nat → Int32) : va_W := [((ad 0), .inr (0, [.int (nI N), .ref (ad 1), .ref (ad 11), .ref (ad 18), .ref (ad 30), .ref (ad 35), .ref (ad 38), .ref (ad 40), .ref (ad 42), .int (bI formStands)])), ((ad 1), .inr (1, [.int (nI N), .ref (ad 2), .ref (ad 3), .ref (ad 4), .ref (ad 5), .ref (ad 6), .ref (ad 7), .ref (ad 8), .ref (ad 9), .ref (ad 10)])), ((ad 7), .inl (cA, N, .inl forkVariable)), ((ad 8), .inl (cA, N, .inl yes)), ((ad 9), .inl (cA, N, .inl no)), ((ad 11), .inr (2, [.int (nI N), .ref (ad 12), .ref (ad 13), .ref (ad 14), .ref (ad 15), .ref (ad 16), .ref (ad 17), .int orderSize, .int reached])), ((ad 12), .inl (cA, N, .inl forerunners)), ((ad 13), .inl (cA, N, .inl blw)), ((ad 14), .inl (cA, N, .inl frontiers)), ((ad 15), .inl (cA, N, .inl parents)), ((ad 16), .inl (cA, N, .inl order)), ((ad 17), .inl (cA, N, .inl waiting))]
abbrev qcLw_go (D : va_G) (cA : ClassId) (cL : ClassId) (ad : Nat → Nat) (oa : Nat) (N : Nat) (formStands : Bool) (forkVariable : Nat → Int32) (yes : Nat → Int32) (no : Nat → Int32) (orderSize : Int32) (reached : Int32) (forerunners : Nat → Int32) (blw : Nat → Int32) (frontiers : Nat → Int32) (parents : Nat → Int32) (order : Nat → Int32) (waiting : Nat → Int32) (post : Int32 → Bool → (Nat → Int32) → (Nat → Int32) → (Nat → Int32) → Int32 → Int32 → (Nat → Int32) → (Nat → Int32) → (Nat → Int32) → (Nat → Int32) → (Nat → Int32) → (Nat → Int32) → Prop) (A : Nat → Prop) : Array Value → State → Outcome → State → Prop := va_Qi (S := (Bool) × (Nat → Int32) × (Nat → Int32) × (Nat → Int32) × (Int32) × (Int32) × (Nat → Int32) × (Nat → Int32) × (Nat → Int32) × (Nat → Int32) × (Nat → Int32) × (Nat → Int32)) (fun r u => post r u.1 u.2.1 u.2.2.1 u.2.2.2.1 u.2.2.2.2.1 u.2.2.2.2.2.1 u.2.2.2.2.2.2.1 u.2.2.2.2.2.2.2.1 u.2.2.2.2.2.2.2.2.1 u.2.2.2.2.2.2.2.2.2.1 u.2.2.2.2.2.2.2.2.2.2.1 u.2.2.2.2.2.2.2.2.2.2.2) (fun u t => xB D [(cA, .int), (cL, .long)] A (wdLw_go cA cL ad oa N u.1 u.2.1 u.2.2.1 u.2.2.2.1 u.2.2.2.2.1 u.2.2.2.2.2.1 u.2.2.2.2.2.2.1 u.2.2.2.2.2.2.2.1 u.2.2.2.2.2.2.2.2.1 u.2.2.2.2.2.2.2.2.2.1 u.2.2.2.2.2.2.2.2.2.2.1 u.2.2.2.2.2.2.2.2.2.2.2) t) A
abbrev rmLw_go : Room := { frames := 8, cells := 2, slots := 12, locals := 133 }
set_option maxHeartbeats 4000000 in
set_option maxRecDepth 100000 in
theorem ktLw_go (l : Launch) (hfl : l.flags = Jvm.pinnedFlags ++ [Jvm.noTraceFlag]) (D : va_G) (cA : ClassId) (cL : ClassId) (ad : Nat → Nat) (oa : Nat) (N : Nat) (sz : Nat) (formStands : Bool) (forkVariable : Nat → Int32) (yes : Nat → Int32) (no : Nat → Int32) (orderSize : Int32) (reached : Int32) (forerunners : Nat → Int32) (blw : Nat → Int32) (frontiers : Nat → Int32) (parents : Nat → Int32) (order : Nat → Int32) (waiting : Nat → Int32) (v1 : Int32) (v2 : Int32) (post : Int32 → Bool → (Nat → Int32) → (Nat → Int32) → (Nat → Int32) → Int32 → Int32 → (Nat → Int32) → (Nat → Int32) → (Nat → Int32) → (Nat → Int32) → (Nat → Int32) → (Nat → Int32) → Prop) (hw : wpLw_go N formStands forkVariable yes no orderSize reached forerunners blw frontiers parents order waiting v1 v2 post) : Met l yLw_go (Cond.codeWith yLw_go cLw_go 4 (some .int) [(0, 6, 9, 13)] :: xW) rmLw_go (va_Pc [.ref (ad 0), .int v1, .int v2] (xPcL D [(cA, .int), (cL, .long)] (wdLw_go cA cL ad oa N formStands forkVariable yes no orderSize reached forerunners blw frontiers parents order waiting) sz)) (qcLw_go D cA cL ad oa N formStands forkVariable yes no orderSize reached forerunners blw frontiers parents order waiting post (va_A (wdLw_go cA cL ad oa N formStands forkVariable yes no orderSize reached forerunners blw frontiers parents order waiting) sz)) 2 12 (va_A (wdLw_go cA cL ad oa N formStands forkVariable yes no orderSize reached forerunners blw frontiers parents order waiting) sz) := by
  refine va_MetW (hh := [(0, 6, 9, 13)]) (cc := cLw_go) (maxL := 4) (ret := (some .int)) (by decide) rfl ?_
  intro p e s m args below meth c s₁ B hml hv
  obtain ⟨rfl, ⟨⟨hsz, hP, hK, hD0, hN⟩, hE0⟩, hNc⟩ := hv
  have hx := B.exec
  have hb := B.bytes
  have hr := B.returns
  have hts := atoms_spec (ws := (Cond.codeWith yLw_go cLw_go 4 (some .int) [(0, 6, 9, 13)] :: xW)) B.pre
  have hown : s.vm.findClass "OnceNamedLaw" = some m.cls := findClass_of_methodNamed B.named
  have hlocks := B.notSynchronized
  subst hsz
  have hD := hD0.self (sz := s.heap.size)
  have hE := xEEfull hE0
  have hexc := xhandlers B.named B.method (Stand.of_body B).code (hts _ List.mem_cons_self)
  generalize hAe : va_A (wdLw_go cA cL ad oa N formStands forkVariable yes no orderSize reached forerunners blw frontiers parents order waiting) s.heap.size = A at hD hE ⊢
  have hA : ∀ q : Nat, s.heap.size ≤ q → A q := fun q h => by rw [← hAe]; exact Or.inr h
  have hS : va_S A s.heap s.heap [] := va_S.rf
  have hend : ∀ (r : Int32) (u0 : Bool) (u1 : Nat → Int32) (u2 : Nat → Int32) (u3 : Nat → Int32) (u4 : Int32) (u5 : Int32) (u6 : Nat → Int32) (u7 : Nat → Int32) (u8 : Nat → Int32) (u9 : Nat → Int32) (u10 : Nat → Int32) (u11 : Nat → Int32) (H : Heap) (locs : List Loc) (pc : Nat) (ls : Array Slot), decode cLw_go pc = .ok (.ireturn, 1) → va_P D vwCl (wdLw_go cA cL ad oa N u0 u1 u2 u3 u4 u5 u6 u7 u8 u9 u10 u11) H → va_D A (wdLw_go cA cL ad oa N u0 u1 u2 u3 u4 u5 u6 u7 u8 u9 u10 u11) → va_S A s.heap H locs → post r u0 u1 u2 u3 u4 u5 u6 u7 u8 u9 u10 u11 → W p l e (headSpec (Cond.codeWith yLw_go cLw_go 4 (some .int) [(0, 6, 9, 13)] :: xW) rmLw_go).room s m ([.ref (ad 0), .int v1, .int v2] : List Value).toArray below meth c H locs 2 12 (MQ below (qcLw_go D cA cL ad oa N formStands forkVariable yes no orderSize reached forerunners blw frontiers parents order waiting post A) ([.ref (ad 0), .int v1, .int v2] : List Value).toArray s 2 12 A) (F0 m pc ls [.int r]) := fun r u0 u1 u2 u3 u4 u5 u6 u7 u8 u9 u10 u11 H locs pc ls hd hP hD hS hw => W.iret (v := r) hx hb hr (fun t ht hW => ⟨⟨r, (u0, u1, u2, u3, u4, u5, u6, u7, u8, u9, u10, u11), rfl, hw, ⟨by rw [ht]; exact hP, va_K.moved hW.alike hK, hD⟩⟩, hS.F ht⟩) hS.2.2 hd
  generalize hQ : MQ below (qcLw_go D cA cL ad oa N formStands forkVariable yes no orderSize reached forerunners blw frontiers parents order waiting post A) ([.ref (ad 0), .int v1, .int v2] : List Value).toArray s 2 12 A = Q at hend ⊢
  have hl := lv_entry ([.ref (ad 0), .int v1, .int v2]) (n := 4) (Nat.le_of_ble_eq_true rfl)
  rw [lg_entry_eq]
  generalize (lg_sl ([.ref (ad 0), .int v1, .int v2]) ++ List.replicate (4 - (lg_sl ([.ref (ad 0), .int v1, .int v2])).length) Slot.unset).toArray = ls at hl ⊢
  have hl : lv_has ls 4 [(0, .ref (ad 0)), (1, .int v1), (2, .int v2)] := hl
  unfold wpLw_go at hw
  refine lv_aload_n hx hb dLw_go_0 rfl (lv_at hl 0 rfl) ?_
  refine lv_iload_n hx hb dLw_go_1 rfl (lv_at hl 1 rfl) ?_
  refine lv_iload_n hx hb dLw_go_2 rfl (lv_at hl 2 rfl) ?_
  refine xccv (xrunV ⟨hx, hb, hml, hown, hts⟩ (ktOn_go l hfl D cA ad N _ formStands forkVariable yes no orderSize reached forerunners blw frontiers parents order waiting v1 v2 _ _ hw) (cwV 2 hts (goodV kw_523 kw_524 kw_525 kw_1 kw_526) rfl rfl rfl (by decide +kernel) ⟨Nat.le_of_ble_eq_true rfl, Nat.le_of_ble_eq_true rfl⟩) (xpreVE hE hS (hK.sub [0] rfl) hP hD hN [0, 1, 2, 3, 4, 5, 6, 7, 8, 9, 10, 11] rfl rfl 0 rfl rfl) rfl rfl hl.1 rfl (lv_room (Nat.le_of_ble_eq_true rfl)) dLw_go_3 ⟨Nat.le_of_ble_eq_true rfl, Nat.le_of_ble_eq_true rfl⟩) hown hNc [(⟨0, 6, 9, 13⟩, 0)] hexc (by intro q hq; simp only [List.mem_cons, List.not_mem_nil, or_false] at hq; rcases hq with rfl; all_goals first | exact ⟨by decide, by decide, by decide, hts _ (List.mem_cons_of_mem _ kw_407)⟩) (fun k u h => by rcases h.1 with rfl; all_goals exact ⟨by decide, by simp⟩) hP hD hS hA [0, 1, 2, 3, 4, 5, 6, 7, 8, 9, 10, 11] [] rfl rfl rfl rfl [0, 1, 2, 3, 4, 5, 6, 7, 8, 9, 10, 11] rfl (fun _ => rfl) (fun u H locs hw hP hD hS => ?_) (fun k x u H locs hw hP hD hS => ?_)
  ·
    obtain ⟨formStands_3, forkVariable_3, yes_3, no_3, orderSize_3, reached_3, forerunners_3, blw_3, frontiers_3, parents_3, order_3, waiting_3⟩ := u
    try dsimp only at hw
    have hP : va_P D vwCl (wdLw_go cA cL ad oa N formStands_3 forkVariable_3 yes_3 no_3 orderSize_3 reached_3 forerunners_3 blw_3 frontiers_3 parents_3 order_3 waiting_3) H := hP
    have hD : va_D A (wdLw_go cA cL ad oa N formStands_3 forkVariable_3 yes_3 no_3 orderSize_3 reached_3 forerunners_3 blw_3 frontiers_3 parents_3 order_3 waiting_3) := hD
    refine lv_goto (tgt := 12) hx hb dLw_go_6 rfl ?_
    refine lv_iconst (v := 0) hx hb dLw_go_12 (by decide) ?_
    exact hend 0 formStands_3 forkVariable_3 yes_3 no_3 orderSize_3 reached_3 forerunners_3 blw_3 frontiers_3 parents_3 order_3 waiting_3 _ _ _ _ dLw_go_13 hP hD hS hw
  ·
    obtain ⟨formStands_3, forkVariable_3, yes_3, no_3, orderSize_3, reached_3, forerunners_3, blw_3, frontiers_3, parents_3, order_3, waiting_3⟩ := u
    try dsimp only at hw
    have hP : va_P D vwCl (wdLw_go cA cL ad oa N formStands_3 forkVariable_3 yes_3 no_3 orderSize_3 reached_3 forerunners_3 blw_3 frontiers_3 parents_3 order_3 waiting_3) H := hP
    have hD : va_D A (wdLw_go cA cL ad oa N formStands_3 forkVariable_3 yes_3 no_3 orderSize_3 reached_3 forerunners_3 blw_3 frontiers_3 parents_3 order_3 waiting_3) := hD
    obtain ⟨hk, hw⟩ := hw
    rcases hk with rfl
    · have hw := hw rfl
      refine W.eq (g2 := F0 m 9 ls [.ref x]) rfl ?_
      refine lv_astore_n (lv' := [(3, .ref x), (0, .ref (ad 0)), (1, .int v1), (2, .int v2)]) hx hb dLw_go_9 rfl hl (by decide) rfl (fun ls hl => ?_)
      refine lv_iconst (v := 1) hx hb dLw_go_10 (by decide) ?_
      exact hend 1 formStands_3 forkVariable_3 yes_3 no_3 orderSize_3 reached_3 forerunners_3 blw_3 frontiers_3 parents_3 order_3 waiting_3 _ _ _ _ dLw_go_11 hP hD hS hw
abbrev wdLw_fork (cA : ClassId) (cL : ClassId) (ad : Nat → Nat) (oa : Nat) (N : Nat) (formStands : Bool) (forkVariable : Nat → Int32) (yes : Nat → Int32) (no : Nat → Int32) (orderSize : Int32) (reached : Int32) (forerunners : Nat → Int32) (blw : Nat → Int32) (frontiers : Nat → Int32) (parents : Nat → Int32) (order : Nat → Int32) (waiting : Nat → Int32) : va_W := [((ad 0), .inr (0, [.int (nI N), .ref (ad 1), .ref (ad 11), .ref (ad 18), .ref (ad 30), .ref (ad 35), .ref (ad 38), .ref (ad 40), .ref (ad 42), .int (bI formStands)])), ((ad 1), .inr (1, [.int (nI N), .ref (ad 2), .ref (ad 3), .ref (ad 4), .ref (ad 5), .ref (ad 6), .ref (ad 7), .ref (ad 8), .ref (ad 9), .ref (ad 10)])), ((ad 7), .inl (cA, N, .inl forkVariable)), ((ad 8), .inl (cA, N, .inl yes)), ((ad 9), .inl (cA, N, .inl no)), ((ad 11), .inr (2, [.int (nI N), .ref (ad 12), .ref (ad 13), .ref (ad 14), .ref (ad 15), .ref (ad 16), .ref (ad 17), .int orderSize, .int reached])), ((ad 12), .inl (cA, N, .inl forerunners)), ((ad 13), .inl (cA, N, .inl blw)), ((ad 14), .inl (cA, N, .inl frontiers)), ((ad 15), .inl (cA, N, .inl parents)), ((ad 16), .inl (cA, N, .inl order)), ((ad 17), .inl (cA, N, .inl waiting))]
abbrev qcLw_fork (D : va_G) (cA : ClassId) (cL : ClassId) (ad : Nat → Nat) (oa : Nat) (N : Nat) (formStands : Bool) (forkVariable : Nat → Int32) (yes : Nat → Int32) (no : Nat → Int32) (orderSize : Int32) (reached : Int32) (forerunners : Nat → Int32) (blw : Nat → Int32) (frontiers : Nat → Int32) (parents : Nat → Int32) (order : Nat → Int32) (waiting : Nat → Int32) (post : Int32 → Bool → (Nat → Int32) → (Nat → Int32) → (Nat → Int32) → Int32 → Int32 → (Nat → Int32) → (Nat → Int32) → (Nat → Int32) → (Nat → Int32) → (Nat → Int32) → (Nat → Int32) → Prop) (A : Nat → Prop) : Array Value → State → Outcome → State → Prop := va_Qi (S := (Bool) × (Nat → Int32) × (Nat → Int32) × (Nat → Int32) × (Int32) × (Int32) × (Nat → Int32) × (Nat → Int32) × (Nat → Int32) × (Nat → Int32) × (Nat → Int32) × (Nat → Int32)) (fun r u => post r u.1 u.2.1 u.2.2.1 u.2.2.2.1 u.2.2.2.2.1 u.2.2.2.2.2.1 u.2.2.2.2.2.2.1 u.2.2.2.2.2.2.2.1 u.2.2.2.2.2.2.2.2.1 u.2.2.2.2.2.2.2.2.2.1 u.2.2.2.2.2.2.2.2.2.2.1 u.2.2.2.2.2.2.2.2.2.2.2) (fun u t => xB D [(cA, .int), (cL, .long)] A (wdLw_fork cA cL ad oa N u.1 u.2.1 u.2.2.1 u.2.2.2.1 u.2.2.2.2.1 u.2.2.2.2.2.1 u.2.2.2.2.2.2.1 u.2.2.2.2.2.2.2.1 u.2.2.2.2.2.2.2.2.1 u.2.2.2.2.2.2.2.2.2.1 u.2.2.2.2.2.2.2.2.2.2.1 u.2.2.2.2.2.2.2.2.2.2.2) t) A
abbrev rmLw_fork : Room := { frames := 8, cells := 4, slots := 24, locals := 135 }
set_option maxHeartbeats 4000000 in
set_option maxRecDepth 100000 in
theorem ktLw_fork (l : Launch) (hfl : l.flags = Jvm.pinnedFlags ++ [Jvm.noTraceFlag]) (D : va_G) (cA : ClassId) (cL : ClassId) (ad : Nat → Nat) (oa : Nat) (N : Nat) (sz : Nat) (formStands : Bool) (forkVariable : Nat → Int32) (yes : Nat → Int32) (no : Nat → Int32) (orderSize : Int32) (reached : Int32) (forerunners : Nat → Int32) (blw : Nat → Int32) (frontiers : Nat → Int32) (parents : Nat → Int32) (order : Nat → Int32) (waiting : Nat → Int32) (v1 : Int32) (v2 : Int32) (v3 : Int32) (v4 : Int32) (post : Int32 → Bool → (Nat → Int32) → (Nat → Int32) → (Nat → Int32) → Int32 → Int32 → (Nat → Int32) → (Nat → Int32) → (Nat → Int32) → (Nat → Int32) → (Nat → Int32) → (Nat → Int32) → Prop) (hw : wpLw_fork N formStands forkVariable yes no orderSize reached forerunners blw frontiers parents order waiting v1 v2 v3 v4 post) : Met l yLw_fork (Cond.codeWith yLw_fork cLw_fork 6 (some .int) [(0, 9, 12, 13)] :: xW) rmLw_fork (va_Pc [.ref (ad 0), .int v1, .int v2, .int v3, .int v4] (xPcL D [(cA, .int), (cL, .long)] (wdLw_fork cA cL ad oa N formStands forkVariable yes no orderSize reached forerunners blw frontiers parents order waiting) sz)) (qcLw_fork D cA cL ad oa N formStands forkVariable yes no orderSize reached forerunners blw frontiers parents order waiting post (va_A (wdLw_fork cA cL ad oa N formStands forkVariable yes no orderSize reached forerunners blw frontiers parents order waiting) sz)) 4 24 (va_A (wdLw_fork cA cL ad oa N formStands forkVariable yes no orderSize reached forerunners blw frontiers parents order waiting) sz) := by
  refine va_MetW (hh := [(0, 9, 12, 13)]) (cc := cLw_fork) (maxL := 6) (ret := (some .int)) (by decide) rfl ?_
  intro p e s m args below meth c s₁ B hml hv
  obtain ⟨rfl, ⟨⟨hsz, hP, hK, hD0, hN⟩, hE0⟩, hNc⟩ := hv
  have hx := B.exec
  have hb := B.bytes
  have hr := B.returns
  have hts := atoms_spec (ws := (Cond.codeWith yLw_fork cLw_fork 6 (some .int) [(0, 9, 12, 13)] :: xW)) B.pre
  have hown : s.vm.findClass "OnceNamedLaw" = some m.cls := findClass_of_methodNamed B.named
  have hlocks := B.notSynchronized
  subst hsz
  have hD := hD0.self (sz := s.heap.size)
  have hE := xEEfull hE0
  have hexc := xhandlers B.named B.method (Stand.of_body B).code (hts _ List.mem_cons_self)
  generalize hAe : va_A (wdLw_fork cA cL ad oa N formStands forkVariable yes no orderSize reached forerunners blw frontiers parents order waiting) s.heap.size = A at hD hE ⊢
  have hA : ∀ q : Nat, s.heap.size ≤ q → A q := fun q h => by rw [← hAe]; exact Or.inr h
  have hS : va_S A s.heap s.heap [] := va_S.rf
  have hend : ∀ (r : Int32) (u0 : Bool) (u1 : Nat → Int32) (u2 : Nat → Int32) (u3 : Nat → Int32) (u4 : Int32) (u5 : Int32) (u6 : Nat → Int32) (u7 : Nat → Int32) (u8 : Nat → Int32) (u9 : Nat → Int32) (u10 : Nat → Int32) (u11 : Nat → Int32) (H : Heap) (locs : List Loc) (pc : Nat) (ls : Array Slot), decode cLw_fork pc = .ok (.ireturn, 1) → va_P D vwCl (wdLw_fork cA cL ad oa N u0 u1 u2 u3 u4 u5 u6 u7 u8 u9 u10 u11) H → va_D A (wdLw_fork cA cL ad oa N u0 u1 u2 u3 u4 u5 u6 u7 u8 u9 u10 u11) → va_S A s.heap H locs → post r u0 u1 u2 u3 u4 u5 u6 u7 u8 u9 u10 u11 → W p l e (headSpec (Cond.codeWith yLw_fork cLw_fork 6 (some .int) [(0, 9, 12, 13)] :: xW) rmLw_fork).room s m ([.ref (ad 0), .int v1, .int v2, .int v3, .int v4] : List Value).toArray below meth c H locs 4 24 (MQ below (qcLw_fork D cA cL ad oa N formStands forkVariable yes no orderSize reached forerunners blw frontiers parents order waiting post A) ([.ref (ad 0), .int v1, .int v2, .int v3, .int v4] : List Value).toArray s 4 24 A) (F0 m pc ls [.int r]) := fun r u0 u1 u2 u3 u4 u5 u6 u7 u8 u9 u10 u11 H locs pc ls hd hP hD hS hw => W.iret (v := r) hx hb hr (fun t ht hW => ⟨⟨r, (u0, u1, u2, u3, u4, u5, u6, u7, u8, u9, u10, u11), rfl, hw, ⟨by rw [ht]; exact hP, va_K.moved hW.alike hK, hD⟩⟩, hS.F ht⟩) hS.2.2 hd
  generalize hQ : MQ below (qcLw_fork D cA cL ad oa N formStands forkVariable yes no orderSize reached forerunners blw frontiers parents order waiting post A) ([.ref (ad 0), .int v1, .int v2, .int v3, .int v4] : List Value).toArray s 4 24 A = Q at hend ⊢
  have hl := lv_entry ([.ref (ad 0), .int v1, .int v2, .int v3, .int v4]) (n := 6) (Nat.le_of_ble_eq_true rfl)
  rw [lg_entry_eq]
  generalize (lg_sl ([.ref (ad 0), .int v1, .int v2, .int v3, .int v4]) ++ List.replicate (6 - (lg_sl ([.ref (ad 0), .int v1, .int v2, .int v3, .int v4])).length) Slot.unset).toArray = ls at hl ⊢
  have hl : lv_has ls 6 [(0, .ref (ad 0)), (1, .int v1), (2, .int v2), (3, .int v3), (4, .int v4)] := hl
  unfold wpLw_fork at hw
  refine lv_aload_n hx hb dLw_fork_0 rfl (lv_at hl 0 rfl) ?_
  refine lv_iload_n hx hb dLw_fork_1 rfl (lv_at hl 1 rfl) ?_
  refine lv_iload_n hx hb dLw_fork_2 rfl (lv_at hl 2 rfl) ?_
  refine lv_iload_n hx hb dLw_fork_3 rfl (lv_at hl 3 rfl) ?_
  refine lv_iload hx hb dLw_fork_4 (lv_at hl 4 rfl) ?_
  refine xccv (xrunV ⟨hx, hb, hml, hown, hts⟩ (ktOn_fork l hfl D cA ad N _ formStands forkVariable yes no orderSize reached forerunners blw frontiers parents order waiting v1 v2 v3 v4 _ _ hw) (cwV 4 hts (goodV kw_538 kw_539 kw_540 kw_1 kw_541) rfl rfl rfl (by decide +kernel) ⟨Nat.le_of_ble_eq_true rfl, Nat.le_of_ble_eq_true rfl⟩) (xpreVE hE hS (hK.sub [0] rfl) hP hD hN [0, 1, 2, 3, 4, 5, 6, 7, 8, 9, 10, 11] rfl rfl 0 rfl rfl) rfl rfl hl.1 rfl (lv_room (Nat.le_of_ble_eq_true rfl)) dLw_fork_6 ⟨Nat.le_of_ble_eq_true rfl, Nat.le_of_ble_eq_true rfl⟩) hown hNc [(⟨0, 9, 12, 13⟩, 0)] hexc (by intro q hq; simp only [List.mem_cons, List.not_mem_nil, or_false] at hq; rcases hq with rfl; all_goals first | exact ⟨by decide, by decide, by decide, hts _ (List.mem_cons_of_mem _ kw_407)⟩) (fun k u h => by rcases h.1 with rfl; all_goals exact ⟨by decide, by simp⟩) hP hD hS hA [0, 1, 2, 3, 4, 5, 6, 7, 8, 9, 10, 11] [] rfl rfl rfl rfl [0, 1, 2, 3, 4, 5, 6, 7, 8, 9, 10, 11] rfl (fun _ => rfl) (fun u H locs hw hP hD hS => ?_) (fun k x u H locs hw hP hD hS => ?_)
  ·
    obtain ⟨formStands_6, forkVariable_6, yes_6, no_6, orderSize_6, reached_6, forerunners_6, blw_6, frontiers_6, parents_6, order_6, waiting_6⟩ := u
    try dsimp only at hw
    have hP : va_P D vwCl (wdLw_fork cA cL ad oa N formStands_6 forkVariable_6 yes_6 no_6 orderSize_6 reached_6 forerunners_6 blw_6 frontiers_6 parents_6 order_6 waiting_6) H := hP
    have hD : va_D A (wdLw_fork cA cL ad oa N formStands_6 forkVariable_6 yes_6 no_6 orderSize_6 reached_6 forerunners_6 blw_6 frontiers_6 parents_6 order_6 waiting_6) := hD
    refine lv_goto (tgt := 16) hx hb dLw_fork_9 rfl ?_
    refine lv_iconst (v := 0) hx hb dLw_fork_16 (by decide) ?_
    exact hend 0 formStands_6 forkVariable_6 yes_6 no_6 orderSize_6 reached_6 forerunners_6 blw_6 frontiers_6 parents_6 order_6 waiting_6 _ _ _ _ dLw_fork_17 hP hD hS hw
  ·
    obtain ⟨formStands_6, forkVariable_6, yes_6, no_6, orderSize_6, reached_6, forerunners_6, blw_6, frontiers_6, parents_6, order_6, waiting_6⟩ := u
    try dsimp only at hw
    have hP : va_P D vwCl (wdLw_fork cA cL ad oa N formStands_6 forkVariable_6 yes_6 no_6 orderSize_6 reached_6 forerunners_6 blw_6 frontiers_6 parents_6 order_6 waiting_6) H := hP
    have hD : va_D A (wdLw_fork cA cL ad oa N formStands_6 forkVariable_6 yes_6 no_6 orderSize_6 reached_6 forerunners_6 blw_6 frontiers_6 parents_6 order_6 waiting_6) := hD
    obtain ⟨hk, hw⟩ := hw
    rcases hk with rfl
    · have hw := hw rfl
      refine W.eq (g2 := F0 m 12 ls [.ref x]) rfl ?_
      refine lv_astore (lv' := [(5, .ref x), (0, .ref (ad 0)), (1, .int v1), (2, .int v2), (3, .int v3), (4, .int v4)]) hx hb dLw_fork_12 hl (by decide) rfl (fun ls hl => ?_)
      refine lv_iconst (v := 1) hx hb dLw_fork_14 (by decide) ?_
      exact hend 1 formStands_6 forkVariable_6 yes_6 no_6 orderSize_6 reached_6 forerunners_6 blw_6 frontiers_6 parents_6 order_6 waiting_6 _ _ _ _ dLw_fork_15 hP hD hS hw
abbrev wdLw_stop (cA : ClassId) (cL : ClassId) (ad : Nat → Nat) (oa : Nat) (N : Nat) (formStands : Bool) (forkVariable : Nat → Int32) (yes : Nat → Int32) (no : Nat → Int32) (orderSize : Int32) (reached : Int32) (forerunners : Nat → Int32) (blw : Nat → Int32) (frontiers : Nat → Int32) (parents : Nat → Int32) (order : Nat → Int32) (waiting : Nat → Int32) : va_W := [((ad 0), .inr (0, [.int (nI N), .ref (ad 1), .ref (ad 11), .ref (ad 18), .ref (ad 30), .ref (ad 35), .ref (ad 38), .ref (ad 40), .ref (ad 42), .int (bI formStands)])), ((ad 1), .inr (1, [.int (nI N), .ref (ad 2), .ref (ad 3), .ref (ad 4), .ref (ad 5), .ref (ad 6), .ref (ad 7), .ref (ad 8), .ref (ad 9), .ref (ad 10)])), ((ad 7), .inl (cA, N, .inl forkVariable)), ((ad 8), .inl (cA, N, .inl yes)), ((ad 9), .inl (cA, N, .inl no)), ((ad 11), .inr (2, [.int (nI N), .ref (ad 12), .ref (ad 13), .ref (ad 14), .ref (ad 15), .ref (ad 16), .ref (ad 17), .int orderSize, .int reached])), ((ad 12), .inl (cA, N, .inl forerunners)), ((ad 13), .inl (cA, N, .inl blw)), ((ad 14), .inl (cA, N, .inl frontiers)), ((ad 15), .inl (cA, N, .inl parents)), ((ad 16), .inl (cA, N, .inl order)), ((ad 17), .inl (cA, N, .inl waiting))]
abbrev qcLw_stop (D : va_G) (cA : ClassId) (cL : ClassId) (ad : Nat → Nat) (oa : Nat) (N : Nat) (formStands : Bool) (forkVariable : Nat → Int32) (yes : Nat → Int32) (no : Nat → Int32) (orderSize : Int32) (reached : Int32) (forerunners : Nat → Int32) (blw : Nat → Int32) (frontiers : Nat → Int32) (parents : Nat → Int32) (order : Nat → Int32) (waiting : Nat → Int32) (post : Int32 → Bool → (Nat → Int32) → (Nat → Int32) → (Nat → Int32) → Int32 → Int32 → (Nat → Int32) → (Nat → Int32) → (Nat → Int32) → (Nat → Int32) → (Nat → Int32) → (Nat → Int32) → Prop) (A : Nat → Prop) : Array Value → State → Outcome → State → Prop := va_Qi (S := (Bool) × (Nat → Int32) × (Nat → Int32) × (Nat → Int32) × (Int32) × (Int32) × (Nat → Int32) × (Nat → Int32) × (Nat → Int32) × (Nat → Int32) × (Nat → Int32) × (Nat → Int32)) (fun r u => post r u.1 u.2.1 u.2.2.1 u.2.2.2.1 u.2.2.2.2.1 u.2.2.2.2.2.1 u.2.2.2.2.2.2.1 u.2.2.2.2.2.2.2.1 u.2.2.2.2.2.2.2.2.1 u.2.2.2.2.2.2.2.2.2.1 u.2.2.2.2.2.2.2.2.2.2.1 u.2.2.2.2.2.2.2.2.2.2.2) (fun u t => xB D [(cA, .int), (cL, .long)] A (wdLw_stop cA cL ad oa N u.1 u.2.1 u.2.2.1 u.2.2.2.1 u.2.2.2.2.1 u.2.2.2.2.2.1 u.2.2.2.2.2.2.1 u.2.2.2.2.2.2.2.1 u.2.2.2.2.2.2.2.2.1 u.2.2.2.2.2.2.2.2.2.1 u.2.2.2.2.2.2.2.2.2.2.1 u.2.2.2.2.2.2.2.2.2.2.2) t) A
abbrev rmLw_stop : Room := { frames := 8, cells := 1, slots := 6, locals := 132 }
set_option maxHeartbeats 4000000 in
set_option maxRecDepth 100000 in
theorem ktLw_stop (l : Launch) (hfl : l.flags = Jvm.pinnedFlags ++ [Jvm.noTraceFlag]) (D : va_G) (cA : ClassId) (cL : ClassId) (ad : Nat → Nat) (oa : Nat) (N : Nat) (sz : Nat) (formStands : Bool) (forkVariable : Nat → Int32) (yes : Nat → Int32) (no : Nat → Int32) (orderSize : Int32) (reached : Int32) (forerunners : Nat → Int32) (blw : Nat → Int32) (frontiers : Nat → Int32) (parents : Nat → Int32) (order : Nat → Int32) (waiting : Nat → Int32) (v1 : Int32) (post : Int32 → Bool → (Nat → Int32) → (Nat → Int32) → (Nat → Int32) → Int32 → Int32 → (Nat → Int32) → (Nat → Int32) → (Nat → Int32) → (Nat → Int32) → (Nat → Int32) → (Nat → Int32) → Prop) (hw : wpLw_stop N formStands forkVariable yes no orderSize reached forerunners blw frontiers parents order waiting v1 post) : Met l yLw_stop (Cond.codeWith yLw_stop cLw_stop 3 (some .int) [(0, 5, 8, 13)] :: xW) rmLw_stop (va_Pc [.ref (ad 0), .int v1] (xPcL D [(cA, .int), (cL, .long)] (wdLw_stop cA cL ad oa N formStands forkVariable yes no orderSize reached forerunners blw frontiers parents order waiting) sz)) (qcLw_stop D cA cL ad oa N formStands forkVariable yes no orderSize reached forerunners blw frontiers parents order waiting post (va_A (wdLw_stop cA cL ad oa N formStands forkVariable yes no orderSize reached forerunners blw frontiers parents order waiting) sz)) 1 6 (va_A (wdLw_stop cA cL ad oa N formStands forkVariable yes no orderSize reached forerunners blw frontiers parents order waiting) sz) := by
  refine va_MetW (hh := [(0, 5, 8, 13)]) (cc := cLw_stop) (maxL := 3) (ret := (some .int)) (by decide) rfl ?_
  intro p e s m args below meth c s₁ B hml hv
  obtain ⟨rfl, ⟨⟨hsz, hP, hK, hD0, hN⟩, hE0⟩, hNc⟩ := hv
  have hx := B.exec
  have hb := B.bytes
  have hr := B.returns
  have hts := atoms_spec (ws := (Cond.codeWith yLw_stop cLw_stop 3 (some .int) [(0, 5, 8, 13)] :: xW)) B.pre
  have hown : s.vm.findClass "OnceNamedLaw" = some m.cls := findClass_of_methodNamed B.named
  have hlocks := B.notSynchronized
  subst hsz
  have hD := hD0.self (sz := s.heap.size)
  have hE := xEEfull hE0
  have hexc := xhandlers B.named B.method (Stand.of_body B).code (hts _ List.mem_cons_self)
  generalize hAe : va_A (wdLw_stop cA cL ad oa N formStands forkVariable yes no orderSize reached forerunners blw frontiers parents order waiting) s.heap.size = A at hD hE ⊢
  have hA : ∀ q : Nat, s.heap.size ≤ q → A q := fun q h => by rw [← hAe]; exact Or.inr h
  have hS : va_S A s.heap s.heap [] := va_S.rf
  have hend : ∀ (r : Int32) (u0 : Bool) (u1 : Nat → Int32) (u2 : Nat → Int32) (u3 : Nat → Int32) (u4 : Int32) (u5 : Int32) (u6 : Nat → Int32) (u7 : Nat → Int32) (u8 : Nat → Int32) (u9 : Nat → Int32) (u10 : Nat → Int32) (u11 : Nat → Int32) (H : Heap) (locs : List Loc) (pc : Nat) (ls : Array Slot), decode cLw_stop pc = .ok (.ireturn, 1) → va_P D vwCl (wdLw_stop cA cL ad oa N u0 u1 u2 u3 u4 u5 u6 u7 u8 u9 u10 u11) H → va_D A (wdLw_stop cA cL ad oa N u0 u1 u2 u3 u4 u5 u6 u7 u8 u9 u10 u11) → va_S A s.heap H locs → post r u0 u1 u2 u3 u4 u5 u6 u7 u8 u9 u10 u11 → W p l e (headSpec (Cond.codeWith yLw_stop cLw_stop 3 (some .int) [(0, 5, 8, 13)] :: xW) rmLw_stop).room s m ([.ref (ad 0), .int v1] : List Value).toArray below meth c H locs 1 6 (MQ below (qcLw_stop D cA cL ad oa N formStands forkVariable yes no orderSize reached forerunners blw frontiers parents order waiting post A) ([.ref (ad 0), .int v1] : List Value).toArray s 1 6 A) (F0 m pc ls [.int r]) := fun r u0 u1 u2 u3 u4 u5 u6 u7 u8 u9 u10 u11 H locs pc ls hd hP hD hS hw => W.iret (v := r) hx hb hr (fun t ht hW => ⟨⟨r, (u0, u1, u2, u3, u4, u5, u6, u7, u8, u9, u10, u11), rfl, hw, ⟨by rw [ht]; exact hP, va_K.moved hW.alike hK, hD⟩⟩, hS.F ht⟩) hS.2.2 hd
  generalize hQ : MQ below (qcLw_stop D cA cL ad oa N formStands forkVariable yes no orderSize reached forerunners blw frontiers parents order waiting post A) ([.ref (ad 0), .int v1] : List Value).toArray s 1 6 A = Q at hend ⊢
  have hl := lv_entry ([.ref (ad 0), .int v1]) (n := 3) (Nat.le_of_ble_eq_true rfl)
  rw [lg_entry_eq]
  generalize (lg_sl ([.ref (ad 0), .int v1]) ++ List.replicate (3 - (lg_sl ([.ref (ad 0), .int v1])).length) Slot.unset).toArray = ls at hl ⊢
  have hl : lv_has ls 3 [(0, .ref (ad 0)), (1, .int v1)] := hl
  unfold wpLw_stop at hw
  refine lv_aload_n hx hb dLw_stop_0 rfl (lv_at hl 0 rfl) ?_
  refine lv_iload_n hx hb dLw_stop_1 rfl (lv_at hl 1 rfl) ?_
  refine xccv (xrunV ⟨hx, hb, hml, hown, hts⟩ (ktOn_stop l hfl D cA ad N _ formStands forkVariable yes no orderSize reached forerunners blw frontiers parents order waiting v1 _ _ hw) (cwV 1 hts (goodV kw_545 kw_546 kw_547 kw_1 kw_548) rfl rfl rfl (by decide +kernel) ⟨Nat.le_of_ble_eq_true rfl, Nat.le_of_ble_eq_true rfl⟩) (xpreVE hE hS (hK.sub [0] rfl) hP hD hN [0, 1, 2, 3, 4, 5, 6, 7, 8, 9, 10, 11] rfl rfl 0 rfl rfl) rfl rfl hl.1 rfl (lv_room (Nat.le_of_ble_eq_true rfl)) dLw_stop_2 ⟨Nat.le_of_ble_eq_true rfl, Nat.le_of_ble_eq_true rfl⟩) hown hNc [(⟨0, 5, 8, 13⟩, 0)] hexc (by intro q hq; simp only [List.mem_cons, List.not_mem_nil, or_false] at hq; rcases hq with rfl; all_goals first | exact ⟨by decide, by decide, by decide, hts _ (List.mem_cons_of_mem _ kw_407)⟩) (fun k u h => by rcases h.1 with rfl; all_goals exact ⟨by decide, by simp⟩) hP hD hS hA [0, 1, 2, 3, 4, 5, 6, 7, 8, 9, 10, 11] [] rfl rfl rfl rfl [0, 1, 2, 3, 4, 5, 6, 7, 8, 9, 10, 11] rfl (fun _ => rfl) (fun u H locs hw hP hD hS => ?_) (fun k x u H locs hw hP hD hS => ?_)
  ·
    obtain ⟨formStands_2, forkVariable_2, yes_2, no_2, orderSize_2, reached_2, forerunners_2, blw_2, frontiers_2, parents_2, order_2, waiting_2⟩ := u
    try dsimp only at hw
    have hP : va_P D vwCl (wdLw_stop cA cL ad oa N formStands_2 forkVariable_2 yes_2 no_2 orderSize_2 reached_2 forerunners_2 blw_2 frontiers_2 parents_2 order_2 waiting_2) H := hP
    have hD : va_D A (wdLw_stop cA cL ad oa N formStands_2 forkVariable_2 yes_2 no_2 orderSize_2 reached_2 forerunners_2 blw_2 frontiers_2 parents_2 order_2 waiting_2) := hD
    refine lv_goto (tgt := 11) hx hb dLw_stop_5 rfl ?_
    refine lv_iconst (v := 0) hx hb dLw_stop_11 (by decide) ?_
    exact hend 0 formStands_2 forkVariable_2 yes_2 no_2 orderSize_2 reached_2 forerunners_2 blw_2 frontiers_2 parents_2 order_2 waiting_2 _ _ _ _ dLw_stop_12 hP hD hS hw
  ·
    obtain ⟨formStands_2, forkVariable_2, yes_2, no_2, orderSize_2, reached_2, forerunners_2, blw_2, frontiers_2, parents_2, order_2, waiting_2⟩ := u
    try dsimp only at hw
    have hP : va_P D vwCl (wdLw_stop cA cL ad oa N formStands_2 forkVariable_2 yes_2 no_2 orderSize_2 reached_2 forerunners_2 blw_2 frontiers_2 parents_2 order_2 waiting_2) H := hP
    have hD : va_D A (wdLw_stop cA cL ad oa N formStands_2 forkVariable_2 yes_2 no_2 orderSize_2 reached_2 forerunners_2 blw_2 frontiers_2 parents_2 order_2 waiting_2) := hD
    obtain ⟨hk, hw⟩ := hw
    rcases hk with rfl
    · have hw := hw rfl
      refine W.eq (g2 := F0 m 8 ls [.ref x]) rfl ?_
      refine lv_astore_n (lv' := [(2, .ref x), (0, .ref (ad 0)), (1, .int v1)]) hx hb dLw_stop_8 rfl hl (by decide) rfl (fun ls hl => ?_)
      refine lv_iconst (v := 1) hx hb dLw_stop_9 (by decide) ?_
      exact hend 1 formStands_2 forkVariable_2 yes_2 no_2 orderSize_2 reached_2 forerunners_2 blw_2 frontiers_2 parents_2 order_2 waiting_2 _ _ _ _ dLw_stop_10 hP hD hS hw
abbrev wdLw_start (cA : ClassId) (cL : ClassId) (ad : Nat → Nat) (oa : Nat) (N : Nat) (formStands : Bool) (starts : Nat → Int32) : va_W := [((ad 0), .inr (0, [.int (nI N), .ref (ad 1), .ref (ad 11), .ref (ad 18), .ref (ad 30), .ref (ad 35), .ref (ad 38), .ref (ad 40), .ref (ad 42), .int (bI formStands)])), ((ad 1), .inr (1, [.int (nI N), .ref (ad 2), .ref (ad 3), .ref (ad 4), .ref (ad 5), .ref (ad 6), .ref (ad 7), .ref (ad 8), .ref (ad 9), .ref (ad 10)])), ((ad 10), .inl (cA, 6, .inl starts))]
abbrev qcLw_start (D : va_G) (cA : ClassId) (cL : ClassId) (ad : Nat → Nat) (oa : Nat) (N : Nat) (formStands : Bool) (starts : Nat → Int32) (post : Int32 → Bool → (Nat → Int32) → Prop) (A : Nat → Prop) : Array Value → State → Outcome → State → Prop := va_Qi (S := (Bool) × (Nat → Int32)) (fun r u => post r u.1 u.2) (fun u t => xB D [(cA, .int), (cL, .long)] A (wdLw_start cA cL ad oa N u.1 u.2) t) A
abbrev rmLw_start : Room := { frames := 8, cells := 1, slots := 6, locals := 132 }
set_option maxHeartbeats 4000000 in
set_option maxRecDepth 100000 in
theorem ktLw_start (l : Launch) (hfl : l.flags = Jvm.pinnedFlags ++ [Jvm.noTraceFlag]) (D : va_G) (cA : ClassId) (cL : ClassId) (ad : Nat → Nat) (oa : Nat) (N : Nat) (sz : Nat) (formStands : Bool) (starts : Nat → Int32) (v1 : Int32) (v2 : Int32) (post : Int32 → Bool → (Nat → Int32) → Prop) (hw : wpLw_start formStands starts v1 v2 post) : Met l yLw_start (Cond.codeWith yLw_start cLw_start 4 (some .int) [(0, 6, 9, 13)] :: xW) rmLw_start (va_Pc [.ref (ad 0), .int v1, .int v2] (xPcL D [(cA, .int), (cL, .long)] (wdLw_start cA cL ad oa N formStands starts) sz)) (qcLw_start D cA cL ad oa N formStands starts post (va_A (wdLw_start cA cL ad oa N formStands starts) sz)) 1 6 (va_A (wdLw_start cA cL ad oa N formStands starts) sz) := by
  refine va_MetW (hh := [(0, 6, 9, 13)]) (cc := cLw_start) (maxL := 4) (ret := (some .int)) (by decide) rfl ?_
  intro p e s m args below meth c s₁ B hml hv
  obtain ⟨rfl, ⟨⟨hsz, hP, hK, hD0, hN⟩, hE0⟩, hNc⟩ := hv
  have hx := B.exec
  have hb := B.bytes
  have hr := B.returns
  have hts := atoms_spec (ws := (Cond.codeWith yLw_start cLw_start 4 (some .int) [(0, 6, 9, 13)] :: xW)) B.pre
  have hown : s.vm.findClass "OnceNamedLaw" = some m.cls := findClass_of_methodNamed B.named
  have hlocks := B.notSynchronized
  subst hsz
  have hD := hD0.self (sz := s.heap.size)
  have hE := xEEfull hE0
  have hexc := xhandlers B.named B.method (Stand.of_body B).code (hts _ List.mem_cons_self)
  generalize hAe : va_A (wdLw_start cA cL ad oa N formStands starts) s.heap.size = A at hD hE ⊢
  have hA : ∀ q : Nat, s.heap.size ≤ q → A q := fun q h => by rw [← hAe]; exact Or.inr h
  have hS : va_S A s.heap s.heap [] := va_S.rf
  have hend : ∀ (r : Int32) (u0 : Bool) (u1 : Nat → Int32) (H : Heap) (locs : List Loc) (pc : Nat) (ls : Array Slot), decode cLw_start pc = .ok (.ireturn, 1) → va_P D vwCl (wdLw_start cA cL ad oa N u0 u1) H → va_D A (wdLw_start cA cL ad oa N u0 u1) → va_S A s.heap H locs → post r u0 u1 → W p l e (headSpec (Cond.codeWith yLw_start cLw_start 4 (some .int) [(0, 6, 9, 13)] :: xW) rmLw_start).room s m ([.ref (ad 0), .int v1, .int v2] : List Value).toArray below meth c H locs 1 6 (MQ below (qcLw_start D cA cL ad oa N formStands starts post A) ([.ref (ad 0), .int v1, .int v2] : List Value).toArray s 1 6 A) (F0 m pc ls [.int r]) := fun r u0 u1 H locs pc ls hd hP hD hS hw => W.iret (v := r) hx hb hr (fun t ht hW => ⟨⟨r, (u0, u1), rfl, hw, ⟨by rw [ht]; exact hP, va_K.moved hW.alike hK, hD⟩⟩, hS.F ht⟩) hS.2.2 hd
  generalize hQ : MQ below (qcLw_start D cA cL ad oa N formStands starts post A) ([.ref (ad 0), .int v1, .int v2] : List Value).toArray s 1 6 A = Q at hend ⊢
  have hl := lv_entry ([.ref (ad 0), .int v1, .int v2]) (n := 4) (Nat.le_of_ble_eq_true rfl)
  rw [lg_entry_eq]
  generalize (lg_sl ([.ref (ad 0), .int v1, .int v2]) ++ List.replicate (4 - (lg_sl ([.ref (ad 0), .int v1, .int v2])).length) Slot.unset).toArray = ls at hl ⊢
  have hl : lv_has ls 4 [(0, .ref (ad 0)), (1, .int v1), (2, .int v2)] := hl
  unfold wpLw_start at hw
  refine lv_aload_n hx hb dLw_start_0 rfl (lv_at hl 0 rfl) ?_
  refine lv_iload_n hx hb dLw_start_1 rfl (lv_at hl 1 rfl) ?_
  refine lv_iload_n hx hb dLw_start_2 rfl (lv_at hl 2 rfl) ?_
  refine xccv (xrunV ⟨hx, hb, hml, hown, hts⟩ (ktOn_start l hfl D cA ad N _ formStands starts v1 v2 _ _ hw) (cwV 2 hts (goodV kw_552 kw_553 kw_554 kw_1 kw_555) rfl rfl rfl (by decide +kernel) ⟨Nat.le_of_ble_eq_true rfl, Nat.le_of_ble_eq_true rfl⟩) (xpreVE hE hS (hK.sub [0] rfl) hP hD hN [0, 1, 2] rfl rfl 0 rfl rfl) rfl rfl hl.1 rfl (lv_room (Nat.le_of_ble_eq_true rfl)) dLw_start_3 ⟨Nat.le_of_ble_eq_true rfl, Nat.le_of_ble_eq_true rfl⟩) hown hNc [(⟨0, 6, 9, 13⟩, 0)] hexc (by intro q hq; simp only [List.mem_cons, List.not_mem_nil, or_false] at hq; rcases hq with rfl; all_goals first | exact ⟨by decide, by decide, by decide, hts _ (List.mem_cons_of_mem _ kw_407)⟩) (fun k u h => by rcases h.1 with rfl; all_goals exact ⟨by decide, by simp⟩) hP hD hS hA [0, 1, 2] [] rfl rfl rfl rfl [0, 1, 2] rfl (fun _ => rfl) (fun u H locs hw hP hD hS => ?_) (fun k x u H locs hw hP hD hS => ?_)
  ·
    obtain ⟨formStands_3, starts_3⟩ := u
    try dsimp only at hw
    have hP : va_P D vwCl (wdLw_start cA cL ad oa N formStands_3 starts_3) H := hP
    have hD : va_D A (wdLw_start cA cL ad oa N formStands_3 starts_3) := hD
    refine lv_goto (tgt := 12) hx hb dLw_start_6 rfl ?_
    refine lv_iconst (v := 0) hx hb dLw_start_12 (by decide) ?_
    exact hend 0 formStands_3 starts_3 _ _ _ _ dLw_start_13 hP hD hS hw
  ·
    obtain ⟨formStands_3, starts_3⟩ := u
    try dsimp only at hw
    have hP : va_P D vwCl (wdLw_start cA cL ad oa N formStands_3 starts_3) H := hP
    have hD : va_D A (wdLw_start cA cL ad oa N formStands_3 starts_3) := hD
    obtain ⟨hk, hw⟩ := hw
    rcases hk with rfl
    · have hw := hw rfl
      refine W.eq (g2 := F0 m 9 ls [.ref x]) rfl ?_
      refine lv_astore_n (lv' := [(3, .ref x), (0, .ref (ad 0)), (1, .int v1), (2, .int v2)]) hx hb dLw_start_9 rfl hl (by decide) rfl (fun ls hl => ?_)
      refine lv_iconst (v := 1) hx hb dLw_start_10 (by decide) ?_
      exact hend 1 formStands_3 starts_3 _ _ _ _ dLw_start_11 hP hD hS hw
abbrev wdLw_propagate (cA : ClassId) (cL : ClassId) (ad : Nat → Nat) (oa : Nat) (N : Nat) (formStands : Bool) (stepCount : Nat → Int32) (kind : Nat → Int32) (orderSize : Int32) (reached : Int32) (blw : Nat → Int32) (order : Nat → Int32) (meetingUses : Nat → Int32) (stepNames : Nat → Int32) (firstUses : Nat → Int32) (secondUses : Nat → Int32) (endUses : Nat → Int32) (homeBlock : Nat → Int32) (homePlace : Nat → Int32) (standsFor : Nat → Int32) (outc : Nat → Int64) : va_W := [((ad 0), .inr (0, [.int (nI N), .ref (ad 1), .ref (ad 11), .ref (ad 18), .ref (ad 30), .ref (ad 35), .ref (ad 38), .ref (ad 40), .ref (ad 42), .int (bI formStands)])), ((ad 1), .inr (1, [.int (nI N), .ref (ad 2), .ref (ad 3), .ref (ad 4), .ref (ad 5), .ref (ad 6), .ref (ad 7), .ref (ad 8), .ref (ad 9), .ref (ad 10)])), ((ad 2), .inl (cA, N, .inl stepCount)), ((ad 3), .inl (cA, N * 6, .inl kind)), ((ad 11), .inr (2, [.int (nI N), .ref (ad 12), .ref (ad 13), .ref (ad 14), .ref (ad 15), .ref (ad 16), .ref (ad 17), .int orderSize, .int reached])), ((ad 13), .inl (cA, N, .inl blw)), ((ad 16), .inl (cA, N, .inl order)), ((ad 18), .inr (3, [.ref (ad 1), .ref (ad 11), .int (nI N), .ref (ad 19), .ref (ad 20), .ref (ad 21), .ref (ad 22), .ref (ad 23), .ref (ad 24), .ref (ad 25), .ref (ad 26), .ref (ad 27), .ref (ad 28), .ref (ad 29)])), ((ad 20), .inl (cA, N * 6 * (N + 1), .inl meetingUses)), ((ad 21), .inl (cA, N * 6, .inl stepNames)), ((ad 22), .inl (cA, N * 6, .inl firstUses)), ((ad 23), .inl (cA, N * 6, .inl secondUses)), ((ad 24), .inl (cA, N, .inl endUses)), ((ad 27), .inl (cA, 600, .inl homeBlock)), ((ad 28), .inl (cA, 600, .inl homePlace)), ((ad 29), .inl (cA, 600, .inl standsFor)), (oa, .inl (cL, 1, .inr (.inl outc)))]
abbrev qcLw_propagate (D : va_G) (cA : ClassId) (cL : ClassId) (ad : Nat → Nat) (oa : Nat) (N : Nat) (formStands : Bool) (stepCount : Nat → Int32) (kind : Nat → Int32) (orderSize : Int32) (reached : Int32) (blw : Nat → Int32) (order : Nat → Int32) (meetingUses : Nat → Int32) (stepNames : Nat → Int32) (firstUses : Nat → Int32) (secondUses : Nat → Int32) (endUses : Nat → Int32) (homeBlock : Nat → Int32) (homePlace : Nat → Int32) (standsFor : Nat → Int32) (outc : Nat → Int64) (post : Int32 → (Nat → Int32) → (Nat → Int32) → (Nat → Int32) → (Nat → Int32) → (Nat → Int32) → (Nat → Int32) → (Nat → Int32) → (Nat → Int64) → Prop) (A : Nat → Prop) : Array Value → State → Outcome → State → Prop := va_Qi (S := (Nat → Int32) × (Nat → Int32) × (Nat → Int32) × (Nat → Int32) × (Nat → Int32) × (Nat → Int32) × (Nat → Int32) × (Nat → Int64)) (fun r u => post r u.1 u.2.1 u.2.2.1 u.2.2.2.1 u.2.2.2.2.1 u.2.2.2.2.2.1 u.2.2.2.2.2.2.1 u.2.2.2.2.2.2.2) (fun u t => xB D [(cA, .int), (cL, .long)] A (wdLw_propagate cA cL ad oa N formStands stepCount kind orderSize reached blw order u.1 u.2.1 u.2.2.1 u.2.2.2.1 u.2.2.2.2.1 u.2.2.2.2.2.1 homePlace u.2.2.2.2.2.2.1 u.2.2.2.2.2.2.2) t) A
abbrev rmLw_propagate : Room := { frames := 8, cells := 2, slots := 12, locals := 132 }
set_option maxHeartbeats 4000000 in
set_option maxRecDepth 100000 in
theorem ktLw_propagate (l : Launch) (hfl : l.flags = Jvm.pinnedFlags ++ [Jvm.noTraceFlag]) (D : va_G) (cA : ClassId) (cL : ClassId) (ad : Nat → Nat) (oa : Nat) (N : Nat) (sz : Nat) (formStands : Bool) (stepCount : Nat → Int32) (kind : Nat → Int32) (orderSize : Int32) (reached : Int32) (blw : Nat → Int32) (order : Nat → Int32) (meetingUses : Nat → Int32) (stepNames : Nat → Int32) (firstUses : Nat → Int32) (secondUses : Nat → Int32) (endUses : Nat → Int32) (homeBlock : Nat → Int32) (homePlace : Nat → Int32) (standsFor : Nat → Int32) (outc : Nat → Int64)  (post : Int32 → (Nat → Int32) → (Nat → Int32) → (Nat → Int32) → (Nat → Int32) → (Nat → Int32) → (Nat → Int32) → (Nat → Int32) → (Nat → Int64) → Prop) (hw : wpLw_propagate N formStands stepCount kind orderSize blw order meetingUses stepNames firstUses secondUses endUses homeBlock homePlace standsFor outc post) : Met l yLw_propagate (Cond.codeWith yLw_propagate cLw_propagate 3 (some .int) [(0, 8, 11, 36), (0, 8, 14, 15)] :: xW) rmLw_propagate (va_Pc [.ref (ad 0), .ref oa] (xPcL D [(cA, .int), (cL, .long)] (wdLw_propagate cA cL ad oa N formStands stepCount kind orderSize reached blw order meetingUses stepNames firstUses secondUses endUses homeBlock homePlace standsFor outc) sz)) (qcLw_propagate D cA cL ad oa N formStands stepCount kind orderSize reached blw order meetingUses stepNames firstUses secondUses endUses homeBlock homePlace standsFor outc post (va_A (wdLw_propagate cA cL ad oa N formStands stepCount kind orderSize reached blw order meetingUses stepNames firstUses secondUses endUses homeBlock homePlace standsFor outc) sz)) 2 12 (va_A (wdLw_propagate cA cL ad oa N formStands stepCount kind orderSize reached blw order meetingUses stepNames firstUses secondUses endUses homeBlock homePlace standsFor outc) sz) := by
  refine va_MetW (hh := [(0, 8, 11, 36), (0, 8, 14, 15)]) (cc := cLw_propagate) (maxL := 3) (ret := (some .int)) (by decide) rfl ?_
  intro p e s m args below meth c s₁ B hml hv
  obtain ⟨rfl, ⟨⟨hsz, hP, hK, hD0, hN⟩, hE0⟩, hNc⟩ := hv
  have hx := B.exec
  have hb := B.bytes
  have hr := B.returns
  have hts := atoms_spec (ws := (Cond.codeWith yLw_propagate cLw_propagate 3 (some .int) [(0, 8, 11, 36), (0, 8, 14, 15)] :: xW)) B.pre
  have hown : s.vm.findClass "OnceNamedLaw" = some m.cls := findClass_of_methodNamed B.named
  have hlocks := B.notSynchronized
  subst hsz
  have hD := hD0.self (sz := s.heap.size)
  have hE := xEEfull hE0
  have hexc := xhandlers B.named B.method (Stand.of_body B).code (hts _ List.mem_cons_self)
  generalize hAe : va_A (wdLw_propagate cA cL ad oa N formStands stepCount kind orderSize reached blw order meetingUses stepNames firstUses secondUses endUses homeBlock homePlace standsFor outc) s.heap.size = A at hD hE ⊢
  have hA : ∀ q : Nat, s.heap.size ≤ q → A q := fun q h => by rw [← hAe]; exact Or.inr h
  have hS : va_S A s.heap s.heap [] := va_S.rf
  have hend : ∀ (r : Int32) (u0 : Nat → Int32) (u1 : Nat → Int32) (u2 : Nat → Int32) (u3 : Nat → Int32) (u4 : Nat → Int32) (u5 : Nat → Int32) (u6 : Nat → Int32) (u7 : Nat → Int64) (H : Heap) (locs : List Loc) (pc : Nat) (ls : Array Slot), decode cLw_propagate pc = .ok (.ireturn, 1) → va_P D vwCl (wdLw_propagate cA cL ad oa N formStands stepCount kind orderSize reached blw order u0 u1 u2 u3 u4 u5 homePlace u6 u7) H → va_D A (wdLw_propagate cA cL ad oa N formStands stepCount kind orderSize reached blw order u0 u1 u2 u3 u4 u5 homePlace u6 u7) → va_S A s.heap H locs → post r u0 u1 u2 u3 u4 u5 u6 u7 → W p l e (headSpec (Cond.codeWith yLw_propagate cLw_propagate 3 (some .int) [(0, 8, 11, 36), (0, 8, 14, 15)] :: xW) rmLw_propagate).room s m ([.ref (ad 0), .ref oa] : List Value).toArray below meth c H locs 2 12 (MQ below (qcLw_propagate D cA cL ad oa N formStands stepCount kind orderSize reached blw order meetingUses stepNames firstUses secondUses endUses homeBlock homePlace standsFor outc post A) ([.ref (ad 0), .ref oa] : List Value).toArray s 2 12 A) (F0 m pc ls [.int r]) := fun r u0 u1 u2 u3 u4 u5 u6 u7 H locs pc ls hd hP hD hS hw => W.iret (v := r) hx hb hr (fun t ht hW => ⟨⟨r, (u0, u1, u2, u3, u4, u5, u6, u7), rfl, hw, ⟨by rw [ht]; exact hP, va_K.moved hW.alike hK, hD⟩⟩, hS.F ht⟩) hS.2.2 hd
  generalize hQ : MQ below (qcLw_propagate D cA cL ad oa N formStands stepCount kind orderSize reached blw order meetingUses stepNames firstUses secondUses endUses homeBlock homePlace standsFor outc post A) ([.ref (ad 0), .ref oa] : List Value).toArray s 2 12 A = Q at hend ⊢
  have hl := lv_entry ([.ref (ad 0), .ref oa]) (n := 3) (Nat.le_of_ble_eq_true rfl)
  rw [lg_entry_eq]
  generalize (lg_sl ([.ref (ad 0), .ref oa]) ++ List.replicate (3 - (lg_sl ([.ref (ad 0), .ref oa])).length) Slot.unset).toArray = ls at hl ⊢
  have hl : lv_has ls 3 [(0, .ref (ad 0)), (1, .ref oa)] := hl
  unfold wpLw_propagate at hw
  refine lv_aload_n hx hb dLw_propagate_0 rfl (lv_at hl 1 rfl) ?_
  refine lv_iconst (v := 0) hx hb dLw_propagate_1 (by decide) ?_
  refine lv_aload_n hx hb dLw_propagate_2 rfl (lv_at hl 0 rfl) ?_
  refine xcci (xrunV ⟨hx, hb, hml, hown, hts⟩ (ktOn_propagate l hfl D cA ad N _ formStands stepCount kind orderSize reached blw order meetingUses stepNames firstUses secondUses endUses homeBlock homePlace standsFor _ _ hw) (cwV 0 hts (goodV kw_564 kw_565 kw_566 kw_1 kw_567) rfl rfl rfl (by decide +kernel) ⟨Nat.le_of_ble_eq_true rfl, Nat.le_of_ble_eq_true rfl⟩) (xpreVE hE hS (hK.sub [0] rfl) hP hD hN [0, 1, 2, 3, 4, 5, 6, 7, 8, 9, 10, 11, 12, 13, 14, 15] rfl rfl 0 rfl rfl) rfl rfl hl.1 rfl (lv_room (Nat.le_of_ble_eq_true rfl)) dLw_propagate_3 ⟨Nat.le_of_ble_eq_true rfl, Nat.le_of_ble_eq_true rfl⟩) hown hNc [(⟨0, 8, 11, 36⟩, 2), (⟨0, 8, 14, 15⟩, 1)] hexc (by intro q hq; simp only [List.mem_cons, List.not_mem_nil, or_false] at hq; rcases hq with rfl | rfl; all_goals first | exact ⟨by decide, by decide, by decide, hts _ (List.mem_cons_of_mem _ kw_563)⟩ | exact ⟨by decide, by decide, by decide, hts _ (List.mem_cons_of_mem _ kw_408)⟩) (fun k u h => by rcases h.1 with rfl | rfl; all_goals exact ⟨by decide, by simp⟩) hP hD hS hA [0, 1, 2, 3, 4, 5, 6, 7, 8, 9, 10, 11, 12, 13, 14, 15] [16] rfl rfl rfl rfl [1, 2, 3, 4, 5, 6, 7, 8, 9, 10, 11, 12, 13, 14, 15, 16, 0] rfl (fun _ => rfl) (fun r3 u H locs hw hP hD hS => ?_) (fun k x u H locs hw hP hD hS => ?_)
  ·
    obtain ⟨meetingUses_3, stepNames_3, firstUses_3, secondUses_3, endUses_3, homeBlock_3, standsFor_3⟩ := u
    try dsimp only at hw
    have hP : va_P D vwCl (wdLw_propagate cA cL ad oa N formStands stepCount kind orderSize reached blw order meetingUses_3 stepNames_3 firstUses_3 secondUses_3 endUses_3 homeBlock_3 homePlace standsFor_3 outc) H := hP
    have hD : va_D A (wdLw_propagate cA cL ad oa N formStands stepCount kind orderSize reached blw order meetingUses_3 stepNames_3 firstUses_3 secondUses_3 endUses_3 homeBlock_3 homePlace standsFor_3 outc) := hD
    refine lv_i2l (v := (Int32.toInt64 r3)) hx hb dLw_propagate_6 rfl ?_
    have ho := hw.1
    have hw := hw.2
    refine va_last hx hb hK hP hD hS 16 1 rfl rfl ho dLw_propagate_7 (fun H locs hP hD hS => ?_)
    have hP : va_P D vwCl (wdLw_propagate cA cL ad oa N formStands stepCount kind orderSize reached blw order meetingUses_3 stepNames_3 firstUses_3 secondUses_3 endUses_3 homeBlock_3 homePlace standsFor_3 (vp_updL outc (Int32.toNatClampNeg 0) (Int32.toInt64 r3))) H := hP
    have hD : va_D A (wdLw_propagate cA cL ad oa N formStands stepCount kind orderSize reached blw order meetingUses_3 stepNames_3 firstUses_3 secondUses_3 endUses_3 homeBlock_3 homePlace standsFor_3 (vp_updL outc (Int32.toNatClampNeg 0) (Int32.toInt64 r3))) := hD
    refine lv_goto (tgt := 17) hx hb dLw_propagate_8 rfl ?_
    refine lv_iconst (v := 0) hx hb dLw_propagate_17 (by decide) ?_
    exact hend 0 meetingUses_3 stepNames_3 firstUses_3 secondUses_3 endUses_3 homeBlock_3 standsFor_3 (vp_updL outc (Int32.toNatClampNeg 0) (Int32.toInt64 r3)) _ _ _ _ dLw_propagate_18 hP hD hS hw
  ·
    obtain ⟨meetingUses_3, stepNames_3, firstUses_3, secondUses_3, endUses_3, homeBlock_3, standsFor_3⟩ := u
    try dsimp only at hw
    have hP : va_P D vwCl (wdLw_propagate cA cL ad oa N formStands stepCount kind orderSize reached blw order meetingUses_3 stepNames_3 firstUses_3 secondUses_3 endUses_3 homeBlock_3 homePlace standsFor_3 outc) H := hP
    have hD : va_D A (wdLw_propagate cA cL ad oa N formStands stepCount kind orderSize reached blw order meetingUses_3 stepNames_3 firstUses_3 secondUses_3 endUses_3 homeBlock_3 homePlace standsFor_3 outc) := hD
    obtain ⟨hk, hw⟩ := hw
    rcases hk with rfl | rfl
    · have hw := hw.1 rfl
      refine W.eq (g2 := F0 m 11 ls [.ref x]) rfl ?_
      refine lv_astore_n (lv' := [(2, .ref x), (0, .ref (ad 0)), (1, .ref oa)]) hx hb dLw_propagate_11 rfl hl (by decide) rfl (fun ls hl => ?_)
      refine lv_iconst (v := 1) hx hb dLw_propagate_12 (by decide) ?_
      exact hend 1 meetingUses_3 stepNames_3 firstUses_3 secondUses_3 endUses_3 homeBlock_3 standsFor_3 outc _ _ _ _ dLw_propagate_13 hP hD hS hw
    · have hw := hw.2 rfl
      refine W.eq (g2 := F0 m 14 ls [.ref x]) rfl ?_
      refine lv_astore_n (lv' := [(2, .ref x), (0, .ref (ad 0)), (1, .ref oa)]) hx hb dLw_propagate_14 rfl hl (by decide) rfl (fun ls hl => ?_)
      refine lv_iconst (v := 2) hx hb dLw_propagate_15 (by decide) ?_
      exact hend 2 meetingUses_3 stepNames_3 firstUses_3 secondUses_3 endUses_3 homeBlock_3 standsFor_3 outc _ _ _ _ dLw_propagate_16 hP hD hS hw
abbrev wdLw_parent (cA : ClassId) (cL : ClassId) (ad : Nat → Nat) (oa : Nat) (N : Nat) (formStands : Bool) (orderSize : Int32) (reached : Int32) (parents : Nat → Int32) (outc : Nat → Int64) : va_W := [((ad 0), .inr (0, [.int (nI N), .ref (ad 1), .ref (ad 11), .ref (ad 18), .ref (ad 30), .ref (ad 35), .ref (ad 38), .ref (ad 40), .ref (ad 42), .int (bI formStands)])), ((ad 11), .inr (2, [.int (nI N), .ref (ad 12), .ref (ad 13), .ref (ad 14), .ref (ad 15), .ref (ad 16), .ref (ad 17), .int orderSize, .int reached])), ((ad 15), .inl (cA, N, .inl parents)), (oa, .inl (cL, 1, .inr (.inl outc)))]
abbrev qcLw_parent (D : va_G) (cA : ClassId) (cL : ClassId) (ad : Nat → Nat) (oa : Nat) (N : Nat) (formStands : Bool) (orderSize : Int32) (reached : Int32) (parents : Nat → Int32) (outc : Nat → Int64) (post : Int32 → (Nat → Int64) → Prop) (A : Nat → Prop) : Array Value → State → Outcome → State → Prop := va_Qi (S := (Nat → Int64)) (fun r u => post r u) (fun u t => xB D [(cA, .int), (cL, .long)] A (wdLw_parent cA cL ad oa N formStands orderSize reached parents u) t) A
abbrev rmLw_parent : Room := { frames := 8, cells := 1, slots := 6, locals := 132 }
set_option maxHeartbeats 4000000 in
set_option maxRecDepth 100000 in
theorem ktLw_parent (l : Launch) (hfl : l.flags = Jvm.pinnedFlags ++ [Jvm.noTraceFlag]) (D : va_G) (cA : ClassId) (cL : ClassId) (ad : Nat → Nat) (oa : Nat) (N : Nat) (sz : Nat) (formStands : Bool) (orderSize : Int32) (reached : Int32) (parents : Nat → Int32) (outc : Nat → Int64) (v1 : Int32) (post : Int32 → (Nat → Int64) → Prop) (hw : wpLw_parent N parents outc v1 post) : Met l yLw_parent (Cond.codeWith yLw_parent cLw_parent 4 (some .int) [(0, 9, 12, 13)] :: xW) rmLw_parent (va_Pc [.ref (ad 0), .int v1, .ref oa] (xPcL D [(cA, .int), (cL, .long)] (wdLw_parent cA cL ad oa N formStands orderSize reached parents outc) sz)) (qcLw_parent D cA cL ad oa N formStands orderSize reached parents outc post (va_A (wdLw_parent cA cL ad oa N formStands orderSize reached parents outc) sz)) 1 6 (va_A (wdLw_parent cA cL ad oa N formStands orderSize reached parents outc) sz) := by
  refine va_MetW (hh := [(0, 9, 12, 13)]) (cc := cLw_parent) (maxL := 4) (ret := (some .int)) (by decide) rfl ?_
  intro p e s m args below meth c s₁ B hml hv
  obtain ⟨rfl, ⟨⟨hsz, hP, hK, hD0, hN⟩, hE0⟩, hNc⟩ := hv
  have hx := B.exec
  have hb := B.bytes
  have hr := B.returns
  have hts := atoms_spec (ws := (Cond.codeWith yLw_parent cLw_parent 4 (some .int) [(0, 9, 12, 13)] :: xW)) B.pre
  have hown : s.vm.findClass "OnceNamedLaw" = some m.cls := findClass_of_methodNamed B.named
  have hlocks := B.notSynchronized
  subst hsz
  have hD := hD0.self (sz := s.heap.size)
  have hE := xEEfull hE0
  have hexc := xhandlers B.named B.method (Stand.of_body B).code (hts _ List.mem_cons_self)
  generalize hAe : va_A (wdLw_parent cA cL ad oa N formStands orderSize reached parents outc) s.heap.size = A at hD hE ⊢
  have hA : ∀ q : Nat, s.heap.size ≤ q → A q := fun q h => by rw [← hAe]; exact Or.inr h
  have hS : va_S A s.heap s.heap [] := va_S.rf
  have hend : ∀ (r : Int32) (u0 : Nat → Int64) (H : Heap) (locs : List Loc) (pc : Nat) (ls : Array Slot), decode cLw_parent pc = .ok (.ireturn, 1) → va_P D vwCl (wdLw_parent cA cL ad oa N formStands orderSize reached parents u0) H → va_D A (wdLw_parent cA cL ad oa N formStands orderSize reached parents u0) → va_S A s.heap H locs → post r u0 → W p l e (headSpec (Cond.codeWith yLw_parent cLw_parent 4 (some .int) [(0, 9, 12, 13)] :: xW) rmLw_parent).room s m ([.ref (ad 0), .int v1, .ref oa] : List Value).toArray below meth c H locs 1 6 (MQ below (qcLw_parent D cA cL ad oa N formStands orderSize reached parents outc post A) ([.ref (ad 0), .int v1, .ref oa] : List Value).toArray s 1 6 A) (F0 m pc ls [.int r]) := fun r u0 H locs pc ls hd hP hD hS hw => W.iret (v := r) hx hb hr (fun t ht hW => ⟨⟨r, u0, rfl, hw, ⟨by rw [ht]; exact hP, va_K.moved hW.alike hK, hD⟩⟩, hS.F ht⟩) hS.2.2 hd
  generalize hQ : MQ below (qcLw_parent D cA cL ad oa N formStands orderSize reached parents outc post A) ([.ref (ad 0), .int v1, .ref oa] : List Value).toArray s 1 6 A = Q at hend ⊢
  have hl := lv_entry ([.ref (ad 0), .int v1, .ref oa]) (n := 4) (Nat.le_of_ble_eq_true rfl)
  rw [lg_entry_eq]
  generalize (lg_sl ([.ref (ad 0), .int v1, .ref oa]) ++ List.replicate (4 - (lg_sl ([.ref (ad 0), .int v1, .ref oa])).length) Slot.unset).toArray = ls at hl ⊢
  have hl : lv_has ls 4 [(0, .ref (ad 0)), (1, .int v1), (2, .ref oa)] := hl
  unfold wpLw_parent at hw
  refine lv_aload_n hx hb dLw_parent_0 rfl (lv_at hl 2 rfl) ?_
  refine lv_iconst (v := 0) hx hb dLw_parent_1 (by decide) ?_
  refine lv_aload_n hx hb dLw_parent_2 rfl (lv_at hl 0 rfl) ?_
  refine lv_iload_n hx hb dLw_parent_3 rfl (lv_at hl 1 rfl) ?_
  refine xcci (xrunV ⟨hx, hb, hml, hown, hts⟩ (ktOn_parent l hfl D cA ad N _ formStands orderSize reached parents v1 _ _ hw) (cwV 1 hts (goodV kw_628 kw_629 kw_630 kw_1 kw_631) rfl rfl rfl (by decide +kernel) ⟨Nat.le_of_ble_eq_true rfl, Nat.le_of_ble_eq_true rfl⟩) (xpreVE hE hS (hK.sub [0] rfl) hP hD hN [0, 1, 2] rfl rfl 0 rfl rfl) rfl rfl hl.1 rfl (lv_room (Nat.le_of_ble_eq_true rfl)) dLw_parent_4 ⟨Nat.le_of_ble_eq_true rfl, Nat.le_of_ble_eq_true rfl⟩) hown hNc [(⟨0, 9, 12, 13⟩, 0)] hexc (by intro q hq; simp only [List.mem_cons, List.not_mem_nil, or_false] at hq; rcases hq with rfl; all_goals first | exact ⟨by decide, by decide, by decide, hts _ (List.mem_cons_of_mem _ kw_407)⟩) (fun k u h => by rcases h.1 with rfl; all_goals exact ⟨by decide, by simp⟩) hP hD hS hA [0, 1, 2] [3] rfl rfl rfl rfl [1, 2, 3, 0] rfl (fun _ => rfl) (fun r4 u H locs hw hP hD hS => ?_) (fun k x u H locs hw hP hD hS => ?_)
  ·
    have hP : va_P D vwCl (wdLw_parent cA cL ad oa N formStands orderSize reached parents outc) H := hP
    have hD : va_D A (wdLw_parent cA cL ad oa N formStands orderSize reached parents outc) := hD
    refine lv_i2l (v := (Int32.toInt64 r4)) hx hb dLw_parent_7 rfl ?_
    have ho := hw.1
    have hw := hw.2
    refine va_last hx hb hK hP hD hS 3 1 rfl rfl ho dLw_parent_8 (fun H locs hP hD hS => ?_)
    have hP : va_P D vwCl (wdLw_parent cA cL ad oa N formStands orderSize reached parents (vp_updL outc (Int32.toNatClampNeg 0) (Int32.toInt64 r4))) H := hP
    have hD : va_D A (wdLw_parent cA cL ad oa N formStands orderSize reached parents (vp_updL outc (Int32.toNatClampNeg 0) (Int32.toInt64 r4))) := hD
    refine lv_goto (tgt := 15) hx hb dLw_parent_9 rfl ?_
    refine lv_iconst (v := 0) hx hb dLw_parent_15 (by decide) ?_
    exact hend 0 (vp_updL outc (Int32.toNatClampNeg 0) (Int32.toInt64 r4)) _ _ _ _ dLw_parent_16 hP hD hS hw
  ·
    try dsimp only at hw
    have hP : va_P D vwCl (wdLw_parent cA cL ad oa N formStands orderSize reached parents outc) H := hP
    have hD : va_D A (wdLw_parent cA cL ad oa N formStands orderSize reached parents outc) := hD
    obtain ⟨hk, hw⟩ := hw
    rcases hk with rfl
    · have hw := hw rfl
      refine W.eq (g2 := F0 m 12 ls [.ref x]) rfl ?_
      refine lv_astore_n (lv' := [(3, .ref x), (0, .ref (ad 0)), (1, .int v1), (2, .ref oa)]) hx hb dLw_parent_12 rfl hl (by decide) rfl (fun ls hl => ?_)
      refine lv_iconst (v := 1) hx hb dLw_parent_13 (by decide) ?_
      exact hend 1 outc _ _ _ _ dLw_parent_14 hP hD hS hw
abbrev wdLw_dominates (cA : ClassId) (cL : ClassId) (ad : Nat → Nat) (oa : Nat) (N : Nat) (formStands : Bool) (orderSize : Int32) (reached : Int32) (blw : Nat → Int32) (outc : Nat → Int64) : va_W := [((ad 0), .inr (0, [.int (nI N), .ref (ad 1), .ref (ad 11), .ref (ad 18), .ref (ad 30), .ref (ad 35), .ref (ad 38), .ref (ad 40), .ref (ad 42), .int (bI formStands)])), ((ad 11), .inr (2, [.int (nI N), .ref (ad 12), .ref (ad 13), .ref (ad 14), .ref (ad 15), .ref (ad 16), .ref (ad 17), .int orderSize, .int reached])), ((ad 13), .inl (cA, N, .inl blw)), (oa, .inl (cL, 1, .inr (.inl outc)))]
abbrev qcLw_dominates (D : va_G) (cA : ClassId) (cL : ClassId) (ad : Nat → Nat) (oa : Nat) (N : Nat) (formStands : Bool) (orderSize : Int32) (reached : Int32) (blw : Nat → Int32) (outc : Nat → Int64) (post : Int32 → (Nat → Int64) → Prop) (A : Nat → Prop) : Array Value → State → Outcome → State → Prop := va_Qi (S := (Nat → Int64)) (fun r u => post r u) (fun u t => xB D [(cA, .int), (cL, .long)] A (wdLw_dominates cA cL ad oa N formStands orderSize reached blw u) t) A
abbrev rmLw_dominates : Room := { frames := 8, cells := 2, slots := 12, locals := 133 }
set_option maxHeartbeats 4000000 in
set_option maxRecDepth 100000 in
theorem ktLw_dominates (l : Launch) (hfl : l.flags = Jvm.pinnedFlags ++ [Jvm.noTraceFlag]) (D : va_G) (cA : ClassId) (cL : ClassId) (ad : Nat → Nat) (oa : Nat) (N : Nat) (sz : Nat) (formStands : Bool) (orderSize : Int32) (reached : Int32) (blw : Nat → Int32) (outc : Nat → Int64) (v1 : Int32) (v2 : Int32) (post : Int32 → (Nat → Int64) → Prop) (hw : wpLw_dominates N blw outc v1 v2 post) : Met l yLw_dominates (Cond.codeWith yLw_dominates cLw_dominates 5 (some .int) [(0, 17, 20, 13)] :: xW) rmLw_dominates (va_Pc [.ref (ad 0), .int v1, .int v2, .ref oa] (xPcL D [(cA, .int), (cL, .long)] (wdLw_dominates cA cL ad oa N formStands orderSize reached blw outc) sz)) (qcLw_dominates D cA cL ad oa N formStands orderSize reached blw outc post (va_A (wdLw_dominates cA cL ad oa N formStands orderSize reached blw outc) sz)) 2 12 (va_A (wdLw_dominates cA cL ad oa N formStands orderSize reached blw outc) sz) := by
  refine va_MetW (hh := [(0, 17, 20, 13)]) (cc := cLw_dominates) (maxL := 5) (ret := (some .int)) (by decide) rfl ?_
  intro p e s m args below meth c s₁ B hml hv
  obtain ⟨rfl, ⟨⟨hsz, hP, hK, hD0, hN⟩, hE0⟩, hNc⟩ := hv
  have hx := B.exec
  have hb := B.bytes
  have hr := B.returns
  have hts := atoms_spec (ws := (Cond.codeWith yLw_dominates cLw_dominates 5 (some .int) [(0, 17, 20, 13)] :: xW)) B.pre
  have hown : s.vm.findClass "OnceNamedLaw" = some m.cls := findClass_of_methodNamed B.named
  have hlocks := B.notSynchronized
  subst hsz
  have hD := hD0.self (sz := s.heap.size)
  have hE := xEEfull hE0
  have hexc := xhandlers B.named B.method (Stand.of_body B).code (hts _ List.mem_cons_self)
  generalize hAe : va_A (wdLw_dominates cA cL ad oa N formStands orderSize reached blw outc) s.heap.size = A at hD hE ⊢
  have hA : ∀ q : Nat, s.heap.size ≤ q → A q := fun q h => by rw [← hAe]; exact Or.inr h
  have hS : va_S A s.heap s.heap [] := va_S.rf
  have hend : ∀ (r : Int32) (u0 : Nat → Int64) (H : Heap) (locs : List Loc) (pc : Nat) (ls : Array Slot), decode cLw_dominates pc = .ok (.ireturn, 1) → va_P D vwCl (wdLw_dominates cA cL ad oa N formStands orderSize reached blw u0) H → va_D A (wdLw_dominates cA cL ad oa N formStands orderSize reached blw u0) → va_S A s.heap H locs → post r u0 → W p l e (headSpec (Cond.codeWith yLw_dominates cLw_dominates 5 (some .int) [(0, 17, 20, 13)] :: xW) rmLw_dominates).room s m ([.ref (ad 0), .int v1, .int v2, .ref oa] : List Value).toArray below meth c H locs 2 12 (MQ below (qcLw_dominates D cA cL ad oa N formStands orderSize reached blw outc post A) ([.ref (ad 0), .int v1, .int v2, .ref oa] : List Value).toArray s 2 12 A) (F0 m pc ls [.int r]) := fun r u0 H locs pc ls hd hP hD hS hw => W.iret (v := r) hx hb hr (fun t ht hW => ⟨⟨r, u0, rfl, hw, ⟨by rw [ht]; exact hP, va_K.moved hW.alike hK, hD⟩⟩, hS.F ht⟩) hS.2.2 hd
  generalize hQ : MQ below (qcLw_dominates D cA cL ad oa N formStands orderSize reached blw outc post A) ([.ref (ad 0), .int v1, .int v2, .ref oa] : List Value).toArray s 2 12 A = Q at hend ⊢
  have hl := lv_entry ([.ref (ad 0), .int v1, .int v2, .ref oa]) (n := 5) (Nat.le_of_ble_eq_true rfl)
  rw [lg_entry_eq]
  generalize (lg_sl ([.ref (ad 0), .int v1, .int v2, .ref oa]) ++ List.replicate (5 - (lg_sl ([.ref (ad 0), .int v1, .int v2, .ref oa])).length) Slot.unset).toArray = ls at hl ⊢
  have hl : lv_has ls 5 [(0, .ref (ad 0)), (1, .int v1), (2, .int v2), (3, .ref oa)] := hl
  unfold wpLw_dominates at hw
  refine lv_aload_n hx hb dLw_dominates_0 rfl (lv_at hl 3 rfl) ?_
  refine lv_iconst (v := 0) hx hb dLw_dominates_1 (by decide) ?_
  refine lv_aload_n hx hb dLw_dominates_2 rfl (lv_at hl 0 rfl) ?_
  refine lv_iload_n hx hb dLw_dominates_3 rfl (lv_at hl 1 rfl) ?_
  refine lv_iload_n hx hb dLw_dominates_4 rfl (lv_at hl 2 rfl) ?_
  refine xcci (xrunV ⟨hx, hb, hml, hown, hts⟩ (ktOn_dominates l hfl D cA ad N _ formStands orderSize reached blw v1 v2 _ _ hw) (cwV 2 hts (goodV kw_636 kw_637 kw_638 kw_1 kw_639) rfl rfl rfl (by decide +kernel) ⟨Nat.le_of_ble_eq_true rfl, Nat.le_of_ble_eq_true rfl⟩) (xpreVE hE hS (hK.sub [0] rfl) hP hD hN [0, 1, 2] rfl rfl 0 rfl rfl) rfl rfl hl.1 rfl (lv_room (Nat.le_of_ble_eq_true rfl)) dLw_dominates_5 ⟨Nat.le_of_ble_eq_true rfl, Nat.le_of_ble_eq_true rfl⟩) hown hNc [(⟨0, 17, 20, 13⟩, 0)] hexc (by intro q hq; simp only [List.mem_cons, List.not_mem_nil, or_false] at hq; rcases hq with rfl; all_goals first | exact ⟨by decide, by decide, by decide, hts _ (List.mem_cons_of_mem _ kw_407)⟩) (fun k u h => by rcases h.1 with rfl; all_goals exact ⟨by decide, by simp⟩) hP hD hS hA [0, 1, 2] [3] rfl rfl rfl rfl [1, 2, 3, 0] rfl (fun _ => rfl) (fun r5 u H locs hw hP hD hS => ?_) (fun k x u H locs hw hP hD hS => ?_)
  ·
    obtain ⟨r5, rfl, hw⟩ := hw
    have hP : va_P D vwCl (wdLw_dominates cA cL ad oa N formStands orderSize reached blw outc) H := hP
    have hD : va_D A (wdLw_dominates cA cL ad oa N formStands orderSize reached blw outc) := hD
    refine lv_if_eq (tgt := 15) hx hb dLw_dominates_8 rfl (fun hc => ?_) (fun hc => ?_)
    · have hw := hw.1 (bI_0 hc)
      refine lv_lconst (v := 0) hx hb dLw_dominates_15 (by decide) ?_
      have ho := hw.1
      have hw := hw.2
      refine va_last hx hb hK hP hD hS 3 1 rfl rfl ho dLw_dominates_16 (fun H locs hP hD hS => ?_)
      have hP : va_P D vwCl (wdLw_dominates cA cL ad oa N formStands orderSize reached blw (vp_updL outc (Int32.toNatClampNeg 0) 0)) H := hP
      have hD : va_D A (wdLw_dominates cA cL ad oa N formStands orderSize reached blw (vp_updL outc (Int32.toNatClampNeg 0) 0)) := hD
      refine lv_goto (tgt := 24) hx hb dLw_dominates_17 rfl ?_
      refine lv_iconst (v := 0) hx hb dLw_dominates_24 (by decide) ?_
      exact hend 0 (vp_updL outc (Int32.toNatClampNeg 0) 0) _ _ _ _ dLw_dominates_25 hP hD hS hw
    · have hw := hw.2 (bI_1 hc)
      refine lv_lconst (v := 1) hx hb dLw_dominates_11 (by decide) ?_
      refine lv_goto (tgt := 16) hx hb dLw_dominates_12 rfl ?_
      have ho := hw.1
      have hw := hw.2
      refine va_last hx hb hK hP hD hS 3 1 rfl rfl ho dLw_dominates_16 (fun H locs hP hD hS => ?_)
      have hP : va_P D vwCl (wdLw_dominates cA cL ad oa N formStands orderSize reached blw (vp_updL outc (Int32.toNatClampNeg 0) 1)) H := hP
      have hD : va_D A (wdLw_dominates cA cL ad oa N formStands orderSize reached blw (vp_updL outc (Int32.toNatClampNeg 0) 1)) := hD
      refine lv_goto (tgt := 24) hx hb dLw_dominates_17 rfl ?_
      refine lv_iconst (v := 0) hx hb dLw_dominates_24 (by decide) ?_
      exact hend 0 (vp_updL outc (Int32.toNatClampNeg 0) 1) _ _ _ _ dLw_dominates_25 hP hD hS hw
  ·
    try dsimp only at hw
    have hP : va_P D vwCl (wdLw_dominates cA cL ad oa N formStands orderSize reached blw outc) H := hP
    have hD : va_D A (wdLw_dominates cA cL ad oa N formStands orderSize reached blw outc) := hD
    obtain ⟨hk, hw⟩ := hw
    rcases hk with rfl
    · have hw := hw rfl
      refine W.eq (g2 := F0 m 20 ls [.ref x]) rfl ?_
      refine lv_astore (lv' := [(4, .ref x), (0, .ref (ad 0)), (1, .int v1), (2, .int v2), (3, .ref oa)]) hx hb dLw_dominates_20 hl (by decide) rfl (fun ls hl => ?_)
      refine lv_iconst (v := 1) hx hb dLw_dominates_22 (by decide) ?_
      exact hend 1 outc _ _ _ _ dLw_dominates_23 hP hD hS hw
abbrev wdLw_frontier (cA : ClassId) (cL : ClassId) (ad : Nat → Nat) (oa : Nat) (N : Nat) (formStands : Bool) (orderSize : Int32) (reached : Int32) (frontiers : Nat → Int32) (outc : Nat → Int64) : va_W := [((ad 0), .inr (0, [.int (nI N), .ref (ad 1), .ref (ad 11), .ref (ad 18), .ref (ad 30), .ref (ad 35), .ref (ad 38), .ref (ad 40), .ref (ad 42), .int (bI formStands)])), ((ad 11), .inr (2, [.int (nI N), .ref (ad 12), .ref (ad 13), .ref (ad 14), .ref (ad 15), .ref (ad 16), .ref (ad 17), .int orderSize, .int reached])), ((ad 14), .inl (cA, N, .inl frontiers)), (oa, .inl (cL, 1, .inr (.inl outc)))]
abbrev qcLw_frontier (D : va_G) (cA : ClassId) (cL : ClassId) (ad : Nat → Nat) (oa : Nat) (N : Nat) (formStands : Bool) (orderSize : Int32) (reached : Int32) (frontiers : Nat → Int32) (outc : Nat → Int64) (post : Int32 → (Nat → Int64) → Prop) (A : Nat → Prop) : Array Value → State → Outcome → State → Prop := va_Qi (S := (Nat → Int64)) (fun r u => post r u) (fun u t => xB D [(cA, .int), (cL, .long)] A (wdLw_frontier cA cL ad oa N formStands orderSize reached frontiers u) t) A
abbrev rmLw_frontier : Room := { frames := 8, cells := 2, slots := 12, locals := 133 }
set_option maxHeartbeats 4000000 in
set_option maxRecDepth 100000 in
theorem ktLw_frontier (l : Launch) (hfl : l.flags = Jvm.pinnedFlags ++ [Jvm.noTraceFlag]) (D : va_G) (cA : ClassId) (cL : ClassId) (ad : Nat → Nat) (oa : Nat) (N : Nat) (sz : Nat) (formStands : Bool) (orderSize : Int32) (reached : Int32) (frontiers : Nat → Int32) (outc : Nat → Int64) (v1 : Int32) (v2 : Int32) (post : Int32 → (Nat → Int64) → Prop) (hw : wpLw_frontier N frontiers outc v1 v2 post) : Met l yLw_frontier (Cond.codeWith yLw_frontier cLw_frontier 5 (some .int) [(0, 17, 20, 13)] :: xW) rmLw_frontier (va_Pc [.ref (ad 0), .int v1, .int v2, .ref oa] (xPcL D [(cA, .int), (cL, .long)] (wdLw_frontier cA cL ad oa N formStands orderSize reached frontiers outc) sz)) (qcLw_frontier D cA cL ad oa N formStands orderSize reached frontiers outc post (va_A (wdLw_frontier cA cL ad oa N formStands orderSize reached frontiers outc) sz)) 2 12 (va_A (wdLw_frontier cA cL ad oa N formStands orderSize reached frontiers outc) sz) := by
  refine va_MetW (hh := [(0, 17, 20, 13)]) (cc := cLw_frontier) (maxL := 5) (ret := (some .int)) (by decide) rfl ?_
  intro p e s m args below meth c s₁ B hml hv
  obtain ⟨rfl, ⟨⟨hsz, hP, hK, hD0, hN⟩, hE0⟩, hNc⟩ := hv
  have hx := B.exec
  have hb := B.bytes
  have hr := B.returns
  have hts := atoms_spec (ws := (Cond.codeWith yLw_frontier cLw_frontier 5 (some .int) [(0, 17, 20, 13)] :: xW)) B.pre
  have hown : s.vm.findClass "OnceNamedLaw" = some m.cls := findClass_of_methodNamed B.named
  have hlocks := B.notSynchronized
  subst hsz
  have hD := hD0.self (sz := s.heap.size)
  have hE := xEEfull hE0
  have hexc := xhandlers B.named B.method (Stand.of_body B).code (hts _ List.mem_cons_self)
  generalize hAe : va_A (wdLw_frontier cA cL ad oa N formStands orderSize reached frontiers outc) s.heap.size = A at hD hE ⊢
  have hA : ∀ q : Nat, s.heap.size ≤ q → A q := fun q h => by rw [← hAe]; exact Or.inr h
  have hS : va_S A s.heap s.heap [] := va_S.rf
  have hend : ∀ (r : Int32) (u0 : Nat → Int64) (H : Heap) (locs : List Loc) (pc : Nat) (ls : Array Slot), decode cLw_frontier pc = .ok (.ireturn, 1) → va_P D vwCl (wdLw_frontier cA cL ad oa N formStands orderSize reached frontiers u0) H → va_D A (wdLw_frontier cA cL ad oa N formStands orderSize reached frontiers u0) → va_S A s.heap H locs → post r u0 → W p l e (headSpec (Cond.codeWith yLw_frontier cLw_frontier 5 (some .int) [(0, 17, 20, 13)] :: xW) rmLw_frontier).room s m ([.ref (ad 0), .int v1, .int v2, .ref oa] : List Value).toArray below meth c H locs 2 12 (MQ below (qcLw_frontier D cA cL ad oa N formStands orderSize reached frontiers outc post A) ([.ref (ad 0), .int v1, .int v2, .ref oa] : List Value).toArray s 2 12 A) (F0 m pc ls [.int r]) := fun r u0 H locs pc ls hd hP hD hS hw => W.iret (v := r) hx hb hr (fun t ht hW => ⟨⟨r, u0, rfl, hw, ⟨by rw [ht]; exact hP, va_K.moved hW.alike hK, hD⟩⟩, hS.F ht⟩) hS.2.2 hd
  generalize hQ : MQ below (qcLw_frontier D cA cL ad oa N formStands orderSize reached frontiers outc post A) ([.ref (ad 0), .int v1, .int v2, .ref oa] : List Value).toArray s 2 12 A = Q at hend ⊢
  have hl := lv_entry ([.ref (ad 0), .int v1, .int v2, .ref oa]) (n := 5) (Nat.le_of_ble_eq_true rfl)
  rw [lg_entry_eq]
  generalize (lg_sl ([.ref (ad 0), .int v1, .int v2, .ref oa]) ++ List.replicate (5 - (lg_sl ([.ref (ad 0), .int v1, .int v2, .ref oa])).length) Slot.unset).toArray = ls at hl ⊢
  have hl : lv_has ls 5 [(0, .ref (ad 0)), (1, .int v1), (2, .int v2), (3, .ref oa)] := hl
  unfold wpLw_frontier at hw
  refine lv_aload_n hx hb dLw_frontier_0 rfl (lv_at hl 3 rfl) ?_
  refine lv_iconst (v := 0) hx hb dLw_frontier_1 (by decide) ?_
  refine lv_aload_n hx hb dLw_frontier_2 rfl (lv_at hl 0 rfl) ?_
  refine lv_iload_n hx hb dLw_frontier_3 rfl (lv_at hl 1 rfl) ?_
  refine lv_iload_n hx hb dLw_frontier_4 rfl (lv_at hl 2 rfl) ?_
  refine xcci (xrunV ⟨hx, hb, hml, hown, hts⟩ (ktOn_frontier l hfl D cA ad N _ formStands orderSize reached frontiers v1 v2 _ _ hw) (cwV 2 hts (goodV kw_644 kw_645 kw_646 kw_1 kw_647) rfl rfl rfl (by decide +kernel) ⟨Nat.le_of_ble_eq_true rfl, Nat.le_of_ble_eq_true rfl⟩) (xpreVE hE hS (hK.sub [0] rfl) hP hD hN [0, 1, 2] rfl rfl 0 rfl rfl) rfl rfl hl.1 rfl (lv_room (Nat.le_of_ble_eq_true rfl)) dLw_frontier_5 ⟨Nat.le_of_ble_eq_true rfl, Nat.le_of_ble_eq_true rfl⟩) hown hNc [(⟨0, 17, 20, 13⟩, 0)] hexc (by intro q hq; simp only [List.mem_cons, List.not_mem_nil, or_false] at hq; rcases hq with rfl; all_goals first | exact ⟨by decide, by decide, by decide, hts _ (List.mem_cons_of_mem _ kw_407)⟩) (fun k u h => by rcases h.1 with rfl; all_goals exact ⟨by decide, by simp⟩) hP hD hS hA [0, 1, 2] [3] rfl rfl rfl rfl [1, 2, 3, 0] rfl (fun _ => rfl) (fun r5 u H locs hw hP hD hS => ?_) (fun k x u H locs hw hP hD hS => ?_)
  ·
    obtain ⟨r5, rfl, hw⟩ := hw
    have hP : va_P D vwCl (wdLw_frontier cA cL ad oa N formStands orderSize reached frontiers outc) H := hP
    have hD : va_D A (wdLw_frontier cA cL ad oa N formStands orderSize reached frontiers outc) := hD
    refine lv_if_eq (tgt := 15) hx hb dLw_frontier_8 rfl (fun hc => ?_) (fun hc => ?_)
    · have hw := hw.1 (bI_0 hc)
      refine lv_lconst (v := 0) hx hb dLw_frontier_15 (by decide) ?_
      have ho := hw.1
      have hw := hw.2
      refine va_last hx hb hK hP hD hS 3 1 rfl rfl ho dLw_frontier_16 (fun H locs hP hD hS => ?_)
      have hP : va_P D vwCl (wdLw_frontier cA cL ad oa N formStands orderSize reached frontiers (vp_updL outc (Int32.toNatClampNeg 0) 0)) H := hP
      have hD : va_D A (wdLw_frontier cA cL ad oa N formStands orderSize reached frontiers (vp_updL outc (Int32.toNatClampNeg 0) 0)) := hD
      refine lv_goto (tgt := 24) hx hb dLw_frontier_17 rfl ?_
      refine lv_iconst (v := 0) hx hb dLw_frontier_24 (by decide) ?_
      exact hend 0 (vp_updL outc (Int32.toNatClampNeg 0) 0) _ _ _ _ dLw_frontier_25 hP hD hS hw
    · have hw := hw.2 (bI_1 hc)
      refine lv_lconst (v := 1) hx hb dLw_frontier_11 (by decide) ?_
      refine lv_goto (tgt := 16) hx hb dLw_frontier_12 rfl ?_
      have ho := hw.1
      have hw := hw.2
      refine va_last hx hb hK hP hD hS 3 1 rfl rfl ho dLw_frontier_16 (fun H locs hP hD hS => ?_)
      have hP : va_P D vwCl (wdLw_frontier cA cL ad oa N formStands orderSize reached frontiers (vp_updL outc (Int32.toNatClampNeg 0) 1)) H := hP
      have hD : va_D A (wdLw_frontier cA cL ad oa N formStands orderSize reached frontiers (vp_updL outc (Int32.toNatClampNeg 0) 1)) := hD
      refine lv_goto (tgt := 24) hx hb dLw_frontier_17 rfl ?_
      refine lv_iconst (v := 0) hx hb dLw_frontier_24 (by decide) ?_
      exact hend 0 (vp_updL outc (Int32.toNatClampNeg 0) 1) _ _ _ _ dLw_frontier_25 hP hD hS hw
  ·
    try dsimp only at hw
    have hP : va_P D vwCl (wdLw_frontier cA cL ad oa N formStands orderSize reached frontiers outc) H := hP
    have hD : va_D A (wdLw_frontier cA cL ad oa N formStands orderSize reached frontiers outc) := hD
    obtain ⟨hk, hw⟩ := hw
    rcases hk with rfl
    · have hw := hw rfl
      refine W.eq (g2 := F0 m 20 ls [.ref x]) rfl ?_
      refine lv_astore (lv' := [(4, .ref x), (0, .ref (ad 0)), (1, .int v1), (2, .int v2), (3, .ref oa)]) hx hb dLw_frontier_20 hl (by decide) rfl (fun ls hl => ?_)
      refine lv_iconst (v := 1) hx hb dLw_frontier_22 (by decide) ?_
      exact hend 1 outc _ _ _ _ dLw_frontier_23 hP hD hS hw
abbrev wdLw_meeting (cA : ClassId) (cL : ClassId) (ad : Nat → Nat) (oa : Nat) (N : Nat) (formStands : Bool) (meetingNames : Nat → Int32) (outc : Nat → Int64) : va_W := [((ad 0), .inr (0, [.int (nI N), .ref (ad 1), .ref (ad 11), .ref (ad 18), .ref (ad 30), .ref (ad 35), .ref (ad 38), .ref (ad 40), .ref (ad 42), .int (bI formStands)])), ((ad 18), .inr (3, [.ref (ad 1), .ref (ad 11), .int (nI N), .ref (ad 19), .ref (ad 20), .ref (ad 21), .ref (ad 22), .ref (ad 23), .ref (ad 24), .ref (ad 25), .ref (ad 26), .ref (ad 27), .ref (ad 28), .ref (ad 29)])), ((ad 19), .inl (cA, N * 6, .inl meetingNames)), (oa, .inl (cL, 1, .inr (.inl outc)))]
abbrev qcLw_meeting (D : va_G) (cA : ClassId) (cL : ClassId) (ad : Nat → Nat) (oa : Nat) (N : Nat) (formStands : Bool) (meetingNames : Nat → Int32) (outc : Nat → Int64) (post : Int32 → (Nat → Int64) → Prop) (A : Nat → Prop) : Array Value → State → Outcome → State → Prop := va_Qi (S := (Nat → Int64)) (fun r u => post r u) (fun u t => xB D [(cA, .int), (cL, .long)] A (wdLw_meeting cA cL ad oa N formStands meetingNames u) t) A
abbrev rmLw_meeting : Room := { frames := 8, cells := 3, slots := 18, locals := 133 }
set_option maxHeartbeats 4000000 in
set_option maxRecDepth 100000 in
theorem ktLw_meeting (l : Launch) (hfl : l.flags = Jvm.pinnedFlags ++ [Jvm.noTraceFlag]) (D : va_G) (cA : ClassId) (cL : ClassId) (ad : Nat → Nat) (oa : Nat) (N : Nat) (sz : Nat) (formStands : Bool) (meetingNames : Nat → Int32) (outc : Nat → Int64) (v1 : Int32) (v2 : Int32) (post : Int32 → (Nat → Int64) → Prop) (hw : wpLw_meeting N formStands meetingNames outc v1 v2 post) : Met l yLw_meeting (Cond.codeWith yLw_meeting cLw_meeting 5 (some .int) [(0, 10, 13, 36), (0, 10, 17, 13)] :: xW) rmLw_meeting (va_Pc [.ref (ad 0), .int v1, .int v2, .ref oa] (xPcL D [(cA, .int), (cL, .long)] (wdLw_meeting cA cL ad oa N formStands meetingNames outc) sz)) (qcLw_meeting D cA cL ad oa N formStands meetingNames outc post (va_A (wdLw_meeting cA cL ad oa N formStands meetingNames outc) sz)) 3 18 (va_A (wdLw_meeting cA cL ad oa N formStands meetingNames outc) sz) := by
  refine va_MetW (hh := [(0, 10, 13, 36), (0, 10, 17, 13)]) (cc := cLw_meeting) (maxL := 5) (ret := (some .int)) (by decide) rfl ?_
  intro p e s m args below meth c s₁ B hml hv
  obtain ⟨rfl, ⟨⟨hsz, hP, hK, hD0, hN⟩, hE0⟩, hNc⟩ := hv
  have hx := B.exec
  have hb := B.bytes
  have hr := B.returns
  have hts := atoms_spec (ws := (Cond.codeWith yLw_meeting cLw_meeting 5 (some .int) [(0, 10, 13, 36), (0, 10, 17, 13)] :: xW)) B.pre
  have hown : s.vm.findClass "OnceNamedLaw" = some m.cls := findClass_of_methodNamed B.named
  have hlocks := B.notSynchronized
  subst hsz
  have hD := hD0.self (sz := s.heap.size)
  have hE := xEEfull hE0
  have hexc := xhandlers B.named B.method (Stand.of_body B).code (hts _ List.mem_cons_self)
  generalize hAe : va_A (wdLw_meeting cA cL ad oa N formStands meetingNames outc) s.heap.size = A at hD hE ⊢
  have hA : ∀ q : Nat, s.heap.size ≤ q → A q := fun q h => by rw [← hAe]; exact Or.inr h
  have hS : va_S A s.heap s.heap [] := va_S.rf
  have hend : ∀ (r : Int32) (u0 : Nat → Int64) (H : Heap) (locs : List Loc) (pc : Nat) (ls : Array Slot), decode cLw_meeting pc = .ok (.ireturn, 1) → va_P D vwCl (wdLw_meeting cA cL ad oa N formStands meetingNames u0) H → va_D A (wdLw_meeting cA cL ad oa N formStands meetingNames u0) → va_S A s.heap H locs → post r u0 → W p l e (headSpec (Cond.codeWith yLw_meeting cLw_meeting 5 (some .int) [(0, 10, 13, 36), (0, 10, 17, 13)] :: xW) rmLw_meeting).room s m ([.ref (ad 0), .int v1, .int v2, .ref oa] : List Value).toArray below meth c H locs 3 18 (MQ below (qcLw_meeting D cA cL ad oa N formStands meetingNames outc post A) ([.ref (ad 0), .int v1, .int v2, .ref oa] : List Value).toArray s 3 18 A) (F0 m pc ls [.int r]) := fun r u0 H locs pc ls hd hP hD hS hw => W.iret (v := r) hx hb hr (fun t ht hW => ⟨⟨r, u0, rfl, hw, ⟨by rw [ht]; exact hP, va_K.moved hW.alike hK, hD⟩⟩, hS.F ht⟩) hS.2.2 hd
  generalize hQ : MQ below (qcLw_meeting D cA cL ad oa N formStands meetingNames outc post A) ([.ref (ad 0), .int v1, .int v2, .ref oa] : List Value).toArray s 3 18 A = Q at hend ⊢
  have hl := lv_entry ([.ref (ad 0), .int v1, .int v2, .ref oa]) (n := 5) (Nat.le_of_ble_eq_true rfl)
  rw [lg_entry_eq]
  generalize (lg_sl ([.ref (ad 0), .int v1, .int v2, .ref oa]) ++ List.replicate (5 - (lg_sl ([.ref (ad 0), .int v1, .int v2, .ref oa])).length) Slot.unset).toArray = ls at hl ⊢
  have hl : lv_has ls 5 [(0, .ref (ad 0)), (1, .int v1), (2, .int v2), (3, .ref oa)] := hl
  unfold wpLw_meeting at hw
  refine lv_aload_n hx hb dLw_meeting_0 rfl (lv_at hl 3 rfl) ?_
  refine lv_iconst (v := 0) hx hb dLw_meeting_1 (by decide) ?_
  refine lv_aload_n hx hb dLw_meeting_2 rfl (lv_at hl 0 rfl) ?_
  refine lv_iload_n hx hb dLw_meeting_3 rfl (lv_at hl 1 rfl) ?_
  refine lv_iload_n hx hb dLw_meeting_4 rfl (lv_at hl 2 rfl) ?_
  refine xcci (xrunV ⟨hx, hb, hml, hown, hts⟩ (ktOn_meeting l hfl D cA ad N _ formStands meetingNames v1 v2 _ _ hw) (cwV 2 hts (goodV kw_656 kw_657 kw_658 kw_1 kw_659) rfl rfl rfl (by decide +kernel) ⟨Nat.le_of_ble_eq_true rfl, Nat.le_of_ble_eq_true rfl⟩) (xpreVE hE hS (hK.sub [0] rfl) hP hD hN [0, 1, 2] rfl rfl 0 rfl rfl) rfl rfl hl.1 rfl (lv_room (Nat.le_of_ble_eq_true rfl)) dLw_meeting_5 ⟨Nat.le_of_ble_eq_true rfl, Nat.le_of_ble_eq_true rfl⟩) hown hNc [(⟨0, 10, 13, 36⟩, 2), (⟨0, 10, 17, 13⟩, 0)] hexc (by intro q hq; simp only [List.mem_cons, List.not_mem_nil, or_false] at hq; rcases hq with rfl | rfl; all_goals first | exact ⟨by decide, by decide, by decide, hts _ (List.mem_cons_of_mem _ kw_563)⟩ | exact ⟨by decide, by decide, by decide, hts _ (List.mem_cons_of_mem _ kw_407)⟩) (fun k u h => by rcases h.1 with rfl | rfl; all_goals exact ⟨by decide, by simp⟩) hP hD hS hA [0, 1, 2] [3] rfl rfl rfl rfl [1, 2, 3, 0] rfl (fun _ => rfl) (fun r5 u H locs hw hP hD hS => ?_) (fun k x u H locs hw hP hD hS => ?_)
  ·
    have hP : va_P D vwCl (wdLw_meeting cA cL ad oa N formStands meetingNames outc) H := hP
    have hD : va_D A (wdLw_meeting cA cL ad oa N formStands meetingNames outc) := hD
    refine lv_i2l (v := (Int32.toInt64 r5)) hx hb dLw_meeting_8 rfl ?_
    have ho := hw.1
    have hw := hw.2
    refine va_last hx hb hK hP hD hS 3 1 rfl rfl ho dLw_meeting_9 (fun H locs hP hD hS => ?_)
    have hP : va_P D vwCl (wdLw_meeting cA cL ad oa N formStands meetingNames (vp_updL outc (Int32.toNatClampNeg 0) (Int32.toInt64 r5))) H := hP
    have hD : va_D A (wdLw_meeting cA cL ad oa N formStands meetingNames (vp_updL outc (Int32.toNatClampNeg 0) (Int32.toInt64 r5))) := hD
    refine lv_goto (tgt := 21) hx hb dLw_meeting_10 rfl ?_
    refine lv_iconst (v := 0) hx hb dLw_meeting_21 (by decide) ?_
    exact hend 0 (vp_updL outc (Int32.toNatClampNeg 0) (Int32.toInt64 r5)) _ _ _ _ dLw_meeting_22 hP hD hS hw
  ·
    try dsimp only at hw
    have hP : va_P D vwCl (wdLw_meeting cA cL ad oa N formStands meetingNames outc) H := hP
    have hD : va_D A (wdLw_meeting cA cL ad oa N formStands meetingNames outc) := hD
    obtain ⟨hk, hw⟩ := hw
    rcases hk with rfl | rfl
    · have hw := hw.1 rfl
      refine W.eq (g2 := F0 m 13 ls [.ref x]) rfl ?_
      refine lv_astore (lv' := [(4, .ref x), (0, .ref (ad 0)), (1, .int v1), (2, .int v2), (3, .ref oa)]) hx hb dLw_meeting_13 hl (by decide) rfl (fun ls hl => ?_)
      refine lv_iconst (v := 1) hx hb dLw_meeting_15 (by decide) ?_
      exact hend 1 outc _ _ _ _ dLw_meeting_16 hP hD hS hw
    · have hw := hw.2 rfl
      refine W.eq (g2 := F0 m 17 ls [.ref x]) rfl ?_
      refine lv_astore (lv' := [(4, .ref x), (0, .ref (ad 0)), (1, .int v1), (2, .int v2), (3, .ref oa)]) hx hb dLw_meeting_17 hl (by decide) rfl (fun ls hl => ?_)
      refine lv_iconst (v := 2) hx hb dLw_meeting_19 (by decide) ?_
      exact hend 2 outc _ _ _ _ dLw_meeting_20 hP hD hS hw
abbrev wdLw_source (cA : ClassId) (cL : ClassId) (ad : Nat → Nat) (oa : Nat) (N : Nat) (formStands : Bool) (meetingUses : Nat → Int32) (outc : Nat → Int64) : va_W := [((ad 0), .inr (0, [.int (nI N), .ref (ad 1), .ref (ad 11), .ref (ad 18), .ref (ad 30), .ref (ad 35), .ref (ad 38), .ref (ad 40), .ref (ad 42), .int (bI formStands)])), ((ad 18), .inr (3, [.ref (ad 1), .ref (ad 11), .int (nI N), .ref (ad 19), .ref (ad 20), .ref (ad 21), .ref (ad 22), .ref (ad 23), .ref (ad 24), .ref (ad 25), .ref (ad 26), .ref (ad 27), .ref (ad 28), .ref (ad 29)])), ((ad 20), .inl (cA, N * 6 * (N + 1), .inl meetingUses)), (oa, .inl (cL, 1, .inr (.inl outc)))]
abbrev qcLw_source (D : va_G) (cA : ClassId) (cL : ClassId) (ad : Nat → Nat) (oa : Nat) (N : Nat) (formStands : Bool) (meetingUses : Nat → Int32) (outc : Nat → Int64) (post : Int32 → (Nat → Int64) → Prop) (A : Nat → Prop) : Array Value → State → Outcome → State → Prop := va_Qi (S := (Nat → Int64)) (fun r u => post r u) (fun u t => xB D [(cA, .int), (cL, .long)] A (wdLw_source cA cL ad oa N formStands meetingUses u) t) A
abbrev rmLw_source : Room := { frames := 9, cells := 4, slots := 24, locals := 157 }
set_option maxHeartbeats 4000000 in
set_option maxRecDepth 100000 in
theorem ktLw_source (l : Launch) (hfl : l.flags = Jvm.pinnedFlags ++ [Jvm.noTraceFlag]) (D : va_G) (cA : ClassId) (cL : ClassId) (ad : Nat → Nat) (oa : Nat) (N : Nat) (sz : Nat) (formStands : Bool) (meetingUses : Nat → Int32) (outc : Nat → Int64) (v1 : Int32) (v2 : Int32) (v3 : Int32) (post : Int32 → (Nat → Int64) → Prop) (hw : wpLw_source N formStands meetingUses outc v1 v2 v3 post) : Met l yLw_source (Cond.codeWith yLw_source cLw_source 6 (some .int) [(0, 12, 15, 36), (0, 12, 19, 13)] :: xW) rmLw_source (va_Pc [.ref (ad 0), .int v1, .int v2, .int v3, .ref oa] (xPcL D [(cA, .int), (cL, .long)] (wdLw_source cA cL ad oa N formStands meetingUses outc) sz)) (qcLw_source D cA cL ad oa N formStands meetingUses outc post (va_A (wdLw_source cA cL ad oa N formStands meetingUses outc) sz)) 4 24 (va_A (wdLw_source cA cL ad oa N formStands meetingUses outc) sz) := by
  refine va_MetW (hh := [(0, 12, 15, 36), (0, 12, 19, 13)]) (cc := cLw_source) (maxL := 6) (ret := (some .int)) (by decide) rfl ?_
  intro p e s m args below meth c s₁ B hml hv
  obtain ⟨rfl, ⟨⟨hsz, hP, hK, hD0, hN⟩, hE0⟩, hNc⟩ := hv
  have hx := B.exec
  have hb := B.bytes
  have hr := B.returns
  have hts := atoms_spec (ws := (Cond.codeWith yLw_source cLw_source 6 (some .int) [(0, 12, 15, 36), (0, 12, 19, 13)] :: xW)) B.pre
  have hown : s.vm.findClass "OnceNamedLaw" = some m.cls := findClass_of_methodNamed B.named
  have hlocks := B.notSynchronized
  subst hsz
  have hD := hD0.self (sz := s.heap.size)
  have hE := xEEfull hE0
  have hexc := xhandlers B.named B.method (Stand.of_body B).code (hts _ List.mem_cons_self)
  generalize hAe : va_A (wdLw_source cA cL ad oa N formStands meetingUses outc) s.heap.size = A at hD hE ⊢
  have hA : ∀ q : Nat, s.heap.size ≤ q → A q := fun q h => by rw [← hAe]; exact Or.inr h
  have hS : va_S A s.heap s.heap [] := va_S.rf
  have hend : ∀ (r : Int32) (u0 : Nat → Int64) (H : Heap) (locs : List Loc) (pc : Nat) (ls : Array Slot), decode cLw_source pc = .ok (.ireturn, 1) → va_P D vwCl (wdLw_source cA cL ad oa N formStands meetingUses u0) H → va_D A (wdLw_source cA cL ad oa N formStands meetingUses u0) → va_S A s.heap H locs → post r u0 → W p l e (headSpec (Cond.codeWith yLw_source cLw_source 6 (some .int) [(0, 12, 15, 36), (0, 12, 19, 13)] :: xW) rmLw_source).room s m ([.ref (ad 0), .int v1, .int v2, .int v3, .ref oa] : List Value).toArray below meth c H locs 4 24 (MQ below (qcLw_source D cA cL ad oa N formStands meetingUses outc post A) ([.ref (ad 0), .int v1, .int v2, .int v3, .ref oa] : List Value).toArray s 4 24 A) (F0 m pc ls [.int r]) := fun r u0 H locs pc ls hd hP hD hS hw => W.iret (v := r) hx hb hr (fun t ht hW => ⟨⟨r, u0, rfl, hw, ⟨by rw [ht]; exact hP, va_K.moved hW.alike hK, hD⟩⟩, hS.F ht⟩) hS.2.2 hd
  generalize hQ : MQ below (qcLw_source D cA cL ad oa N formStands meetingUses outc post A) ([.ref (ad 0), .int v1, .int v2, .int v3, .ref oa] : List Value).toArray s 4 24 A = Q at hend ⊢
  have hl := lv_entry ([.ref (ad 0), .int v1, .int v2, .int v3, .ref oa]) (n := 6) (Nat.le_of_ble_eq_true rfl)
  rw [lg_entry_eq]
  generalize (lg_sl ([.ref (ad 0), .int v1, .int v2, .int v3, .ref oa]) ++ List.replicate (6 - (lg_sl ([.ref (ad 0), .int v1, .int v2, .int v3, .ref oa])).length) Slot.unset).toArray = ls at hl ⊢
  have hl : lv_has ls 6 [(0, .ref (ad 0)), (1, .int v1), (2, .int v2), (3, .int v3), (4, .ref oa)] := hl
  unfold wpLw_source at hw
  refine lv_aload hx hb dLw_source_0 (lv_at hl 4 rfl) ?_
  refine lv_iconst (v := 0) hx hb dLw_source_2 (by decide) ?_
  refine lv_aload_n hx hb dLw_source_3 rfl (lv_at hl 0 rfl) ?_
  refine lv_iload_n hx hb dLw_source_4 rfl (lv_at hl 1 rfl) ?_
  refine lv_iload_n hx hb dLw_source_5 rfl (lv_at hl 2 rfl) ?_
  refine lv_iload_n hx hb dLw_source_6 rfl (lv_at hl 3 rfl) ?_
  refine xcci (xrunV ⟨hx, hb, hml, hown, hts⟩ (ktOn_source l hfl D cA ad N _ formStands meetingUses v1 v2 v3 _ _ hw) (cwV 3 hts (goodV kw_667 kw_668 kw_669 kw_1 kw_670) rfl rfl rfl (by decide +kernel) ⟨Nat.le_of_ble_eq_true rfl, Nat.le_of_ble_eq_true rfl⟩) (xpreVE hE hS (hK.sub [0] rfl) hP hD hN [0, 1, 2] rfl rfl 0 rfl rfl) rfl rfl hl.1 rfl (lv_room (Nat.le_of_ble_eq_true rfl)) dLw_source_7 ⟨Nat.le_of_ble_eq_true rfl, Nat.le_of_ble_eq_true rfl⟩) hown hNc [(⟨0, 12, 15, 36⟩, 2), (⟨0, 12, 19, 13⟩, 0)] hexc (by intro q hq; simp only [List.mem_cons, List.not_mem_nil, or_false] at hq; rcases hq with rfl | rfl; all_goals first | exact ⟨by decide, by decide, by decide, hts _ (List.mem_cons_of_mem _ kw_563)⟩ | exact ⟨by decide, by decide, by decide, hts _ (List.mem_cons_of_mem _ kw_407)⟩) (fun k u h => by rcases h.1 with rfl | rfl; all_goals exact ⟨by decide, by simp⟩) hP hD hS hA [0, 1, 2] [3] rfl rfl rfl rfl [1, 2, 3, 0] rfl (fun _ => rfl) (fun r7 u H locs hw hP hD hS => ?_) (fun k x u H locs hw hP hD hS => ?_)
  ·
    have hP : va_P D vwCl (wdLw_source cA cL ad oa N formStands meetingUses outc) H := hP
    have hD : va_D A (wdLw_source cA cL ad oa N formStands meetingUses outc) := hD
    refine lv_i2l (v := (Int32.toInt64 r7)) hx hb dLw_source_10 rfl ?_
    have ho := hw.1
    have hw := hw.2
    refine va_last hx hb hK hP hD hS 3 1 rfl rfl ho dLw_source_11 (fun H locs hP hD hS => ?_)
    have hP : va_P D vwCl (wdLw_source cA cL ad oa N formStands meetingUses (vp_updL outc (Int32.toNatClampNeg 0) (Int32.toInt64 r7))) H := hP
    have hD : va_D A (wdLw_source cA cL ad oa N formStands meetingUses (vp_updL outc (Int32.toNatClampNeg 0) (Int32.toInt64 r7))) := hD
    refine lv_goto (tgt := 23) hx hb dLw_source_12 rfl ?_
    refine lv_iconst (v := 0) hx hb dLw_source_23 (by decide) ?_
    exact hend 0 (vp_updL outc (Int32.toNatClampNeg 0) (Int32.toInt64 r7)) _ _ _ _ dLw_source_24 hP hD hS hw
  ·
    try dsimp only at hw
    have hP : va_P D vwCl (wdLw_source cA cL ad oa N formStands meetingUses outc) H := hP
    have hD : va_D A (wdLw_source cA cL ad oa N formStands meetingUses outc) := hD
    obtain ⟨hk, hw⟩ := hw
    rcases hk with rfl | rfl
    · have hw := hw.1 rfl
      refine W.eq (g2 := F0 m 15 ls [.ref x]) rfl ?_
      refine lv_astore (lv' := [(5, .ref x), (0, .ref (ad 0)), (1, .int v1), (2, .int v2), (3, .int v3), (4, .ref oa)]) hx hb dLw_source_15 hl (by decide) rfl (fun ls hl => ?_)
      refine lv_iconst (v := 1) hx hb dLw_source_17 (by decide) ?_
      exact hend 1 outc _ _ _ _ dLw_source_18 hP hD hS hw
    · have hw := hw.2 rfl
      refine W.eq (g2 := F0 m 19 ls [.ref x]) rfl ?_
      refine lv_astore (lv' := [(5, .ref x), (0, .ref (ad 0)), (1, .int v1), (2, .int v2), (3, .int v3), (4, .ref oa)]) hx hb dLw_source_19 hl (by decide) rfl (fun ls hl => ?_)
      refine lv_iconst (v := 2) hx hb dLw_source_21 (by decide) ?_
      exact hend 2 outc _ _ _ _ dLw_source_22 hP hD hS hw
abbrev wdLw_sets (cA : ClassId) (cL : ClassId) (ad : Nat → Nat) (oa : Nat) (N : Nat) (formStands : Bool) (stepCount : Nat → Int32) (stepNames : Nat → Int32) (outc : Nat → Int64) : va_W := [((ad 0), .inr (0, [.int (nI N), .ref (ad 1), .ref (ad 11), .ref (ad 18), .ref (ad 30), .ref (ad 35), .ref (ad 38), .ref (ad 40), .ref (ad 42), .int (bI formStands)])), ((ad 1), .inr (1, [.int (nI N), .ref (ad 2), .ref (ad 3), .ref (ad 4), .ref (ad 5), .ref (ad 6), .ref (ad 7), .ref (ad 8), .ref (ad 9), .ref (ad 10)])), ((ad 2), .inl (cA, N, .inl stepCount)), ((ad 18), .inr (3, [.ref (ad 1), .ref (ad 11), .int (nI N), .ref (ad 19), .ref (ad 20), .ref (ad 21), .ref (ad 22), .ref (ad 23), .ref (ad 24), .ref (ad 25), .ref (ad 26), .ref (ad 27), .ref (ad 28), .ref (ad 29)])), ((ad 21), .inl (cA, N * 6, .inl stepNames)), (oa, .inl (cL, 1, .inr (.inl outc)))]
abbrev qcLw_sets (D : va_G) (cA : ClassId) (cL : ClassId) (ad : Nat → Nat) (oa : Nat) (N : Nat) (formStands : Bool) (stepCount : Nat → Int32) (stepNames : Nat → Int32) (outc : Nat → Int64) (post : Int32 → (Nat → Int64) → Prop) (A : Nat → Prop) : Array Value → State → Outcome → State → Prop := va_Qi (S := (Nat → Int64)) (fun r u => post r u) (fun u t => xB D [(cA, .int), (cL, .long)] A (wdLw_sets cA cL ad oa N formStands stepCount stepNames u) t) A
abbrev rmLw_sets : Room := { frames := 8, cells := 3, slots := 18, locals := 134 }
set_option maxHeartbeats 4000000 in
set_option maxRecDepth 100000 in
theorem ktLw_sets (l : Launch) (hfl : l.flags = Jvm.pinnedFlags ++ [Jvm.noTraceFlag]) (D : va_G) (cA : ClassId) (cL : ClassId) (ad : Nat → Nat) (oa : Nat) (N : Nat) (sz : Nat) (formStands : Bool) (stepCount : Nat → Int32) (stepNames : Nat → Int32) (outc : Nat → Int64) (v1 : Int32) (v2 : Int32) (post : Int32 → (Nat → Int64) → Prop) (hw : wpLw_sets N formStands stepCount stepNames outc v1 v2 post) : Met l yLw_sets (Cond.codeWith yLw_sets cLw_sets 5 (some .int) [(0, 10, 13, 36), (0, 10, 17, 13)] :: xW) rmLw_sets (va_Pc [.ref (ad 0), .int v1, .int v2, .ref oa] (xPcL D [(cA, .int), (cL, .long)] (wdLw_sets cA cL ad oa N formStands stepCount stepNames outc) sz)) (qcLw_sets D cA cL ad oa N formStands stepCount stepNames outc post (va_A (wdLw_sets cA cL ad oa N formStands stepCount stepNames outc) sz)) 3 18 (va_A (wdLw_sets cA cL ad oa N formStands stepCount stepNames outc) sz) := by
  refine va_MetW (hh := [(0, 10, 13, 36), (0, 10, 17, 13)]) (cc := cLw_sets) (maxL := 5) (ret := (some .int)) (by decide) rfl ?_
  intro p e s m args below meth c s₁ B hml hv
  obtain ⟨rfl, ⟨⟨hsz, hP, hK, hD0, hN⟩, hE0⟩, hNc⟩ := hv
  have hx := B.exec
  have hb := B.bytes
  have hr := B.returns
  have hts := atoms_spec (ws := (Cond.codeWith yLw_sets cLw_sets 5 (some .int) [(0, 10, 13, 36), (0, 10, 17, 13)] :: xW)) B.pre
  have hown : s.vm.findClass "OnceNamedLaw" = some m.cls := findClass_of_methodNamed B.named
  have hlocks := B.notSynchronized
  subst hsz
  have hD := hD0.self (sz := s.heap.size)
  have hE := xEEfull hE0
  have hexc := xhandlers B.named B.method (Stand.of_body B).code (hts _ List.mem_cons_self)
  generalize hAe : va_A (wdLw_sets cA cL ad oa N formStands stepCount stepNames outc) s.heap.size = A at hD hE ⊢
  have hA : ∀ q : Nat, s.heap.size ≤ q → A q := fun q h => by rw [← hAe]; exact Or.inr h
  have hS : va_S A s.heap s.heap [] := va_S.rf
  have hend : ∀ (r : Int32) (u0 : Nat → Int64) (H : Heap) (locs : List Loc) (pc : Nat) (ls : Array Slot), decode cLw_sets pc = .ok (.ireturn, 1) → va_P D vwCl (wdLw_sets cA cL ad oa N formStands stepCount stepNames u0) H → va_D A (wdLw_sets cA cL ad oa N formStands stepCount stepNames u0) → va_S A s.heap H locs → post r u0 → W p l e (headSpec (Cond.codeWith yLw_sets cLw_sets 5 (some .int) [(0, 10, 13, 36), (0, 10, 17, 13)] :: xW) rmLw_sets).room s m ([.ref (ad 0), .int v1, .int v2, .ref oa] : List Value).toArray below meth c H locs 3 18 (MQ below (qcLw_sets D cA cL ad oa N formStands stepCount stepNames outc post A) ([.ref (ad 0), .int v1, .int v2, .ref oa] : List Value).toArray s 3 18 A) (F0 m pc ls [.int r]) := fun r u0 H locs pc ls hd hP hD hS hw => W.iret (v := r) hx hb hr (fun t ht hW => ⟨⟨r, u0, rfl, hw, ⟨by rw [ht]; exact hP, va_K.moved hW.alike hK, hD⟩⟩, hS.F ht⟩) hS.2.2 hd
  generalize hQ : MQ below (qcLw_sets D cA cL ad oa N formStands stepCount stepNames outc post A) ([.ref (ad 0), .int v1, .int v2, .ref oa] : List Value).toArray s 3 18 A = Q at hend ⊢
  have hl := lv_entry ([.ref (ad 0), .int v1, .int v2, .ref oa]) (n := 5) (Nat.le_of_ble_eq_true rfl)
  rw [lg_entry_eq]
  generalize (lg_sl ([.ref (ad 0), .int v1, .int v2, .ref oa]) ++ List.replicate (5 - (lg_sl ([.ref (ad 0), .int v1, .int v2, .ref oa])).length) Slot.unset).toArray = ls at hl ⊢
  have hl : lv_has ls 5 [(0, .ref (ad 0)), (1, .int v1), (2, .int v2), (3, .ref oa)] := hl
  unfold wpLw_sets at hw
  refine lv_aload_n hx hb dLw_sets_0 rfl (lv_at hl 3 rfl) ?_
  refine lv_iconst (v := 0) hx hb dLw_sets_1 (by decide) ?_
  refine lv_aload_n hx hb dLw_sets_2 rfl (lv_at hl 0 rfl) ?_
  refine lv_iload_n hx hb dLw_sets_3 rfl (lv_at hl 1 rfl) ?_
  refine lv_iload_n hx hb dLw_sets_4 rfl (lv_at hl 2 rfl) ?_
  refine xcci (xrunV ⟨hx, hb, hml, hown, hts⟩ (ktOn_sets l hfl D cA ad N _ formStands stepCount stepNames v1 v2 _ _ hw) (cwV 2 hts (goodV kw_687 kw_688 kw_689 kw_1 kw_690) rfl rfl rfl (by decide +kernel) ⟨Nat.le_of_ble_eq_true rfl, Nat.le_of_ble_eq_true rfl⟩) (xpreVE hE hS (hK.sub [0] rfl) hP hD hN [0, 1, 2, 3, 4] rfl rfl 0 rfl rfl) rfl rfl hl.1 rfl (lv_room (Nat.le_of_ble_eq_true rfl)) dLw_sets_5 ⟨Nat.le_of_ble_eq_true rfl, Nat.le_of_ble_eq_true rfl⟩) hown hNc [(⟨0, 10, 13, 36⟩, 2), (⟨0, 10, 17, 13⟩, 0)] hexc (by intro q hq; simp only [List.mem_cons, List.not_mem_nil, or_false] at hq; rcases hq with rfl | rfl; all_goals first | exact ⟨by decide, by decide, by decide, hts _ (List.mem_cons_of_mem _ kw_563)⟩ | exact ⟨by decide, by decide, by decide, hts _ (List.mem_cons_of_mem _ kw_407)⟩) (fun k u h => by rcases h.1 with rfl | rfl; all_goals exact ⟨by decide, by simp⟩) hP hD hS hA [0, 1, 2, 3, 4] [5] rfl rfl rfl rfl [1, 2, 3, 4, 5, 0] rfl (fun _ => rfl) (fun r5 u H locs hw hP hD hS => ?_) (fun k x u H locs hw hP hD hS => ?_)
  ·
    have hP : va_P D vwCl (wdLw_sets cA cL ad oa N formStands stepCount stepNames outc) H := hP
    have hD : va_D A (wdLw_sets cA cL ad oa N formStands stepCount stepNames outc) := hD
    refine lv_i2l (v := (Int32.toInt64 r5)) hx hb dLw_sets_8 rfl ?_
    have ho := hw.1
    have hw := hw.2
    refine va_last hx hb hK hP hD hS 5 1 rfl rfl ho dLw_sets_9 (fun H locs hP hD hS => ?_)
    have hP : va_P D vwCl (wdLw_sets cA cL ad oa N formStands stepCount stepNames (vp_updL outc (Int32.toNatClampNeg 0) (Int32.toInt64 r5))) H := hP
    have hD : va_D A (wdLw_sets cA cL ad oa N formStands stepCount stepNames (vp_updL outc (Int32.toNatClampNeg 0) (Int32.toInt64 r5))) := hD
    refine lv_goto (tgt := 21) hx hb dLw_sets_10 rfl ?_
    refine lv_iconst (v := 0) hx hb dLw_sets_21 (by decide) ?_
    exact hend 0 (vp_updL outc (Int32.toNatClampNeg 0) (Int32.toInt64 r5)) _ _ _ _ dLw_sets_22 hP hD hS hw
  ·
    try dsimp only at hw
    have hP : va_P D vwCl (wdLw_sets cA cL ad oa N formStands stepCount stepNames outc) H := hP
    have hD : va_D A (wdLw_sets cA cL ad oa N formStands stepCount stepNames outc) := hD
    obtain ⟨hk, hw⟩ := hw
    rcases hk with rfl | rfl
    · have hw := hw.1 rfl
      refine W.eq (g2 := F0 m 13 ls [.ref x]) rfl ?_
      refine lv_astore (lv' := [(4, .ref x), (0, .ref (ad 0)), (1, .int v1), (2, .int v2), (3, .ref oa)]) hx hb dLw_sets_13 hl (by decide) rfl (fun ls hl => ?_)
      refine lv_iconst (v := 1) hx hb dLw_sets_15 (by decide) ?_
      exact hend 1 outc _ _ _ _ dLw_sets_16 hP hD hS hw
    · have hw := hw.2 rfl
      refine W.eq (g2 := F0 m 17 ls [.ref x]) rfl ?_
      refine lv_astore (lv' := [(4, .ref x), (0, .ref (ad 0)), (1, .int v1), (2, .int v2), (3, .ref oa)]) hx hb dLw_sets_17 hl (by decide) rfl (fun ls hl => ?_)
      refine lv_iconst (v := 2) hx hb dLw_sets_19 (by decide) ?_
      exact hend 2 outc _ _ _ _ dLw_sets_20 hP hD hS hw
abbrev wdLw_use (cA : ClassId) (cL : ClassId) (ad : Nat → Nat) (oa : Nat) (N : Nat) (formStands : Bool) (stepCount : Nat → Int32) (firstUses : Nat → Int32) (secondUses : Nat → Int32) (endUses : Nat → Int32) (outc : Nat → Int64) : va_W := [((ad 0), .inr (0, [.int (nI N), .ref (ad 1), .ref (ad 11), .ref (ad 18), .ref (ad 30), .ref (ad 35), .ref (ad 38), .ref (ad 40), .ref (ad 42), .int (bI formStands)])), ((ad 1), .inr (1, [.int (nI N), .ref (ad 2), .ref (ad 3), .ref (ad 4), .ref (ad 5), .ref (ad 6), .ref (ad 7), .ref (ad 8), .ref (ad 9), .ref (ad 10)])), ((ad 2), .inl (cA, N, .inl stepCount)), ((ad 18), .inr (3, [.ref (ad 1), .ref (ad 11), .int (nI N), .ref (ad 19), .ref (ad 20), .ref (ad 21), .ref (ad 22), .ref (ad 23), .ref (ad 24), .ref (ad 25), .ref (ad 26), .ref (ad 27), .ref (ad 28), .ref (ad 29)])), ((ad 22), .inl (cA, N * 6, .inl firstUses)), ((ad 23), .inl (cA, N * 6, .inl secondUses)), ((ad 24), .inl (cA, N, .inl endUses)), (oa, .inl (cL, 1, .inr (.inl outc)))]
abbrev qcLw_use (D : va_G) (cA : ClassId) (cL : ClassId) (ad : Nat → Nat) (oa : Nat) (N : Nat) (formStands : Bool) (stepCount : Nat → Int32) (firstUses : Nat → Int32) (secondUses : Nat → Int32) (endUses : Nat → Int32) (outc : Nat → Int64) (post : Int32 → (Nat → Int64) → Prop) (A : Nat → Prop) : Array Value → State → Outcome → State → Prop := va_Qi (S := (Nat → Int64)) (fun r u => post r u) (fun u t => xB D [(cA, .int), (cL, .long)] A (wdLw_use cA cL ad oa N formStands stepCount firstUses secondUses endUses u) t) A
abbrev rmLw_use : Room := { frames := 9, cells := 4, slots := 24, locals := 158 }
set_option maxHeartbeats 4000000 in
set_option maxRecDepth 100000 in
theorem ktLw_use (l : Launch) (hfl : l.flags = Jvm.pinnedFlags ++ [Jvm.noTraceFlag]) (D : va_G) (cA : ClassId) (cL : ClassId) (ad : Nat → Nat) (oa : Nat) (N : Nat) (sz : Nat) (formStands : Bool) (stepCount : Nat → Int32) (firstUses : Nat → Int32) (secondUses : Nat → Int32) (endUses : Nat → Int32) (outc : Nat → Int64) (v1 : Int32) (v2 : Int32) (v3 : Int32) (post : Int32 → (Nat → Int64) → Prop) (hw : wpLw_use N formStands stepCount firstUses secondUses endUses outc v1 v2 v3 post) : Met l yLw_use (Cond.codeWith yLw_use cLw_use 6 (some .int) [(0, 12, 15, 36), (0, 12, 19, 13)] :: xW) rmLw_use (va_Pc [.ref (ad 0), .int v1, .int v2, .int v3, .ref oa] (xPcL D [(cA, .int), (cL, .long)] (wdLw_use cA cL ad oa N formStands stepCount firstUses secondUses endUses outc) sz)) (qcLw_use D cA cL ad oa N formStands stepCount firstUses secondUses endUses outc post (va_A (wdLw_use cA cL ad oa N formStands stepCount firstUses secondUses endUses outc) sz)) 4 24 (va_A (wdLw_use cA cL ad oa N formStands stepCount firstUses secondUses endUses outc) sz) := by
  refine va_MetW (hh := [(0, 12, 15, 36), (0, 12, 19, 13)]) (cc := cLw_use) (maxL := 6) (ret := (some .int)) (by decide) rfl ?_
  intro p e s m args below meth c s₁ B hml hv
  obtain ⟨rfl, ⟨⟨hsz, hP, hK, hD0, hN⟩, hE0⟩, hNc⟩ := hv
  have hx := B.exec
  have hb := B.bytes
  have hr := B.returns
  have hts := atoms_spec (ws := (Cond.codeWith yLw_use cLw_use 6 (some .int) [(0, 12, 15, 36), (0, 12, 19, 13)] :: xW)) B.pre
  have hown : s.vm.findClass "OnceNamedLaw" = some m.cls := findClass_of_methodNamed B.named
  have hlocks := B.notSynchronized
  subst hsz
  have hD := hD0.self (sz := s.heap.size)
  have hE := xEEfull hE0
  have hexc := xhandlers B.named B.method (Stand.of_body B).code (hts _ List.mem_cons_self)
  generalize hAe : va_A (wdLw_use cA cL ad oa N formStands stepCount firstUses secondUses endUses outc) s.heap.size = A at hD hE ⊢
  have hA : ∀ q : Nat, s.heap.size ≤ q → A q := fun q h => by rw [← hAe]; exact Or.inr h
  have hS : va_S A s.heap s.heap [] := va_S.rf
  have hend : ∀ (r : Int32) (u0 : Nat → Int64) (H : Heap) (locs : List Loc) (pc : Nat) (ls : Array Slot), decode cLw_use pc = .ok (.ireturn, 1) → va_P D vwCl (wdLw_use cA cL ad oa N formStands stepCount firstUses secondUses endUses u0) H → va_D A (wdLw_use cA cL ad oa N formStands stepCount firstUses secondUses endUses u0) → va_S A s.heap H locs → post r u0 → W p l e (headSpec (Cond.codeWith yLw_use cLw_use 6 (some .int) [(0, 12, 15, 36), (0, 12, 19, 13)] :: xW) rmLw_use).room s m ([.ref (ad 0), .int v1, .int v2, .int v3, .ref oa] : List Value).toArray below meth c H locs 4 24 (MQ below (qcLw_use D cA cL ad oa N formStands stepCount firstUses secondUses endUses outc post A) ([.ref (ad 0), .int v1, .int v2, .int v3, .ref oa] : List Value).toArray s 4 24 A) (F0 m pc ls [.int r]) := fun r u0 H locs pc ls hd hP hD hS hw => W.iret (v := r) hx hb hr (fun t ht hW => ⟨⟨r, u0, rfl, hw, ⟨by rw [ht]; exact hP, va_K.moved hW.alike hK, hD⟩⟩, hS.F ht⟩) hS.2.2 hd
  generalize hQ : MQ below (qcLw_use D cA cL ad oa N formStands stepCount firstUses secondUses endUses outc post A) ([.ref (ad 0), .int v1, .int v2, .int v3, .ref oa] : List Value).toArray s 4 24 A = Q at hend ⊢
  have hl := lv_entry ([.ref (ad 0), .int v1, .int v2, .int v3, .ref oa]) (n := 6) (Nat.le_of_ble_eq_true rfl)
  rw [lg_entry_eq]
  generalize (lg_sl ([.ref (ad 0), .int v1, .int v2, .int v3, .ref oa]) ++ List.replicate (6 - (lg_sl ([.ref (ad 0), .int v1, .int v2, .int v3, .ref oa])).length) Slot.unset).toArray = ls at hl ⊢
  have hl : lv_has ls 6 [(0, .ref (ad 0)), (1, .int v1), (2, .int v2), (3, .int v3), (4, .ref oa)] := hl
  unfold wpLw_use at hw
  refine lv_aload hx hb dLw_use_0 (lv_at hl 4 rfl) ?_
  refine lv_iconst (v := 0) hx hb dLw_use_2 (by decide) ?_
  refine lv_aload_n hx hb dLw_use_3 rfl (lv_at hl 0 rfl) ?_
  refine lv_iload_n hx hb dLw_use_4 rfl (lv_at hl 1 rfl) ?_
  refine lv_iload_n hx hb dLw_use_5 rfl (lv_at hl 2 rfl) ?_
  refine lv_iload_n hx hb dLw_use_6 rfl (lv_at hl 3 rfl) ?_
  refine xcci (xrunV ⟨hx, hb, hml, hown, hts⟩ (ktOn_use l hfl D cA ad N _ formStands stepCount firstUses secondUses endUses v1 v2 v3 _ _ hw) (cwV 3 hts (goodV kw_703 kw_704 kw_705 kw_1 kw_706) rfl rfl rfl (by decide +kernel) ⟨Nat.le_of_ble_eq_true rfl, Nat.le_of_ble_eq_true rfl⟩) (xpreVE hE hS (hK.sub [0] rfl) hP hD hN [0, 1, 2, 3, 4, 5, 6] rfl rfl 0 rfl rfl) rfl rfl hl.1 rfl (lv_room (Nat.le_of_ble_eq_true rfl)) dLw_use_7 ⟨Nat.le_of_ble_eq_true rfl, Nat.le_of_ble_eq_true rfl⟩) hown hNc [(⟨0, 12, 15, 36⟩, 2), (⟨0, 12, 19, 13⟩, 0)] hexc (by intro q hq; simp only [List.mem_cons, List.not_mem_nil, or_false] at hq; rcases hq with rfl | rfl; all_goals first | exact ⟨by decide, by decide, by decide, hts _ (List.mem_cons_of_mem _ kw_563)⟩ | exact ⟨by decide, by decide, by decide, hts _ (List.mem_cons_of_mem _ kw_407)⟩) (fun k u h => by rcases h.1 with rfl | rfl; all_goals exact ⟨by decide, by simp⟩) hP hD hS hA [0, 1, 2, 3, 4, 5, 6] [7] rfl rfl rfl rfl [1, 2, 3, 4, 5, 6, 7, 0] rfl (fun _ => rfl) (fun r7 u H locs hw hP hD hS => ?_) (fun k x u H locs hw hP hD hS => ?_)
  ·
    have hP : va_P D vwCl (wdLw_use cA cL ad oa N formStands stepCount firstUses secondUses endUses outc) H := hP
    have hD : va_D A (wdLw_use cA cL ad oa N formStands stepCount firstUses secondUses endUses outc) := hD
    refine lv_i2l (v := (Int32.toInt64 r7)) hx hb dLw_use_10 rfl ?_
    have ho := hw.1
    have hw := hw.2
    refine va_last hx hb hK hP hD hS 7 1 rfl rfl ho dLw_use_11 (fun H locs hP hD hS => ?_)
    have hP : va_P D vwCl (wdLw_use cA cL ad oa N formStands stepCount firstUses secondUses endUses (vp_updL outc (Int32.toNatClampNeg 0) (Int32.toInt64 r7))) H := hP
    have hD : va_D A (wdLw_use cA cL ad oa N formStands stepCount firstUses secondUses endUses (vp_updL outc (Int32.toNatClampNeg 0) (Int32.toInt64 r7))) := hD
    refine lv_goto (tgt := 23) hx hb dLw_use_12 rfl ?_
    refine lv_iconst (v := 0) hx hb dLw_use_23 (by decide) ?_
    exact hend 0 (vp_updL outc (Int32.toNatClampNeg 0) (Int32.toInt64 r7)) _ _ _ _ dLw_use_24 hP hD hS hw
  ·
    try dsimp only at hw
    have hP : va_P D vwCl (wdLw_use cA cL ad oa N formStands stepCount firstUses secondUses endUses outc) H := hP
    have hD : va_D A (wdLw_use cA cL ad oa N formStands stepCount firstUses secondUses endUses outc) := hD
    obtain ⟨hk, hw⟩ := hw
    rcases hk with rfl | rfl
    · have hw := hw.1 rfl
      refine W.eq (g2 := F0 m 15 ls [.ref x]) rfl ?_
      refine lv_astore (lv' := [(5, .ref x), (0, .ref (ad 0)), (1, .int v1), (2, .int v2), (3, .int v3), (4, .ref oa)]) hx hb dLw_use_15 hl (by decide) rfl (fun ls hl => ?_)
      refine lv_iconst (v := 1) hx hb dLw_use_17 (by decide) ?_
      exact hend 1 outc _ _ _ _ dLw_use_18 hP hD hS hw
    · have hw := hw.2 rfl
      refine W.eq (g2 := F0 m 19 ls [.ref x]) rfl ?_
      refine lv_astore (lv' := [(5, .ref x), (0, .ref (ad 0)), (1, .int v1), (2, .int v2), (3, .int v3), (4, .ref oa)]) hx hb dLw_use_19 hl (by decide) rfl (fun ls hl => ?_)
      refine lv_iconst (v := 2) hx hb dLw_use_21 (by decide) ?_
      exact hend 2 outc _ _ _ _ dLw_use_22 hP hD hS hw
abbrev wdLw_alter (cA : ClassId) (cL : ClassId) (ad : Nat → Nat) (oa : Nat) (N : Nat) (formStands : Bool) (stepCount : Nat → Int32) (firstUses : Nat → Int32) (secondUses : Nat → Int32) (endUses : Nat → Int32) (homeBlock : Nat → Int32) : va_W := [((ad 0), .inr (0, [.int (nI N), .ref (ad 1), .ref (ad 11), .ref (ad 18), .ref (ad 30), .ref (ad 35), .ref (ad 38), .ref (ad 40), .ref (ad 42), .int (bI formStands)])), ((ad 1), .inr (1, [.int (nI N), .ref (ad 2), .ref (ad 3), .ref (ad 4), .ref (ad 5), .ref (ad 6), .ref (ad 7), .ref (ad 8), .ref (ad 9), .ref (ad 10)])), ((ad 2), .inl (cA, N, .inl stepCount)), ((ad 18), .inr (3, [.ref (ad 1), .ref (ad 11), .int (nI N), .ref (ad 19), .ref (ad 20), .ref (ad 21), .ref (ad 22), .ref (ad 23), .ref (ad 24), .ref (ad 25), .ref (ad 26), .ref (ad 27), .ref (ad 28), .ref (ad 29)])), ((ad 22), .inl (cA, N * 6, .inl firstUses)), ((ad 23), .inl (cA, N * 6, .inl secondUses)), ((ad 24), .inl (cA, N, .inl endUses)), ((ad 27), .inl (cA, 600, .inl homeBlock))]
abbrev qcLw_alter (D : va_G) (cA : ClassId) (cL : ClassId) (ad : Nat → Nat) (oa : Nat) (N : Nat) (formStands : Bool) (stepCount : Nat → Int32) (firstUses : Nat → Int32) (secondUses : Nat → Int32) (endUses : Nat → Int32) (homeBlock : Nat → Int32) (post : Int32 → (Nat → Int32) → (Nat → Int32) → (Nat → Int32) → Prop) (A : Nat → Prop) : Array Value → State → Outcome → State → Prop := va_Qi (S := (Nat → Int32) × (Nat → Int32) × (Nat → Int32)) (fun r u => post r u.1 u.2.1 u.2.2) (fun u t => xB D [(cA, .int), (cL, .long)] A (wdLw_alter cA cL ad oa N formStands stepCount u.1 u.2.1 u.2.2 homeBlock) t) A
abbrev rmLw_alter : Room := { frames := 9, cells := 6, slots := 36, locals := 159 }
set_option maxHeartbeats 4000000 in
set_option maxRecDepth 100000 in
theorem ktLw_alter (l : Launch) (hfl : l.flags = Jvm.pinnedFlags ++ [Jvm.noTraceFlag]) (D : va_G) (cA : ClassId) (cL : ClassId) (ad : Nat → Nat) (oa : Nat) (N : Nat) (sz : Nat) (formStands : Bool) (stepCount : Nat → Int32) (firstUses : Nat → Int32) (secondUses : Nat → Int32) (endUses : Nat → Int32) (homeBlock : Nat → Int32) (v1 : Int32) (v2 : Int32) (v3 : Int32) (v4 : Int32) (post : Int32 → (Nat → Int32) → (Nat → Int32) → (Nat → Int32) → Prop) (hw : wpLw_alter N formStands stepCount firstUses secondUses endUses homeBlock v1 v2 v3 v4 post) : Met l yLw_alter (Cond.codeWith yLw_alter cLw_alter 6 (some .int) [(0, 9, 12, 36), (0, 9, 16, 13)] :: xW) rmLw_alter (va_Pc [.ref (ad 0), .int v1, .int v2, .int v3, .int v4] (xPcL D [(cA, .int), (cL, .long)] (wdLw_alter cA cL ad oa N formStands stepCount firstUses secondUses endUses homeBlock) sz)) (qcLw_alter D cA cL ad oa N formStands stepCount firstUses secondUses endUses homeBlock post (va_A (wdLw_alter cA cL ad oa N formStands stepCount firstUses secondUses endUses homeBlock) sz)) 6 36 (va_A (wdLw_alter cA cL ad oa N formStands stepCount firstUses secondUses endUses homeBlock) sz) := by
  refine va_MetW (hh := [(0, 9, 12, 36), (0, 9, 16, 13)]) (cc := cLw_alter) (maxL := 6) (ret := (some .int)) (by decide) rfl ?_
  intro p e s m args below meth c s₁ B hml hv
  obtain ⟨rfl, ⟨⟨hsz, hP, hK, hD0, hN⟩, hE0⟩, hNc⟩ := hv
  have hx := B.exec
  have hb := B.bytes
  have hr := B.returns
  have hts := atoms_spec (ws := (Cond.codeWith yLw_alter cLw_alter 6 (some .int) [(0, 9, 12, 36), (0, 9, 16, 13)] :: xW)) B.pre
  have hown : s.vm.findClass "OnceNamedLaw" = some m.cls := findClass_of_methodNamed B.named
  have hlocks := B.notSynchronized
  subst hsz
  have hD := hD0.self (sz := s.heap.size)
  have hE := xEEfull hE0
  have hexc := xhandlers B.named B.method (Stand.of_body B).code (hts _ List.mem_cons_self)
  generalize hAe : va_A (wdLw_alter cA cL ad oa N formStands stepCount firstUses secondUses endUses homeBlock) s.heap.size = A at hD hE ⊢
  have hA : ∀ q : Nat, s.heap.size ≤ q → A q := fun q h => by rw [← hAe]; exact Or.inr h
  have hS : va_S A s.heap s.heap [] := va_S.rf
  have hend : ∀ (r : Int32) (u0 : Nat → Int32) (u1 : Nat → Int32) (u2 : Nat → Int32) (H : Heap) (locs : List Loc) (pc : Nat) (ls : Array Slot), decode cLw_alter pc = .ok (.ireturn, 1) → va_P D vwCl (wdLw_alter cA cL ad oa N formStands stepCount u0 u1 u2 homeBlock) H → va_D A (wdLw_alter cA cL ad oa N formStands stepCount u0 u1 u2 homeBlock) → va_S A s.heap H locs → post r u0 u1 u2 → W p l e (headSpec (Cond.codeWith yLw_alter cLw_alter 6 (some .int) [(0, 9, 12, 36), (0, 9, 16, 13)] :: xW) rmLw_alter).room s m ([.ref (ad 0), .int v1, .int v2, .int v3, .int v4] : List Value).toArray below meth c H locs 6 36 (MQ below (qcLw_alter D cA cL ad oa N formStands stepCount firstUses secondUses endUses homeBlock post A) ([.ref (ad 0), .int v1, .int v2, .int v3, .int v4] : List Value).toArray s 6 36 A) (F0 m pc ls [.int r]) := fun r u0 u1 u2 H locs pc ls hd hP hD hS hw => W.iret (v := r) hx hb hr (fun t ht hW => ⟨⟨r, (u0, u1, u2), rfl, hw, ⟨by rw [ht]; exact hP, va_K.moved hW.alike hK, hD⟩⟩, hS.F ht⟩) hS.2.2 hd
  generalize hQ : MQ below (qcLw_alter D cA cL ad oa N formStands stepCount firstUses secondUses endUses homeBlock post A) ([.ref (ad 0), .int v1, .int v2, .int v3, .int v4] : List Value).toArray s 6 36 A = Q at hend ⊢
  have hl := lv_entry ([.ref (ad 0), .int v1, .int v2, .int v3, .int v4]) (n := 6) (Nat.le_of_ble_eq_true rfl)
  rw [lg_entry_eq]
  generalize (lg_sl ([.ref (ad 0), .int v1, .int v2, .int v3, .int v4]) ++ List.replicate (6 - (lg_sl ([.ref (ad 0), .int v1, .int v2, .int v3, .int v4])).length) Slot.unset).toArray = ls at hl ⊢
  have hl : lv_has ls 6 [(0, .ref (ad 0)), (1, .int v1), (2, .int v2), (3, .int v3), (4, .int v4)] := hl
  unfold wpLw_alter at hw
  refine lv_aload_n hx hb dLw_alter_0 rfl (lv_at hl 0 rfl) ?_
  refine lv_iload_n hx hb dLw_alter_1 rfl (lv_at hl 1 rfl) ?_
  refine lv_iload_n hx hb dLw_alter_2 rfl (lv_at hl 2 rfl) ?_
  refine lv_iload_n hx hb dLw_alter_3 rfl (lv_at hl 3 rfl) ?_
  refine lv_iload hx hb dLw_alter_4 (lv_at hl 4 rfl) ?_
  refine xccv (xrunV ⟨hx, hb, hml, hown, hts⟩ (ktOn_alter l hfl D cA ad N _ formStands stepCount firstUses secondUses endUses homeBlock v1 v2 v3 v4 _ _ hw) (cwV 4 hts (goodV kw_727 kw_728 kw_729 kw_1 kw_730) rfl rfl rfl (by decide +kernel) ⟨Nat.le_of_ble_eq_true rfl, Nat.le_of_ble_eq_true rfl⟩) (xpreVE hE hS (hK.sub [0] rfl) hP hD hN [0, 1, 2, 3, 4, 5, 6, 7] rfl rfl 0 rfl rfl) rfl rfl hl.1 rfl (lv_room (Nat.le_of_ble_eq_true rfl)) dLw_alter_6 ⟨Nat.le_of_ble_eq_true rfl, Nat.le_of_ble_eq_true rfl⟩) hown hNc [(⟨0, 9, 12, 36⟩, 2), (⟨0, 9, 16, 13⟩, 0)] hexc (by intro q hq; simp only [List.mem_cons, List.not_mem_nil, or_false] at hq; rcases hq with rfl | rfl; all_goals first | exact ⟨by decide, by decide, by decide, hts _ (List.mem_cons_of_mem _ kw_563)⟩ | exact ⟨by decide, by decide, by decide, hts _ (List.mem_cons_of_mem _ kw_407)⟩) (fun k u h => by rcases h.1 with rfl | rfl; all_goals exact ⟨by decide, by simp⟩) hP hD hS hA [0, 1, 2, 3, 4, 5, 6, 7] [] rfl rfl rfl rfl [0, 1, 2, 3, 4, 5, 6, 7] rfl (fun _ => rfl) (fun u H locs hw hP hD hS => ?_) (fun k x u H locs hw hP hD hS => ?_)
  ·
    obtain ⟨firstUses_6, secondUses_6, endUses_6⟩ := u
    try dsimp only at hw
    have hP : va_P D vwCl (wdLw_alter cA cL ad oa N formStands stepCount firstUses_6 secondUses_6 endUses_6 homeBlock) H := hP
    have hD : va_D A (wdLw_alter cA cL ad oa N formStands stepCount firstUses_6 secondUses_6 endUses_6 homeBlock) := hD
    refine lv_goto (tgt := 20) hx hb dLw_alter_9 rfl ?_
    refine lv_iconst (v := 0) hx hb dLw_alter_20 (by decide) ?_
    exact hend 0 firstUses_6 secondUses_6 endUses_6 _ _ _ _ dLw_alter_21 hP hD hS hw
  ·
    obtain ⟨firstUses_6, secondUses_6, endUses_6⟩ := u
    try dsimp only at hw
    have hP : va_P D vwCl (wdLw_alter cA cL ad oa N formStands stepCount firstUses_6 secondUses_6 endUses_6 homeBlock) H := hP
    have hD : va_D A (wdLw_alter cA cL ad oa N formStands stepCount firstUses_6 secondUses_6 endUses_6 homeBlock) := hD
    obtain ⟨hk, hw⟩ := hw
    rcases hk with rfl | rfl
    · have hw := hw.1 rfl
      refine W.eq (g2 := F0 m 12 ls [.ref x]) rfl ?_
      refine lv_astore (lv' := [(5, .ref x), (0, .ref (ad 0)), (1, .int v1), (2, .int v2), (3, .int v3), (4, .int v4)]) hx hb dLw_alter_12 hl (by decide) rfl (fun ls hl => ?_)
      refine lv_iconst (v := 1) hx hb dLw_alter_14 (by decide) ?_
      exact hend 1 firstUses_6 secondUses_6 endUses_6 _ _ _ _ dLw_alter_15 hP hD hS hw
    · have hw := hw.2 rfl
      refine W.eq (g2 := F0 m 16 ls [.ref x]) rfl ?_
      refine lv_astore (lv' := [(5, .ref x), (0, .ref (ad 0)), (1, .int v1), (2, .int v2), (3, .int v3), (4, .int v4)]) hx hb dLw_alter_16 hl (by decide) rfl (fun ls hl => ?_)
      refine lv_iconst (v := 2) hx hb dLw_alter_18 (by decide) ?_
      exact hend 2 firstUses_6 secondUses_6 endUses_6 _ _ _ _ dLw_alter_19 hP hD hS hw
abbrev wdLw_turn (cA : ClassId) (cL : ClassId) (ad : Nat → Nat) (oa : Nat) (N : Nat) (formStands : Bool) (meetingUses : Nat → Int32) (homeBlock : Nat → Int32) : va_W := [((ad 0), .inr (0, [.int (nI N), .ref (ad 1), .ref (ad 11), .ref (ad 18), .ref (ad 30), .ref (ad 35), .ref (ad 38), .ref (ad 40), .ref (ad 42), .int (bI formStands)])), ((ad 18), .inr (3, [.ref (ad 1), .ref (ad 11), .int (nI N), .ref (ad 19), .ref (ad 20), .ref (ad 21), .ref (ad 22), .ref (ad 23), .ref (ad 24), .ref (ad 25), .ref (ad 26), .ref (ad 27), .ref (ad 28), .ref (ad 29)])), ((ad 20), .inl (cA, N * 6 * (N + 1), .inl meetingUses)), ((ad 27), .inl (cA, 600, .inl homeBlock))]
abbrev qcLw_turn (D : va_G) (cA : ClassId) (cL : ClassId) (ad : Nat → Nat) (oa : Nat) (N : Nat) (formStands : Bool) (meetingUses : Nat → Int32) (homeBlock : Nat → Int32) (post : Int32 → (Nat → Int32) → Prop) (A : Nat → Prop) : Array Value → State → Outcome → State → Prop := va_Qi (S := (Nat → Int32)) (fun r u => post r u) (fun u t => xB D [(cA, .int), (cL, .long)] A (wdLw_turn cA cL ad oa N formStands u homeBlock) t) A
abbrev rmLw_turn : Room := { frames := 9, cells := 6, slots := 36, locals := 158 }
set_option maxHeartbeats 4000000 in
set_option maxRecDepth 100000 in
theorem ktLw_turn (l : Launch) (hfl : l.flags = Jvm.pinnedFlags ++ [Jvm.noTraceFlag]) (D : va_G) (cA : ClassId) (cL : ClassId) (ad : Nat → Nat) (oa : Nat) (N : Nat) (sz : Nat) (formStands : Bool) (meetingUses : Nat → Int32) (homeBlock : Nat → Int32) (v1 : Int32) (v2 : Int32) (v3 : Int32) (v4 : Int32) (post : Int32 → (Nat → Int32) → Prop) (hw : wpLw_turn N formStands meetingUses homeBlock v1 v2 v3 v4 post) : Met l yLw_turn (Cond.codeWith yLw_turn cLw_turn 6 (some .int) [(0, 9, 12, 36), (0, 9, 16, 13)] :: xW) rmLw_turn (va_Pc [.ref (ad 0), .int v1, .int v2, .int v3, .int v4] (xPcL D [(cA, .int), (cL, .long)] (wdLw_turn cA cL ad oa N formStands meetingUses homeBlock) sz)) (qcLw_turn D cA cL ad oa N formStands meetingUses homeBlock post (va_A (wdLw_turn cA cL ad oa N formStands meetingUses homeBlock) sz)) 6 36 (va_A (wdLw_turn cA cL ad oa N formStands meetingUses homeBlock) sz) := by
  refine va_MetW (hh := [(0, 9, 12, 36), (0, 9, 16, 13)]) (cc := cLw_turn) (maxL := 6) (ret := (some .int)) (by decide) rfl ?_
  intro p e s m args below meth c s₁ B hml hv
  obtain ⟨rfl, ⟨⟨hsz, hP, hK, hD0, hN⟩, hE0⟩, hNc⟩ := hv
  have hx := B.exec
  have hb := B.bytes
  have hr := B.returns
  have hts := atoms_spec (ws := (Cond.codeWith yLw_turn cLw_turn 6 (some .int) [(0, 9, 12, 36), (0, 9, 16, 13)] :: xW)) B.pre
  have hown : s.vm.findClass "OnceNamedLaw" = some m.cls := findClass_of_methodNamed B.named
  have hlocks := B.notSynchronized
  subst hsz
  have hD := hD0.self (sz := s.heap.size)
  have hE := xEEfull hE0
  have hexc := xhandlers B.named B.method (Stand.of_body B).code (hts _ List.mem_cons_self)
  generalize hAe : va_A (wdLw_turn cA cL ad oa N formStands meetingUses homeBlock) s.heap.size = A at hD hE ⊢
  have hA : ∀ q : Nat, s.heap.size ≤ q → A q := fun q h => by rw [← hAe]; exact Or.inr h
  have hS : va_S A s.heap s.heap [] := va_S.rf
  have hend : ∀ (r : Int32) (u0 : Nat → Int32) (H : Heap) (locs : List Loc) (pc : Nat) (ls : Array Slot), decode cLw_turn pc = .ok (.ireturn, 1) → va_P D vwCl (wdLw_turn cA cL ad oa N formStands u0 homeBlock) H → va_D A (wdLw_turn cA cL ad oa N formStands u0 homeBlock) → va_S A s.heap H locs → post r u0 → W p l e (headSpec (Cond.codeWith yLw_turn cLw_turn 6 (some .int) [(0, 9, 12, 36), (0, 9, 16, 13)] :: xW) rmLw_turn).room s m ([.ref (ad 0), .int v1, .int v2, .int v3, .int v4] : List Value).toArray below meth c H locs 6 36 (MQ below (qcLw_turn D cA cL ad oa N formStands meetingUses homeBlock post A) ([.ref (ad 0), .int v1, .int v2, .int v3, .int v4] : List Value).toArray s 6 36 A) (F0 m pc ls [.int r]) := fun r u0 H locs pc ls hd hP hD hS hw => W.iret (v := r) hx hb hr (fun t ht hW => ⟨⟨r, u0, rfl, hw, ⟨by rw [ht]; exact hP, va_K.moved hW.alike hK, hD⟩⟩, hS.F ht⟩) hS.2.2 hd
  generalize hQ : MQ below (qcLw_turn D cA cL ad oa N formStands meetingUses homeBlock post A) ([.ref (ad 0), .int v1, .int v2, .int v3, .int v4] : List Value).toArray s 6 36 A = Q at hend ⊢
  have hl := lv_entry ([.ref (ad 0), .int v1, .int v2, .int v3, .int v4]) (n := 6) (Nat.le_of_ble_eq_true rfl)
  rw [lg_entry_eq]
  generalize (lg_sl ([.ref (ad 0), .int v1, .int v2, .int v3, .int v4]) ++ List.replicate (6 - (lg_sl ([.ref (ad 0), .int v1, .int v2, .int v3, .int v4])).length) Slot.unset).toArray = ls at hl ⊢
  have hl : lv_has ls 6 [(0, .ref (ad 0)), (1, .int v1), (2, .int v2), (3, .int v3), (4, .int v4)] := hl
  unfold wpLw_turn at hw
  refine lv_aload_n hx hb dLw_turn_0 rfl (lv_at hl 0 rfl) ?_
  refine lv_iload_n hx hb dLw_turn_1 rfl (lv_at hl 1 rfl) ?_
  refine lv_iload_n hx hb dLw_turn_2 rfl (lv_at hl 2 rfl) ?_
  refine lv_iload_n hx hb dLw_turn_3 rfl (lv_at hl 3 rfl) ?_
  refine lv_iload hx hb dLw_turn_4 (lv_at hl 4 rfl) ?_
  refine xccv (xrunV ⟨hx, hb, hml, hown, hts⟩ (ktOn_turn l hfl D cA ad N _ formStands meetingUses homeBlock v1 v2 v3 v4 _ _ hw) (cwV 4 hts (goodV kw_755 kw_756 kw_757 kw_1 kw_758) rfl rfl rfl (by decide +kernel) ⟨Nat.le_of_ble_eq_true rfl, Nat.le_of_ble_eq_true rfl⟩) (xpreVE hE hS (hK.sub [0] rfl) hP hD hN [0, 1, 2, 3] rfl rfl 0 rfl rfl) rfl rfl hl.1 rfl (lv_room (Nat.le_of_ble_eq_true rfl)) dLw_turn_6 ⟨Nat.le_of_ble_eq_true rfl, Nat.le_of_ble_eq_true rfl⟩) hown hNc [(⟨0, 9, 12, 36⟩, 2), (⟨0, 9, 16, 13⟩, 0)] hexc (by intro q hq; simp only [List.mem_cons, List.not_mem_nil, or_false] at hq; rcases hq with rfl | rfl; all_goals first | exact ⟨by decide, by decide, by decide, hts _ (List.mem_cons_of_mem _ kw_563)⟩ | exact ⟨by decide, by decide, by decide, hts _ (List.mem_cons_of_mem _ kw_407)⟩) (fun k u h => by rcases h.1 with rfl | rfl; all_goals exact ⟨by decide, by simp⟩) hP hD hS hA [0, 1, 2, 3] [] rfl rfl rfl rfl [0, 1, 2, 3] rfl (fun _ => rfl) (fun meetingUses_6 H locs hw hP hD hS => ?_) (fun k x u H locs hw hP hD hS => ?_)
  ·
    try dsimp only at hw
    have hP : va_P D vwCl (wdLw_turn cA cL ad oa N formStands meetingUses_6 homeBlock) H := hP
    have hD : va_D A (wdLw_turn cA cL ad oa N formStands meetingUses_6 homeBlock) := hD
    refine lv_goto (tgt := 20) hx hb dLw_turn_9 rfl ?_
    refine lv_iconst (v := 0) hx hb dLw_turn_20 (by decide) ?_
    exact hend 0 meetingUses_6 _ _ _ _ dLw_turn_21 hP hD hS hw
  ·
    obtain ⟨meetingUses_6, rfl⟩ : ∃ z, z = u := ⟨_, rfl⟩
    try dsimp only at hw
    have hP : va_P D vwCl (wdLw_turn cA cL ad oa N formStands meetingUses_6 homeBlock) H := hP
    have hD : va_D A (wdLw_turn cA cL ad oa N formStands meetingUses_6 homeBlock) := hD
    obtain ⟨hk, hw⟩ := hw
    rcases hk with rfl | rfl
    · have hw := hw.1 rfl
      refine W.eq (g2 := F0 m 12 ls [.ref x]) rfl ?_
      refine lv_astore (lv' := [(5, .ref x), (0, .ref (ad 0)), (1, .int v1), (2, .int v2), (3, .int v3), (4, .int v4)]) hx hb dLw_turn_12 hl (by decide) rfl (fun ls hl => ?_)
      refine lv_iconst (v := 1) hx hb dLw_turn_14 (by decide) ?_
      exact hend 1 meetingUses_6 _ _ _ _ dLw_turn_15 hP hD hS hw
    · have hw := hw.2 rfl
      refine W.eq (g2 := F0 m 16 ls [.ref x]) rfl ?_
      refine lv_astore (lv' := [(5, .ref x), (0, .ref (ad 0)), (1, .int v1), (2, .int v2), (3, .int v3), (4, .int v4)]) hx hb dLw_turn_16 hl (by decide) rfl (fun ls hl => ?_)
      refine lv_iconst (v := 2) hx hb dLw_turn_18 (by decide) ?_
      exact hend 2 meetingUses_6 _ _ _ _ dLw_turn_19 hP hD hS hw
abbrev wdLw_valid (cA : ClassId) (cL : ClassId) (ad : Nat → Nat) (oa : Nat) (N : Nat) (formStands : Bool) (stepCount : Nat → Int32) (orderSize : Int32) (reached : Int32) (blw : Nat → Int32) (order : Nat → Int32) (meetingUses : Nat → Int32) (firstUses : Nat → Int32) (secondUses : Nat → Int32) (endUses : Nat → Int32) (homeBlock : Nat → Int32) (homePlace : Nat → Int32) (outc : Nat → Int64) : va_W := [((ad 0), .inr (0, [.int (nI N), .ref (ad 1), .ref (ad 11), .ref (ad 18), .ref (ad 30), .ref (ad 35), .ref (ad 38), .ref (ad 40), .ref (ad 42), .int (bI formStands)])), ((ad 1), .inr (1, [.int (nI N), .ref (ad 2), .ref (ad 3), .ref (ad 4), .ref (ad 5), .ref (ad 6), .ref (ad 7), .ref (ad 8), .ref (ad 9), .ref (ad 10)])), ((ad 2), .inl (cA, N, .inl stepCount)), ((ad 11), .inr (2, [.int (nI N), .ref (ad 12), .ref (ad 13), .ref (ad 14), .ref (ad 15), .ref (ad 16), .ref (ad 17), .int orderSize, .int reached])), ((ad 13), .inl (cA, N, .inl blw)), ((ad 16), .inl (cA, N, .inl order)), ((ad 18), .inr (3, [.ref (ad 1), .ref (ad 11), .int (nI N), .ref (ad 19), .ref (ad 20), .ref (ad 21), .ref (ad 22), .ref (ad 23), .ref (ad 24), .ref (ad 25), .ref (ad 26), .ref (ad 27), .ref (ad 28), .ref (ad 29)])), ((ad 20), .inl (cA, N * 6 * (N + 1), .inl meetingUses)), ((ad 22), .inl (cA, N * 6, .inl firstUses)), ((ad 23), .inl (cA, N * 6, .inl secondUses)), ((ad 24), .inl (cA, N, .inl endUses)), ((ad 27), .inl (cA, 600, .inl homeBlock)), ((ad 28), .inl (cA, 600, .inl homePlace)), (oa, .inl (cL, 1, .inr (.inl outc)))]
abbrev qcLw_valid (D : va_G) (cA : ClassId) (cL : ClassId) (ad : Nat → Nat) (oa : Nat) (N : Nat) (formStands : Bool) (stepCount : Nat → Int32) (orderSize : Int32) (reached : Int32) (blw : Nat → Int32) (order : Nat → Int32) (meetingUses : Nat → Int32) (firstUses : Nat → Int32) (secondUses : Nat → Int32) (endUses : Nat → Int32) (homeBlock : Nat → Int32) (homePlace : Nat → Int32) (outc : Nat → Int64) (post : Int32 → (Nat → Int64) → Prop) (A : Nat → Prop) : Array Value → State → Outcome → State → Prop := va_Qi (S := (Nat → Int64)) (fun r u => post r u) (fun u t => xB D [(cA, .int), (cL, .long)] A (wdLw_valid cA cL ad oa N formStands stepCount orderSize reached blw order meetingUses firstUses secondUses endUses homeBlock homePlace u) t) A
abbrev rmLw_valid : Room := { frames := 8, cells := 1, slots := 6, locals := 132 }
set_option maxHeartbeats 4000000 in
set_option maxRecDepth 100000 in
theorem ktLw_valid (l : Launch) (hfl : l.flags = Jvm.pinnedFlags ++ [Jvm.noTraceFlag]) (D : va_G) (cA : ClassId) (cL : ClassId) (ad : Nat → Nat) (oa : Nat) (N : Nat) (sz : Nat) (formStands : Bool) (stepCount : Nat → Int32) (orderSize : Int32) (reached : Int32) (blw : Nat → Int32) (order : Nat → Int32) (meetingUses : Nat → Int32) (firstUses : Nat → Int32) (secondUses : Nat → Int32) (endUses : Nat → Int32) (homeBlock : Nat → Int32) (homePlace : Nat → Int32) (outc : Nat → Int64)  (post : Int32 → (Nat → Int64) → Prop) (hw : wpLw_valid N formStands stepCount orderSize blw order meetingUses firstUses secondUses endUses homeBlock homePlace outc post) : Met l yLw_valid (Cond.codeWith yLw_valid cLw_valid 3 (some .int) [(0, 15, 18, 36)] :: xW) rmLw_valid (va_Pc [.ref (ad 0), .ref oa] (xPcL D [(cA, .int), (cL, .long)] (wdLw_valid cA cL ad oa N formStands stepCount orderSize reached blw order meetingUses firstUses secondUses endUses homeBlock homePlace outc) sz)) (qcLw_valid D cA cL ad oa N formStands stepCount orderSize reached blw order meetingUses firstUses secondUses endUses homeBlock homePlace outc post (va_A (wdLw_valid cA cL ad oa N formStands stepCount orderSize reached blw order meetingUses firstUses secondUses endUses homeBlock homePlace outc) sz)) 1 6 (va_A (wdLw_valid cA cL ad oa N formStands stepCount orderSize reached blw order meetingUses firstUses secondUses endUses homeBlock homePlace outc) sz) := by
  refine va_MetW (hh := [(0, 15, 18, 36)]) (cc := cLw_valid) (maxL := 3) (ret := (some .int)) (by decide) rfl ?_
  intro p e s m args below meth c s₁ B hml hv
  obtain ⟨rfl, ⟨⟨hsz, hP, hK, hD0, hN⟩, hE0⟩, hNc⟩ := hv
  have hx := B.exec
  have hb := B.bytes
  have hr := B.returns
  have hts := atoms_spec (ws := (Cond.codeWith yLw_valid cLw_valid 3 (some .int) [(0, 15, 18, 36)] :: xW)) B.pre
  have hown : s.vm.findClass "OnceNamedLaw" = some m.cls := findClass_of_methodNamed B.named
  have hlocks := B.notSynchronized
  subst hsz
  have hD := hD0.self (sz := s.heap.size)
  have hE := xEEfull hE0
  have hexc := xhandlers B.named B.method (Stand.of_body B).code (hts _ List.mem_cons_self)
  generalize hAe : va_A (wdLw_valid cA cL ad oa N formStands stepCount orderSize reached blw order meetingUses firstUses secondUses endUses homeBlock homePlace outc) s.heap.size = A at hD hE ⊢
  have hA : ∀ q : Nat, s.heap.size ≤ q → A q := fun q h => by rw [← hAe]; exact Or.inr h
  have hS : va_S A s.heap s.heap [] := va_S.rf
  have hend : ∀ (r : Int32) (u0 : Nat → Int64) (H : Heap) (locs : List Loc) (pc : Nat) (ls : Array Slot), decode cLw_valid pc = .ok (.ireturn, 1) → va_P D vwCl (wdLw_valid cA cL ad oa N formStands stepCount orderSize reached blw order meetingUses firstUses secondUses endUses homeBlock homePlace u0) H → va_D A (wdLw_valid cA cL ad oa N formStands stepCount orderSize reached blw order meetingUses firstUses secondUses endUses homeBlock homePlace u0) → va_S A s.heap H locs → post r u0 → W p l e (headSpec (Cond.codeWith yLw_valid cLw_valid 3 (some .int) [(0, 15, 18, 36)] :: xW) rmLw_valid).room s m ([.ref (ad 0), .ref oa] : List Value).toArray below meth c H locs 1 6 (MQ below (qcLw_valid D cA cL ad oa N formStands stepCount orderSize reached blw order meetingUses firstUses secondUses endUses homeBlock homePlace outc post A) ([.ref (ad 0), .ref oa] : List Value).toArray s 1 6 A) (F0 m pc ls [.int r]) := fun r u0 H locs pc ls hd hP hD hS hw => W.iret (v := r) hx hb hr (fun t ht hW => ⟨⟨r, u0, rfl, hw, ⟨by rw [ht]; exact hP, va_K.moved hW.alike hK, hD⟩⟩, hS.F ht⟩) hS.2.2 hd
  generalize hQ : MQ below (qcLw_valid D cA cL ad oa N formStands stepCount orderSize reached blw order meetingUses firstUses secondUses endUses homeBlock homePlace outc post A) ([.ref (ad 0), .ref oa] : List Value).toArray s 1 6 A = Q at hend ⊢
  have hl := lv_entry ([.ref (ad 0), .ref oa]) (n := 3) (Nat.le_of_ble_eq_true rfl)
  rw [lg_entry_eq]
  generalize (lg_sl ([.ref (ad 0), .ref oa]) ++ List.replicate (3 - (lg_sl ([.ref (ad 0), .ref oa])).length) Slot.unset).toArray = ls at hl ⊢
  have hl : lv_has ls 3 [(0, .ref (ad 0)), (1, .ref oa)] := hl
  unfold wpLw_valid at hw
  refine lv_aload_n hx hb dLw_valid_0 rfl (lv_at hl 1 rfl) ?_
  refine lv_iconst (v := 0) hx hb dLw_valid_1 (by decide) ?_
  refine lv_aload_n hx hb dLw_valid_2 rfl (lv_at hl 0 rfl) ?_
  refine xcci (xrunV ⟨hx, hb, hml, hown, hts⟩ (ktOn_valid l hfl D cA ad N _ formStands stepCount orderSize reached blw order meetingUses firstUses secondUses endUses homeBlock homePlace _ _ hw) (cwV 0 hts (goodV kw_766 kw_767 kw_768 kw_1 kw_769) rfl rfl rfl (by decide +kernel) ⟨Nat.le_of_ble_eq_true rfl, Nat.le_of_ble_eq_true rfl⟩) (xpreVE hE hS (hK.sub [0] rfl) hP hD hN [0, 1, 2, 3, 4, 5, 6, 7, 8, 9, 10, 11, 12] rfl rfl 0 rfl rfl) rfl rfl hl.1 rfl (lv_room (Nat.le_of_ble_eq_true rfl)) dLw_valid_3 ⟨Nat.le_of_ble_eq_true rfl, Nat.le_of_ble_eq_true rfl⟩) hown hNc [(⟨0, 15, 18, 36⟩, 2)] hexc (by intro q hq; simp only [List.mem_cons, List.not_mem_nil, or_false] at hq; rcases hq with rfl; all_goals first | exact ⟨by decide, by decide, by decide, hts _ (List.mem_cons_of_mem _ kw_563)⟩) (fun k u h => by rcases h.1 with rfl; all_goals exact ⟨by decide, by simp⟩) hP hD hS hA [0, 1, 2, 3, 4, 5, 6, 7, 8, 9, 10, 11, 12] [13] rfl rfl rfl rfl [1, 2, 3, 4, 5, 6, 7, 8, 9, 10, 11, 12, 13, 0] rfl (fun _ => rfl) (fun r3 u H locs hw hP hD hS => ?_) (fun k x u H locs hw hP hD hS => ?_)
  ·
    obtain ⟨r3, rfl, hw⟩ := hw
    have hP : va_P D vwCl (wdLw_valid cA cL ad oa N formStands stepCount orderSize reached blw order meetingUses firstUses secondUses endUses homeBlock homePlace outc) H := hP
    have hD : va_D A (wdLw_valid cA cL ad oa N formStands stepCount orderSize reached blw order meetingUses firstUses secondUses endUses homeBlock homePlace outc) := hD
    refine lv_if_eq (tgt := 13) hx hb dLw_valid_6 rfl (fun hc => ?_) (fun hc => ?_)
    · have hw := hw.1 (bI_0 hc)
      refine lv_lconst (v := 0) hx hb dLw_valid_13 (by decide) ?_
      have ho := hw.1
      have hw := hw.2
      refine va_last hx hb hK hP hD hS 13 1 rfl rfl ho dLw_valid_14 (fun H locs hP hD hS => ?_)
      have hP : va_P D vwCl (wdLw_valid cA cL ad oa N formStands stepCount orderSize reached blw order meetingUses firstUses secondUses endUses homeBlock homePlace (vp_updL outc (Int32.toNatClampNeg 0) 0)) H := hP
      have hD : va_D A (wdLw_valid cA cL ad oa N formStands stepCount orderSize reached blw order meetingUses firstUses secondUses endUses homeBlock homePlace (vp_updL outc (Int32.toNatClampNeg 0) 0)) := hD
      refine lv_goto (tgt := 21) hx hb dLw_valid_15 rfl ?_
      refine lv_iconst (v := 0) hx hb dLw_valid_21 (by decide) ?_
      exact hend 0 (vp_updL outc (Int32.toNatClampNeg 0) 0) _ _ _ _ dLw_valid_22 hP hD hS hw
    · have hw := hw.2 (bI_1 hc)
      refine lv_lconst (v := 1) hx hb dLw_valid_9 (by decide) ?_
      refine lv_goto (tgt := 14) hx hb dLw_valid_10 rfl ?_
      have ho := hw.1
      have hw := hw.2
      refine va_last hx hb hK hP hD hS 13 1 rfl rfl ho dLw_valid_14 (fun H locs hP hD hS => ?_)
      have hP : va_P D vwCl (wdLw_valid cA cL ad oa N formStands stepCount orderSize reached blw order meetingUses firstUses secondUses endUses homeBlock homePlace (vp_updL outc (Int32.toNatClampNeg 0) 1)) H := hP
      have hD : va_D A (wdLw_valid cA cL ad oa N formStands stepCount orderSize reached blw order meetingUses firstUses secondUses endUses homeBlock homePlace (vp_updL outc (Int32.toNatClampNeg 0) 1)) := hD
      refine lv_goto (tgt := 21) hx hb dLw_valid_15 rfl ?_
      refine lv_iconst (v := 0) hx hb dLw_valid_21 (by decide) ?_
      exact hend 0 (vp_updL outc (Int32.toNatClampNeg 0) 1) _ _ _ _ dLw_valid_22 hP hD hS hw
  ·
    try dsimp only at hw
    have hP : va_P D vwCl (wdLw_valid cA cL ad oa N formStands stepCount orderSize reached blw order meetingUses firstUses secondUses endUses homeBlock homePlace outc) H := hP
    have hD : va_D A (wdLw_valid cA cL ad oa N formStands stepCount orderSize reached blw order meetingUses firstUses secondUses endUses homeBlock homePlace outc) := hD
    obtain ⟨hk, hw⟩ := hw
    rcases hk with rfl
    · have hw := hw rfl
      refine W.eq (g2 := F0 m 18 ls [.ref x]) rfl ?_
      refine lv_astore_n (lv' := [(2, .ref x), (0, .ref (ad 0)), (1, .ref oa)]) hx hb dLw_valid_18 rfl hl (by decide) rfl (fun ls hl => ?_)
      refine lv_iconst (v := 1) hx hb dLw_valid_19 (by decide) ?_
      exact hend 1 outc _ _ _ _ dLw_valid_20 hP hD hS hw
abbrev wdLw_copies (cA : ClassId) (cL : ClassId) (ad : Nat → Nat) (oa : Nat) (N : Nat) (formStands : Bool) (meetingNames : Nat → Int32) (meetingUses : Nat → Int32) (pending : Int32) (length : Int32) (pendingTo : Nat → Int32) (pendingFrom : Nat → Int32) (copyTo : Nat → Int32) (copyFrom : Nat → Int32) (outc : Nat → Int64) : va_W := [((ad 0), .inr (0, [.int (nI N), .ref (ad 1), .ref (ad 11), .ref (ad 18), .ref (ad 30), .ref (ad 35), .ref (ad 38), .ref (ad 40), .ref (ad 42), .int (bI formStands)])), ((ad 18), .inr (3, [.ref (ad 1), .ref (ad 11), .int (nI N), .ref (ad 19), .ref (ad 20), .ref (ad 21), .ref (ad 22), .ref (ad 23), .ref (ad 24), .ref (ad 25), .ref (ad 26), .ref (ad 27), .ref (ad 28), .ref (ad 29)])), ((ad 19), .inl (cA, N * 6, .inl meetingNames)), ((ad 20), .inl (cA, N * 6 * (N + 1), .inl meetingUses)), ((ad 30), .inr (4, [.ref (ad 31), .ref (ad 32), .ref (ad 33), .ref (ad 34), .int pending, .int length])), ((ad 31), .inl (cA, 6, .inl pendingTo)), ((ad 32), .inl (cA, 6, .inl pendingFrom)), ((ad 33), .inl (cA, 9, .inl copyTo)), ((ad 34), .inl (cA, 9, .inl copyFrom)), (oa, .inl (cL, 1, .inr (.inl outc)))]
abbrev qcLw_copies (D : va_G) (cA : ClassId) (cL : ClassId) (ad : Nat → Nat) (oa : Nat) (N : Nat) (formStands : Bool) (meetingNames : Nat → Int32) (meetingUses : Nat → Int32) (pending : Int32) (length : Int32) (pendingTo : Nat → Int32) (pendingFrom : Nat → Int32) (copyTo : Nat → Int32) (copyFrom : Nat → Int32) (outc : Nat → Int64) (post : Int32 → Int32 → Int32 → (Nat → Int32) → (Nat → Int32) → (Nat → Int32) → (Nat → Int32) → (Nat → Int64) → Prop) (A : Nat → Prop) : Array Value → State → Outcome → State → Prop := va_Qi (S := (Int32) × (Int32) × (Nat → Int32) × (Nat → Int32) × (Nat → Int32) × (Nat → Int32) × (Nat → Int64)) (fun r u => post r u.1 u.2.1 u.2.2.1 u.2.2.2.1 u.2.2.2.2.1 u.2.2.2.2.2.1 u.2.2.2.2.2.2) (fun u t => xB D [(cA, .int), (cL, .long)] A (wdLw_copies cA cL ad oa N formStands meetingNames meetingUses u.1 u.2.1 u.2.2.1 u.2.2.2.1 u.2.2.2.2.1 u.2.2.2.2.2.1 u.2.2.2.2.2.2) t) A
abbrev rmLw_copies : Room := { frames := 8, cells := 3, slots := 18, locals := 133 }
set_option maxHeartbeats 4000000 in
set_option maxRecDepth 100000 in
theorem ktLw_copies (l : Launch) (hfl : l.flags = Jvm.pinnedFlags ++ [Jvm.noTraceFlag]) (D : va_G) (cA : ClassId) (cL : ClassId) (ad : Nat → Nat) (oa : Nat) (N : Nat) (sz : Nat) (formStands : Bool) (meetingNames : Nat → Int32) (meetingUses : Nat → Int32) (pending : Int32) (length : Int32) (pendingTo : Nat → Int32) (pendingFrom : Nat → Int32) (copyTo : Nat → Int32) (copyFrom : Nat → Int32) (outc : Nat → Int64) (v1 : Int32) (v2 : Int32) (post : Int32 → Int32 → Int32 → (Nat → Int32) → (Nat → Int32) → (Nat → Int32) → (Nat → Int32) → (Nat → Int64) → Prop) (hw : wpLw_copies N formStands meetingNames meetingUses pending length pendingTo pendingFrom copyTo copyFrom outc v1 v2 post) : Met l yLw_copies (Cond.codeWith yLw_copies cLw_copies 5 (some .int) [(0, 10, 13, 36), (0, 10, 17, 13)] :: xW) rmLw_copies (va_Pc [.ref (ad 0), .int v1, .int v2, .ref oa] (xPcL D [(cA, .int), (cL, .long)] (wdLw_copies cA cL ad oa N formStands meetingNames meetingUses pending length pendingTo pendingFrom copyTo copyFrom outc) sz)) (qcLw_copies D cA cL ad oa N formStands meetingNames meetingUses pending length pendingTo pendingFrom copyTo copyFrom outc post (va_A (wdLw_copies cA cL ad oa N formStands meetingNames meetingUses pending length pendingTo pendingFrom copyTo copyFrom outc) sz)) 3 18 (va_A (wdLw_copies cA cL ad oa N formStands meetingNames meetingUses pending length pendingTo pendingFrom copyTo copyFrom outc) sz) := by
  refine va_MetW (hh := [(0, 10, 13, 36), (0, 10, 17, 13)]) (cc := cLw_copies) (maxL := 5) (ret := (some .int)) (by decide) rfl ?_
  intro p e s m args below meth c s₁ B hml hv
  obtain ⟨rfl, ⟨⟨hsz, hP, hK, hD0, hN⟩, hE0⟩, hNc⟩ := hv
  have hx := B.exec
  have hb := B.bytes
  have hr := B.returns
  have hts := atoms_spec (ws := (Cond.codeWith yLw_copies cLw_copies 5 (some .int) [(0, 10, 13, 36), (0, 10, 17, 13)] :: xW)) B.pre
  have hown : s.vm.findClass "OnceNamedLaw" = some m.cls := findClass_of_methodNamed B.named
  have hlocks := B.notSynchronized
  subst hsz
  have hD := hD0.self (sz := s.heap.size)
  have hE := xEEfull hE0
  have hexc := xhandlers B.named B.method (Stand.of_body B).code (hts _ List.mem_cons_self)
  generalize hAe : va_A (wdLw_copies cA cL ad oa N formStands meetingNames meetingUses pending length pendingTo pendingFrom copyTo copyFrom outc) s.heap.size = A at hD hE ⊢
  have hA : ∀ q : Nat, s.heap.size ≤ q → A q := fun q h => by rw [← hAe]; exact Or.inr h
  have hS : va_S A s.heap s.heap [] := va_S.rf
  have hend : ∀ (r : Int32) (u0 : Int32) (u1 : Int32) (u2 : Nat → Int32) (u3 : Nat → Int32) (u4 : Nat → Int32) (u5 : Nat → Int32) (u6 : Nat → Int64) (H : Heap) (locs : List Loc) (pc : Nat) (ls : Array Slot), decode cLw_copies pc = .ok (.ireturn, 1) → va_P D vwCl (wdLw_copies cA cL ad oa N formStands meetingNames meetingUses u0 u1 u2 u3 u4 u5 u6) H → va_D A (wdLw_copies cA cL ad oa N formStands meetingNames meetingUses u0 u1 u2 u3 u4 u5 u6) → va_S A s.heap H locs → post r u0 u1 u2 u3 u4 u5 u6 → W p l e (headSpec (Cond.codeWith yLw_copies cLw_copies 5 (some .int) [(0, 10, 13, 36), (0, 10, 17, 13)] :: xW) rmLw_copies).room s m ([.ref (ad 0), .int v1, .int v2, .ref oa] : List Value).toArray below meth c H locs 3 18 (MQ below (qcLw_copies D cA cL ad oa N formStands meetingNames meetingUses pending length pendingTo pendingFrom copyTo copyFrom outc post A) ([.ref (ad 0), .int v1, .int v2, .ref oa] : List Value).toArray s 3 18 A) (F0 m pc ls [.int r]) := fun r u0 u1 u2 u3 u4 u5 u6 H locs pc ls hd hP hD hS hw => W.iret (v := r) hx hb hr (fun t ht hW => ⟨⟨r, (u0, u1, u2, u3, u4, u5, u6), rfl, hw, ⟨by rw [ht]; exact hP, va_K.moved hW.alike hK, hD⟩⟩, hS.F ht⟩) hS.2.2 hd
  generalize hQ : MQ below (qcLw_copies D cA cL ad oa N formStands meetingNames meetingUses pending length pendingTo pendingFrom copyTo copyFrom outc post A) ([.ref (ad 0), .int v1, .int v2, .ref oa] : List Value).toArray s 3 18 A = Q at hend ⊢
  have hl := lv_entry ([.ref (ad 0), .int v1, .int v2, .ref oa]) (n := 5) (Nat.le_of_ble_eq_true rfl)
  rw [lg_entry_eq]
  generalize (lg_sl ([.ref (ad 0), .int v1, .int v2, .ref oa]) ++ List.replicate (5 - (lg_sl ([.ref (ad 0), .int v1, .int v2, .ref oa])).length) Slot.unset).toArray = ls at hl ⊢
  have hl : lv_has ls 5 [(0, .ref (ad 0)), (1, .int v1), (2, .int v2), (3, .ref oa)] := hl
  unfold wpLw_copies at hw
  refine lv_aload_n hx hb dLw_copies_0 rfl (lv_at hl 3 rfl) ?_
  refine lv_iconst (v := 0) hx hb dLw_copies_1 (by decide) ?_
  refine lv_aload_n hx hb dLw_copies_2 rfl (lv_at hl 0 rfl) ?_
  refine lv_iload_n hx hb dLw_copies_3 rfl (lv_at hl 1 rfl) ?_
  refine lv_iload_n hx hb dLw_copies_4 rfl (lv_at hl 2 rfl) ?_
  refine xcci (xrunV ⟨hx, hb, hml, hown, hts⟩ (ktOn_copies l hfl D cA ad N _ formStands meetingNames meetingUses pending length pendingTo pendingFrom copyTo copyFrom v1 v2 _ _ hw) (cwV 2 hts (goodV kw_773 kw_774 kw_775 kw_1 kw_776) rfl rfl rfl (by decide +kernel) ⟨Nat.le_of_ble_eq_true rfl, Nat.le_of_ble_eq_true rfl⟩) (xpreVE hE hS (hK.sub [0] rfl) hP hD hN [0, 1, 2, 3, 4, 5, 6, 7, 8] rfl rfl 0 rfl rfl) rfl rfl hl.1 rfl (lv_room (Nat.le_of_ble_eq_true rfl)) dLw_copies_5 ⟨Nat.le_of_ble_eq_true rfl, Nat.le_of_ble_eq_true rfl⟩) hown hNc [(⟨0, 10, 13, 36⟩, 2), (⟨0, 10, 17, 13⟩, 0)] hexc (by intro q hq; simp only [List.mem_cons, List.not_mem_nil, or_false] at hq; rcases hq with rfl | rfl; all_goals first | exact ⟨by decide, by decide, by decide, hts _ (List.mem_cons_of_mem _ kw_563)⟩ | exact ⟨by decide, by decide, by decide, hts _ (List.mem_cons_of_mem _ kw_407)⟩) (fun k u h => by rcases h.1 with rfl | rfl; all_goals exact ⟨by decide, by simp⟩) hP hD hS hA [0, 1, 2, 3, 4, 5, 6, 7, 8] [9] rfl rfl rfl rfl [1, 2, 3, 4, 5, 6, 7, 8, 9, 0] rfl (fun _ => rfl) (fun r5 u H locs hw hP hD hS => ?_) (fun k x u H locs hw hP hD hS => ?_)
  ·
    obtain ⟨pending_5, length_5, pendingTo_5, pendingFrom_5, copyTo_5, copyFrom_5⟩ := u
    try dsimp only at hw
    have hP : va_P D vwCl (wdLw_copies cA cL ad oa N formStands meetingNames meetingUses pending_5 length_5 pendingTo_5 pendingFrom_5 copyTo_5 copyFrom_5 outc) H := hP
    have hD : va_D A (wdLw_copies cA cL ad oa N formStands meetingNames meetingUses pending_5 length_5 pendingTo_5 pendingFrom_5 copyTo_5 copyFrom_5 outc) := hD
    refine lv_i2l (v := (Int32.toInt64 r5)) hx hb dLw_copies_8 rfl ?_
    have ho := hw.1
    have hw := hw.2
    refine va_last hx hb hK hP hD hS 9 1 rfl rfl ho dLw_copies_9 (fun H locs hP hD hS => ?_)
    have hP : va_P D vwCl (wdLw_copies cA cL ad oa N formStands meetingNames meetingUses pending_5 length_5 pendingTo_5 pendingFrom_5 copyTo_5 copyFrom_5 (vp_updL outc (Int32.toNatClampNeg 0) (Int32.toInt64 r5))) H := hP
    have hD : va_D A (wdLw_copies cA cL ad oa N formStands meetingNames meetingUses pending_5 length_5 pendingTo_5 pendingFrom_5 copyTo_5 copyFrom_5 (vp_updL outc (Int32.toNatClampNeg 0) (Int32.toInt64 r5))) := hD
    refine lv_goto (tgt := 21) hx hb dLw_copies_10 rfl ?_
    refine lv_iconst (v := 0) hx hb dLw_copies_21 (by decide) ?_
    exact hend 0 pending_5 length_5 pendingTo_5 pendingFrom_5 copyTo_5 copyFrom_5 (vp_updL outc (Int32.toNatClampNeg 0) (Int32.toInt64 r5)) _ _ _ _ dLw_copies_22 hP hD hS hw
  ·
    obtain ⟨pending_5, length_5, pendingTo_5, pendingFrom_5, copyTo_5, copyFrom_5⟩ := u
    try dsimp only at hw
    have hP : va_P D vwCl (wdLw_copies cA cL ad oa N formStands meetingNames meetingUses pending_5 length_5 pendingTo_5 pendingFrom_5 copyTo_5 copyFrom_5 outc) H := hP
    have hD : va_D A (wdLw_copies cA cL ad oa N formStands meetingNames meetingUses pending_5 length_5 pendingTo_5 pendingFrom_5 copyTo_5 copyFrom_5 outc) := hD
    obtain ⟨hk, hw⟩ := hw
    rcases hk with rfl | rfl
    · have hw := hw.1 rfl
      refine W.eq (g2 := F0 m 13 ls [.ref x]) rfl ?_
      refine lv_astore (lv' := [(4, .ref x), (0, .ref (ad 0)), (1, .int v1), (2, .int v2), (3, .ref oa)]) hx hb dLw_copies_13 hl (by decide) rfl (fun ls hl => ?_)
      refine lv_iconst (v := 1) hx hb dLw_copies_15 (by decide) ?_
      exact hend 1 pending_5 length_5 pendingTo_5 pendingFrom_5 copyTo_5 copyFrom_5 outc _ _ _ _ dLw_copies_16 hP hD hS hw
    · have hw := hw.2 rfl
      refine W.eq (g2 := F0 m 17 ls [.ref x]) rfl ?_
      refine lv_astore (lv' := [(4, .ref x), (0, .ref (ad 0)), (1, .int v1), (2, .int v2), (3, .ref oa)]) hx hb dLw_copies_17 hl (by decide) rfl (fun ls hl => ?_)
      refine lv_iconst (v := 2) hx hb dLw_copies_19 (by decide) ?_
      exact hend 2 pending_5 length_5 pendingTo_5 pendingFrom_5 copyTo_5 copyFrom_5 outc _ _ _ _ dLw_copies_20 hP hD hS hw
abbrev wdLw_run (cA : ClassId) (cL : ClassId) (ad : Nat → Nat) (oa : Nat) (N : Nat) (formStands : Bool) (stepCount : Nat → Int32) (kind : Nat → Int32) (target : Nat → Int32) (first : Nat → Int32) (second : Nat → Int32) (forkVariable : Nat → Int32) (yes : Nat → Int32) (no : Nat → Int32) (starts : Nat → Int32) (meetingNames : Nat → Int32) (meetingUses : Nat → Int32) (stepNames : Nat → Int32) (firstUses : Nat → Int32) (secondUses : Nat → Int32) (endUses : Nat → Int32) (pending : Int32) (length : Int32) (pendingTo : Nat → Int32) (pendingFrom : Nat → Int32) (copyTo : Nat → Int32) (copyFrom : Nat → Int32) (way : Int32) (values : Nat → Int32) (arriving : Nat → Int32) (T0size : Int32) (T0out : Int32) (T0num : Nat → Int32) (outc : Nat → Int64) : va_W := [((ad 0), .inr (0, [.int (nI N), .ref (ad 1), .ref (ad 11), .ref (ad 18), .ref (ad 30), .ref (ad 35), .ref (ad 38), .ref (ad 40), .ref (ad 42), .int (bI formStands)])), ((ad 1), .inr (1, [.int (nI N), .ref (ad 2), .ref (ad 3), .ref (ad 4), .ref (ad 5), .ref (ad 6), .ref (ad 7), .ref (ad 8), .ref (ad 9), .ref (ad 10)])), ((ad 2), .inl (cA, N, .inl stepCount)), ((ad 3), .inl (cA, N * 6, .inl kind)), ((ad 4), .inl (cA, N * 6, .inl target)), ((ad 5), .inl (cA, N * 6, .inl first)), ((ad 6), .inl (cA, N * 6, .inl second)), ((ad 7), .inl (cA, N, .inl forkVariable)), ((ad 8), .inl (cA, N, .inl yes)), ((ad 9), .inl (cA, N, .inl no)), ((ad 10), .inl (cA, 6, .inl starts)), ((ad 18), .inr (3, [.ref (ad 1), .ref (ad 11), .int (nI N), .ref (ad 19), .ref (ad 20), .ref (ad 21), .ref (ad 22), .ref (ad 23), .ref (ad 24), .ref (ad 25), .ref (ad 26), .ref (ad 27), .ref (ad 28), .ref (ad 29)])), ((ad 19), .inl (cA, N * 6, .inl meetingNames)), ((ad 20), .inl (cA, N * 6 * (N + 1), .inl meetingUses)), ((ad 21), .inl (cA, N * 6, .inl stepNames)), ((ad 22), .inl (cA, N * 6, .inl firstUses)), ((ad 23), .inl (cA, N * 6, .inl secondUses)), ((ad 24), .inl (cA, N, .inl endUses)), ((ad 30), .inr (4, [.ref (ad 31), .ref (ad 32), .ref (ad 33), .ref (ad 34), .int pending, .int length])), ((ad 31), .inl (cA, 6, .inl pendingTo)), ((ad 32), .inl (cA, 6, .inl pendingFrom)), ((ad 33), .inl (cA, 9, .inl copyTo)), ((ad 34), .inl (cA, 9, .inl copyFrom)), ((ad 35), .inr (5, [.ref (ad 1), .ref (ad 18), .ref (ad 30), .ref (ad 36), .ref (ad 37), .int way])), ((ad 36), .inl (cA, 601, .inl values)), ((ad 37), .inl (cA, 6, .inl arriving)), ((ad 38), .inr (6, [.ref (ad 39), .int T0size, .int T0out])), ((ad 39), .inl (cA, 50, .inl T0num)), (oa, .inl (cL, 1, .inr (.inl outc)))]
abbrev qcLw_run (D : va_G) (cA : ClassId) (cL : ClassId) (ad : Nat → Nat) (oa : Nat) (N : Nat) (formStands : Bool) (stepCount : Nat → Int32) (kind : Nat → Int32) (target : Nat → Int32) (first : Nat → Int32) (second : Nat → Int32) (forkVariable : Nat → Int32) (yes : Nat → Int32) (no : Nat → Int32) (starts : Nat → Int32) (meetingNames : Nat → Int32) (meetingUses : Nat → Int32) (stepNames : Nat → Int32) (firstUses : Nat → Int32) (secondUses : Nat → Int32) (endUses : Nat → Int32) (pending : Int32) (length : Int32) (pendingTo : Nat → Int32) (pendingFrom : Nat → Int32) (copyTo : Nat → Int32) (copyFrom : Nat → Int32) (way : Int32) (values : Nat → Int32) (arriving : Nat → Int32) (T0size : Int32) (T0out : Int32) (T0num : Nat → Int32) (outc : Nat → Int64) (post : Int32 → Int32 → Int32 → (Nat → Int32) → (Nat → Int32) → (Nat → Int32) → (Nat → Int32) → Int32 → (Nat → Int32) → (Nat → Int32) → Int32 → Int32 → (Nat → Int32) → (Nat → Int64) → Prop) (A : Nat → Prop) : Array Value → State → Outcome → State → Prop := va_Qi (S := (Int32) × (Int32) × (Nat → Int32) × (Nat → Int32) × (Nat → Int32) × (Nat → Int32) × (Int32) × (Nat → Int32) × (Nat → Int32) × (Int32) × (Int32) × (Nat → Int32) × (Nat → Int64)) (fun r u => post r u.1 u.2.1 u.2.2.1 u.2.2.2.1 u.2.2.2.2.1 u.2.2.2.2.2.1 u.2.2.2.2.2.2.1 u.2.2.2.2.2.2.2.1 u.2.2.2.2.2.2.2.2.1 u.2.2.2.2.2.2.2.2.2.1 u.2.2.2.2.2.2.2.2.2.2.1 u.2.2.2.2.2.2.2.2.2.2.2.1 u.2.2.2.2.2.2.2.2.2.2.2.2) (fun u t => xB D [(cA, .int), (cL, .long)] A (wdLw_run cA cL ad oa N formStands stepCount kind target first second forkVariable yes no starts meetingNames meetingUses stepNames firstUses secondUses endUses u.1 u.2.1 u.2.2.1 u.2.2.2.1 u.2.2.2.2.1 u.2.2.2.2.2.1 u.2.2.2.2.2.2.1 u.2.2.2.2.2.2.2.1 u.2.2.2.2.2.2.2.2.1 u.2.2.2.2.2.2.2.2.2.1 u.2.2.2.2.2.2.2.2.2.2.1 u.2.2.2.2.2.2.2.2.2.2.2.1 u.2.2.2.2.2.2.2.2.2.2.2.2) t) A
abbrev rmLw_run : Room := { frames := 9, cells := 2, slots := 12, locals := 166 }
set_option maxHeartbeats 4000000 in
set_option maxRecDepth 100000 in
theorem ktLw_run (l : Launch) (hfl : l.flags = Jvm.pinnedFlags ++ [Jvm.noTraceFlag]) (D : va_G) (cA : ClassId) (cL : ClassId) (ad : Nat → Nat) (oa : Nat) (N : Nat) (sz : Nat) (formStands : Bool) (stepCount : Nat → Int32) (kind : Nat → Int32) (target : Nat → Int32) (first : Nat → Int32) (second : Nat → Int32) (forkVariable : Nat → Int32) (yes : Nat → Int32) (no : Nat → Int32) (starts : Nat → Int32) (meetingNames : Nat → Int32) (meetingUses : Nat → Int32) (stepNames : Nat → Int32) (firstUses : Nat → Int32) (secondUses : Nat → Int32) (endUses : Nat → Int32) (pending : Int32) (length : Int32) (pendingTo : Nat → Int32) (pendingFrom : Nat → Int32) (copyTo : Nat → Int32) (copyFrom : Nat → Int32) (way : Int32) (values : Nat → Int32) (arriving : Nat → Int32) (T0size : Int32) (T0out : Int32) (T0num : Nat → Int32) (outc : Nat → Int64) (v1 : Int32) (post : Int32 → Int32 → Int32 → (Nat → Int32) → (Nat → Int32) → (Nat → Int32) → (Nat → Int32) → Int32 → (Nat → Int32) → (Nat → Int32) → Int32 → Int32 → (Nat → Int32) → (Nat → Int64) → Prop) (hw : wpLw_run N formStands stepCount kind target first second forkVariable yes no starts meetingNames meetingUses stepNames firstUses secondUses endUses pending length pendingTo pendingFrom copyTo copyFrom way values arriving T0size T0out T0num outc v1 post) : Met l yLw_run (Cond.codeWith yLw_run cLw_run 4 (some .int) [(0, 9, 12, 13), (0, 9, 15, 36), (0, 9, 18, 79), (0, 9, 21, 15)] :: xW) rmLw_run (va_Pc [.ref (ad 0), .int v1, .ref oa] (xPcL D [(cA, .int), (cL, .long)] (wdLw_run cA cL ad oa N formStands stepCount kind target first second forkVariable yes no starts meetingNames meetingUses stepNames firstUses secondUses endUses pending length pendingTo pendingFrom copyTo copyFrom way values arriving T0size T0out T0num outc) sz)) (qcLw_run D cA cL ad oa N formStands stepCount kind target first second forkVariable yes no starts meetingNames meetingUses stepNames firstUses secondUses endUses pending length pendingTo pendingFrom copyTo copyFrom way values arriving T0size T0out T0num outc post (va_A (wdLw_run cA cL ad oa N formStands stepCount kind target first second forkVariable yes no starts meetingNames meetingUses stepNames firstUses secondUses endUses pending length pendingTo pendingFrom copyTo copyFrom way values arriving T0size T0out T0num outc) sz)) 2 12 (va_A (wdLw_run cA cL ad oa N formStands stepCount kind target first second forkVariable yes no starts meetingNames meetingUses stepNames firstUses secondUses endUses pending length pendingTo pendingFrom copyTo copyFrom way values arriving T0size T0out T0num outc) sz) := by
  refine va_MetW (hh := [(0, 9, 12, 13), (0, 9, 15, 36), (0, 9, 18, 79), (0, 9, 21, 15)]) (cc := cLw_run) (maxL := 4) (ret := (some .int)) (by decide) rfl ?_
  intro p e s m args below meth c s₁ B hml hv
  obtain ⟨rfl, ⟨⟨hsz, hP, hK, hD0, hN⟩, hE0⟩, hNc⟩ := hv
  have hx := B.exec
  have hb := B.bytes
  have hr := B.returns
  have hts := atoms_spec (ws := (Cond.codeWith yLw_run cLw_run 4 (some .int) [(0, 9, 12, 13), (0, 9, 15, 36), (0, 9, 18, 79), (0, 9, 21, 15)] :: xW)) B.pre
  have hown : s.vm.findClass "OnceNamedLaw" = some m.cls := findClass_of_methodNamed B.named
  have hlocks := B.notSynchronized
  subst hsz
  have hD := hD0.self (sz := s.heap.size)
  have hE := xEEfull hE0
  have hexc := xhandlers B.named B.method (Stand.of_body B).code (hts _ List.mem_cons_self)
  generalize hAe : va_A (wdLw_run cA cL ad oa N formStands stepCount kind target first second forkVariable yes no starts meetingNames meetingUses stepNames firstUses secondUses endUses pending length pendingTo pendingFrom copyTo copyFrom way values arriving T0size T0out T0num outc) s.heap.size = A at hD hE ⊢
  have hA : ∀ q : Nat, s.heap.size ≤ q → A q := fun q h => by rw [← hAe]; exact Or.inr h
  have hS : va_S A s.heap s.heap [] := va_S.rf
  have hend : ∀ (r : Int32) (u0 : Int32) (u1 : Int32) (u2 : Nat → Int32) (u3 : Nat → Int32) (u4 : Nat → Int32) (u5 : Nat → Int32) (u6 : Int32) (u7 : Nat → Int32) (u8 : Nat → Int32) (u9 : Int32) (u10 : Int32) (u11 : Nat → Int32) (u12 : Nat → Int64) (H : Heap) (locs : List Loc) (pc : Nat) (ls : Array Slot), decode cLw_run pc = .ok (.ireturn, 1) → va_P D vwCl (wdLw_run cA cL ad oa N formStands stepCount kind target first second forkVariable yes no starts meetingNames meetingUses stepNames firstUses secondUses endUses u0 u1 u2 u3 u4 u5 u6 u7 u8 u9 u10 u11 u12) H → va_D A (wdLw_run cA cL ad oa N formStands stepCount kind target first second forkVariable yes no starts meetingNames meetingUses stepNames firstUses secondUses endUses u0 u1 u2 u3 u4 u5 u6 u7 u8 u9 u10 u11 u12) → va_S A s.heap H locs → post r u0 u1 u2 u3 u4 u5 u6 u7 u8 u9 u10 u11 u12 → W p l e (headSpec (Cond.codeWith yLw_run cLw_run 4 (some .int) [(0, 9, 12, 13), (0, 9, 15, 36), (0, 9, 18, 79), (0, 9, 21, 15)] :: xW) rmLw_run).room s m ([.ref (ad 0), .int v1, .ref oa] : List Value).toArray below meth c H locs 2 12 (MQ below (qcLw_run D cA cL ad oa N formStands stepCount kind target first second forkVariable yes no starts meetingNames meetingUses stepNames firstUses secondUses endUses pending length pendingTo pendingFrom copyTo copyFrom way values arriving T0size T0out T0num outc post A) ([.ref (ad 0), .int v1, .ref oa] : List Value).toArray s 2 12 A) (F0 m pc ls [.int r]) := fun r u0 u1 u2 u3 u4 u5 u6 u7 u8 u9 u10 u11 u12 H locs pc ls hd hP hD hS hw => W.iret (v := r) hx hb hr (fun t ht hW => ⟨⟨r, (u0, u1, u2, u3, u4, u5, u6, u7, u8, u9, u10, u11, u12), rfl, hw, ⟨by rw [ht]; exact hP, va_K.moved hW.alike hK, hD⟩⟩, hS.F ht⟩) hS.2.2 hd
  generalize hQ : MQ below (qcLw_run D cA cL ad oa N formStands stepCount kind target first second forkVariable yes no starts meetingNames meetingUses stepNames firstUses secondUses endUses pending length pendingTo pendingFrom copyTo copyFrom way values arriving T0size T0out T0num outc post A) ([.ref (ad 0), .int v1, .ref oa] : List Value).toArray s 2 12 A = Q at hend ⊢
  have hl := lv_entry ([.ref (ad 0), .int v1, .ref oa]) (n := 4) (Nat.le_of_ble_eq_true rfl)
  rw [lg_entry_eq]
  generalize (lg_sl ([.ref (ad 0), .int v1, .ref oa]) ++ List.replicate (4 - (lg_sl ([.ref (ad 0), .int v1, .ref oa])).length) Slot.unset).toArray = ls at hl ⊢
  have hl : lv_has ls 4 [(0, .ref (ad 0)), (1, .int v1), (2, .ref oa)] := hl
  unfold wpLw_run at hw
  refine lv_aload_n hx hb dLw_run_0 rfl (lv_at hl 2 rfl) ?_
  refine lv_iconst (v := 0) hx hb dLw_run_1 (by decide) ?_
  refine lv_aload_n hx hb dLw_run_2 rfl (lv_at hl 0 rfl) ?_
  refine lv_iload_n hx hb dLw_run_3 rfl (lv_at hl 1 rfl) ?_
  refine xcci (xrunV ⟨hx, hb, hml, hown, hts⟩ (ktOn_run l hfl D cA ad N _ formStands stepCount kind target first second forkVariable yes no starts meetingNames meetingUses stepNames firstUses secondUses endUses pending length pendingTo pendingFrom copyTo copyFrom way values arriving T0size T0out T0num v1 _ _ hw) (cwV 1 hts (goodV kw_815 kw_816 kw_817 kw_1 kw_818) rfl rfl rfl (by decide +kernel) ⟨Nat.le_of_ble_eq_true rfl, Nat.le_of_ble_eq_true rfl⟩) (xpreVE hE hS (hK.sub [0] rfl) hP hD hN [0, 1, 2, 3, 4, 5, 6, 7, 8, 9, 10, 11, 12, 13, 14, 15, 16, 17, 18, 19, 20, 21, 22, 23, 24, 25, 26, 27] rfl rfl 0 rfl rfl) rfl rfl hl.1 rfl (lv_room (Nat.le_of_ble_eq_true rfl)) dLw_run_4 ⟨Nat.le_of_ble_eq_true rfl, Nat.le_of_ble_eq_true rfl⟩) hown hNc [(⟨0, 9, 12, 13⟩, 0), (⟨0, 9, 15, 36⟩, 2), (⟨0, 9, 18, 79⟩, 3), (⟨0, 9, 21, 15⟩, 1)] hexc (by intro q hq; simp only [List.mem_cons, List.not_mem_nil, or_false] at hq; rcases hq with rfl | rfl | rfl | rfl; all_goals first | exact ⟨by decide, by decide, by decide, hts _ (List.mem_cons_of_mem _ kw_407)⟩ | exact ⟨by decide, by decide, by decide, hts _ (List.mem_cons_of_mem _ kw_563)⟩ | exact ⟨by decide, by decide, by decide, hts _ (List.mem_cons_of_mem _ kw_814)⟩ | exact ⟨by decide, by decide, by decide, hts _ (List.mem_cons_of_mem _ kw_408)⟩) (fun k u h => by rcases h.1 with rfl | rfl | rfl | rfl; all_goals exact ⟨by decide, by simp⟩) hP hD hS hA [0, 1, 2, 3, 4, 5, 6, 7, 8, 9, 10, 11, 12, 13, 14, 15, 16, 17, 18, 19, 20, 21, 22, 23, 24, 25, 26, 27] [28] rfl rfl rfl rfl [1, 2, 3, 4, 5, 6, 7, 8, 9, 10, 11, 12, 13, 14, 15, 16, 17, 18, 19, 20, 21, 22, 23, 24, 25, 26, 27, 28, 0] rfl (fun _ => rfl) (fun r4 u H locs hw hP hD hS => ?_) (fun k x u H locs hw hP hD hS => ?_)
  ·
    obtain ⟨pending_4, length_4, pendingTo_4, pendingFrom_4, copyTo_4, copyFrom_4, way_4, values_4, arriving_4, T0size_4, T0out_4, T0num_4⟩ := u
    try dsimp only at hw
    have hP : va_P D vwCl (wdLw_run cA cL ad oa N formStands stepCount kind target first second forkVariable yes no starts meetingNames meetingUses stepNames firstUses secondUses endUses pending_4 length_4 pendingTo_4 pendingFrom_4 copyTo_4 copyFrom_4 way_4 values_4 arriving_4 T0size_4 T0out_4 T0num_4 outc) H := hP
    have hD : va_D A (wdLw_run cA cL ad oa N formStands stepCount kind target first second forkVariable yes no starts meetingNames meetingUses stepNames firstUses secondUses endUses pending_4 length_4 pendingTo_4 pendingFrom_4 copyTo_4 copyFrom_4 way_4 values_4 arriving_4 T0size_4 T0out_4 T0num_4 outc) := hD
    refine lv_i2l (v := (Int32.toInt64 r4)) hx hb dLw_run_7 rfl ?_
    have ho := hw.1
    have hw := hw.2
    refine va_last hx hb hK hP hD hS 28 1 rfl rfl ho dLw_run_8 (fun H locs hP hD hS => ?_)
    have hP : va_P D vwCl (wdLw_run cA cL ad oa N formStands stepCount kind target first second forkVariable yes no starts meetingNames meetingUses stepNames firstUses secondUses endUses pending_4 length_4 pendingTo_4 pendingFrom_4 copyTo_4 copyFrom_4 way_4 values_4 arriving_4 T0size_4 T0out_4 T0num_4 (vp_updL outc (Int32.toNatClampNeg 0) (Int32.toInt64 r4))) H := hP
    have hD : va_D A (wdLw_run cA cL ad oa N formStands stepCount kind target first second forkVariable yes no starts meetingNames meetingUses stepNames firstUses secondUses endUses pending_4 length_4 pendingTo_4 pendingFrom_4 copyTo_4 copyFrom_4 way_4 values_4 arriving_4 T0size_4 T0out_4 T0num_4 (vp_updL outc (Int32.toNatClampNeg 0) (Int32.toInt64 r4))) := hD
    refine lv_goto (tgt := 24) hx hb dLw_run_9 rfl ?_
    refine lv_iconst (v := 0) hx hb dLw_run_24 (by decide) ?_
    exact hend 0 pending_4 length_4 pendingTo_4 pendingFrom_4 copyTo_4 copyFrom_4 way_4 values_4 arriving_4 T0size_4 T0out_4 T0num_4 (vp_updL outc (Int32.toNatClampNeg 0) (Int32.toInt64 r4)) _ _ _ _ dLw_run_25 hP hD hS hw
  ·
    obtain ⟨pending_4, length_4, pendingTo_4, pendingFrom_4, copyTo_4, copyFrom_4, way_4, values_4, arriving_4, T0size_4, T0out_4, T0num_4⟩ := u
    try dsimp only at hw
    have hP : va_P D vwCl (wdLw_run cA cL ad oa N formStands stepCount kind target first second forkVariable yes no starts meetingNames meetingUses stepNames firstUses secondUses endUses pending_4 length_4 pendingTo_4 pendingFrom_4 copyTo_4 copyFrom_4 way_4 values_4 arriving_4 T0size_4 T0out_4 T0num_4 outc) H := hP
    have hD : va_D A (wdLw_run cA cL ad oa N formStands stepCount kind target first second forkVariable yes no starts meetingNames meetingUses stepNames firstUses secondUses endUses pending_4 length_4 pendingTo_4 pendingFrom_4 copyTo_4 copyFrom_4 way_4 values_4 arriving_4 T0size_4 T0out_4 T0num_4 outc) := hD
    obtain ⟨hk, hw⟩ := hw
    rcases hk with rfl | rfl | rfl | rfl
    · have hw := hw.1 rfl
      refine W.eq (g2 := F0 m 12 ls [.ref x]) rfl ?_
      refine lv_astore_n (lv' := [(3, .ref x), (0, .ref (ad 0)), (1, .int v1), (2, .ref oa)]) hx hb dLw_run_12 rfl hl (by decide) rfl (fun ls hl => ?_)
      refine lv_iconst (v := 1) hx hb dLw_run_13 (by decide) ?_
      exact hend 1 pending_4 length_4 pendingTo_4 pendingFrom_4 copyTo_4 copyFrom_4 way_4 values_4 arriving_4 T0size_4 T0out_4 T0num_4 outc _ _ _ _ dLw_run_14 hP hD hS hw
    · have hw := hw.2.1 rfl
      refine W.eq (g2 := F0 m 15 ls [.ref x]) rfl ?_
      refine lv_astore_n (lv' := [(3, .ref x), (0, .ref (ad 0)), (1, .int v1), (2, .ref oa)]) hx hb dLw_run_15 rfl hl (by decide) rfl (fun ls hl => ?_)
      refine lv_iconst (v := 2) hx hb dLw_run_16 (by decide) ?_
      exact hend 2 pending_4 length_4 pendingTo_4 pendingFrom_4 copyTo_4 copyFrom_4 way_4 values_4 arriving_4 T0size_4 T0out_4 T0num_4 outc _ _ _ _ dLw_run_17 hP hD hS hw
    · have hw := hw.2.2.1 rfl
      refine W.eq (g2 := F0 m 18 ls [.ref x]) rfl ?_
      refine lv_astore_n (lv' := [(3, .ref x), (0, .ref (ad 0)), (1, .int v1), (2, .ref oa)]) hx hb dLw_run_18 rfl hl (by decide) rfl (fun ls hl => ?_)
      refine lv_iconst (v := 3) hx hb dLw_run_19 (by decide) ?_
      exact hend 3 pending_4 length_4 pendingTo_4 pendingFrom_4 copyTo_4 copyFrom_4 way_4 values_4 arriving_4 T0size_4 T0out_4 T0num_4 outc _ _ _ _ dLw_run_20 hP hD hS hw
    · have hw := hw.2.2.2 rfl
      refine W.eq (g2 := F0 m 21 ls [.ref x]) rfl ?_
      refine lv_astore_n (lv' := [(3, .ref x), (0, .ref (ad 0)), (1, .int v1), (2, .ref oa)]) hx hb dLw_run_21 rfl hl (by decide) rfl (fun ls hl => ?_)
      refine lv_iconst (v := 4) hx hb dLw_run_22 (by decide) ?_
      exact hend 4 pending_4 length_4 pendingTo_4 pendingFrom_4 copyTo_4 copyFrom_4 way_4 values_4 arriving_4 T0size_4 T0out_4 T0num_4 outc _ _ _ _ dLw_run_23 hP hD hS hw
abbrev wdLw_said (cA : ClassId) (cL : ClassId) (ad : Nat → Nat) (oa : Nat) (N : Nat) (formStands : Bool) (T0size : Int32) (T0out : Int32) (T0num : Nat → Int32) (outc : Nat → Int64) : va_W := [((ad 0), .inr (0, [.int (nI N), .ref (ad 1), .ref (ad 11), .ref (ad 18), .ref (ad 30), .ref (ad 35), .ref (ad 38), .ref (ad 40), .ref (ad 42), .int (bI formStands)])), ((ad 38), .inr (6, [.ref (ad 39), .int T0size, .int T0out])), ((ad 39), .inl (cA, 50, .inl T0num)), (oa, .inl (cL, 1, .inr (.inl outc)))]
abbrev qcLw_said (D : va_G) (cA : ClassId) (cL : ClassId) (ad : Nat → Nat) (oa : Nat) (N : Nat) (formStands : Bool) (T0size : Int32) (T0out : Int32) (T0num : Nat → Int32) (outc : Nat → Int64) (post : Int32 → (Nat → Int64) → Prop) (A : Nat → Prop) : Array Value → State → Outcome → State → Prop := va_Qi (S := (Nat → Int64)) (fun r u => post r u) (fun u t => xB D [(cA, .int), (cL, .long)] A (wdLw_said cA cL ad oa N formStands T0size T0out T0num u) t) A
abbrev rmLw_said : Room := { frames := 7, cells := 1, slots := 6, locals := 111 }
set_option maxHeartbeats 4000000 in
set_option maxRecDepth 100000 in
theorem ktLw_said (l : Launch) (hfl : l.flags = Jvm.pinnedFlags ++ [Jvm.noTraceFlag]) (D : va_G) (cA : ClassId) (cL : ClassId) (ad : Nat → Nat) (oa : Nat) (N : Nat) (sz : Nat) (formStands : Bool) (T0size : Int32) (T0out : Int32) (T0num : Nat → Int32) (outc : Nat → Int64) (v1 : Int32) (post : Int32 → (Nat → Int64) → Prop) (hw : wpLw_said T0size T0num outc v1 post) : Met l yLw_said (Cond.codeWith yLw_said cLw_said 4 (some .int) [(0, 9, 12, 84)] :: xW) rmLw_said (va_Pc [.ref (ad 0), .int v1, .ref oa] (xPcL D [(cA, .int), (cL, .long)] (wdLw_said cA cL ad oa N formStands T0size T0out T0num outc) sz)) (qcLw_said D cA cL ad oa N formStands T0size T0out T0num outc post (va_A (wdLw_said cA cL ad oa N formStands T0size T0out T0num outc) sz)) 1 6 (va_A (wdLw_said cA cL ad oa N formStands T0size T0out T0num outc) sz) := by
  refine va_MetW (hh := [(0, 9, 12, 84)]) (cc := cLw_said) (maxL := 4) (ret := (some .int)) (by decide) rfl ?_
  intro p e s m args below meth c s₁ B hml hv
  obtain ⟨rfl, ⟨⟨hsz, hP, hK, hD0, hN⟩, hE0⟩, hNc⟩ := hv
  have hx := B.exec
  have hb := B.bytes
  have hr := B.returns
  have hts := atoms_spec (ws := (Cond.codeWith yLw_said cLw_said 4 (some .int) [(0, 9, 12, 84)] :: xW)) B.pre
  have hown : s.vm.findClass "OnceNamedLaw" = some m.cls := findClass_of_methodNamed B.named
  have hlocks := B.notSynchronized
  subst hsz
  have hD := hD0.self (sz := s.heap.size)
  have hE := xEEfull hE0
  have hexc := xhandlers B.named B.method (Stand.of_body B).code (hts _ List.mem_cons_self)
  generalize hAe : va_A (wdLw_said cA cL ad oa N formStands T0size T0out T0num outc) s.heap.size = A at hD hE ⊢
  have hA : ∀ q : Nat, s.heap.size ≤ q → A q := fun q h => by rw [← hAe]; exact Or.inr h
  have hS : va_S A s.heap s.heap [] := va_S.rf
  have hend : ∀ (r : Int32) (u0 : Nat → Int64) (H : Heap) (locs : List Loc) (pc : Nat) (ls : Array Slot), decode cLw_said pc = .ok (.ireturn, 1) → va_P D vwCl (wdLw_said cA cL ad oa N formStands T0size T0out T0num u0) H → va_D A (wdLw_said cA cL ad oa N formStands T0size T0out T0num u0) → va_S A s.heap H locs → post r u0 → W p l e (headSpec (Cond.codeWith yLw_said cLw_said 4 (some .int) [(0, 9, 12, 84)] :: xW) rmLw_said).room s m ([.ref (ad 0), .int v1, .ref oa] : List Value).toArray below meth c H locs 1 6 (MQ below (qcLw_said D cA cL ad oa N formStands T0size T0out T0num outc post A) ([.ref (ad 0), .int v1, .ref oa] : List Value).toArray s 1 6 A) (F0 m pc ls [.int r]) := fun r u0 H locs pc ls hd hP hD hS hw => W.iret (v := r) hx hb hr (fun t ht hW => ⟨⟨r, u0, rfl, hw, ⟨by rw [ht]; exact hP, va_K.moved hW.alike hK, hD⟩⟩, hS.F ht⟩) hS.2.2 hd
  generalize hQ : MQ below (qcLw_said D cA cL ad oa N formStands T0size T0out T0num outc post A) ([.ref (ad 0), .int v1, .ref oa] : List Value).toArray s 1 6 A = Q at hend ⊢
  have hl := lv_entry ([.ref (ad 0), .int v1, .ref oa]) (n := 4) (Nat.le_of_ble_eq_true rfl)
  rw [lg_entry_eq]
  generalize (lg_sl ([.ref (ad 0), .int v1, .ref oa]) ++ List.replicate (4 - (lg_sl ([.ref (ad 0), .int v1, .ref oa])).length) Slot.unset).toArray = ls at hl ⊢
  have hl : lv_has ls 4 [(0, .ref (ad 0)), (1, .int v1), (2, .ref oa)] := hl
  unfold wpLw_said at hw
  refine lv_aload_n hx hb dLw_said_0 rfl (lv_at hl 2 rfl) ?_
  refine lv_iconst (v := 0) hx hb dLw_said_1 (by decide) ?_
  refine lv_aload_n hx hb dLw_said_2 rfl (lv_at hl 0 rfl) ?_
  refine lv_iload_n hx hb dLw_said_3 rfl (lv_at hl 1 rfl) ?_
  refine xcci (xrunV ⟨hx, hb, hml, hown, hts⟩ (ktOn_said l hfl D cA ad N _ formStands T0size T0out T0num v1 _ _ hw) (cwV 1 hts (goodV kw_944 kw_945 kw_946 kw_1 kw_947) rfl rfl rfl (by decide +kernel) ⟨Nat.le_of_ble_eq_true rfl, Nat.le_of_ble_eq_true rfl⟩) (xpreVE hE hS (hK.sub [0] rfl) hP hD hN [0, 1, 2] rfl rfl 0 rfl rfl) rfl rfl hl.1 rfl (lv_room (Nat.le_of_ble_eq_true rfl)) dLw_said_4 ⟨Nat.le_of_ble_eq_true rfl, Nat.le_of_ble_eq_true rfl⟩) hown hNc [(⟨0, 9, 12, 84⟩, 4)] hexc (by intro q hq; simp only [List.mem_cons, List.not_mem_nil, or_false] at hq; rcases hq with rfl; all_goals first | exact ⟨by decide, by decide, by decide, hts _ (List.mem_cons_of_mem _ kw_943)⟩) (fun k u h => by rcases h.1 with rfl; all_goals exact ⟨by decide, by simp⟩) hP hD hS hA [0, 1, 2] [3] rfl rfl rfl rfl [1, 2, 3, 0] rfl (fun _ => rfl) (fun r4 u H locs hw hP hD hS => ?_) (fun k x u H locs hw hP hD hS => ?_)
  ·
    have hP : va_P D vwCl (wdLw_said cA cL ad oa N formStands T0size T0out T0num outc) H := hP
    have hD : va_D A (wdLw_said cA cL ad oa N formStands T0size T0out T0num outc) := hD
    refine lv_i2l (v := (Int32.toInt64 r4)) hx hb dLw_said_7 rfl ?_
    have ho := hw.1
    have hw := hw.2
    refine va_last hx hb hK hP hD hS 3 1 rfl rfl ho dLw_said_8 (fun H locs hP hD hS => ?_)
    have hP : va_P D vwCl (wdLw_said cA cL ad oa N formStands T0size T0out T0num (vp_updL outc (Int32.toNatClampNeg 0) (Int32.toInt64 r4))) H := hP
    have hD : va_D A (wdLw_said cA cL ad oa N formStands T0size T0out T0num (vp_updL outc (Int32.toNatClampNeg 0) (Int32.toInt64 r4))) := hD
    refine lv_goto (tgt := 15) hx hb dLw_said_9 rfl ?_
    refine lv_iconst (v := 0) hx hb dLw_said_15 (by decide) ?_
    exact hend 0 (vp_updL outc (Int32.toNatClampNeg 0) (Int32.toInt64 r4)) _ _ _ _ dLw_said_16 hP hD hS hw
  ·
    try dsimp only at hw
    have hP : va_P D vwCl (wdLw_said cA cL ad oa N formStands T0size T0out T0num outc) H := hP
    have hD : va_D A (wdLw_said cA cL ad oa N formStands T0size T0out T0num outc) := hD
    obtain ⟨hk, hw⟩ := hw
    rcases hk with rfl
    · have hw := hw rfl
      refine W.eq (g2 := F0 m 12 ls [.ref x]) rfl ?_
      refine lv_astore_n (lv' := [(3, .ref x), (0, .ref (ad 0)), (1, .int v1), (2, .ref oa)]) hx hb dLw_said_12 rfl hl (by decide) rfl (fun ls hl => ?_)
      refine lv_iconst (v := 1) hx hb dLw_said_13 (by decide) ?_
      exact hend 1 outc _ _ _ _ dLw_said_14 hP hD hS hw
abbrev wdLw_same (cA : ClassId) (cL : ClassId) (ad : Nat → Nat) (oa : Nat) (N : Nat) (formStands : Bool) (stepCount : Nat → Int32) (kind : Nat → Int32) (target : Nat → Int32) (first : Nat → Int32) (second : Nat → Int32) (forkVariable : Nat → Int32) (yes : Nat → Int32) (no : Nat → Int32) (starts : Nat → Int32) (meetingNames : Nat → Int32) (meetingUses : Nat → Int32) (stepNames : Nat → Int32) (firstUses : Nat → Int32) (secondUses : Nat → Int32) (endUses : Nat → Int32) (pending : Int32) (length : Int32) (pendingTo : Nat → Int32) (pendingFrom : Nat → Int32) (copyTo : Nat → Int32) (copyFrom : Nat → Int32) (way : Int32) (values : Nat → Int32) (arriving : Nat → Int32) (T1size : Int32) (T1out : Int32) (T1num : Nat → Int32) (T2size : Int32) (T2out : Int32) (T2num : Nat → Int32) (outc : Nat → Int64) : va_W := [((ad 0), .inr (0, [.int (nI N), .ref (ad 1), .ref (ad 11), .ref (ad 18), .ref (ad 30), .ref (ad 35), .ref (ad 38), .ref (ad 40), .ref (ad 42), .int (bI formStands)])), ((ad 1), .inr (1, [.int (nI N), .ref (ad 2), .ref (ad 3), .ref (ad 4), .ref (ad 5), .ref (ad 6), .ref (ad 7), .ref (ad 8), .ref (ad 9), .ref (ad 10)])), ((ad 2), .inl (cA, N, .inl stepCount)), ((ad 3), .inl (cA, N * 6, .inl kind)), ((ad 4), .inl (cA, N * 6, .inl target)), ((ad 5), .inl (cA, N * 6, .inl first)), ((ad 6), .inl (cA, N * 6, .inl second)), ((ad 7), .inl (cA, N, .inl forkVariable)), ((ad 8), .inl (cA, N, .inl yes)), ((ad 9), .inl (cA, N, .inl no)), ((ad 10), .inl (cA, 6, .inl starts)), ((ad 18), .inr (3, [.ref (ad 1), .ref (ad 11), .int (nI N), .ref (ad 19), .ref (ad 20), .ref (ad 21), .ref (ad 22), .ref (ad 23), .ref (ad 24), .ref (ad 25), .ref (ad 26), .ref (ad 27), .ref (ad 28), .ref (ad 29)])), ((ad 19), .inl (cA, N * 6, .inl meetingNames)), ((ad 20), .inl (cA, N * 6 * (N + 1), .inl meetingUses)), ((ad 21), .inl (cA, N * 6, .inl stepNames)), ((ad 22), .inl (cA, N * 6, .inl firstUses)), ((ad 23), .inl (cA, N * 6, .inl secondUses)), ((ad 24), .inl (cA, N, .inl endUses)), ((ad 30), .inr (4, [.ref (ad 31), .ref (ad 32), .ref (ad 33), .ref (ad 34), .int pending, .int length])), ((ad 31), .inl (cA, 6, .inl pendingTo)), ((ad 32), .inl (cA, 6, .inl pendingFrom)), ((ad 33), .inl (cA, 9, .inl copyTo)), ((ad 34), .inl (cA, 9, .inl copyFrom)), ((ad 35), .inr (5, [.ref (ad 1), .ref (ad 18), .ref (ad 30), .ref (ad 36), .ref (ad 37), .int way])), ((ad 36), .inl (cA, 601, .inl values)), ((ad 37), .inl (cA, 6, .inl arriving)), ((ad 40), .inr (6, [.ref (ad 41), .int T1size, .int T1out])), ((ad 41), .inl (cA, 50, .inl T1num)), ((ad 42), .inr (6, [.ref (ad 43), .int T2size, .int T2out])), ((ad 43), .inl (cA, 50, .inl T2num)), (oa, .inl (cL, 1, .inr (.inl outc)))]
abbrev qcLw_same (D : va_G) (cA : ClassId) (cL : ClassId) (ad : Nat → Nat) (oa : Nat) (N : Nat) (formStands : Bool) (stepCount : Nat → Int32) (kind : Nat → Int32) (target : Nat → Int32) (first : Nat → Int32) (second : Nat → Int32) (forkVariable : Nat → Int32) (yes : Nat → Int32) (no : Nat → Int32) (starts : Nat → Int32) (meetingNames : Nat → Int32) (meetingUses : Nat → Int32) (stepNames : Nat → Int32) (firstUses : Nat → Int32) (secondUses : Nat → Int32) (endUses : Nat → Int32) (pending : Int32) (length : Int32) (pendingTo : Nat → Int32) (pendingFrom : Nat → Int32) (copyTo : Nat → Int32) (copyFrom : Nat → Int32) (way : Int32) (values : Nat → Int32) (arriving : Nat → Int32) (T1size : Int32) (T1out : Int32) (T1num : Nat → Int32) (T2size : Int32) (T2out : Int32) (T2num : Nat → Int32) (outc : Nat → Int64) (post : Int32 → Int32 → Int32 → (Nat → Int32) → (Nat → Int32) → (Nat → Int32) → (Nat → Int32) → Int32 → (Nat → Int32) → (Nat → Int32) → Int32 → Int32 → (Nat → Int32) → Int32 → Int32 → (Nat → Int32) → (Nat → Int64) → Prop) (A : Nat → Prop) : Array Value → State → Outcome → State → Prop := va_Qi (S := (Int32) × (Int32) × (Nat → Int32) × (Nat → Int32) × (Nat → Int32) × (Nat → Int32) × (Int32) × (Nat → Int32) × (Nat → Int32) × (Int32) × (Int32) × (Nat → Int32) × (Int32) × (Int32) × (Nat → Int32) × (Nat → Int64)) (fun r u => post r u.1 u.2.1 u.2.2.1 u.2.2.2.1 u.2.2.2.2.1 u.2.2.2.2.2.1 u.2.2.2.2.2.2.1 u.2.2.2.2.2.2.2.1 u.2.2.2.2.2.2.2.2.1 u.2.2.2.2.2.2.2.2.2.1 u.2.2.2.2.2.2.2.2.2.2.1 u.2.2.2.2.2.2.2.2.2.2.2.1 u.2.2.2.2.2.2.2.2.2.2.2.2.1 u.2.2.2.2.2.2.2.2.2.2.2.2.2.1 u.2.2.2.2.2.2.2.2.2.2.2.2.2.2.1 u.2.2.2.2.2.2.2.2.2.2.2.2.2.2.2) (fun u t => xB D [(cA, .int), (cL, .long)] A (wdLw_same cA cL ad oa N formStands stepCount kind target first second forkVariable yes no starts meetingNames meetingUses stepNames firstUses secondUses endUses u.1 u.2.1 u.2.2.1 u.2.2.2.1 u.2.2.2.2.1 u.2.2.2.2.2.1 u.2.2.2.2.2.2.1 u.2.2.2.2.2.2.2.1 u.2.2.2.2.2.2.2.2.1 u.2.2.2.2.2.2.2.2.2.1 u.2.2.2.2.2.2.2.2.2.2.1 u.2.2.2.2.2.2.2.2.2.2.2.1 u.2.2.2.2.2.2.2.2.2.2.2.2.1 u.2.2.2.2.2.2.2.2.2.2.2.2.2.1 u.2.2.2.2.2.2.2.2.2.2.2.2.2.2.1 u.2.2.2.2.2.2.2.2.2.2.2.2.2.2.2) t) A
abbrev rmLw_same : Room := { frames := 9, cells := 1, slots := 6, locals := 166 }
set_option maxHeartbeats 4000000 in
set_option maxRecDepth 100000 in
theorem ktLw_same (l : Launch) (hfl : l.flags = Jvm.pinnedFlags ++ [Jvm.noTraceFlag]) (D : va_G) (cA : ClassId) (cL : ClassId) (ad : Nat → Nat) (oa : Nat) (N : Nat) (sz : Nat) (formStands : Bool) (stepCount : Nat → Int32) (kind : Nat → Int32) (target : Nat → Int32) (first : Nat → Int32) (second : Nat → Int32) (forkVariable : Nat → Int32) (yes : Nat → Int32) (no : Nat → Int32) (starts : Nat → Int32) (meetingNames : Nat → Int32) (meetingUses : Nat → Int32) (stepNames : Nat → Int32) (firstUses : Nat → Int32) (secondUses : Nat → Int32) (endUses : Nat → Int32) (pending : Int32) (length : Int32) (pendingTo : Nat → Int32) (pendingFrom : Nat → Int32) (copyTo : Nat → Int32) (copyFrom : Nat → Int32) (way : Int32) (values : Nat → Int32) (arriving : Nat → Int32) (T1size : Int32) (T1out : Int32) (T1num : Nat → Int32) (T2size : Int32) (T2out : Int32) (T2num : Nat → Int32) (outc : Nat → Int64) (v1 : Int32) (post : Int32 → Int32 → Int32 → (Nat → Int32) → (Nat → Int32) → (Nat → Int32) → (Nat → Int32) → Int32 → (Nat → Int32) → (Nat → Int32) → Int32 → Int32 → (Nat → Int32) → Int32 → Int32 → (Nat → Int32) → (Nat → Int64) → Prop) (hw : wpLw_same N formStands stepCount kind target first second forkVariable yes no starts meetingNames meetingUses stepNames firstUses secondUses endUses pending length pendingTo pendingFrom copyTo copyFrom way values arriving T1size T1out T1num T2size T2out T2num outc v1 post) : Met l yLw_same (Cond.codeWith yLw_same cLw_same 4 (some .int) [(0, 16, 19, 13), (0, 16, 22, 36)] :: xW) rmLw_same (va_Pc [.ref (ad 0), .int v1, .ref oa] (xPcL D [(cA, .int), (cL, .long)] (wdLw_same cA cL ad oa N formStands stepCount kind target first second forkVariable yes no starts meetingNames meetingUses stepNames firstUses secondUses endUses pending length pendingTo pendingFrom copyTo copyFrom way values arriving T1size T1out T1num T2size T2out T2num outc) sz)) (qcLw_same D cA cL ad oa N formStands stepCount kind target first second forkVariable yes no starts meetingNames meetingUses stepNames firstUses secondUses endUses pending length pendingTo pendingFrom copyTo copyFrom way values arriving T1size T1out T1num T2size T2out T2num outc post (va_A (wdLw_same cA cL ad oa N formStands stepCount kind target first second forkVariable yes no starts meetingNames meetingUses stepNames firstUses secondUses endUses pending length pendingTo pendingFrom copyTo copyFrom way values arriving T1size T1out T1num T2size T2out T2num outc) sz)) 1 6 (va_A (wdLw_same cA cL ad oa N formStands stepCount kind target first second forkVariable yes no starts meetingNames meetingUses stepNames firstUses secondUses endUses pending length pendingTo pendingFrom copyTo copyFrom way values arriving T1size T1out T1num T2size T2out T2num outc) sz) := by
  refine va_MetW (hh := [(0, 16, 19, 13), (0, 16, 22, 36)]) (cc := cLw_same) (maxL := 4) (ret := (some .int)) (by decide) rfl ?_
  intro p e s m args below meth c s₁ B hml hv
  obtain ⟨rfl, ⟨⟨hsz, hP, hK, hD0, hN⟩, hE0⟩, hNc⟩ := hv
  have hx := B.exec
  have hb := B.bytes
  have hr := B.returns
  have hts := atoms_spec (ws := (Cond.codeWith yLw_same cLw_same 4 (some .int) [(0, 16, 19, 13), (0, 16, 22, 36)] :: xW)) B.pre
  have hown : s.vm.findClass "OnceNamedLaw" = some m.cls := findClass_of_methodNamed B.named
  have hlocks := B.notSynchronized
  subst hsz
  have hD := hD0.self (sz := s.heap.size)
  have hE := xEEfull hE0
  have hexc := xhandlers B.named B.method (Stand.of_body B).code (hts _ List.mem_cons_self)
  generalize hAe : va_A (wdLw_same cA cL ad oa N formStands stepCount kind target first second forkVariable yes no starts meetingNames meetingUses stepNames firstUses secondUses endUses pending length pendingTo pendingFrom copyTo copyFrom way values arriving T1size T1out T1num T2size T2out T2num outc) s.heap.size = A at hD hE ⊢
  have hA : ∀ q : Nat, s.heap.size ≤ q → A q := fun q h => by rw [← hAe]; exact Or.inr h
  have hS : va_S A s.heap s.heap [] := va_S.rf
  have hend : ∀ (r : Int32) (u0 : Int32) (u1 : Int32) (u2 : Nat → Int32) (u3 : Nat → Int32) (u4 : Nat → Int32) (u5 : Nat → Int32) (u6 : Int32) (u7 : Nat → Int32) (u8 : Nat → Int32) (u9 : Int32) (u10 : Int32) (u11 : Nat → Int32) (u12 : Int32) (u13 : Int32) (u14 : Nat → Int32) (u15 : Nat → Int64) (H : Heap) (locs : List Loc) (pc : Nat) (ls : Array Slot), decode cLw_same pc = .ok (.ireturn, 1) → va_P D vwCl (wdLw_same cA cL ad oa N formStands stepCount kind target first second forkVariable yes no starts meetingNames meetingUses stepNames firstUses secondUses endUses u0 u1 u2 u3 u4 u5 u6 u7 u8 u9 u10 u11 u12 u13 u14 u15) H → va_D A (wdLw_same cA cL ad oa N formStands stepCount kind target first second forkVariable yes no starts meetingNames meetingUses stepNames firstUses secondUses endUses u0 u1 u2 u3 u4 u5 u6 u7 u8 u9 u10 u11 u12 u13 u14 u15) → va_S A s.heap H locs → post r u0 u1 u2 u3 u4 u5 u6 u7 u8 u9 u10 u11 u12 u13 u14 u15 → W p l e (headSpec (Cond.codeWith yLw_same cLw_same 4 (some .int) [(0, 16, 19, 13), (0, 16, 22, 36)] :: xW) rmLw_same).room s m ([.ref (ad 0), .int v1, .ref oa] : List Value).toArray below meth c H locs 1 6 (MQ below (qcLw_same D cA cL ad oa N formStands stepCount kind target first second forkVariable yes no starts meetingNames meetingUses stepNames firstUses secondUses endUses pending length pendingTo pendingFrom copyTo copyFrom way values arriving T1size T1out T1num T2size T2out T2num outc post A) ([.ref (ad 0), .int v1, .ref oa] : List Value).toArray s 1 6 A) (F0 m pc ls [.int r]) := fun r u0 u1 u2 u3 u4 u5 u6 u7 u8 u9 u10 u11 u12 u13 u14 u15 H locs pc ls hd hP hD hS hw => W.iret (v := r) hx hb hr (fun t ht hW => ⟨⟨r, (u0, u1, u2, u3, u4, u5, u6, u7, u8, u9, u10, u11, u12, u13, u14, u15), rfl, hw, ⟨by rw [ht]; exact hP, va_K.moved hW.alike hK, hD⟩⟩, hS.F ht⟩) hS.2.2 hd
  generalize hQ : MQ below (qcLw_same D cA cL ad oa N formStands stepCount kind target first second forkVariable yes no starts meetingNames meetingUses stepNames firstUses secondUses endUses pending length pendingTo pendingFrom copyTo copyFrom way values arriving T1size T1out T1num T2size T2out T2num outc post A) ([.ref (ad 0), .int v1, .ref oa] : List Value).toArray s 1 6 A = Q at hend ⊢
  have hl := lv_entry ([.ref (ad 0), .int v1, .ref oa]) (n := 4) (Nat.le_of_ble_eq_true rfl)
  rw [lg_entry_eq]
  generalize (lg_sl ([.ref (ad 0), .int v1, .ref oa]) ++ List.replicate (4 - (lg_sl ([.ref (ad 0), .int v1, .ref oa])).length) Slot.unset).toArray = ls at hl ⊢
  have hl : lv_has ls 4 [(0, .ref (ad 0)), (1, .int v1), (2, .ref oa)] := hl
  unfold wpLw_same at hw
  refine lv_aload_n hx hb dLw_same_0 rfl (lv_at hl 2 rfl) ?_
  refine lv_iconst (v := 0) hx hb dLw_same_1 (by decide) ?_
  refine lv_aload_n hx hb dLw_same_2 rfl (lv_at hl 0 rfl) ?_
  refine lv_iload_n hx hb dLw_same_3 rfl (lv_at hl 1 rfl) ?_
  refine xcci (xrunV ⟨hx, hb, hml, hown, hts⟩ (ktOn_same l hfl D cA ad N _ formStands stepCount kind target first second forkVariable yes no starts meetingNames meetingUses stepNames firstUses secondUses endUses pending length pendingTo pendingFrom copyTo copyFrom way values arriving T1size T1out T1num T2size T2out T2num v1 _ _ hw) (cwV 1 hts (goodV kw_971 kw_972 kw_973 kw_1 kw_974) rfl rfl rfl (by decide +kernel) ⟨Nat.le_of_ble_eq_true rfl, Nat.le_of_ble_eq_true rfl⟩) (xpreVE hE hS (hK.sub [0] rfl) hP hD hN [0, 1, 2, 3, 4, 5, 6, 7, 8, 9, 10, 11, 12, 13, 14, 15, 16, 17, 18, 19, 20, 21, 22, 23, 24, 25, 26, 27, 28, 29] rfl rfl 0 rfl rfl) rfl rfl hl.1 rfl (lv_room (Nat.le_of_ble_eq_true rfl)) dLw_same_4 ⟨Nat.le_of_ble_eq_true rfl, Nat.le_of_ble_eq_true rfl⟩) hown hNc [(⟨0, 16, 19, 13⟩, 0), (⟨0, 16, 22, 36⟩, 2)] hexc (by intro q hq; simp only [List.mem_cons, List.not_mem_nil, or_false] at hq; rcases hq with rfl | rfl; all_goals first | exact ⟨by decide, by decide, by decide, hts _ (List.mem_cons_of_mem _ kw_407)⟩ | exact ⟨by decide, by decide, by decide, hts _ (List.mem_cons_of_mem _ kw_563)⟩) (fun k u h => by rcases h.1 with rfl | rfl; all_goals exact ⟨by decide, by simp⟩) hP hD hS hA [0, 1, 2, 3, 4, 5, 6, 7, 8, 9, 10, 11, 12, 13, 14, 15, 16, 17, 18, 19, 20, 21, 22, 23, 24, 25, 26, 27, 28, 29] [30] rfl rfl rfl rfl [1, 2, 3, 4, 5, 6, 7, 8, 9, 10, 11, 12, 13, 14, 15, 16, 17, 18, 19, 20, 21, 22, 23, 24, 25, 26, 27, 28, 29, 30, 0] rfl (fun _ => rfl) (fun r4 u H locs hw hP hD hS => ?_) (fun k x u H locs hw hP hD hS => ?_)
  ·
    obtain ⟨r4, rfl, hw⟩ := hw
    obtain ⟨pending_4, length_4, pendingTo_4, pendingFrom_4, copyTo_4, copyFrom_4, way_4, values_4, arriving_4, T1size_4, T1out_4, T1num_4, T2size_4, T2out_4, T2num_4⟩ := u
    try dsimp only at hw
    have hP : va_P D vwCl (wdLw_same cA cL ad oa N formStands stepCount kind target first second forkVariable yes no starts meetingNames meetingUses stepNames firstUses secondUses endUses pending_4 length_4 pendingTo_4 pendingFrom_4 copyTo_4 copyFrom_4 way_4 values_4 arriving_4 T1size_4 T1out_4 T1num_4 T2size_4 T2out_4 T2num_4 outc) H := hP
    have hD : va_D A (wdLw_same cA cL ad oa N formStands stepCount kind target first second forkVariable yes no starts meetingNames meetingUses stepNames firstUses secondUses endUses pending_4 length_4 pendingTo_4 pendingFrom_4 copyTo_4 copyFrom_4 way_4 values_4 arriving_4 T1size_4 T1out_4 T1num_4 T2size_4 T2out_4 T2num_4 outc) := hD
    refine lv_if_eq (tgt := 14) hx hb dLw_same_7 rfl (fun hc => ?_) (fun hc => ?_)
    · have hw := hw.1 (bI_0 hc)
      refine lv_lconst (v := 0) hx hb dLw_same_14 (by decide) ?_
      have ho := hw.1
      have hw := hw.2
      refine va_last hx hb hK hP hD hS 30 1 rfl rfl ho dLw_same_15 (fun H locs hP hD hS => ?_)
      have hP : va_P D vwCl (wdLw_same cA cL ad oa N formStands stepCount kind target first second forkVariable yes no starts meetingNames meetingUses stepNames firstUses secondUses endUses pending_4 length_4 pendingTo_4 pendingFrom_4 copyTo_4 copyFrom_4 way_4 values_4 arriving_4 T1size_4 T1out_4 T1num_4 T2size_4 T2out_4 T2num_4 (vp_updL outc (Int32.toNatClampNeg 0) 0)) H := hP
      have hD : va_D A (wdLw_same cA cL ad oa N formStands stepCount kind target first second forkVariable yes no starts meetingNames meetingUses stepNames firstUses secondUses endUses pending_4 length_4 pendingTo_4 pendingFrom_4 copyTo_4 copyFrom_4 way_4 values_4 arriving_4 T1size_4 T1out_4 T1num_4 T2size_4 T2out_4 T2num_4 (vp_updL outc (Int32.toNatClampNeg 0) 0)) := hD
      refine lv_goto (tgt := 25) hx hb dLw_same_16 rfl ?_
      refine lv_iconst (v := 0) hx hb dLw_same_25 (by decide) ?_
      exact hend 0 pending_4 length_4 pendingTo_4 pendingFrom_4 copyTo_4 copyFrom_4 way_4 values_4 arriving_4 T1size_4 T1out_4 T1num_4 T2size_4 T2out_4 T2num_4 (vp_updL outc (Int32.toNatClampNeg 0) 0) _ _ _ _ dLw_same_26 hP hD hS hw
    · have hw := hw.2 (bI_1 hc)
      refine lv_lconst (v := 1) hx hb dLw_same_10 (by decide) ?_
      refine lv_goto (tgt := 15) hx hb dLw_same_11 rfl ?_
      have ho := hw.1
      have hw := hw.2
      refine va_last hx hb hK hP hD hS 30 1 rfl rfl ho dLw_same_15 (fun H locs hP hD hS => ?_)
      have hP : va_P D vwCl (wdLw_same cA cL ad oa N formStands stepCount kind target first second forkVariable yes no starts meetingNames meetingUses stepNames firstUses secondUses endUses pending_4 length_4 pendingTo_4 pendingFrom_4 copyTo_4 copyFrom_4 way_4 values_4 arriving_4 T1size_4 T1out_4 T1num_4 T2size_4 T2out_4 T2num_4 (vp_updL outc (Int32.toNatClampNeg 0) 1)) H := hP
      have hD : va_D A (wdLw_same cA cL ad oa N formStands stepCount kind target first second forkVariable yes no starts meetingNames meetingUses stepNames firstUses secondUses endUses pending_4 length_4 pendingTo_4 pendingFrom_4 copyTo_4 copyFrom_4 way_4 values_4 arriving_4 T1size_4 T1out_4 T1num_4 T2size_4 T2out_4 T2num_4 (vp_updL outc (Int32.toNatClampNeg 0) 1)) := hD
      refine lv_goto (tgt := 25) hx hb dLw_same_16 rfl ?_
      refine lv_iconst (v := 0) hx hb dLw_same_25 (by decide) ?_
      exact hend 0 pending_4 length_4 pendingTo_4 pendingFrom_4 copyTo_4 copyFrom_4 way_4 values_4 arriving_4 T1size_4 T1out_4 T1num_4 T2size_4 T2out_4 T2num_4 (vp_updL outc (Int32.toNatClampNeg 0) 1) _ _ _ _ dLw_same_26 hP hD hS hw
  ·
    obtain ⟨pending_4, length_4, pendingTo_4, pendingFrom_4, copyTo_4, copyFrom_4, way_4, values_4, arriving_4, T1size_4, T1out_4, T1num_4, T2size_4, T2out_4, T2num_4⟩ := u
    try dsimp only at hw
    have hP : va_P D vwCl (wdLw_same cA cL ad oa N formStands stepCount kind target first second forkVariable yes no starts meetingNames meetingUses stepNames firstUses secondUses endUses pending_4 length_4 pendingTo_4 pendingFrom_4 copyTo_4 copyFrom_4 way_4 values_4 arriving_4 T1size_4 T1out_4 T1num_4 T2size_4 T2out_4 T2num_4 outc) H := hP
    have hD : va_D A (wdLw_same cA cL ad oa N formStands stepCount kind target first second forkVariable yes no starts meetingNames meetingUses stepNames firstUses secondUses endUses pending_4 length_4 pendingTo_4 pendingFrom_4 copyTo_4 copyFrom_4 way_4 values_4 arriving_4 T1size_4 T1out_4 T1num_4 T2size_4 T2out_4 T2num_4 outc) := hD
    obtain ⟨hk, hw⟩ := hw
    rcases hk with rfl | rfl
    · have hw := hw.1 rfl
      refine W.eq (g2 := F0 m 19 ls [.ref x]) rfl ?_
      refine lv_astore_n (lv' := [(3, .ref x), (0, .ref (ad 0)), (1, .int v1), (2, .ref oa)]) hx hb dLw_same_19 rfl hl (by decide) rfl (fun ls hl => ?_)
      refine lv_iconst (v := 1) hx hb dLw_same_20 (by decide) ?_
      exact hend 1 pending_4 length_4 pendingTo_4 pendingFrom_4 copyTo_4 copyFrom_4 way_4 values_4 arriving_4 T1size_4 T1out_4 T1num_4 T2size_4 T2out_4 T2num_4 outc _ _ _ _ dLw_same_21 hP hD hS hw
    · have hw := hw.2 rfl
      refine W.eq (g2 := F0 m 22 ls [.ref x]) rfl ?_
      refine lv_astore_n (lv' := [(3, .ref x), (0, .ref (ad 0)), (1, .int v1), (2, .ref oa)]) hx hb dLw_same_22 rfl hl (by decide) rfl (fun ls hl => ?_)
      refine lv_iconst (v := 2) hx hb dLw_same_23 (by decide) ?_
      exact hend 2 pending_4 length_4 pendingTo_4 pendingFrom_4 copyTo_4 copyFrom_4 way_4 values_4 arriving_4 T1size_4 T1out_4 T1num_4 T2size_4 T2out_4 T2num_4 outc _ _ _ _ dLw_same_24 hP hD hS hw
