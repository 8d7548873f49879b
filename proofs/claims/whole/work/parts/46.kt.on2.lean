abbrev wdOn_start (cA : ClassId) (ad : Nat → Nat) (N : Nat) (formStands : Bool) (starts : Nat → Int32) : va_W := [((ad 0), .inr (0, [.int (nI N), .ref (ad 1), .ref (ad 11), .ref (ad 18), .ref (ad 30), .ref (ad 35), .ref (ad 38), .ref (ad 40), .ref (ad 42), .int (bI formStands)])), ((ad 1), .inr (1, [.int (nI N), .ref (ad 2), .ref (ad 3), .ref (ad 4), .ref (ad 5), .ref (ad 6), .ref (ad 7), .ref (ad 8), .ref (ad 9), .ref (ad 10)])), ((ad 10), .inl (cA, 6, .inl starts))]
abbrev qcOn_start (D : va_G) (cA : ClassId) (ad : Nat → Nat) (N : Nat) (formStands : Bool) (starts : Nat → Int32) (post : Bool → (Nat → Int32) → Prop) (postX : Nat → Bool → (Nat → Int32) → Prop) (A : Nat → Prop) : Array Value → State → Outcome → State → Prop := xQv (S := (Bool) × (Nat → Int32)) (fun u => post u.1 u.2) (fun k u => postX k u.1 u.2) (fun u t => xB D [(cA, .int)] A (wdOn_start cA ad N u.1 u.2) t) A
abbrev rmOn_start : Room := { frames := 7, cells := 1, slots := 6, locals := 110 }
set_option maxHeartbeats 4000000 in
set_option maxRecDepth 100000 in
theorem ktOn_start (l : Launch) (hfl : l.flags = Jvm.pinnedFlags ++ [Jvm.noTraceFlag]) (D : va_G) (cA : ClassId) (ad : Nat → Nat) (N : Nat) (sz : Nat) (formStands : Bool) (starts : Nat → Int32) (v1 : Int32) (v2 : Int32) (post : Bool → (Nat → Int32) → Prop) (postX : Nat → Bool → (Nat → Int32) → Prop) (hw : wpOn_start formStands starts v1 v2 post postX) : MetX l yOn_start (Cond.code yOn_start cOn_start 3 none :: xW) rmOn_start (va_Pc [.ref (ad 0), .int v1, .int v2] (xPcE D [(cA, .int)] (wdOn_start cA ad N formStands starts) sz)) (qcOn_start D cA ad N formStands starts post postX (va_A (wdOn_start cA ad N formStands starts) sz)) 1 6 (va_A (wdOn_start cA ad N formStands starts) sz) := by
  refine MetX.ofW (cc := cOn_start) (maxL := 3) (ret := none) (by decide) rfl ?_
  intro p e s m args below meth c s₁ B hml hv
  obtain ⟨rfl, ⟨hsz, hP, hK, hD0, hN⟩, hE0⟩ := hv
  have hx := B.exec
  have hb := B.bytes
  have hr := B.returns
  have hts := atoms_spec (ws := (Cond.code yOn_start cOn_start 3 none :: xW)) B.pre
  have hown : s.vm.findClass "OnceNamed" = some m.cls := findClass_of_methodNamed B.named
  have hlocks := B.notSynchronized
  subst hsz
  have hD := hD0.self (sz := s.heap.size)
  have hE := xEEfull hE0
  have htr := Launch.traces_off hfl B.admits
  have hout := xnoout (B.noHandlers (hts _ List.mem_cons_self))
  have htsx : ∀ w ∈ xW, w.before ([.ref (ad 0), .int v1, .int v2] : List Value).toArray s = true := fun w h => hts w (List.mem_cons_of_mem _ h)
  generalize hAe : va_A (wdOn_start cA ad N formStands starts) s.heap.size = A at hD hE ⊢
  have hA : ∀ q : Nat, s.heap.size ≤ q → A q := fun q h => by rw [← hAe]; exact Or.inr h
  have hS : va_S A s.heap s.heap [] := va_S.rf
  have hend : ∀ (u0 : Bool) (u1 : Nat → Int32) (H : Heap) (locs : List Loc) (pc : Nat) (ls : Array Slot), decode cOn_start pc = .ok (.return_, 1) → va_P D vwCl (wdOn_start cA ad N u0 u1) H → va_D A (wdOn_start cA ad N u0 u1) → va_S A s.heap H locs → post u0 u1 → W p l e (headSpec (Cond.code yOn_start cOn_start 3 none :: xW) rmOn_start).room s m ([.ref (ad 0), .int v1, .int v2] : List Value).toArray below meth c H locs 1 6 (MQX below (qcOn_start D cA ad N formStands starts post postX A) ([.ref (ad 0), .int v1, .int v2] : List Value).toArray s 1 6 A) (F0 m pc ls []) := fun u0 u1 H locs pc ls hd hP hD hS hw => xWmono (fun _ => MQX.of) (W.vret hx hb hr (fun t ht hW => ⟨Or.inl ⟨(u0, u1), rfl, hw, ⟨by rw [ht]; exact hP, va_K.moved hW.alike hK, hD⟩⟩, hS.F ht⟩) hS.2.2 hd)
  have hendX : ∀ (k x : Nat) (u0 : Bool) (u1 : Nat → Int32) (t : State) (locs : List Loc) (cells slots : Nat), cells ≤ 1 → slots ≤ 6 → t.status = .running → Ended t below (.threw x) → s.WarmedH t.vm → s.sameButNew ({ t with vm := s.vm } : State) locs cells slots → xExc k x s.heap.size t → va_P D vwCl (wdOn_start cA ad N u0 u1) t.heap → va_D A (wdOn_start cA ad N u0 u1) → va_S A s.heap t.heap locs → postX k u0 u1 → MQX below (qcOn_start D cA ad N formStands starts post postX A) ([.ref (ad 0), .int v1, .int v2] : List Value).toArray s 1 6 A t := fun k x u0 u1 t locs cells slots h1 h2 b1 b2 b3 b4 b5 hP hD hS hw => ⟨.threw x, b1, b2, ⟨Or.inr ⟨k, x, (u0, u1), rfl, b5, hw, ⟨hP, va_K.moved b3.alike hK, hD⟩⟩, hS.F rfl⟩, locs, ⟨b3, b4.mono h1 h2⟩, hS.2.2⟩
  generalize hQ : MQX below (qcOn_start D cA ad N formStands starts post postX A) ([.ref (ad 0), .int v1, .int v2] : List Value).toArray s 1 6 A = Q at hend hendX ⊢
  have hl := lv_entry ([.ref (ad 0), .int v1, .int v2]) (n := 3) (Nat.le_of_ble_eq_true rfl)
  rw [lg_entry_eq]
  generalize (lg_sl ([.ref (ad 0), .int v1, .int v2]) ++ List.replicate (3 - (lg_sl ([.ref (ad 0), .int v1, .int v2])).length) Slot.unset).toArray = ls at hl ⊢
  have hl : lv_has ls 3 [(0, .ref (ad 0)), (1, .int v1), (2, .int v2)] := hl
  unfold wpOn_start at hw
  refine lv_iload_n hx hb dOn_start_0 rfl (lv_at hl 1 rfl) ?_
  refine xcxv (xrunS ⟨hx, hb, hml, hown, hts⟩ (ktOn_requireVariable l hfl D cA ad N _ v1 _ _ hw) (va_cwS 1 hts (goodS kw_493 kw_494 kw_1 kw_495) rfl rfl rfl (by decide +kernel) ⟨Nat.le_of_ble_eq_true rfl, Nat.le_of_ble_eq_true rfl⟩) (xpreSE hE hS hK hP hD hN [] rfl rfl) rfl rfl hl.1 rfl (lv_room (Nat.le_of_ble_eq_true rfl)) dOn_start_1 ⟨Nat.le_of_ble_eq_true rfl, Nat.le_of_ble_eq_true rfl⟩) (hout _) hlocks hP hD hS hA [] [0, 1, 2] rfl rfl rfl rfl [0, 1, 2] rfl (fun _ => rfl) (fun u H locs hw hP hD hS => ?_) (fun k x u t locs b1 b2 b3 b4 b5 b6 b7 b8 b9 => hendX k x formStands starts t locs _ _ (Nat.le_of_ble_eq_true rfl) (Nat.le_of_ble_eq_true rfl) b1 b2 b3 b4 b5 b6 b7 b8 b9)
  have hP : va_P D vwCl (wdOn_start cA ad N formStands starts) H := hP
  have hD : va_D A (wdOn_start cA ad N formStands starts) := hD
  refine lv_aload_n hx hb dOn_start_4 rfl (lv_at hl 0 rfl) ?_
  refine va_get (D := D) (ci := 0) (v := .ref (ad 1)) (C := "OnceNamed") (T := TX0) (N := 10) hx hb hts (fun w h => List.mem_cons_of_mem _ (inX0 w h)) hown hK hP 0 rfl rfl 1 (by decide) (hts _ (List.mem_cons_of_mem _ kw_268)) (fun _ h9 => h9) rfl dOn_start_5 ?_
  refine lv_iload_n hx hb dOn_start_8 rfl (lv_at hl 1 rfl) ?_
  refine lv_iload_n hx hb dOn_start_9 rfl (lv_at hl 2 rfl) ?_
  refine xcv (va_runV ⟨hx, hb, hml, hown, hts⟩ (ktProgram_changeStart l D cA ad N _ starts v1 v2 _ hw) (cwV 2 hts (goodV kw_556 kw_557 kw_558 kw_3 kw_559) rfl rfl rfl (by decide +kernel) ⟨Nat.le_of_ble_eq_true rfl, Nat.le_of_ble_eq_true rfl⟩) (xpreV hK hP hD hN [1, 2] rfl rfl 1 rfl rfl) rfl rfl hl.1 rfl (lv_room (Nat.le_of_ble_eq_true rfl)) dOn_start_10 ⟨Nat.le_of_ble_eq_true rfl, Nat.le_of_ble_eq_true rfl⟩) hP hD hS hA [1, 2] [0] rfl rfl rfl rfl [0, 1, 2] rfl (fun _ => rfl) (fun starts_10 H locs hw hP hD hS => ?_)
  try dsimp only at hw
  have hP : va_P D vwCl (wdOn_start cA ad N formStands starts_10) H := hP
  have hD : va_D A (wdOn_start cA ad N formStands starts_10) := hD
  refine lv_aload_n hx hb dOn_start_13 rfl (lv_at hl 0 rfl) ?_
  refine lv_iconst (v := 0) hx hb dOn_start_14 (by decide) ?_
  refine va_put (D := D) (ci := 0) (v := .int (bI false)) (ty := .boolean) (C := "OnceNamed") (T := TX0) (N := 10) hx hb hts (fun w h => List.mem_cons_of_mem _ (inX0 w h)) tyX0 tyX0_ok nmX0 hown hK hP hD hS 0 rfl rfl 9 (by decide) (hts _ (List.mem_cons_of_mem _ kw_276)) (fun _ h9 => h9) rfl (by decide +kernel) (bI_nar _) (bI_fit _) (Nat.le_of_ble_eq_true rfl) dOn_start_15 (fun H locs hP hD hS => ?_)
  have hP : va_P D vwCl (wdOn_start cA ad N false starts_10) H := hP
  have hD : va_D A (wdOn_start cA ad N false starts_10) := hD
  exact hend false starts_10 _ _ _ _ dOn_start_18 hP hD hS hw
abbrev wdOn_build (cA : ClassId) (ad : Nat → Nat) (N : Nat) (formStands : Bool) (stepCount : Nat → Int32) (kind : Nat → Int32) (target : Nat → Int32) (first : Nat → Int32) (second : Nat → Int32) (forkVariable : Nat → Int32) (orderSize : Int32) (reached : Int32) (forerunners : Nat → Int32) (frontiers : Nat → Int32) (parents : Nat → Int32) (order : Nat → Int32) (meetingNames : Nat → Int32) (meetingUses : Nat → Int32) (stepNames : Nat → Int32) (firstUses : Nat → Int32) (secondUses : Nat → Int32) (endUses : Nat → Int32) (lastNames : Nat → Int32) (namesOf : Nat → Int32) (homeBlock : Nat → Int32) (homePlace : Nat → Int32) : va_W := [((ad 0), .inr (0, [.int (nI N), .ref (ad 1), .ref (ad 11), .ref (ad 18), .ref (ad 30), .ref (ad 35), .ref (ad 38), .ref (ad 40), .ref (ad 42), .int (bI formStands)])), ((ad 1), .inr (1, [.int (nI N), .ref (ad 2), .ref (ad 3), .ref (ad 4), .ref (ad 5), .ref (ad 6), .ref (ad 7), .ref (ad 8), .ref (ad 9), .ref (ad 10)])), ((ad 2), .inl (cA, N, .inl stepCount)), ((ad 3), .inl (cA, N * 6, .inl kind)), ((ad 4), .inl (cA, N * 6, .inl target)), ((ad 5), .inl (cA, N * 6, .inl first)), ((ad 6), .inl (cA, N * 6, .inl second)), ((ad 7), .inl (cA, N, .inl forkVariable)), ((ad 11), .inr (2, [.int (nI N), .ref (ad 12), .ref (ad 13), .ref (ad 14), .ref (ad 15), .ref (ad 16), .ref (ad 17), .int orderSize, .int reached])), ((ad 12), .inl (cA, N, .inl forerunners)), ((ad 14), .inl (cA, N, .inl frontiers)), ((ad 15), .inl (cA, N, .inl parents)), ((ad 16), .inl (cA, N, .inl order)), ((ad 18), .inr (3, [.ref (ad 1), .ref (ad 11), .int (nI N), .ref (ad 19), .ref (ad 20), .ref (ad 21), .ref (ad 22), .ref (ad 23), .ref (ad 24), .ref (ad 25), .ref (ad 26), .ref (ad 27), .ref (ad 28), .ref (ad 29)])), ((ad 19), .inl (cA, N * 6, .inl meetingNames)), ((ad 20), .inl (cA, N * 6 * (N + 1), .inl meetingUses)), ((ad 21), .inl (cA, N * 6, .inl stepNames)), ((ad 22), .inl (cA, N * 6, .inl firstUses)), ((ad 23), .inl (cA, N * 6, .inl secondUses)), ((ad 24), .inl (cA, N, .inl endUses)), ((ad 25), .inl (cA, (N + 1) * 6, .inl lastNames)), ((ad 26), .inl (cA, 6, .inl namesOf)), ((ad 27), .inl (cA, 600, .inl homeBlock)), ((ad 28), .inl (cA, 600, .inl homePlace))]
abbrev qcOn_build (D : va_G) (cA : ClassId) (ad : Nat → Nat) (N : Nat) (formStands : Bool) (stepCount : Nat → Int32) (kind : Nat → Int32) (target : Nat → Int32) (first : Nat → Int32) (second : Nat → Int32) (forkVariable : Nat → Int32) (orderSize : Int32) (reached : Int32) (forerunners : Nat → Int32) (frontiers : Nat → Int32) (parents : Nat → Int32) (order : Nat → Int32) (meetingNames : Nat → Int32) (meetingUses : Nat → Int32) (stepNames : Nat → Int32) (firstUses : Nat → Int32) (secondUses : Nat → Int32) (endUses : Nat → Int32) (lastNames : Nat → Int32) (namesOf : Nat → Int32) (homeBlock : Nat → Int32) (homePlace : Nat → Int32) (post : Int32 → Bool → (Nat → Int32) → (Nat → Int32) → (Nat → Int32) → (Nat → Int32) → (Nat → Int32) → (Nat → Int32) → (Nat → Int32) → (Nat → Int32) → (Nat → Int32) → (Nat → Int32) → Prop) (A : Nat → Prop) : Array Value → State → Outcome → State → Prop := va_Qi (S := (Bool) × (Nat → Int32) × (Nat → Int32) × (Nat → Int32) × (Nat → Int32) × (Nat → Int32) × (Nat → Int32) × (Nat → Int32) × (Nat → Int32) × (Nat → Int32) × (Nat → Int32)) (fun r u => post r u.1 u.2.1 u.2.2.1 u.2.2.2.1 u.2.2.2.2.1 u.2.2.2.2.2.1 u.2.2.2.2.2.2.1 u.2.2.2.2.2.2.2.1 u.2.2.2.2.2.2.2.2.1 u.2.2.2.2.2.2.2.2.2.1 u.2.2.2.2.2.2.2.2.2.2) (fun u t => xB D [(cA, .int)] A (wdOn_build cA ad N u.1 stepCount kind target first second forkVariable orderSize reached forerunners frontiers parents order u.2.1 u.2.2.1 u.2.2.2.1 u.2.2.2.2.1 u.2.2.2.2.2.1 u.2.2.2.2.2.2.1 u.2.2.2.2.2.2.2.1 u.2.2.2.2.2.2.2.2.1 u.2.2.2.2.2.2.2.2.2.1 u.2.2.2.2.2.2.2.2.2.2) t) A
abbrev rmOn_build : Room := { frames := 6, cells := 0, slots := 0, locals := 133 }
set_option maxHeartbeats 4000000 in
set_option maxRecDepth 100000 in
theorem ktOn_build (l : Launch) (D : va_G) (cA : ClassId) (ad : Nat → Nat) (N : Nat) (sz : Nat) (formStands : Bool) (stepCount : Nat → Int32) (kind : Nat → Int32) (target : Nat → Int32) (first : Nat → Int32) (second : Nat → Int32) (forkVariable : Nat → Int32) (orderSize : Int32) (reached : Int32) (forerunners : Nat → Int32) (frontiers : Nat → Int32) (parents : Nat → Int32) (order : Nat → Int32) (meetingNames : Nat → Int32) (meetingUses : Nat → Int32) (stepNames : Nat → Int32) (firstUses : Nat → Int32) (secondUses : Nat → Int32) (endUses : Nat → Int32) (lastNames : Nat → Int32) (namesOf : Nat → Int32) (homeBlock : Nat → Int32) (homePlace : Nat → Int32)  (post : Int32 → Bool → (Nat → Int32) → (Nat → Int32) → (Nat → Int32) → (Nat → Int32) → (Nat → Int32) → (Nat → Int32) → (Nat → Int32) → (Nat → Int32) → (Nat → Int32) → (Nat → Int32) → Prop) (hw : wpOn_build N stepCount kind target first second forkVariable orderSize forerunners frontiers parents order meetingNames meetingUses stepNames firstUses secondUses endUses lastNames namesOf homeBlock homePlace post) : Met l yOn_build (Cond.code yOn_build cOn_build 1 (some .int) :: xW) rmOn_build (va_Pc [.ref (ad 0)] (xPc D [(cA, .int)] (wdOn_build cA ad N formStands stepCount kind target first second forkVariable orderSize reached forerunners frontiers parents order meetingNames meetingUses stepNames firstUses secondUses endUses lastNames namesOf homeBlock homePlace) sz)) (qcOn_build D cA ad N formStands stepCount kind target first second forkVariable orderSize reached forerunners frontiers parents order meetingNames meetingUses stepNames firstUses secondUses endUses lastNames namesOf homeBlock homePlace post (va_A (wdOn_build cA ad N formStands stepCount kind target first second forkVariable orderSize reached forerunners frontiers parents order meetingNames meetingUses stepNames firstUses secondUses endUses lastNames namesOf homeBlock homePlace) sz)) 0 0 (va_A (wdOn_build cA ad N formStands stepCount kind target first second forkVariable orderSize reached forerunners frontiers parents order meetingNames meetingUses stepNames firstUses secondUses endUses lastNames namesOf homeBlock homePlace) sz) := by
  refine Met.ofW (cc := cOn_build) (maxL := 1) (ret := (some .int)) (by decide) rfl ?_
  intro p e s m args below meth c s₁ B hml hv
  obtain ⟨rfl, hsz, hP, hK, hD0, hN⟩ := hv
  have hx := B.exec
  have hb := B.bytes
  have hr := B.returns
  have hts := atoms_spec (ws := (Cond.code yOn_build cOn_build 1 (some .int) :: xW)) B.pre
  have hown : s.vm.findClass "OnceNamed" = some m.cls := findClass_of_methodNamed B.named
  have hlocks := B.notSynchronized
  subst hsz
  have hD := hD0.self (sz := s.heap.size)
  generalize hAe : va_A (wdOn_build cA ad N formStands stepCount kind target first second forkVariable orderSize reached forerunners frontiers parents order meetingNames meetingUses stepNames firstUses secondUses endUses lastNames namesOf homeBlock homePlace) s.heap.size = A at hD ⊢
  have hA : ∀ q : Nat, s.heap.size ≤ q → A q := fun q h => by rw [← hAe]; exact Or.inr h
  have hS : va_S A s.heap s.heap [] := va_S.rf
  have hend : ∀ (r : Int32) (u0 : Bool) (u1 : Nat → Int32) (u2 : Nat → Int32) (u3 : Nat → Int32) (u4 : Nat → Int32) (u5 : Nat → Int32) (u6 : Nat → Int32) (u7 : Nat → Int32) (u8 : Nat → Int32) (u9 : Nat → Int32) (u10 : Nat → Int32) (H : Heap) (locs : List Loc) (pc : Nat) (ls : Array Slot), decode cOn_build pc = .ok (.ireturn, 1) → va_P D vwCl (wdOn_build cA ad N u0 stepCount kind target first second forkVariable orderSize reached forerunners frontiers parents order u1 u2 u3 u4 u5 u6 u7 u8 u9 u10) H → va_D A (wdOn_build cA ad N u0 stepCount kind target first second forkVariable orderSize reached forerunners frontiers parents order u1 u2 u3 u4 u5 u6 u7 u8 u9 u10) → va_S A s.heap H locs → post r u0 u1 u2 u3 u4 u5 u6 u7 u8 u9 u10 → W p l e (headSpec (Cond.code yOn_build cOn_build 1 (some .int) :: xW) rmOn_build).room s m ([.ref (ad 0)] : List Value).toArray below meth c H locs 0 0 (MQ below (qcOn_build D cA ad N formStands stepCount kind target first second forkVariable orderSize reached forerunners frontiers parents order meetingNames meetingUses stepNames firstUses secondUses endUses lastNames namesOf homeBlock homePlace post A) ([.ref (ad 0)] : List Value).toArray s 0 0 A) (F0 m pc ls [.int r]) := fun r u0 u1 u2 u3 u4 u5 u6 u7 u8 u9 u10 H locs pc ls hd hP hD hS hw => W.iret (v := r) hx hb hr (fun t ht hW => ⟨⟨r, (u0, u1, u2, u3, u4, u5, u6, u7, u8, u9, u10), rfl, hw, ⟨by rw [ht]; exact hP, va_K.moved hW.alike hK, hD⟩⟩, hS.F ht⟩) hS.2.2 hd
  generalize hQ : MQ below (qcOn_build D cA ad N formStands stepCount kind target first second forkVariable orderSize reached forerunners frontiers parents order meetingNames meetingUses stepNames firstUses secondUses endUses lastNames namesOf homeBlock homePlace post A) ([.ref (ad 0)] : List Value).toArray s 0 0 A = Q at hend ⊢
  have hl := lv_entry ([.ref (ad 0)]) (n := 1) (Nat.le_of_ble_eq_true rfl)
  rw [lg_entry_eq]
  generalize (lg_sl ([.ref (ad 0)]) ++ List.replicate (1 - (lg_sl ([.ref (ad 0)])).length) Slot.unset).toArray = ls at hl ⊢
  have hl : lv_has ls 1 [(0, .ref (ad 0))] := hl
  unfold wpOn_build at hw
  refine lv_aload_n hx hb dOn_build_0 rfl (lv_at hl 0 rfl) ?_
  refine lv_iconst (v := 1) hx hb dOn_build_1 (by decide) ?_
  refine va_put (D := D) (ci := 0) (v := .int (bI true)) (ty := .boolean) (C := "OnceNamed") (T := TX0) (N := 10) hx hb hts (fun w h => List.mem_cons_of_mem _ (inX0 w h)) tyX0 tyX0_ok nmX0 hown hK hP hD hS 0 rfl rfl 9 (by decide) (hts _ (List.mem_cons_of_mem _ kw_276)) (fun _ h9 => h9) rfl (by decide +kernel) (bI_nar _) (bI_fit _) (Nat.le_of_ble_eq_true rfl) dOn_build_2 (fun H locs hP hD hS => ?_)
  have hP : va_P D vwCl (wdOn_build cA ad N true stepCount kind target first second forkVariable orderSize reached forerunners frontiers parents order meetingNames meetingUses stepNames firstUses secondUses endUses lastNames namesOf homeBlock homePlace) H := hP
  have hD : va_D A (wdOn_build cA ad N true stepCount kind target first second forkVariable orderSize reached forerunners frontiers parents order meetingNames meetingUses stepNames firstUses secondUses endUses lastNames namesOf homeBlock homePlace) := hD
  refine lv_aload_n hx hb dOn_build_5 rfl (lv_at hl 0 rfl) ?_
  refine va_get (D := D) (ci := 0) (v := .ref (ad 18)) (C := "OnceNamed") (T := TX0) (N := 10) hx hb hts (fun w h => List.mem_cons_of_mem _ (inX0 w h)) hown hK hP 0 rfl rfl 3 (by decide) (hts _ (List.mem_cons_of_mem _ kw_270)) (fun _ h9 => h9) rfl dOn_build_6 ?_
  refine xci (va_runV ⟨hx, hb, hml, hown, hts⟩ (ktNamedForm_assemble l D cA ad N _ stepCount kind target first second forkVariable orderSize reached forerunners frontiers parents order meetingNames meetingUses stepNames firstUses secondUses endUses lastNames namesOf homeBlock homePlace _ hw) (cwV 0 hts (goodV kw_302 kw_303 kw_304 kw_6 kw_305) rfl rfl rfl (by decide +kernel) ⟨Nat.le_of_ble_eq_true rfl, Nat.le_of_ble_eq_true rfl⟩) (xpreV hK hP hD hN [1, 2, 3, 4, 5, 6, 7, 8, 9, 10, 11, 12, 13, 14, 15, 16, 17, 18, 19, 20, 21, 22, 23] rfl rfl 13 rfl rfl) rfl rfl hl.1 rfl (lv_room (Nat.le_of_ble_eq_true rfl)) dOn_build_9 ⟨Nat.le_of_ble_eq_true rfl, Nat.le_of_ble_eq_true rfl⟩) hP hD hS hA [1, 2, 3, 4, 5, 6, 7, 8, 9, 10, 11, 12, 13, 14, 15, 16, 17, 18, 19, 20, 21, 22, 23] [0] rfl rfl rfl rfl [0, 1, 2, 3, 4, 5, 6, 7, 8, 9, 10, 11, 12, 13, 14, 15, 16, 17, 18, 19, 20, 21, 22, 23] rfl (fun _ => rfl) (fun r9 u H locs hw hP hD hS => ?_)
  obtain ⟨meetingNames_9, meetingUses_9, stepNames_9, firstUses_9, secondUses_9, endUses_9, lastNames_9, namesOf_9, homeBlock_9, homePlace_9⟩ := u
  try dsimp only at hw
  have hP : va_P D vwCl (wdOn_build cA ad N true stepCount kind target first second forkVariable orderSize reached forerunners frontiers parents order meetingNames_9 meetingUses_9 stepNames_9 firstUses_9 secondUses_9 endUses_9 lastNames_9 namesOf_9 homeBlock_9 homePlace_9) H := hP
  have hD : va_D A (wdOn_build cA ad N true stepCount kind target first second forkVariable orderSize reached forerunners frontiers parents order meetingNames_9 meetingUses_9 stepNames_9 firstUses_9 secondUses_9 endUses_9 lastNames_9 namesOf_9 homeBlock_9 homePlace_9) := hD
  exact hend r9 true meetingNames_9 meetingUses_9 stepNames_9 firstUses_9 secondUses_9 endUses_9 lastNames_9 namesOf_9 homeBlock_9 homePlace_9 _ _ _ _ dOn_build_12 hP hD hS hw
abbrev wdOn_requireForm (cA : ClassId) (ad : Nat → Nat) (N : Nat) (formStands : Bool) : va_W := [((ad 0), .inr (0, [.int (nI N), .ref (ad 1), .ref (ad 11), .ref (ad 18), .ref (ad 30), .ref (ad 35), .ref (ad 38), .ref (ad 40), .ref (ad 42), .int (bI formStands)]))]
abbrev qcOn_requireForm (D : va_G) (cA : ClassId) (ad : Nat → Nat) (N : Nat) (formStands : Bool) (post : Prop) (postX : Nat → Prop) (A : Nat → Prop) : Array Value → State → Outcome → State → Prop := xQv (S := Unit) (fun u => post ) (fun k u => postX k ) (fun u t => xB D [(cA, .int)] A (wdOn_requireForm cA ad N formStands) t) A
abbrev rmOn_requireForm : Room := { frames := 6, cells := 1, slots := 6, locals := 90 }
set_option maxHeartbeats 4000000 in
set_option maxRecDepth 100000 in
theorem ktOn_requireForm (l : Launch) (hfl : l.flags = Jvm.pinnedFlags ++ [Jvm.noTraceFlag]) (D : va_G) (cA : ClassId) (ad : Nat → Nat) (N : Nat) (sz : Nat) (formStands : Bool)  (post : Prop) (postX : Nat → Prop) (hw : wpOn_requireForm formStands post postX) : MetX l yOn_requireForm (Cond.code yOn_requireForm cOn_requireForm 1 none :: xW) rmOn_requireForm (va_Pc [.ref (ad 0)] (xPcE D [(cA, .int)] (wdOn_requireForm cA ad N formStands) sz)) (qcOn_requireForm D cA ad N formStands post postX (va_A (wdOn_requireForm cA ad N formStands) sz)) 1 6 (va_A (wdOn_requireForm cA ad N formStands) sz) := by
  refine MetX.ofW (cc := cOn_requireForm) (maxL := 1) (ret := none) (by decide) rfl ?_
  intro p e s m args below meth c s₁ B hml hv
  obtain ⟨rfl, ⟨hsz, hP, hK, hD0, hN⟩, hE0⟩ := hv
  have hx := B.exec
  have hb := B.bytes
  have hr := B.returns
  have hts := atoms_spec (ws := (Cond.code yOn_requireForm cOn_requireForm 1 none :: xW)) B.pre
  have hown : s.vm.findClass "OnceNamed" = some m.cls := findClass_of_methodNamed B.named
  have hlocks := B.notSynchronized
  subst hsz
  have hD := hD0.self (sz := s.heap.size)
  have hE := xEEfull hE0
  have htr := Launch.traces_off hfl B.admits
  have hout := xnoout (B.noHandlers (hts _ List.mem_cons_self))
  have htsx : ∀ w ∈ xW, w.before ([.ref (ad 0)] : List Value).toArray s = true := fun w h => hts w (List.mem_cons_of_mem _ h)
  generalize hAe : va_A (wdOn_requireForm cA ad N formStands) s.heap.size = A at hD hE ⊢
  have hA : ∀ q : Nat, s.heap.size ≤ q → A q := fun q h => by rw [← hAe]; exact Or.inr h
  have hS : va_S A s.heap s.heap [] := va_S.rf
  have hend : ∀  (H : Heap) (locs : List Loc) (pc : Nat) (ls : Array Slot), decode cOn_requireForm pc = .ok (.return_, 1) → va_P D vwCl (wdOn_requireForm cA ad N formStands) H → va_D A (wdOn_requireForm cA ad N formStands) → va_S A s.heap H locs → post  → W p l e (headSpec (Cond.code yOn_requireForm cOn_requireForm 1 none :: xW) rmOn_requireForm).room s m ([.ref (ad 0)] : List Value).toArray below meth c H locs 1 6 (MQX below (qcOn_requireForm D cA ad N formStands post postX A) ([.ref (ad 0)] : List Value).toArray s 1 6 A) (F0 m pc ls []) := fun  H locs pc ls hd hP hD hS hw => xWmono (fun _ => MQX.of) (W.vret hx hb hr (fun t ht hW => ⟨Or.inl ⟨(), rfl, hw, ⟨by rw [ht]; exact hP, va_K.moved hW.alike hK, hD⟩⟩, hS.F ht⟩) hS.2.2 hd)
  have hendX : ∀ (k x : Nat)  (t : State) (locs : List Loc) (cells slots : Nat), cells ≤ 1 → slots ≤ 6 → t.status = .running → Ended t below (.threw x) → s.WarmedH t.vm → s.sameButNew ({ t with vm := s.vm } : State) locs cells slots → xExc k x s.heap.size t → va_P D vwCl (wdOn_requireForm cA ad N formStands) t.heap → va_D A (wdOn_requireForm cA ad N formStands) → va_S A s.heap t.heap locs → postX k  → MQX below (qcOn_requireForm D cA ad N formStands post postX A) ([.ref (ad 0)] : List Value).toArray s 1 6 A t := fun k x  t locs cells slots h1 h2 b1 b2 b3 b4 b5 hP hD hS hw => ⟨.threw x, b1, b2, ⟨Or.inr ⟨k, x, (), rfl, b5, hw, ⟨hP, va_K.moved b3.alike hK, hD⟩⟩, hS.F rfl⟩, locs, ⟨b3, b4.mono h1 h2⟩, hS.2.2⟩
  generalize hQ : MQX below (qcOn_requireForm D cA ad N formStands post postX A) ([.ref (ad 0)] : List Value).toArray s 1 6 A = Q at hend hendX ⊢
  have hl := lv_entry ([.ref (ad 0)]) (n := 1) (Nat.le_of_ble_eq_true rfl)
  rw [lg_entry_eq]
  generalize (lg_sl ([.ref (ad 0)]) ++ List.replicate (1 - (lg_sl ([.ref (ad 0)])).length) Slot.unset).toArray = ls at hl ⊢
  have hl : lv_has ls 1 [(0, .ref (ad 0))] := hl
  unfold wpOn_requireForm at hw
  refine lv_aload_n hx hb dOn_requireForm_0 rfl (lv_at hl 0 rfl) ?_
  refine va_get (D := D) (ci := 0) (v := .int (bI formStands)) (C := "OnceNamed") (T := TX0) (N := 10) hx hb hts (fun w h => List.mem_cons_of_mem _ (inX0 w h)) hown hK hP 0 rfl rfl 9 (by decide) (hts _ (List.mem_cons_of_mem _ kw_276)) (fun _ h9 => h9) rfl dOn_requireForm_1 ?_
  refine lv_if_ne (tgt := 18) hx hb dOn_requireForm_4 rfl (fun hc => ?_) (fun hc => ?_)
  · have hw := hw.1 (bI_1 hc)
    refine W.widen (k := 1) (n := 6) (Nat.le_of_ble_eq_true rfl) (Nat.le_of_ble_eq_true rfl) ?_
    exact hend  _ _ _ _ dOn_requireForm_18 hP hD hS hw
  · have hw := hw.2 (bI_0 hc)
    exact xthrowB 2 hx hb htr hown htsx (by decide) xat_2 kw_572 kw_18 hE hS (List.mem_of_getElem? (i := 5) rfl) (hout _) hlocks (hl.1.trans hml.symm) dOn_requireForm_7 dOn_requireForm_10 (Or.inr ⟨dOn_requireForm_11, rfl⟩) dOn_requireForm_14 dOn_requireForm_17 (Nat.le_of_ble_eq_true rfl) (Nat.le_of_ble_eq_true rfl) (Nat.le_of_ble_eq_true rfl) (Nat.le_of_ble_eq_true rfl) (fun x t b1 b2 b3 b4 b5 b6 b7 => hendX 2 x  t _ _ _ (Nat.le_of_ble_eq_true rfl) (Nat.le_of_ble_eq_true rfl) b1 b2 b3 b4 b5 (xPkeep hP b7) hD (xSkeep hS b6 b7) hw)
abbrev wdOn_propagate (cA : ClassId) (ad : Nat → Nat) (N : Nat) (formStands : Bool) (stepCount : Nat → Int32) (kind : Nat → Int32) (orderSize : Int32) (reached : Int32) (blw : Nat → Int32) (order : Nat → Int32) (meetingUses : Nat → Int32) (stepNames : Nat → Int32) (firstUses : Nat → Int32) (secondUses : Nat → Int32) (endUses : Nat → Int32) (homeBlock : Nat → Int32) (homePlace : Nat → Int32) (standsFor : Nat → Int32) : va_W := [((ad 0), .inr (0, [.int (nI N), .ref (ad 1), .ref (ad 11), .ref (ad 18), .ref (ad 30), .ref (ad 35), .ref (ad 38), .ref (ad 40), .ref (ad 42), .int (bI formStands)])), ((ad 1), .inr (1, [.int (nI N), .ref (ad 2), .ref (ad 3), .ref (ad 4), .ref (ad 5), .ref (ad 6), .ref (ad 7), .ref (ad 8), .ref (ad 9), .ref (ad 10)])), ((ad 2), .inl (cA, N, .inl stepCount)), ((ad 3), .inl (cA, N * 6, .inl kind)), ((ad 11), .inr (2, [.int (nI N), .ref (ad 12), .ref (ad 13), .ref (ad 14), .ref (ad 15), .ref (ad 16), .ref (ad 17), .int orderSize, .int reached])), ((ad 13), .inl (cA, N, .inl blw)), ((ad 16), .inl (cA, N, .inl order)), ((ad 18), .inr (3, [.ref (ad 1), .ref (ad 11), .int (nI N), .ref (ad 19), .ref (ad 20), .ref (ad 21), .ref (ad 22), .ref (ad 23), .ref (ad 24), .ref (ad 25), .ref (ad 26), .ref (ad 27), .ref (ad 28), .ref (ad 29)])), ((ad 20), .inl (cA, N * 6 * (N + 1), .inl meetingUses)), ((ad 21), .inl (cA, N * 6, .inl stepNames)), ((ad 22), .inl (cA, N * 6, .inl firstUses)), ((ad 23), .inl (cA, N * 6, .inl secondUses)), ((ad 24), .inl (cA, N, .inl endUses)), ((ad 27), .inl (cA, 600, .inl homeBlock)), ((ad 28), .inl (cA, 600, .inl homePlace)), ((ad 29), .inl (cA, 600, .inl standsFor))]
abbrev qcOn_propagate (D : va_G) (cA : ClassId) (ad : Nat → Nat) (N : Nat) (formStands : Bool) (stepCount : Nat → Int32) (kind : Nat → Int32) (orderSize : Int32) (reached : Int32) (blw : Nat → Int32) (order : Nat → Int32) (meetingUses : Nat → Int32) (stepNames : Nat → Int32) (firstUses : Nat → Int32) (secondUses : Nat → Int32) (endUses : Nat → Int32) (homeBlock : Nat → Int32) (homePlace : Nat → Int32) (standsFor : Nat → Int32) (post : Int32 → (Nat → Int32) → (Nat → Int32) → (Nat → Int32) → (Nat → Int32) → (Nat → Int32) → (Nat → Int32) → (Nat → Int32) → Prop) (postX : Nat → (Nat → Int32) → (Nat → Int32) → (Nat → Int32) → (Nat → Int32) → (Nat → Int32) → (Nat → Int32) → (Nat → Int32) → Prop) (A : Nat → Prop) : Array Value → State → Outcome → State → Prop := xQi (S := (Nat → Int32) × (Nat → Int32) × (Nat → Int32) × (Nat → Int32) × (Nat → Int32) × (Nat → Int32) × (Nat → Int32)) (fun r u => post r u.1 u.2.1 u.2.2.1 u.2.2.2.1 u.2.2.2.2.1 u.2.2.2.2.2.1 u.2.2.2.2.2.2) (fun k u => postX k u.1 u.2.1 u.2.2.1 u.2.2.2.1 u.2.2.2.2.1 u.2.2.2.2.2.1 u.2.2.2.2.2.2) (fun u t => xB D [(cA, .int)] A (wdOn_propagate cA ad N formStands stepCount kind orderSize reached blw order u.1 u.2.1 u.2.2.1 u.2.2.2.1 u.2.2.2.2.1 u.2.2.2.2.2.1 homePlace u.2.2.2.2.2.2) t) A
abbrev rmOn_propagate : Room := { frames := 7, cells := 2, slots := 12, locals := 112 }
set_option maxHeartbeats 4000000 in
set_option maxRecDepth 100000 in
theorem ktOn_propagate (l : Launch) (hfl : l.flags = Jvm.pinnedFlags ++ [Jvm.noTraceFlag]) (D : va_G) (cA : ClassId) (ad : Nat → Nat) (N : Nat) (sz : Nat) (formStands : Bool) (stepCount : Nat → Int32) (kind : Nat → Int32) (orderSize : Int32) (reached : Int32) (blw : Nat → Int32) (order : Nat → Int32) (meetingUses : Nat → Int32) (stepNames : Nat → Int32) (firstUses : Nat → Int32) (secondUses : Nat → Int32) (endUses : Nat → Int32) (homeBlock : Nat → Int32) (homePlace : Nat → Int32) (standsFor : Nat → Int32)  (post : Int32 → (Nat → Int32) → (Nat → Int32) → (Nat → Int32) → (Nat → Int32) → (Nat → Int32) → (Nat → Int32) → (Nat → Int32) → Prop) (postX : Nat → (Nat → Int32) → (Nat → Int32) → (Nat → Int32) → (Nat → Int32) → (Nat → Int32) → (Nat → Int32) → (Nat → Int32) → Prop) (hw : wpOn_propagate N formStands stepCount kind orderSize blw order meetingUses stepNames firstUses secondUses endUses homeBlock homePlace standsFor post postX) : MetX l yOn_propagate (Cond.code yOn_propagate cOn_propagate 1 (some .int) :: xW) rmOn_propagate (va_Pc [.ref (ad 0)] (xPcE D [(cA, .int)] (wdOn_propagate cA ad N formStands stepCount kind orderSize reached blw order meetingUses stepNames firstUses secondUses endUses homeBlock homePlace standsFor) sz)) (qcOn_propagate D cA ad N formStands stepCount kind orderSize reached blw order meetingUses stepNames firstUses secondUses endUses homeBlock homePlace standsFor post postX (va_A (wdOn_propagate cA ad N formStands stepCount kind orderSize reached blw order meetingUses stepNames firstUses secondUses endUses homeBlock homePlace standsFor) sz)) 2 12 (va_A (wdOn_propagate cA ad N formStands stepCount kind orderSize reached blw order meetingUses stepNames firstUses secondUses endUses homeBlock homePlace standsFor) sz) := by
  refine MetX.ofW (cc := cOn_propagate) (maxL := 1) (ret := (some .int)) (by decide) rfl ?_
  intro p e s m args below meth c s₁ B hml hv
  obtain ⟨rfl, ⟨hsz, hP, hK, hD0, hN⟩, hE0⟩ := hv
  have hx := B.exec
  have hb := B.bytes
  have hr := B.returns
  have hts := atoms_spec (ws := (Cond.code yOn_propagate cOn_propagate 1 (some .int) :: xW)) B.pre
  have hown : s.vm.findClass "OnceNamed" = some m.cls := findClass_of_methodNamed B.named
  have hlocks := B.notSynchronized
  subst hsz
  have hD := hD0.self (sz := s.heap.size)
  have hE := xEEfull hE0
  have htr := Launch.traces_off hfl B.admits
  have hout := xnoout (B.noHandlers (hts _ List.mem_cons_self))
  have htsx : ∀ w ∈ xW, w.before ([.ref (ad 0)] : List Value).toArray s = true := fun w h => hts w (List.mem_cons_of_mem _ h)
  generalize hAe : va_A (wdOn_propagate cA ad N formStands stepCount kind orderSize reached blw order meetingUses stepNames firstUses secondUses endUses homeBlock homePlace standsFor) s.heap.size = A at hD hE ⊢
  have hA : ∀ q : Nat, s.heap.size ≤ q → A q := fun q h => by rw [← hAe]; exact Or.inr h
  have hS : va_S A s.heap s.heap [] := va_S.rf
  have hend : ∀ (r : Int32) (u0 : Nat → Int32) (u1 : Nat → Int32) (u2 : Nat → Int32) (u3 : Nat → Int32) (u4 : Nat → Int32) (u5 : Nat → Int32) (u6 : Nat → Int32) (H : Heap) (locs : List Loc) (pc : Nat) (ls : Array Slot), decode cOn_propagate pc = .ok (.ireturn, 1) → va_P D vwCl (wdOn_propagate cA ad N formStands stepCount kind orderSize reached blw order u0 u1 u2 u3 u4 u5 homePlace u6) H → va_D A (wdOn_propagate cA ad N formStands stepCount kind orderSize reached blw order u0 u1 u2 u3 u4 u5 homePlace u6) → va_S A s.heap H locs → post r u0 u1 u2 u3 u4 u5 u6 → W p l e (headSpec (Cond.code yOn_propagate cOn_propagate 1 (some .int) :: xW) rmOn_propagate).room s m ([.ref (ad 0)] : List Value).toArray below meth c H locs 2 12 (MQX below (qcOn_propagate D cA ad N formStands stepCount kind orderSize reached blw order meetingUses stepNames firstUses secondUses endUses homeBlock homePlace standsFor post postX A) ([.ref (ad 0)] : List Value).toArray s 2 12 A) (F0 m pc ls [.int r]) := fun r u0 u1 u2 u3 u4 u5 u6 H locs pc ls hd hP hD hS hw => xWmono (fun _ => MQX.of) (W.iret (v := r) hx hb hr (fun t ht hW => ⟨Or.inl ⟨r, (u0, u1, u2, u3, u4, u5, u6), rfl, hw, ⟨by rw [ht]; exact hP, va_K.moved hW.alike hK, hD⟩⟩, hS.F ht⟩) hS.2.2 hd)
  have hendX : ∀ (k x : Nat) (u0 : Nat → Int32) (u1 : Nat → Int32) (u2 : Nat → Int32) (u3 : Nat → Int32) (u4 : Nat → Int32) (u5 : Nat → Int32) (u6 : Nat → Int32) (t : State) (locs : List Loc) (cells slots : Nat), cells ≤ 2 → slots ≤ 12 → t.status = .running → Ended t below (.threw x) → s.WarmedH t.vm → s.sameButNew ({ t with vm := s.vm } : State) locs cells slots → xExc k x s.heap.size t → va_P D vwCl (wdOn_propagate cA ad N formStands stepCount kind orderSize reached blw order u0 u1 u2 u3 u4 u5 homePlace u6) t.heap → va_D A (wdOn_propagate cA ad N formStands stepCount kind orderSize reached blw order u0 u1 u2 u3 u4 u5 homePlace u6) → va_S A s.heap t.heap locs → postX k u0 u1 u2 u3 u4 u5 u6 → MQX below (qcOn_propagate D cA ad N formStands stepCount kind orderSize reached blw order meetingUses stepNames firstUses secondUses endUses homeBlock homePlace standsFor post postX A) ([.ref (ad 0)] : List Value).toArray s 2 12 A t := fun k x u0 u1 u2 u3 u4 u5 u6 t locs cells slots h1 h2 b1 b2 b3 b4 b5 hP hD hS hw => ⟨.threw x, b1, b2, ⟨Or.inr ⟨k, x, (u0, u1, u2, u3, u4, u5, u6), rfl, b5, hw, ⟨hP, va_K.moved b3.alike hK, hD⟩⟩, hS.F rfl⟩, locs, ⟨b3, b4.mono h1 h2⟩, hS.2.2⟩
  generalize hQ : MQX below (qcOn_propagate D cA ad N formStands stepCount kind orderSize reached blw order meetingUses stepNames firstUses secondUses endUses homeBlock homePlace standsFor post postX A) ([.ref (ad 0)] : List Value).toArray s 2 12 A = Q at hend hendX ⊢
  have hl := lv_entry ([.ref (ad 0)]) (n := 1) (Nat.le_of_ble_eq_true rfl)
  rw [lg_entry_eq]
  generalize (lg_sl ([.ref (ad 0)]) ++ List.replicate (1 - (lg_sl ([.ref (ad 0)])).length) Slot.unset).toArray = ls at hl ⊢
  have hl : lv_has ls 1 [(0, .ref (ad 0))] := hl
  unfold wpOn_propagate at hw
  refine lv_aload_n hx hb dOn_propagate_0 rfl (lv_at hl 0 rfl) ?_
  refine xcxv (xrunV ⟨hx, hb, hml, hown, hts⟩ (ktOn_requireForm l hfl D cA ad N _ formStands _ _ hw) (cwV 0 hts (goodV kw_568 kw_570 ks_2_1 kw_1 kw_571) rfl rfl rfl (by decide +kernel) ⟨Nat.le_of_ble_eq_true rfl, Nat.le_of_ble_eq_true rfl⟩) (xpreVE hE hS hK hP hD hN [0] rfl rfl 0 rfl rfl) rfl rfl hl.1 rfl (lv_room (Nat.le_of_ble_eq_true rfl)) dOn_propagate_1 ⟨Nat.le_of_ble_eq_true rfl, Nat.le_of_ble_eq_true rfl⟩) (hout _) hlocks hP hD hS hA [0] [1, 2, 3, 4, 5, 6, 7, 8, 9, 10, 11, 12, 13, 14, 15] rfl rfl rfl rfl [15, 0, 1, 2, 3, 4, 5, 6, 7, 8, 9, 10, 11, 12, 13, 14] rfl (fun _ => rfl) (fun u H locs hw hP hD hS => ?_) (fun k x u t locs b1 b2 b3 b4 b5 b6 b7 b8 b9 => hendX k x meetingUses stepNames firstUses secondUses endUses homeBlock standsFor t locs _ _ (Nat.le_of_ble_eq_true rfl) (Nat.le_of_ble_eq_true rfl) b1 b2 b3 b4 b5 b6 b7 b8 b9)
  have hP : va_P D vwCl (wdOn_propagate cA ad N formStands stepCount kind orderSize reached blw order meetingUses stepNames firstUses secondUses endUses homeBlock homePlace standsFor) H := hP
  have hD : va_D A (wdOn_propagate cA ad N formStands stepCount kind orderSize reached blw order meetingUses stepNames firstUses secondUses endUses homeBlock homePlace standsFor) := hD
  refine lv_aload_n hx hb dOn_propagate_4 rfl (lv_at hl 0 rfl) ?_
  refine va_get (D := D) (ci := 0) (v := .ref (ad 18)) (C := "OnceNamed") (T := TX0) (N := 10) hx hb hts (fun w h => List.mem_cons_of_mem _ (inX0 w h)) hown hK hP 0 rfl rfl 3 (by decide) (hts _ (List.mem_cons_of_mem _ kw_270)) (fun _ h9 => h9) rfl dOn_propagate_5 ?_
  refine xci (va_runV ⟨hx, hb, hml, hown, hts⟩ (ktNamedForm_isSound l D cA ad N _ stepCount orderSize reached blw order meetingUses firstUses secondUses endUses homeBlock homePlace _ hw) (cwV 0 hts (goodV kw_588 kw_589 kw_590 kw_6 kw_591) rfl rfl rfl (by decide +kernel) ⟨Nat.le_of_ble_eq_true rfl, Nat.le_of_ble_eq_true rfl⟩) (xpreV hK hP hD hN [1, 2, 4, 5, 6, 7, 8, 10, 11, 12, 13, 14] rfl rfl 7 rfl rfl) rfl rfl hl.1 rfl (lv_room (Nat.le_of_ble_eq_true rfl)) dOn_propagate_8 ⟨Nat.le_of_ble_eq_true rfl, Nat.le_of_ble_eq_true rfl⟩) hP hD hS hA [1, 2, 4, 5, 6, 7, 8, 10, 11, 12, 13, 14] [0, 3, 9, 15] rfl rfl rfl rfl [0, 4, 5, 1, 6, 7, 8, 9, 10, 2, 11, 12, 13, 14, 15, 3] rfl (fun _ => rfl) (fun r8 u H locs hw hP hD hS => ?_)
  obtain ⟨r8, rfl, hw⟩ := hw
  have hP : va_P D vwCl (wdOn_propagate cA ad N formStands stepCount kind orderSize reached blw order meetingUses stepNames firstUses secondUses endUses homeBlock homePlace standsFor) H := hP
  have hD : va_D A (wdOn_propagate cA ad N formStands stepCount kind orderSize reached blw order meetingUses stepNames firstUses secondUses endUses homeBlock homePlace standsFor) := hD
  refine lv_if_ne (tgt := 24) hx hb dOn_propagate_11 rfl (fun hc => ?_) (fun hc => ?_)
  · have hw := hw.1 (bI_1 hc)
    refine lv_aload_n hx hb dOn_propagate_24 rfl (lv_at hl 0 rfl) ?_
    refine va_get (D := D) (ci := 0) (v := .ref (ad 18)) (C := "OnceNamed") (T := TX0) (N := 10) hx hb hts (fun w h => List.mem_cons_of_mem _ (inX0 w h)) hown hK hP 0 rfl rfl 3 (by decide) (hts _ (List.mem_cons_of_mem _ kw_270)) (fun _ h9 => h9) rfl dOn_propagate_25 ?_
    refine xci (va_runV ⟨hx, hb, hml, hown, hts⟩ (ktNamedForm_dropCopies l D cA ad N _ stepCount kind orderSize reached order meetingUses stepNames firstUses secondUses endUses homeBlock standsFor _ hw) (cwV 0 hts (goodV kw_609 kw_610 kw_611 kw_6 kw_612) rfl rfl rfl (by decide +kernel) ⟨Nat.le_of_ble_eq_true rfl, Nat.le_of_ble_eq_true rfl⟩) (xpreV hK hP hD hN [1, 2, 3, 4, 6, 7, 8, 9, 10, 11, 12, 13, 15] rfl rfl 7 rfl rfl) rfl rfl hl.1 rfl (lv_room (Nat.le_of_ble_eq_true rfl)) dOn_propagate_28 ⟨Nat.le_of_ble_eq_true rfl, Nat.le_of_ble_eq_true rfl⟩) hP hD hS hA [1, 2, 3, 4, 6, 7, 8, 9, 10, 11, 12, 13, 15] [0, 5, 14] rfl rfl rfl rfl [0, 3, 4, 5, 6, 1, 7, 8, 9, 10, 11, 12, 13, 14, 2, 15] rfl (fun _ => rfl) (fun r28 u H locs hw hP hD hS => ?_)
    obtain ⟨meetingUses_28, stepNames_28, firstUses_28, secondUses_28, endUses_28, homeBlock_28, standsFor_28⟩ := u
    try dsimp only at hw
    have hP : va_P D vwCl (wdOn_propagate cA ad N formStands stepCount kind orderSize reached blw order meetingUses_28 stepNames_28 firstUses_28 secondUses_28 endUses_28 homeBlock_28 homePlace standsFor_28) H := hP
    have hD : va_D A (wdOn_propagate cA ad N formStands stepCount kind orderSize reached blw order meetingUses_28 stepNames_28 firstUses_28 secondUses_28 endUses_28 homeBlock_28 homePlace standsFor_28) := hD
    refine W.widen (k := 2) (n := 12) (Nat.le_of_ble_eq_true rfl) (Nat.le_of_ble_eq_true rfl) ?_
    exact hend r28 meetingUses_28 stepNames_28 firstUses_28 secondUses_28 endUses_28 homeBlock_28 standsFor_28 _ _ _ _ dOn_propagate_31 hP hD hS hw
  · have hw := hw.2 (bI_0 hc)
    exact xthrowB 1 hx hb htr hown htsx (by decide) xat_1 kw_500 kw_16 hE hS (List.mem_of_getElem? (i := 6) rfl) (hout _) hlocks (hl.1.trans hml.symm) dOn_propagate_14 dOn_propagate_17 (Or.inl ⟨dOn_propagate_18, rfl⟩) dOn_propagate_20 dOn_propagate_23 (Nat.le_of_ble_eq_true rfl) (Nat.le_of_ble_eq_true rfl) (Nat.le_of_ble_eq_true rfl) (Nat.le_of_ble_eq_true rfl) (fun x t b1 b2 b3 b4 b5 b6 b7 => hendX 1 x meetingUses stepNames firstUses secondUses endUses homeBlock standsFor t _ _ _ (Nat.le_of_ble_eq_true rfl) (Nat.le_of_ble_eq_true rfl) b1 b2 b3 b4 b5 (xPkeep hP b7) hD (xSkeep hS b6 b7) hw)
abbrev wdOn_parent (cA : ClassId) (ad : Nat → Nat) (N : Nat) (formStands : Bool) (orderSize : Int32) (reached : Int32) (parents : Nat → Int32) : va_W := [((ad 0), .inr (0, [.int (nI N), .ref (ad 1), .ref (ad 11), .ref (ad 18), .ref (ad 30), .ref (ad 35), .ref (ad 38), .ref (ad 40), .ref (ad 42), .int (bI formStands)])), ((ad 11), .inr (2, [.int (nI N), .ref (ad 12), .ref (ad 13), .ref (ad 14), .ref (ad 15), .ref (ad 16), .ref (ad 17), .int orderSize, .int reached])), ((ad 15), .inl (cA, N, .inl parents))]
abbrev qcOn_parent (D : va_G) (cA : ClassId) (ad : Nat → Nat) (N : Nat) (formStands : Bool) (orderSize : Int32) (reached : Int32) (parents : Nat → Int32) (post : Int32 → Prop) (postX : Nat → Prop) (A : Nat → Prop) : Array Value → State → Outcome → State → Prop := xQi (S := Unit) (fun r u => post r ) (fun k u => postX k ) (fun u t => xB D [(cA, .int)] A (wdOn_parent cA ad N formStands orderSize reached parents) t) A
abbrev rmOn_parent : Room := { frames := 7, cells := 1, slots := 6, locals := 111 }
set_option maxHeartbeats 4000000 in
set_option maxRecDepth 100000 in
theorem ktOn_parent (l : Launch) (hfl : l.flags = Jvm.pinnedFlags ++ [Jvm.noTraceFlag]) (D : va_G) (cA : ClassId) (ad : Nat → Nat) (N : Nat) (sz : Nat) (formStands : Bool) (orderSize : Int32) (reached : Int32) (parents : Nat → Int32) (v1 : Int32) (post : Int32 → Prop) (postX : Nat → Prop) (hw : wpOn_parent N parents v1 post postX) : MetX l yOn_parent (Cond.code yOn_parent cOn_parent 2 (some .int) :: xW) rmOn_parent (va_Pc [.ref (ad 0), .int v1] (xPcE D [(cA, .int)] (wdOn_parent cA ad N formStands orderSize reached parents) sz)) (qcOn_parent D cA ad N formStands orderSize reached parents post postX (va_A (wdOn_parent cA ad N formStands orderSize reached parents) sz)) 1 6 (va_A (wdOn_parent cA ad N formStands orderSize reached parents) sz) := by
  refine MetX.ofW (cc := cOn_parent) (maxL := 2) (ret := (some .int)) (by decide) rfl ?_
  intro p e s m args below meth c s₁ B hml hv
  obtain ⟨rfl, ⟨hsz, hP, hK, hD0, hN⟩, hE0⟩ := hv
  have hx := B.exec
  have hb := B.bytes
  have hr := B.returns
  have hts := atoms_spec (ws := (Cond.code yOn_parent cOn_parent 2 (some .int) :: xW)) B.pre
  have hown : s.vm.findClass "OnceNamed" = some m.cls := findClass_of_methodNamed B.named
  have hlocks := B.notSynchronized
  subst hsz
  have hD := hD0.self (sz := s.heap.size)
  have hE := xEEfull hE0
  have htr := Launch.traces_off hfl B.admits
  have hout := xnoout (B.noHandlers (hts _ List.mem_cons_self))
  have htsx : ∀ w ∈ xW, w.before ([.ref (ad 0), .int v1] : List Value).toArray s = true := fun w h => hts w (List.mem_cons_of_mem _ h)
  generalize hAe : va_A (wdOn_parent cA ad N formStands orderSize reached parents) s.heap.size = A at hD hE ⊢
  have hA : ∀ q : Nat, s.heap.size ≤ q → A q := fun q h => by rw [← hAe]; exact Or.inr h
  have hS : va_S A s.heap s.heap [] := va_S.rf
  have hend : ∀ (r : Int32)  (H : Heap) (locs : List Loc) (pc : Nat) (ls : Array Slot), decode cOn_parent pc = .ok (.ireturn, 1) → va_P D vwCl (wdOn_parent cA ad N formStands orderSize reached parents) H → va_D A (wdOn_parent cA ad N formStands orderSize reached parents) → va_S A s.heap H locs → post r  → W p l e (headSpec (Cond.code yOn_parent cOn_parent 2 (some .int) :: xW) rmOn_parent).room s m ([.ref (ad 0), .int v1] : List Value).toArray below meth c H locs 1 6 (MQX below (qcOn_parent D cA ad N formStands orderSize reached parents post postX A) ([.ref (ad 0), .int v1] : List Value).toArray s 1 6 A) (F0 m pc ls [.int r]) := fun r  H locs pc ls hd hP hD hS hw => xWmono (fun _ => MQX.of) (W.iret (v := r) hx hb hr (fun t ht hW => ⟨Or.inl ⟨r, (), rfl, hw, ⟨by rw [ht]; exact hP, va_K.moved hW.alike hK, hD⟩⟩, hS.F ht⟩) hS.2.2 hd)
  have hendX : ∀ (k x : Nat)  (t : State) (locs : List Loc) (cells slots : Nat), cells ≤ 1 → slots ≤ 6 → t.status = .running → Ended t below (.threw x) → s.WarmedH t.vm → s.sameButNew ({ t with vm := s.vm } : State) locs cells slots → xExc k x s.heap.size t → va_P D vwCl (wdOn_parent cA ad N formStands orderSize reached parents) t.heap → va_D A (wdOn_parent cA ad N formStands orderSize reached parents) → va_S A s.heap t.heap locs → postX k  → MQX below (qcOn_parent D cA ad N formStands orderSize reached parents post postX A) ([.ref (ad 0), .int v1] : List Value).toArray s 1 6 A t := fun k x  t locs cells slots h1 h2 b1 b2 b3 b4 b5 hP hD hS hw => ⟨.threw x, b1, b2, ⟨Or.inr ⟨k, x, (), rfl, b5, hw, ⟨hP, va_K.moved b3.alike hK, hD⟩⟩, hS.F rfl⟩, locs, ⟨b3, b4.mono h1 h2⟩, hS.2.2⟩
  generalize hQ : MQX below (qcOn_parent D cA ad N formStands orderSize reached parents post postX A) ([.ref (ad 0), .int v1] : List Value).toArray s 1 6 A = Q at hend hendX ⊢
  have hl := lv_entry ([.ref (ad 0), .int v1]) (n := 2) (Nat.le_of_ble_eq_true rfl)
  rw [lg_entry_eq]
  generalize (lg_sl ([.ref (ad 0), .int v1]) ++ List.replicate (2 - (lg_sl ([.ref (ad 0), .int v1])).length) Slot.unset).toArray = ls at hl ⊢
  have hl : lv_has ls 2 [(0, .ref (ad 0)), (1, .int v1)] := hl
  unfold wpOn_parent at hw
  refine lv_aload_n hx hb dOn_parent_0 rfl (lv_at hl 0 rfl) ?_
  refine lv_iload_n hx hb dOn_parent_1 rfl (lv_at hl 1 rfl) ?_
  refine xcxv (xrunV ⟨hx, hb, hml, hown, hts⟩ (ktOn_requireBlock l hfl D cA ad N _ formStands v1 _ _ hw) (cwV 1 hts (goodV kw_413 kw_415 ks_1_14 kw_1 kw_416) rfl rfl rfl (by decide +kernel) ⟨Nat.le_of_ble_eq_true rfl, Nat.le_of_ble_eq_true rfl⟩) (xpreVE hE hS hK hP hD hN [0] rfl rfl 0 rfl rfl) rfl rfl hl.1 rfl (lv_room (Nat.le_of_ble_eq_true rfl)) dOn_parent_2 ⟨Nat.le_of_ble_eq_true rfl, Nat.le_of_ble_eq_true rfl⟩) (hout _) hlocks hP hD hS hA [0] [1, 2] rfl rfl rfl rfl [2, 0, 1] rfl (fun _ => rfl) (fun u H locs hw hP hD hS => ?_) (fun k x u t locs b1 b2 b3 b4 b5 b6 b7 b8 b9 => hendX k x  t locs _ _ (Nat.le_of_ble_eq_true rfl) (Nat.le_of_ble_eq_true rfl) b1 b2 b3 b4 b5 b6 b7 b8 b9)
  have hP : va_P D vwCl (wdOn_parent cA ad N formStands orderSize reached parents) H := hP
  have hD : va_D A (wdOn_parent cA ad N formStands orderSize reached parents) := hD
  refine lv_aload_n hx hb dOn_parent_5 rfl (lv_at hl 0 rfl) ?_
  refine va_get (D := D) (ci := 0) (v := .ref (ad 11)) (C := "OnceNamed") (T := TX0) (N := 10) hx hb hts (fun w h => List.mem_cons_of_mem _ (inX0 w h)) hown hK hP 0 rfl rfl 2 (by decide) (hts _ (List.mem_cons_of_mem _ kw_269)) (fun _ h9 => h9) rfl dOn_parent_6 ?_
  refine lv_iload_n hx hb dOn_parent_9 rfl (lv_at hl 1 rfl) ?_
  refine xci (va_runV ⟨hx, hb, hml, hown, hts⟩ (ktGraph_parentOf l D cA ad N _ orderSize reached parents v1 _ hw) (cwV 1 hts (goodV kw_632 kw_348 kw_349 kw_5 kw_350) rfl rfl rfl (by decide +kernel) ⟨Nat.le_of_ble_eq_true rfl, Nat.le_of_ble_eq_true rfl⟩) (xpreV hK hP hD hN [1, 2] rfl rfl 1 rfl rfl) rfl rfl hl.1 rfl (lv_room (Nat.le_of_ble_eq_true rfl)) dOn_parent_10 ⟨Nat.le_of_ble_eq_true rfl, Nat.le_of_ble_eq_true rfl⟩) hP hD hS hA [1, 2] [0] rfl rfl rfl rfl [0, 1, 2] rfl (fun _ => rfl) (fun r10 u H locs hw hP hD hS => ?_)
  have hP : va_P D vwCl (wdOn_parent cA ad N formStands orderSize reached parents) H := hP
  have hD : va_D A (wdOn_parent cA ad N formStands orderSize reached parents) := hD
  exact hend r10 _ _ _ _ dOn_parent_13 hP hD hS hw
abbrev wdOn_dominates (cA : ClassId) (ad : Nat → Nat) (N : Nat) (formStands : Bool) (orderSize : Int32) (reached : Int32) (blw : Nat → Int32) : va_W := [((ad 0), .inr (0, [.int (nI N), .ref (ad 1), .ref (ad 11), .ref (ad 18), .ref (ad 30), .ref (ad 35), .ref (ad 38), .ref (ad 40), .ref (ad 42), .int (bI formStands)])), ((ad 11), .inr (2, [.int (nI N), .ref (ad 12), .ref (ad 13), .ref (ad 14), .ref (ad 15), .ref (ad 16), .ref (ad 17), .int orderSize, .int reached])), ((ad 13), .inl (cA, N, .inl blw))]
abbrev qcOn_dominates (D : va_G) (cA : ClassId) (ad : Nat → Nat) (N : Nat) (formStands : Bool) (orderSize : Int32) (reached : Int32) (blw : Nat → Int32) (post : Bool → Prop) (postX : Nat → Prop) (A : Nat → Prop) : Array Value → State → Outcome → State → Prop := xQi (S := Unit) (fun r u => ∃ z : Bool, r = bI z ∧ post z ) (fun k u => postX k ) (fun u t => xB D [(cA, .int)] A (wdOn_dominates cA ad N formStands orderSize reached blw) t) A
abbrev rmOn_dominates : Room := { frames := 7, cells := 2, slots := 12, locals := 111 }
set_option maxHeartbeats 4000000 in
set_option maxRecDepth 100000 in
theorem ktOn_dominates (l : Launch) (hfl : l.flags = Jvm.pinnedFlags ++ [Jvm.noTraceFlag]) (D : va_G) (cA : ClassId) (ad : Nat → Nat) (N : Nat) (sz : Nat) (formStands : Bool) (orderSize : Int32) (reached : Int32) (blw : Nat → Int32) (v1 : Int32) (v2 : Int32) (post : Bool → Prop) (postX : Nat → Prop) (hw : wpOn_dominates N blw v1 v2 post postX) : MetX l yOn_dominates (Cond.code yOn_dominates cOn_dominates 3 (some .boolean) :: xW) rmOn_dominates (va_Pc [.ref (ad 0), .int v1, .int v2] (xPcE D [(cA, .int)] (wdOn_dominates cA ad N formStands orderSize reached blw) sz)) (qcOn_dominates D cA ad N formStands orderSize reached blw post postX (va_A (wdOn_dominates cA ad N formStands orderSize reached blw) sz)) 2 12 (va_A (wdOn_dominates cA ad N formStands orderSize reached blw) sz) := by
  refine MetX.ofW (cc := cOn_dominates) (maxL := 3) (ret := (some .boolean)) (by decide) rfl ?_
  intro p e s m args below meth c s₁ B hml hv
  obtain ⟨rfl, ⟨hsz, hP, hK, hD0, hN⟩, hE0⟩ := hv
  have hx := B.exec
  have hb := B.bytes
  have hr := B.returns
  have hts := atoms_spec (ws := (Cond.code yOn_dominates cOn_dominates 3 (some .boolean) :: xW)) B.pre
  have hown : s.vm.findClass "OnceNamed" = some m.cls := findClass_of_methodNamed B.named
  have hlocks := B.notSynchronized
  subst hsz
  have hD := hD0.self (sz := s.heap.size)
  have hE := xEEfull hE0
  have htr := Launch.traces_off hfl B.admits
  have hout := xnoout (B.noHandlers (hts _ List.mem_cons_self))
  have htsx : ∀ w ∈ xW, w.before ([.ref (ad 0), .int v1, .int v2] : List Value).toArray s = true := fun w h => hts w (List.mem_cons_of_mem _ h)
  generalize hAe : va_A (wdOn_dominates cA ad N formStands orderSize reached blw) s.heap.size = A at hD hE ⊢
  have hA : ∀ q : Nat, s.heap.size ≤ q → A q := fun q h => by rw [← hAe]; exact Or.inr h
  have hS : va_S A s.heap s.heap [] := va_S.rf
  have hend : ∀ (r : Bool)  (H : Heap) (locs : List Loc) (pc : Nat) (ls : Array Slot), decode cOn_dominates pc = .ok (.ireturn, 1) → va_P D vwCl (wdOn_dominates cA ad N formStands orderSize reached blw) H → va_D A (wdOn_dominates cA ad N formStands orderSize reached blw) → va_S A s.heap H locs → post r  → W p l e (headSpec (Cond.code yOn_dominates cOn_dominates 3 (some .boolean) :: xW) rmOn_dominates).room s m ([.ref (ad 0), .int v1, .int v2] : List Value).toArray below meth c H locs 2 12 (MQX below (qcOn_dominates D cA ad N formStands orderSize reached blw post postX A) ([.ref (ad 0), .int v1, .int v2] : List Value).toArray s 2 12 A) (F0 m pc ls [.int (bI r)]) := fun r  H locs pc ls hd hP hD hS hw => xWmono (fun _ => MQX.of) (W.zret (v := bI r) hx hb hr (bI_nar r) (fun t ht hW => ⟨Or.inl ⟨bI r, (), rfl, ⟨r, rfl, hw⟩, ⟨by rw [ht]; exact hP, va_K.moved hW.alike hK, hD⟩⟩, hS.F ht⟩) hS.2.2 hd)
  have hendX : ∀ (k x : Nat)  (t : State) (locs : List Loc) (cells slots : Nat), cells ≤ 2 → slots ≤ 12 → t.status = .running → Ended t below (.threw x) → s.WarmedH t.vm → s.sameButNew ({ t with vm := s.vm } : State) locs cells slots → xExc k x s.heap.size t → va_P D vwCl (wdOn_dominates cA ad N formStands orderSize reached blw) t.heap → va_D A (wdOn_dominates cA ad N formStands orderSize reached blw) → va_S A s.heap t.heap locs → postX k  → MQX below (qcOn_dominates D cA ad N formStands orderSize reached blw post postX A) ([.ref (ad 0), .int v1, .int v2] : List Value).toArray s 2 12 A t := fun k x  t locs cells slots h1 h2 b1 b2 b3 b4 b5 hP hD hS hw => ⟨.threw x, b1, b2, ⟨Or.inr ⟨k, x, (), rfl, b5, hw, ⟨hP, va_K.moved b3.alike hK, hD⟩⟩, hS.F rfl⟩, locs, ⟨b3, b4.mono h1 h2⟩, hS.2.2⟩
  generalize hQ : MQX below (qcOn_dominates D cA ad N formStands orderSize reached blw post postX A) ([.ref (ad 0), .int v1, .int v2] : List Value).toArray s 2 12 A = Q at hend hendX ⊢
  have hl := lv_entry ([.ref (ad 0), .int v1, .int v2]) (n := 3) (Nat.le_of_ble_eq_true rfl)
  rw [lg_entry_eq]
  generalize (lg_sl ([.ref (ad 0), .int v1, .int v2]) ++ List.replicate (3 - (lg_sl ([.ref (ad 0), .int v1, .int v2])).length) Slot.unset).toArray = ls at hl ⊢
  have hl : lv_has ls 3 [(0, .ref (ad 0)), (1, .int v1), (2, .int v2)] := hl
  unfold wpOn_dominates at hw
  refine lv_aload_n hx hb dOn_dominates_0 rfl (lv_at hl 0 rfl) ?_
  refine lv_iload_n hx hb dOn_dominates_1 rfl (lv_at hl 1 rfl) ?_
  refine xcxv (xrunV ⟨hx, hb, hml, hown, hts⟩ (ktOn_requireBlock l hfl D cA ad N _ formStands v1 _ _ hw) (cwV 1 hts (goodV kw_413 kw_415 ks_1_14 kw_1 kw_416) rfl rfl rfl (by decide +kernel) ⟨Nat.le_of_ble_eq_true rfl, Nat.le_of_ble_eq_true rfl⟩) (xpreVE hE hS hK hP hD hN [0] rfl rfl 0 rfl rfl) rfl rfl hl.1 rfl (lv_room (Nat.le_of_ble_eq_true rfl)) dOn_dominates_2 ⟨Nat.le_of_ble_eq_true rfl, Nat.le_of_ble_eq_true rfl⟩) (hout _) hlocks hP hD hS hA [0] [1, 2] rfl rfl rfl rfl [2, 0, 1] rfl (fun _ => rfl) (fun u H locs hw hP hD hS => ?_) (fun k x u t locs b1 b2 b3 b4 b5 b6 b7 b8 b9 => hendX k x  t locs _ _ (Nat.le_of_ble_eq_true rfl) (Nat.le_of_ble_eq_true rfl) b1 b2 b3 b4 b5 b6 b7 b8 b9)
  have hP : va_P D vwCl (wdOn_dominates cA ad N formStands orderSize reached blw) H := hP
  have hD : va_D A (wdOn_dominates cA ad N formStands orderSize reached blw) := hD
  refine lv_aload_n hx hb dOn_dominates_5 rfl (lv_at hl 0 rfl) ?_
  refine lv_iload_n hx hb dOn_dominates_6 rfl (lv_at hl 2 rfl) ?_
  refine xcxv (xrunV ⟨hx, hb, hml, hown, hts⟩ (ktOn_requireBlock l hfl D cA ad N _ formStands v2 _ _ hw) (cwV 1 hts (goodV kw_413 kw_415 ks_1_14 kw_1 kw_416) rfl rfl rfl (by decide +kernel) ⟨Nat.le_of_ble_eq_true rfl, Nat.le_of_ble_eq_true rfl⟩) (xpreVE hE hS hK hP hD hN [0] rfl rfl 0 rfl rfl) rfl rfl hl.1 rfl (lv_room (Nat.le_of_ble_eq_true rfl)) dOn_dominates_7 ⟨Nat.le_of_ble_eq_true rfl, Nat.le_of_ble_eq_true rfl⟩) (hout _) hlocks hP hD hS hA [0] [1, 2] rfl rfl rfl rfl [2, 0, 1] rfl (fun _ => rfl) (fun u H locs hw hP hD hS => ?_) (fun k x u t locs b1 b2 b3 b4 b5 b6 b7 b8 b9 => hendX k x  t locs _ _ (Nat.le_of_ble_eq_true rfl) (Nat.le_of_ble_eq_true rfl) b1 b2 b3 b4 b5 b6 b7 b8 b9)
  have hP : va_P D vwCl (wdOn_dominates cA ad N formStands orderSize reached blw) H := hP
  have hD : va_D A (wdOn_dominates cA ad N formStands orderSize reached blw) := hD
  refine lv_aload_n hx hb dOn_dominates_10 rfl (lv_at hl 0 rfl) ?_
  refine va_get (D := D) (ci := 0) (v := .ref (ad 11)) (C := "OnceNamed") (T := TX0) (N := 10) hx hb hts (fun w h => List.mem_cons_of_mem _ (inX0 w h)) hown hK hP 0 rfl rfl 2 (by decide) (hts _ (List.mem_cons_of_mem _ kw_269)) (fun _ h9 => h9) rfl dOn_dominates_11 ?_
  refine lv_iload_n hx hb dOn_dominates_14 rfl (lv_at hl 1 rfl) ?_
  refine lv_iload_n hx hb dOn_dominates_15 rfl (lv_at hl 2 rfl) ?_
  refine xci (va_runV ⟨hx, hb, hml, hown, hts⟩ (ktGraph_hasBelow l D cA ad N _ orderSize reached blw v1 v2 _ hw) (cwV 2 hts (goodV kw_640 kw_601 kw_602 kw_5 kw_603) rfl rfl rfl (by decide +kernel) ⟨Nat.le_of_ble_eq_true rfl, Nat.le_of_ble_eq_true rfl⟩) (xpreV hK hP hD hN [1, 2] rfl rfl 1 rfl rfl) rfl rfl hl.1 rfl (lv_room (Nat.le_of_ble_eq_true rfl)) dOn_dominates_16 ⟨Nat.le_of_ble_eq_true rfl, Nat.le_of_ble_eq_true rfl⟩) hP hD hS hA [1, 2] [0] rfl rfl rfl rfl [0, 1, 2] rfl (fun _ => rfl) (fun r16 u H locs hw hP hD hS => ?_)
  obtain ⟨r16, rfl, hw⟩ := hw
  have hP : va_P D vwCl (wdOn_dominates cA ad N formStands orderSize reached blw) H := hP
  have hD : va_D A (wdOn_dominates cA ad N formStands orderSize reached blw) := hD
  exact hend r16 _ _ _ _ dOn_dominates_19 hP hD hS hw
abbrev wdOn_frontier (cA : ClassId) (ad : Nat → Nat) (N : Nat) (formStands : Bool) (orderSize : Int32) (reached : Int32) (frontiers : Nat → Int32) : va_W := [((ad 0), .inr (0, [.int (nI N), .ref (ad 1), .ref (ad 11), .ref (ad 18), .ref (ad 30), .ref (ad 35), .ref (ad 38), .ref (ad 40), .ref (ad 42), .int (bI formStands)])), ((ad 11), .inr (2, [.int (nI N), .ref (ad 12), .ref (ad 13), .ref (ad 14), .ref (ad 15), .ref (ad 16), .ref (ad 17), .int orderSize, .int reached])), ((ad 14), .inl (cA, N, .inl frontiers))]
abbrev qcOn_frontier (D : va_G) (cA : ClassId) (ad : Nat → Nat) (N : Nat) (formStands : Bool) (orderSize : Int32) (reached : Int32) (frontiers : Nat → Int32) (post : Bool → Prop) (postX : Nat → Prop) (A : Nat → Prop) : Array Value → State → Outcome → State → Prop := xQi (S := Unit) (fun r u => ∃ z : Bool, r = bI z ∧ post z ) (fun k u => postX k ) (fun u t => xB D [(cA, .int)] A (wdOn_frontier cA ad N formStands orderSize reached frontiers) t) A
abbrev rmOn_frontier : Room := { frames := 7, cells := 2, slots := 12, locals := 111 }
set_option maxHeartbeats 4000000 in
set_option maxRecDepth 100000 in
theorem ktOn_frontier (l : Launch) (hfl : l.flags = Jvm.pinnedFlags ++ [Jvm.noTraceFlag]) (D : va_G) (cA : ClassId) (ad : Nat → Nat) (N : Nat) (sz : Nat) (formStands : Bool) (orderSize : Int32) (reached : Int32) (frontiers : Nat → Int32) (v1 : Int32) (v2 : Int32) (post : Bool → Prop) (postX : Nat → Prop) (hw : wpOn_frontier N frontiers v1 v2 post postX) : MetX l yOn_frontier (Cond.code yOn_frontier cOn_frontier 3 (some .boolean) :: xW) rmOn_frontier (va_Pc [.ref (ad 0), .int v1, .int v2] (xPcE D [(cA, .int)] (wdOn_frontier cA ad N formStands orderSize reached frontiers) sz)) (qcOn_frontier D cA ad N formStands orderSize reached frontiers post postX (va_A (wdOn_frontier cA ad N formStands orderSize reached frontiers) sz)) 2 12 (va_A (wdOn_frontier cA ad N formStands orderSize reached frontiers) sz) := by
  refine MetX.ofW (cc := cOn_frontier) (maxL := 3) (ret := (some .boolean)) (by decide) rfl ?_
  intro p e s m args below meth c s₁ B hml hv
  obtain ⟨rfl, ⟨hsz, hP, hK, hD0, hN⟩, hE0⟩ := hv
  have hx := B.exec
  have hb := B.bytes
  have hr := B.returns
  have hts := atoms_spec (ws := (Cond.code yOn_frontier cOn_frontier 3 (some .boolean) :: xW)) B.pre
  have hown : s.vm.findClass "OnceNamed" = some m.cls := findClass_of_methodNamed B.named
  have hlocks := B.notSynchronized
  subst hsz
  have hD := hD0.self (sz := s.heap.size)
  have hE := xEEfull hE0
  have htr := Launch.traces_off hfl B.admits
  have hout := xnoout (B.noHandlers (hts _ List.mem_cons_self))
  have htsx : ∀ w ∈ xW, w.before ([.ref (ad 0), .int v1, .int v2] : List Value).toArray s = true := fun w h => hts w (List.mem_cons_of_mem _ h)
  generalize hAe : va_A (wdOn_frontier cA ad N formStands orderSize reached frontiers) s.heap.size = A at hD hE ⊢
  have hA : ∀ q : Nat, s.heap.size ≤ q → A q := fun q h => by rw [← hAe]; exact Or.inr h
  have hS : va_S A s.heap s.heap [] := va_S.rf
  have hend : ∀ (r : Bool)  (H : Heap) (locs : List Loc) (pc : Nat) (ls : Array Slot), decode cOn_frontier pc = .ok (.ireturn, 1) → va_P D vwCl (wdOn_frontier cA ad N formStands orderSize reached frontiers) H → va_D A (wdOn_frontier cA ad N formStands orderSize reached frontiers) → va_S A s.heap H locs → post r  → W p l e (headSpec (Cond.code yOn_frontier cOn_frontier 3 (some .boolean) :: xW) rmOn_frontier).room s m ([.ref (ad 0), .int v1, .int v2] : List Value).toArray below meth c H locs 2 12 (MQX below (qcOn_frontier D cA ad N formStands orderSize reached frontiers post postX A) ([.ref (ad 0), .int v1, .int v2] : List Value).toArray s 2 12 A) (F0 m pc ls [.int (bI r)]) := fun r  H locs pc ls hd hP hD hS hw => xWmono (fun _ => MQX.of) (W.zret (v := bI r) hx hb hr (bI_nar r) (fun t ht hW => ⟨Or.inl ⟨bI r, (), rfl, ⟨r, rfl, hw⟩, ⟨by rw [ht]; exact hP, va_K.moved hW.alike hK, hD⟩⟩, hS.F ht⟩) hS.2.2 hd)
  have hendX : ∀ (k x : Nat)  (t : State) (locs : List Loc) (cells slots : Nat), cells ≤ 2 → slots ≤ 12 → t.status = .running → Ended t below (.threw x) → s.WarmedH t.vm → s.sameButNew ({ t with vm := s.vm } : State) locs cells slots → xExc k x s.heap.size t → va_P D vwCl (wdOn_frontier cA ad N formStands orderSize reached frontiers) t.heap → va_D A (wdOn_frontier cA ad N formStands orderSize reached frontiers) → va_S A s.heap t.heap locs → postX k  → MQX below (qcOn_frontier D cA ad N formStands orderSize reached frontiers post postX A) ([.ref (ad 0), .int v1, .int v2] : List Value).toArray s 2 12 A t := fun k x  t locs cells slots h1 h2 b1 b2 b3 b4 b5 hP hD hS hw => ⟨.threw x, b1, b2, ⟨Or.inr ⟨k, x, (), rfl, b5, hw, ⟨hP, va_K.moved b3.alike hK, hD⟩⟩, hS.F rfl⟩, locs, ⟨b3, b4.mono h1 h2⟩, hS.2.2⟩
  generalize hQ : MQX below (qcOn_frontier D cA ad N formStands orderSize reached frontiers post postX A) ([.ref (ad 0), .int v1, .int v2] : List Value).toArray s 2 12 A = Q at hend hendX ⊢
  have hl := lv_entry ([.ref (ad 0), .int v1, .int v2]) (n := 3) (Nat.le_of_ble_eq_true rfl)
  rw [lg_entry_eq]
  generalize (lg_sl ([.ref (ad 0), .int v1, .int v2]) ++ List.replicate (3 - (lg_sl ([.ref (ad 0), .int v1, .int v2])).length) Slot.unset).toArray = ls at hl ⊢
  have hl : lv_has ls 3 [(0, .ref (ad 0)), (1, .int v1), (2, .int v2)] := hl
  unfold wpOn_frontier at hw
  refine lv_aload_n hx hb dOn_frontier_0 rfl (lv_at hl 0 rfl) ?_
  refine lv_iload_n hx hb dOn_frontier_1 rfl (lv_at hl 1 rfl) ?_
  refine xcxv (xrunV ⟨hx, hb, hml, hown, hts⟩ (ktOn_requireBlock l hfl D cA ad N _ formStands v1 _ _ hw) (cwV 1 hts (goodV kw_413 kw_415 ks_1_14 kw_1 kw_416) rfl rfl rfl (by decide +kernel) ⟨Nat.le_of_ble_eq_true rfl, Nat.le_of_ble_eq_true rfl⟩) (xpreVE hE hS hK hP hD hN [0] rfl rfl 0 rfl rfl) rfl rfl hl.1 rfl (lv_room (Nat.le_of_ble_eq_true rfl)) dOn_frontier_2 ⟨Nat.le_of_ble_eq_true rfl, Nat.le_of_ble_eq_true rfl⟩) (hout _) hlocks hP hD hS hA [0] [1, 2] rfl rfl rfl rfl [2, 0, 1] rfl (fun _ => rfl) (fun u H locs hw hP hD hS => ?_) (fun k x u t locs b1 b2 b3 b4 b5 b6 b7 b8 b9 => hendX k x  t locs _ _ (Nat.le_of_ble_eq_true rfl) (Nat.le_of_ble_eq_true rfl) b1 b2 b3 b4 b5 b6 b7 b8 b9)
  have hP : va_P D vwCl (wdOn_frontier cA ad N formStands orderSize reached frontiers) H := hP
  have hD : va_D A (wdOn_frontier cA ad N formStands orderSize reached frontiers) := hD
  refine lv_aload_n hx hb dOn_frontier_5 rfl (lv_at hl 0 rfl) ?_
  refine lv_iload_n hx hb dOn_frontier_6 rfl (lv_at hl 2 rfl) ?_
  refine xcxv (xrunV ⟨hx, hb, hml, hown, hts⟩ (ktOn_requireBlock l hfl D cA ad N _ formStands v2 _ _ hw) (cwV 1 hts (goodV kw_413 kw_415 ks_1_14 kw_1 kw_416) rfl rfl rfl (by decide +kernel) ⟨Nat.le_of_ble_eq_true rfl, Nat.le_of_ble_eq_true rfl⟩) (xpreVE hE hS hK hP hD hN [0] rfl rfl 0 rfl rfl) rfl rfl hl.1 rfl (lv_room (Nat.le_of_ble_eq_true rfl)) dOn_frontier_7 ⟨Nat.le_of_ble_eq_true rfl, Nat.le_of_ble_eq_true rfl⟩) (hout _) hlocks hP hD hS hA [0] [1, 2] rfl rfl rfl rfl [2, 0, 1] rfl (fun _ => rfl) (fun u H locs hw hP hD hS => ?_) (fun k x u t locs b1 b2 b3 b4 b5 b6 b7 b8 b9 => hendX k x  t locs _ _ (Nat.le_of_ble_eq_true rfl) (Nat.le_of_ble_eq_true rfl) b1 b2 b3 b4 b5 b6 b7 b8 b9)
  have hP : va_P D vwCl (wdOn_frontier cA ad N formStands orderSize reached frontiers) H := hP
  have hD : va_D A (wdOn_frontier cA ad N formStands orderSize reached frontiers) := hD
  refine lv_aload_n hx hb dOn_frontier_10 rfl (lv_at hl 0 rfl) ?_
  refine va_get (D := D) (ci := 0) (v := .ref (ad 11)) (C := "OnceNamed") (T := TX0) (N := 10) hx hb hts (fun w h => List.mem_cons_of_mem _ (inX0 w h)) hown hK hP 0 rfl rfl 2 (by decide) (hts _ (List.mem_cons_of_mem _ kw_269)) (fun _ h9 => h9) rfl dOn_frontier_11 ?_
  refine lv_iload_n hx hb dOn_frontier_14 rfl (lv_at hl 1 rfl) ?_
  refine xci (va_runV ⟨hx, hb, hml, hown, hts⟩ (ktGraph_frontierOf l D cA ad N _ orderSize reached frontiers v1 _ hw) (cwV 1 hts (goodV kw_648 kw_649 kw_650 kw_5 kw_651) rfl rfl rfl (by decide +kernel) ⟨Nat.le_of_ble_eq_true rfl, Nat.le_of_ble_eq_true rfl⟩) (xpreV hK hP hD hN [1, 2] rfl rfl 1 rfl rfl) rfl rfl hl.1 rfl (lv_room (Nat.le_of_ble_eq_true rfl)) dOn_frontier_15 ⟨Nat.le_of_ble_eq_true rfl, Nat.le_of_ble_eq_true rfl⟩) hP hD hS hA [1, 2] [0] rfl rfl rfl rfl [0, 1, 2] rfl (fun _ => rfl) (fun r15 u H locs hw hP hD hS => ?_)
  have hP : va_P D vwCl (wdOn_frontier cA ad N formStands orderSize reached frontiers) H := hP
  have hD : va_D A (wdOn_frontier cA ad N formStands orderSize reached frontiers) := hD
  refine lv_iload_n hx hb dOn_frontier_18 rfl (lv_at hl 2 rfl) ?_
  refine xci (va_runS ⟨hx, hb, hml, hown, hts⟩ (ktOn_has l D cA ad N _ r15 v2 _ hw) (va_cwS 2 hts (goodS kw_652 kw_238 kw_1 kw_239) rfl rfl rfl (by decide +kernel) ⟨Nat.le_of_ble_eq_true rfl, Nat.le_of_ble_eq_true rfl⟩) (xpreS hK hP hD hN [] rfl rfl) rfl rfl hl.1 rfl (lv_room (Nat.le_of_ble_eq_true rfl)) dOn_frontier_19 ⟨Nat.le_of_ble_eq_true rfl, Nat.le_of_ble_eq_true rfl⟩) hP hD hS hA [] [0, 1, 2] rfl rfl rfl rfl [0, 1, 2] rfl (fun _ => rfl) (fun r19 u H locs hw hP hD hS => ?_)
  obtain ⟨r19, rfl, hw⟩ := hw
  have hP : va_P D vwCl (wdOn_frontier cA ad N formStands orderSize reached frontiers) H := hP
  have hD : va_D A (wdOn_frontier cA ad N formStands orderSize reached frontiers) := hD
  exact hend r19 _ _ _ _ dOn_frontier_22 hP hD hS hw
abbrev wdOn_meeting (cA : ClassId) (ad : Nat → Nat) (N : Nat) (formStands : Bool) (meetingNames : Nat → Int32) : va_W := [((ad 0), .inr (0, [.int (nI N), .ref (ad 1), .ref (ad 11), .ref (ad 18), .ref (ad 30), .ref (ad 35), .ref (ad 38), .ref (ad 40), .ref (ad 42), .int (bI formStands)])), ((ad 18), .inr (3, [.ref (ad 1), .ref (ad 11), .int (nI N), .ref (ad 19), .ref (ad 20), .ref (ad 21), .ref (ad 22), .ref (ad 23), .ref (ad 24), .ref (ad 25), .ref (ad 26), .ref (ad 27), .ref (ad 28), .ref (ad 29)])), ((ad 19), .inl (cA, N * 6, .inl meetingNames))]
abbrev qcOn_meeting (D : va_G) (cA : ClassId) (ad : Nat → Nat) (N : Nat) (formStands : Bool) (meetingNames : Nat → Int32) (post : Int32 → Prop) (postX : Nat → Prop) (A : Nat → Prop) : Array Value → State → Outcome → State → Prop := xQi (S := Unit) (fun r u => post r ) (fun k u => postX k ) (fun u t => xB D [(cA, .int)] A (wdOn_meeting cA ad N formStands meetingNames) t) A
abbrev rmOn_meeting : Room := { frames := 7, cells := 3, slots := 18, locals := 111 }
set_option maxHeartbeats 4000000 in
set_option maxRecDepth 100000 in
theorem ktOn_meeting (l : Launch) (hfl : l.flags = Jvm.pinnedFlags ++ [Jvm.noTraceFlag]) (D : va_G) (cA : ClassId) (ad : Nat → Nat) (N : Nat) (sz : Nat) (formStands : Bool) (meetingNames : Nat → Int32) (v1 : Int32) (v2 : Int32) (post : Int32 → Prop) (postX : Nat → Prop) (hw : wpOn_meeting N formStands meetingNames v1 v2 post postX) : MetX l yOn_meeting (Cond.code yOn_meeting cOn_meeting 3 (some .int) :: xW) rmOn_meeting (va_Pc [.ref (ad 0), .int v1, .int v2] (xPcE D [(cA, .int)] (wdOn_meeting cA ad N formStands meetingNames) sz)) (qcOn_meeting D cA ad N formStands meetingNames post postX (va_A (wdOn_meeting cA ad N formStands meetingNames) sz)) 3 18 (va_A (wdOn_meeting cA ad N formStands meetingNames) sz) := by
  refine MetX.ofW (cc := cOn_meeting) (maxL := 3) (ret := (some .int)) (by decide) rfl ?_
  intro p e s m args below meth c s₁ B hml hv
  obtain ⟨rfl, ⟨hsz, hP, hK, hD0, hN⟩, hE0⟩ := hv
  have hx := B.exec
  have hb := B.bytes
  have hr := B.returns
  have hts := atoms_spec (ws := (Cond.code yOn_meeting cOn_meeting 3 (some .int) :: xW)) B.pre
  have hown : s.vm.findClass "OnceNamed" = some m.cls := findClass_of_methodNamed B.named
  have hlocks := B.notSynchronized
  subst hsz
  have hD := hD0.self (sz := s.heap.size)
  have hE := xEEfull hE0
  have htr := Launch.traces_off hfl B.admits
  have hout := xnoout (B.noHandlers (hts _ List.mem_cons_self))
  have htsx : ∀ w ∈ xW, w.before ([.ref (ad 0), .int v1, .int v2] : List Value).toArray s = true := fun w h => hts w (List.mem_cons_of_mem _ h)
  generalize hAe : va_A (wdOn_meeting cA ad N formStands meetingNames) s.heap.size = A at hD hE ⊢
  have hA : ∀ q : Nat, s.heap.size ≤ q → A q := fun q h => by rw [← hAe]; exact Or.inr h
  have hS : va_S A s.heap s.heap [] := va_S.rf
  have hend : ∀ (r : Int32)  (H : Heap) (locs : List Loc) (pc : Nat) (ls : Array Slot), decode cOn_meeting pc = .ok (.ireturn, 1) → va_P D vwCl (wdOn_meeting cA ad N formStands meetingNames) H → va_D A (wdOn_meeting cA ad N formStands meetingNames) → va_S A s.heap H locs → post r  → W p l e (headSpec (Cond.code yOn_meeting cOn_meeting 3 (some .int) :: xW) rmOn_meeting).room s m ([.ref (ad 0), .int v1, .int v2] : List Value).toArray below meth c H locs 3 18 (MQX below (qcOn_meeting D cA ad N formStands meetingNames post postX A) ([.ref (ad 0), .int v1, .int v2] : List Value).toArray s 3 18 A) (F0 m pc ls [.int r]) := fun r  H locs pc ls hd hP hD hS hw => xWmono (fun _ => MQX.of) (W.iret (v := r) hx hb hr (fun t ht hW => ⟨Or.inl ⟨r, (), rfl, hw, ⟨by rw [ht]; exact hP, va_K.moved hW.alike hK, hD⟩⟩, hS.F ht⟩) hS.2.2 hd)
  have hendX : ∀ (k x : Nat)  (t : State) (locs : List Loc) (cells slots : Nat), cells ≤ 3 → slots ≤ 18 → t.status = .running → Ended t below (.threw x) → s.WarmedH t.vm → s.sameButNew ({ t with vm := s.vm } : State) locs cells slots → xExc k x s.heap.size t → va_P D vwCl (wdOn_meeting cA ad N formStands meetingNames) t.heap → va_D A (wdOn_meeting cA ad N formStands meetingNames) → va_S A s.heap t.heap locs → postX k  → MQX below (qcOn_meeting D cA ad N formStands meetingNames post postX A) ([.ref (ad 0), .int v1, .int v2] : List Value).toArray s 3 18 A t := fun k x  t locs cells slots h1 h2 b1 b2 b3 b4 b5 hP hD hS hw => ⟨.threw x, b1, b2, ⟨Or.inr ⟨k, x, (), rfl, b5, hw, ⟨hP, va_K.moved b3.alike hK, hD⟩⟩, hS.F rfl⟩, locs, ⟨b3, b4.mono h1 h2⟩, hS.2.2⟩
  generalize hQ : MQX below (qcOn_meeting D cA ad N formStands meetingNames post postX A) ([.ref (ad 0), .int v1, .int v2] : List Value).toArray s 3 18 A = Q at hend hendX ⊢
  have hl := lv_entry ([.ref (ad 0), .int v1, .int v2]) (n := 3) (Nat.le_of_ble_eq_true rfl)
  rw [lg_entry_eq]
  generalize (lg_sl ([.ref (ad 0), .int v1, .int v2]) ++ List.replicate (3 - (lg_sl ([.ref (ad 0), .int v1, .int v2])).length) Slot.unset).toArray = ls at hl ⊢
  have hl : lv_has ls 3 [(0, .ref (ad 0)), (1, .int v1), (2, .int v2)] := hl
  unfold wpOn_meeting at hw
  refine lv_aload_n hx hb dOn_meeting_0 rfl (lv_at hl 0 rfl) ?_
  refine xcxv (xrunV ⟨hx, hb, hml, hown, hts⟩ (ktOn_requireForm l hfl D cA ad N _ formStands _ _ hw) (cwV 0 hts (goodV kw_568 kw_570 ks_2_1 kw_1 kw_571) rfl rfl rfl (by decide +kernel) ⟨Nat.le_of_ble_eq_true rfl, Nat.le_of_ble_eq_true rfl⟩) (xpreVE hE hS hK hP hD hN [0] rfl rfl 0 rfl rfl) rfl rfl hl.1 rfl (lv_room (Nat.le_of_ble_eq_true rfl)) dOn_meeting_1 ⟨Nat.le_of_ble_eq_true rfl, Nat.le_of_ble_eq_true rfl⟩) (hout _) hlocks hP hD hS hA [0] [1, 2] rfl rfl rfl rfl [2, 0, 1] rfl (fun _ => rfl) (fun u H locs hw hP hD hS => ?_) (fun k x u t locs b1 b2 b3 b4 b5 b6 b7 b8 b9 => hendX k x  t locs _ _ (Nat.le_of_ble_eq_true rfl) (Nat.le_of_ble_eq_true rfl) b1 b2 b3 b4 b5 b6 b7 b8 b9)
  have hP : va_P D vwCl (wdOn_meeting cA ad N formStands meetingNames) H := hP
  have hD : va_D A (wdOn_meeting cA ad N formStands meetingNames) := hD
  refine lv_aload_n hx hb dOn_meeting_4 rfl (lv_at hl 0 rfl) ?_
  refine lv_iload_n hx hb dOn_meeting_5 rfl (lv_at hl 1 rfl) ?_
  refine xcxv (xrunV ⟨hx, hb, hml, hown, hts⟩ (ktOn_requireBlock l hfl D cA ad N _ formStands v1 _ _ hw) (cwV 1 hts (goodV kw_413 kw_415 ks_1_14 kw_1 kw_416) rfl rfl rfl (by decide +kernel) ⟨Nat.le_of_ble_eq_true rfl, Nat.le_of_ble_eq_true rfl⟩) (xpreVE hE hS hK hP hD hN [0] rfl rfl 0 rfl rfl) rfl rfl hl.1 rfl (lv_room (Nat.le_of_ble_eq_true rfl)) dOn_meeting_6 ⟨Nat.le_of_ble_eq_true rfl, Nat.le_of_ble_eq_true rfl⟩) (hout _) hlocks hP hD hS hA [0] [1, 2] rfl rfl rfl rfl [2, 0, 1] rfl (fun _ => rfl) (fun u H locs hw hP hD hS => ?_) (fun k x u t locs b1 b2 b3 b4 b5 b6 b7 b8 b9 => hendX k x  t locs _ _ (Nat.le_of_ble_eq_true rfl) (Nat.le_of_ble_eq_true rfl) b1 b2 b3 b4 b5 b6 b7 b8 b9)
  have hP : va_P D vwCl (wdOn_meeting cA ad N formStands meetingNames) H := hP
  have hD : va_D A (wdOn_meeting cA ad N formStands meetingNames) := hD
  refine lv_iload_n hx hb dOn_meeting_9 rfl (lv_at hl 2 rfl) ?_
  refine xcxv (xrunS ⟨hx, hb, hml, hown, hts⟩ (ktOn_requireVariable l hfl D cA ad N _ v2 _ _ hw) (va_cwS 1 hts (goodS kw_493 kw_494 kw_1 kw_495) rfl rfl rfl (by decide +kernel) ⟨Nat.le_of_ble_eq_true rfl, Nat.le_of_ble_eq_true rfl⟩) (xpreSE hE hS hK hP hD hN [] rfl rfl) rfl rfl hl.1 rfl (lv_room (Nat.le_of_ble_eq_true rfl)) dOn_meeting_10 ⟨Nat.le_of_ble_eq_true rfl, Nat.le_of_ble_eq_true rfl⟩) (hout _) hlocks hP hD hS hA [] [0, 1, 2] rfl rfl rfl rfl [0, 1, 2] rfl (fun _ => rfl) (fun u H locs hw hP hD hS => ?_) (fun k x u t locs b1 b2 b3 b4 b5 b6 b7 b8 b9 => hendX k x  t locs _ _ (Nat.le_of_ble_eq_true rfl) (Nat.le_of_ble_eq_true rfl) b1 b2 b3 b4 b5 b6 b7 b8 b9)
  have hP : va_P D vwCl (wdOn_meeting cA ad N formStands meetingNames) H := hP
  have hD : va_D A (wdOn_meeting cA ad N formStands meetingNames) := hD
  refine lv_aload_n hx hb dOn_meeting_13 rfl (lv_at hl 0 rfl) ?_
  refine va_get (D := D) (ci := 0) (v := .ref (ad 18)) (C := "OnceNamed") (T := TX0) (N := 10) hx hb hts (fun w h => List.mem_cons_of_mem _ (inX0 w h)) hown hK hP 0 rfl rfl 3 (by decide) (hts _ (List.mem_cons_of_mem _ kw_270)) (fun _ h9 => h9) rfl dOn_meeting_14 ?_
  refine lv_iload_n hx hb dOn_meeting_17 rfl (lv_at hl 1 rfl) ?_
  refine lv_iload_n hx hb dOn_meeting_18 rfl (lv_at hl 2 rfl) ?_
  refine xci (va_runV ⟨hx, hb, hml, hown, hts⟩ (ktNamedForm_meetingName l D cA ad N _ meetingNames v1 v2 _ hw) (cwV 2 hts (goodV kw_660 kw_661 kw_662 kw_6 kw_663) rfl rfl rfl (by decide +kernel) ⟨Nat.le_of_ble_eq_true rfl, Nat.le_of_ble_eq_true rfl⟩) (xpreV hK hP hD hN [1, 2] rfl rfl 1 rfl rfl) rfl rfl hl.1 rfl (lv_room (Nat.le_of_ble_eq_true rfl)) dOn_meeting_19 ⟨Nat.le_of_ble_eq_true rfl, Nat.le_of_ble_eq_true rfl⟩) hP hD hS hA [1, 2] [0] rfl rfl rfl rfl [0, 1, 2] rfl (fun _ => rfl) (fun r19 u H locs hw hP hD hS => ?_)
  have hP : va_P D vwCl (wdOn_meeting cA ad N formStands meetingNames) H := hP
  have hD : va_D A (wdOn_meeting cA ad N formStands meetingNames) := hD
  exact hend r19 _ _ _ _ dOn_meeting_22 hP hD hS hw
abbrev wdOn_requireBlockOrEntry (cA : ClassId) (ad : Nat → Nat) (N : Nat) (formStands : Bool) : va_W := [((ad 0), .inr (0, [.int (nI N), .ref (ad 1), .ref (ad 11), .ref (ad 18), .ref (ad 30), .ref (ad 35), .ref (ad 38), .ref (ad 40), .ref (ad 42), .int (bI formStands)]))]
abbrev qcOn_requireBlockOrEntry (D : va_G) (cA : ClassId) (ad : Nat → Nat) (N : Nat) (formStands : Bool) (post : Prop) (postX : Nat → Prop) (A : Nat → Prop) : Array Value → State → Outcome → State → Prop := xQv (S := Unit) (fun u => post ) (fun k u => postX k ) (fun u t => xB D [(cA, .int)] A (wdOn_requireBlockOrEntry cA ad N formStands) t) A
abbrev rmOn_requireBlockOrEntry : Room := { frames := 6, cells := 1, slots := 6, locals := 90 }
set_option maxHeartbeats 4000000 in
set_option maxRecDepth 100000 in
theorem ktOn_requireBlockOrEntry (l : Launch) (hfl : l.flags = Jvm.pinnedFlags ++ [Jvm.noTraceFlag]) (D : va_G) (cA : ClassId) (ad : Nat → Nat) (N : Nat) (sz : Nat) (formStands : Bool) (v1 : Int32) (post : Prop) (postX : Nat → Prop) (hw : wpOn_requireBlockOrEntry N v1 post postX) : MetX l yOn_requireBlockOrEntry (Cond.code yOn_requireBlockOrEntry cOn_requireBlockOrEntry 2 none :: xW) rmOn_requireBlockOrEntry (va_Pc [.ref (ad 0), .int v1] (xPcE D [(cA, .int)] (wdOn_requireBlockOrEntry cA ad N formStands) sz)) (qcOn_requireBlockOrEntry D cA ad N formStands post postX (va_A (wdOn_requireBlockOrEntry cA ad N formStands) sz)) 1 6 (va_A (wdOn_requireBlockOrEntry cA ad N formStands) sz) := by
  refine MetX.ofW (cc := cOn_requireBlockOrEntry) (maxL := 2) (ret := none) (by decide) rfl ?_
  intro p e s m args below meth c s₁ B hml hv
  obtain ⟨rfl, ⟨hsz, hP, hK, hD0, hN⟩, hE0⟩ := hv
  have hx := B.exec
  have hb := B.bytes
  have hr := B.returns
  have hts := atoms_spec (ws := (Cond.code yOn_requireBlockOrEntry cOn_requireBlockOrEntry 2 none :: xW)) B.pre
  have hown : s.vm.findClass "OnceNamed" = some m.cls := findClass_of_methodNamed B.named
  have hlocks := B.notSynchronized
  subst hsz
  have hD := hD0.self (sz := s.heap.size)
  have hE := xEEfull hE0
  have htr := Launch.traces_off hfl B.admits
  have hout := xnoout (B.noHandlers (hts _ List.mem_cons_self))
  have htsx : ∀ w ∈ xW, w.before ([.ref (ad 0), .int v1] : List Value).toArray s = true := fun w h => hts w (List.mem_cons_of_mem _ h)
  generalize hAe : va_A (wdOn_requireBlockOrEntry cA ad N formStands) s.heap.size = A at hD hE ⊢
  have hA : ∀ q : Nat, s.heap.size ≤ q → A q := fun q h => by rw [← hAe]; exact Or.inr h
  have hS : va_S A s.heap s.heap [] := va_S.rf
  have hend : ∀  (H : Heap) (locs : List Loc) (pc : Nat) (ls : Array Slot), decode cOn_requireBlockOrEntry pc = .ok (.return_, 1) → va_P D vwCl (wdOn_requireBlockOrEntry cA ad N formStands) H → va_D A (wdOn_requireBlockOrEntry cA ad N formStands) → va_S A s.heap H locs → post  → W p l e (headSpec (Cond.code yOn_requireBlockOrEntry cOn_requireBlockOrEntry 2 none :: xW) rmOn_requireBlockOrEntry).room s m ([.ref (ad 0), .int v1] : List Value).toArray below meth c H locs 1 6 (MQX below (qcOn_requireBlockOrEntry D cA ad N formStands post postX A) ([.ref (ad 0), .int v1] : List Value).toArray s 1 6 A) (F0 m pc ls []) := fun  H locs pc ls hd hP hD hS hw => xWmono (fun _ => MQX.of) (W.vret hx hb hr (fun t ht hW => ⟨Or.inl ⟨(), rfl, hw, ⟨by rw [ht]; exact hP, va_K.moved hW.alike hK, hD⟩⟩, hS.F ht⟩) hS.2.2 hd)
  have hendX : ∀ (k x : Nat)  (t : State) (locs : List Loc) (cells slots : Nat), cells ≤ 1 → slots ≤ 6 → t.status = .running → Ended t below (.threw x) → s.WarmedH t.vm → s.sameButNew ({ t with vm := s.vm } : State) locs cells slots → xExc k x s.heap.size t → va_P D vwCl (wdOn_requireBlockOrEntry cA ad N formStands) t.heap → va_D A (wdOn_requireBlockOrEntry cA ad N formStands) → va_S A s.heap t.heap locs → postX k  → MQX below (qcOn_requireBlockOrEntry D cA ad N formStands post postX A) ([.ref (ad 0), .int v1] : List Value).toArray s 1 6 A t := fun k x  t locs cells slots h1 h2 b1 b2 b3 b4 b5 hP hD hS hw => ⟨.threw x, b1, b2, ⟨Or.inr ⟨k, x, (), rfl, b5, hw, ⟨hP, va_K.moved b3.alike hK, hD⟩⟩, hS.F rfl⟩, locs, ⟨b3, b4.mono h1 h2⟩, hS.2.2⟩
  generalize hQ : MQX below (qcOn_requireBlockOrEntry D cA ad N formStands post postX A) ([.ref (ad 0), .int v1] : List Value).toArray s 1 6 A = Q at hend hendX ⊢
  have hl := lv_entry ([.ref (ad 0), .int v1]) (n := 2) (Nat.le_of_ble_eq_true rfl)
  rw [lg_entry_eq]
  generalize (lg_sl ([.ref (ad 0), .int v1]) ++ List.replicate (2 - (lg_sl ([.ref (ad 0), .int v1])).length) Slot.unset).toArray = ls at hl ⊢
  have hl : lv_has ls 2 [(0, .ref (ad 0)), (1, .int v1)] := hl
  unfold wpOn_requireBlockOrEntry at hw
  refine lv_iload_n hx hb dOn_requireBlockOrEntry_0 rfl (lv_at hl 1 rfl) ?_
  refine lv_if_lt (tgt := 12) hx hb dOn_requireBlockOrEntry_1 rfl (fun hc => ?_) (fun hc => ?_)
  · have hw := hw.1 hc
    exact xthrowB 0 hx hb htr hown htsx (by decide) xat_0 kw_417 kw_15 hE hS (List.mem_of_getElem? (i := 7) rfl) (hout _) hlocks (hl.1.trans hml.symm) dOn_requireBlockOrEntry_12 dOn_requireBlockOrEntry_15 (Or.inl ⟨dOn_requireBlockOrEntry_16, rfl⟩) dOn_requireBlockOrEntry_18 dOn_requireBlockOrEntry_21 (Nat.le_of_ble_eq_true rfl) (Nat.le_of_ble_eq_true rfl) (Nat.le_of_ble_eq_true rfl) (Nat.le_of_ble_eq_true rfl) (fun x t b1 b2 b3 b4 b5 b6 b7 => hendX 0 x  t _ _ _ (Nat.le_of_ble_eq_true rfl) (Nat.le_of_ble_eq_true rfl) b1 b2 b3 b4 b5 (xPkeep hP b7) hD (xSkeep hS b6 b7) hw)
  · have hw := hw.2 hc
    refine lv_iload_n hx hb dOn_requireBlockOrEntry_4 rfl (lv_at hl 1 rfl) ?_
    refine lv_aload_n hx hb dOn_requireBlockOrEntry_5 rfl (lv_at hl 0 rfl) ?_
    refine va_get (D := D) (ci := 0) (v := .int (nI N)) (C := "OnceNamed") (T := TX0) (N := 10) hx hb hts (fun w h => List.mem_cons_of_mem _ (inX0 w h)) hown hK hP 0 rfl rfl 0 (by decide) (hts _ (List.mem_cons_of_mem _ kw_267)) (fun _ h9 => h9) rfl dOn_requireBlockOrEntry_6 ?_
    refine lv_icmp_le (tgt := 22) hx hb dOn_requireBlockOrEntry_9 rfl (fun hc => ?_) (fun hc => ?_)
    · have hw := hw.1 hc
      refine W.widen (k := 1) (n := 6) (Nat.le_of_ble_eq_true rfl) (Nat.le_of_ble_eq_true rfl) ?_
      exact hend  _ _ _ _ dOn_requireBlockOrEntry_22 hP hD hS hw
    · have hw := hw.2 hc
      exact xthrowB 0 hx hb htr hown htsx (by decide) xat_0 kw_417 kw_15 hE hS (List.mem_of_getElem? (i := 7) rfl) (hout _) hlocks (hl.1.trans hml.symm) dOn_requireBlockOrEntry_12 dOn_requireBlockOrEntry_15 (Or.inl ⟨dOn_requireBlockOrEntry_16, rfl⟩) dOn_requireBlockOrEntry_18 dOn_requireBlockOrEntry_21 (Nat.le_of_ble_eq_true rfl) (Nat.le_of_ble_eq_true rfl) (Nat.le_of_ble_eq_true rfl) (Nat.le_of_ble_eq_true rfl) (fun x t b1 b2 b3 b4 b5 b6 b7 => hendX 0 x  t _ _ _ (Nat.le_of_ble_eq_true rfl) (Nat.le_of_ble_eq_true rfl) b1 b2 b3 b4 b5 (xPkeep hP b7) hD (xSkeep hS b6 b7) hw)
abbrev wdOn_requireMeetingUse (cA : ClassId) (ad : Nat → Nat) (N : Nat) (formStands : Bool) : va_W := [((ad 0), .inr (0, [.int (nI N), .ref (ad 1), .ref (ad 11), .ref (ad 18), .ref (ad 30), .ref (ad 35), .ref (ad 38), .ref (ad 40), .ref (ad 42), .int (bI formStands)]))]
abbrev qcOn_requireMeetingUse (D : va_G) (cA : ClassId) (ad : Nat → Nat) (N : Nat) (formStands : Bool) (post : Prop) (postX : Nat → Prop) (A : Nat → Prop) : Array Value → State → Outcome → State → Prop := xQv (S := Unit) (fun u => post ) (fun k u => postX k ) (fun u t => xB D [(cA, .int)] A (wdOn_requireMeetingUse cA ad N formStands) t) A
abbrev rmOn_requireMeetingUse : Room := { frames := 7, cells := 3, slots := 18, locals := 111 }
set_option maxHeartbeats 4000000 in
set_option maxRecDepth 100000 in
theorem ktOn_requireMeetingUse (l : Launch) (hfl : l.flags = Jvm.pinnedFlags ++ [Jvm.noTraceFlag]) (D : va_G) (cA : ClassId) (ad : Nat → Nat) (N : Nat) (sz : Nat) (formStands : Bool) (v1 : Int32) (v2 : Int32) (v3 : Int32) (post : Prop) (postX : Nat → Prop) (hw : wpOn_requireMeetingUse N v1 v2 v3 post postX) : MetX l yOn_requireMeetingUse (Cond.code yOn_requireMeetingUse cOn_requireMeetingUse 4 none :: xW) rmOn_requireMeetingUse (va_Pc [.ref (ad 0), .int v1, .int v2, .int v3] (xPcE D [(cA, .int)] (wdOn_requireMeetingUse cA ad N formStands) sz)) (qcOn_requireMeetingUse D cA ad N formStands post postX (va_A (wdOn_requireMeetingUse cA ad N formStands) sz)) 3 18 (va_A (wdOn_requireMeetingUse cA ad N formStands) sz) := by
  refine MetX.ofW (cc := cOn_requireMeetingUse) (maxL := 4) (ret := none) (by decide) rfl ?_
  intro p e s m args below meth c s₁ B hml hv
  obtain ⟨rfl, ⟨hsz, hP, hK, hD0, hN⟩, hE0⟩ := hv
  have hx := B.exec
  have hb := B.bytes
  have hr := B.returns
  have hts := atoms_spec (ws := (Cond.code yOn_requireMeetingUse cOn_requireMeetingUse 4 none :: xW)) B.pre
  have hown : s.vm.findClass "OnceNamed" = some m.cls := findClass_of_methodNamed B.named
  have hlocks := B.notSynchronized
  subst hsz
  have hD := hD0.self (sz := s.heap.size)
  have hE := xEEfull hE0
  have htr := Launch.traces_off hfl B.admits
  have hout := xnoout (B.noHandlers (hts _ List.mem_cons_self))
  have htsx : ∀ w ∈ xW, w.before ([.ref (ad 0), .int v1, .int v2, .int v3] : List Value).toArray s = true := fun w h => hts w (List.mem_cons_of_mem _ h)
  generalize hAe : va_A (wdOn_requireMeetingUse cA ad N formStands) s.heap.size = A at hD hE ⊢
  have hA : ∀ q : Nat, s.heap.size ≤ q → A q := fun q h => by rw [← hAe]; exact Or.inr h
  have hS : va_S A s.heap s.heap [] := va_S.rf
  have hend : ∀  (H : Heap) (locs : List Loc) (pc : Nat) (ls : Array Slot), decode cOn_requireMeetingUse pc = .ok (.return_, 1) → va_P D vwCl (wdOn_requireMeetingUse cA ad N formStands) H → va_D A (wdOn_requireMeetingUse cA ad N formStands) → va_S A s.heap H locs → post  → W p l e (headSpec (Cond.code yOn_requireMeetingUse cOn_requireMeetingUse 4 none :: xW) rmOn_requireMeetingUse).room s m ([.ref (ad 0), .int v1, .int v2, .int v3] : List Value).toArray below meth c H locs 3 18 (MQX below (qcOn_requireMeetingUse D cA ad N formStands post postX A) ([.ref (ad 0), .int v1, .int v2, .int v3] : List Value).toArray s 3 18 A) (F0 m pc ls []) := fun  H locs pc ls hd hP hD hS hw => xWmono (fun _ => MQX.of) (W.vret hx hb hr (fun t ht hW => ⟨Or.inl ⟨(), rfl, hw, ⟨by rw [ht]; exact hP, va_K.moved hW.alike hK, hD⟩⟩, hS.F ht⟩) hS.2.2 hd)
  have hendX : ∀ (k x : Nat)  (t : State) (locs : List Loc) (cells slots : Nat), cells ≤ 3 → slots ≤ 18 → t.status = .running → Ended t below (.threw x) → s.WarmedH t.vm → s.sameButNew ({ t with vm := s.vm } : State) locs cells slots → xExc k x s.heap.size t → va_P D vwCl (wdOn_requireMeetingUse cA ad N formStands) t.heap → va_D A (wdOn_requireMeetingUse cA ad N formStands) → va_S A s.heap t.heap locs → postX k  → MQX below (qcOn_requireMeetingUse D cA ad N formStands post postX A) ([.ref (ad 0), .int v1, .int v2, .int v3] : List Value).toArray s 3 18 A t := fun k x  t locs cells slots h1 h2 b1 b2 b3 b4 b5 hP hD hS hw => ⟨.threw x, b1, b2, ⟨Or.inr ⟨k, x, (), rfl, b5, hw, ⟨hP, va_K.moved b3.alike hK, hD⟩⟩, hS.F rfl⟩, locs, ⟨b3, b4.mono h1 h2⟩, hS.2.2⟩
  generalize hQ : MQX below (qcOn_requireMeetingUse D cA ad N formStands post postX A) ([.ref (ad 0), .int v1, .int v2, .int v3] : List Value).toArray s 3 18 A = Q at hend hendX ⊢
  have hl := lv_entry ([.ref (ad 0), .int v1, .int v2, .int v3]) (n := 4) (Nat.le_of_ble_eq_true rfl)
  rw [lg_entry_eq]
  generalize (lg_sl ([.ref (ad 0), .int v1, .int v2, .int v3]) ++ List.replicate (4 - (lg_sl ([.ref (ad 0), .int v1, .int v2, .int v3])).length) Slot.unset).toArray = ls at hl ⊢
  have hl : lv_has ls 4 [(0, .ref (ad 0)), (1, .int v1), (2, .int v2), (3, .int v3)] := hl
  unfold wpOn_requireMeetingUse at hw
  refine lv_aload_n hx hb dOn_requireMeetingUse_0 rfl (lv_at hl 0 rfl) ?_
  refine lv_iload_n hx hb dOn_requireMeetingUse_1 rfl (lv_at hl 1 rfl) ?_
  refine xcxv (xrunV ⟨hx, hb, hml, hown, hts⟩ (ktOn_requireBlock l hfl D cA ad N _ formStands v1 _ _ hw) (cwV 1 hts (goodV kw_413 kw_415 ks_1_14 kw_1 kw_416) rfl rfl rfl (by decide +kernel) ⟨Nat.le_of_ble_eq_true rfl, Nat.le_of_ble_eq_true rfl⟩) (xpreVE hE hS hK hP hD hN [0] rfl rfl 0 rfl rfl) rfl rfl hl.1 rfl (lv_room (Nat.le_of_ble_eq_true rfl)) dOn_requireMeetingUse_2 ⟨Nat.le_of_ble_eq_true rfl, Nat.le_of_ble_eq_true rfl⟩) (hout _) hlocks hP hD hS hA [0] [] rfl rfl rfl rfl [0] rfl (fun _ => rfl) (fun u H locs hw hP hD hS => ?_) (fun k x u t locs b1 b2 b3 b4 b5 b6 b7 b8 b9 => hendX k x  t locs _ _ (Nat.le_of_ble_eq_true rfl) (Nat.le_of_ble_eq_true rfl) b1 b2 b3 b4 b5 b6 b7 b8 b9)
  have hP : va_P D vwCl (wdOn_requireMeetingUse cA ad N formStands) H := hP
  have hD : va_D A (wdOn_requireMeetingUse cA ad N formStands) := hD
  refine lv_iload_n hx hb dOn_requireMeetingUse_5 rfl (lv_at hl 2 rfl) ?_
  refine xcxv (xrunS ⟨hx, hb, hml, hown, hts⟩ (ktOn_requireVariable l hfl D cA ad N _ v2 _ _ hw) (va_cwS 1 hts (goodS kw_493 kw_494 kw_1 kw_495) rfl rfl rfl (by decide +kernel) ⟨Nat.le_of_ble_eq_true rfl, Nat.le_of_ble_eq_true rfl⟩) (xpreSE hE hS hK hP hD hN [] rfl rfl) rfl rfl hl.1 rfl (lv_room (Nat.le_of_ble_eq_true rfl)) dOn_requireMeetingUse_6 ⟨Nat.le_of_ble_eq_true rfl, Nat.le_of_ble_eq_true rfl⟩) (hout _) hlocks hP hD hS hA [] [0] rfl rfl rfl rfl [0] rfl (fun _ => rfl) (fun u H locs hw hP hD hS => ?_) (fun k x u t locs b1 b2 b3 b4 b5 b6 b7 b8 b9 => hendX k x  t locs _ _ (Nat.le_of_ble_eq_true rfl) (Nat.le_of_ble_eq_true rfl) b1 b2 b3 b4 b5 b6 b7 b8 b9)
  have hP : va_P D vwCl (wdOn_requireMeetingUse cA ad N formStands) H := hP
  have hD : va_D A (wdOn_requireMeetingUse cA ad N formStands) := hD
  refine lv_aload_n hx hb dOn_requireMeetingUse_9 rfl (lv_at hl 0 rfl) ?_
  refine lv_iload_n hx hb dOn_requireMeetingUse_10 rfl (lv_at hl 3 rfl) ?_
  refine xcxv (xrunV ⟨hx, hb, hml, hown, hts⟩ (ktOn_requireBlockOrEntry l hfl D cA ad N _ formStands v3 _ _ hw) (cwV 1 hts (goodV kw_675 kw_677 ks_2_8 kw_1 kw_678) rfl rfl rfl (by decide +kernel) ⟨Nat.le_of_ble_eq_true rfl, Nat.le_of_ble_eq_true rfl⟩) (xpreVE hE hS hK hP hD hN [0] rfl rfl 0 rfl rfl) rfl rfl hl.1 rfl (lv_room (Nat.le_of_ble_eq_true rfl)) dOn_requireMeetingUse_11 ⟨Nat.le_of_ble_eq_true rfl, Nat.le_of_ble_eq_true rfl⟩) (hout _) hlocks hP hD hS hA [0] [] rfl rfl rfl rfl [0] rfl (fun _ => rfl) (fun u H locs hw hP hD hS => ?_) (fun k x u t locs b1 b2 b3 b4 b5 b6 b7 b8 b9 => hendX k x  t locs _ _ (Nat.le_of_ble_eq_true rfl) (Nat.le_of_ble_eq_true rfl) b1 b2 b3 b4 b5 b6 b7 b8 b9)
  have hP : va_P D vwCl (wdOn_requireMeetingUse cA ad N formStands) H := hP
  have hD : va_D A (wdOn_requireMeetingUse cA ad N formStands) := hD
  exact hend  _ _ _ _ dOn_requireMeetingUse_14 hP hD hS hw
abbrev wdOn_source (cA : ClassId) (ad : Nat → Nat) (N : Nat) (formStands : Bool) (meetingUses : Nat → Int32) : va_W := [((ad 0), .inr (0, [.int (nI N), .ref (ad 1), .ref (ad 11), .ref (ad 18), .ref (ad 30), .ref (ad 35), .ref (ad 38), .ref (ad 40), .ref (ad 42), .int (bI formStands)])), ((ad 18), .inr (3, [.ref (ad 1), .ref (ad 11), .int (nI N), .ref (ad 19), .ref (ad 20), .ref (ad 21), .ref (ad 22), .ref (ad 23), .ref (ad 24), .ref (ad 25), .ref (ad 26), .ref (ad 27), .ref (ad 28), .ref (ad 29)])), ((ad 20), .inl (cA, N * 6 * (N + 1), .inl meetingUses))]
abbrev qcOn_source (D : va_G) (cA : ClassId) (ad : Nat → Nat) (N : Nat) (formStands : Bool) (meetingUses : Nat → Int32) (post : Int32 → Prop) (postX : Nat → Prop) (A : Nat → Prop) : Array Value → State → Outcome → State → Prop := xQi (S := Unit) (fun r u => post r ) (fun k u => postX k ) (fun u t => xB D [(cA, .int)] A (wdOn_source cA ad N formStands meetingUses) t) A
abbrev rmOn_source : Room := { frames := 8, cells := 4, slots := 24, locals := 134 }
set_option maxHeartbeats 4000000 in
set_option maxRecDepth 100000 in
theorem ktOn_source (l : Launch) (hfl : l.flags = Jvm.pinnedFlags ++ [Jvm.noTraceFlag]) (D : va_G) (cA : ClassId) (ad : Nat → Nat) (N : Nat) (sz : Nat) (formStands : Bool) (meetingUses : Nat → Int32) (v1 : Int32) (v2 : Int32) (v3 : Int32) (post : Int32 → Prop) (postX : Nat → Prop) (hw : wpOn_source N formStands meetingUses v1 v2 v3 post postX) : MetX l yOn_source (Cond.code yOn_source cOn_source 4 (some .int) :: xW) rmOn_source (va_Pc [.ref (ad 0), .int v1, .int v2, .int v3] (xPcE D [(cA, .int)] (wdOn_source cA ad N formStands meetingUses) sz)) (qcOn_source D cA ad N formStands meetingUses post postX (va_A (wdOn_source cA ad N formStands meetingUses) sz)) 4 24 (va_A (wdOn_source cA ad N formStands meetingUses) sz) := by
  refine MetX.ofW (cc := cOn_source) (maxL := 4) (ret := (some .int)) (by decide) rfl ?_
  intro p e s m args below meth c s₁ B hml hv
  obtain ⟨rfl, ⟨hsz, hP, hK, hD0, hN⟩, hE0⟩ := hv
  have hx := B.exec
  have hb := B.bytes
  have hr := B.returns
  have hts := atoms_spec (ws := (Cond.code yOn_source cOn_source 4 (some .int) :: xW)) B.pre
  have hown : s.vm.findClass "OnceNamed" = some m.cls := findClass_of_methodNamed B.named
  have hlocks := B.notSynchronized
  subst hsz
  have hD := hD0.self (sz := s.heap.size)
  have hE := xEEfull hE0
  have htr := Launch.traces_off hfl B.admits
  have hout := xnoout (B.noHandlers (hts _ List.mem_cons_self))
  have htsx : ∀ w ∈ xW, w.before ([.ref (ad 0), .int v1, .int v2, .int v3] : List Value).toArray s = true := fun w h => hts w (List.mem_cons_of_mem _ h)
  generalize hAe : va_A (wdOn_source cA ad N formStands meetingUses) s.heap.size = A at hD hE ⊢
  have hA : ∀ q : Nat, s.heap.size ≤ q → A q := fun q h => by rw [← hAe]; exact Or.inr h
  have hS : va_S A s.heap s.heap [] := va_S.rf
  have hend : ∀ (r : Int32)  (H : Heap) (locs : List Loc) (pc : Nat) (ls : Array Slot), decode cOn_source pc = .ok (.ireturn, 1) → va_P D vwCl (wdOn_source cA ad N formStands meetingUses) H → va_D A (wdOn_source cA ad N formStands meetingUses) → va_S A s.heap H locs → post r  → W p l e (headSpec (Cond.code yOn_source cOn_source 4 (some .int) :: xW) rmOn_source).room s m ([.ref (ad 0), .int v1, .int v2, .int v3] : List Value).toArray below meth c H locs 4 24 (MQX below (qcOn_source D cA ad N formStands meetingUses post postX A) ([.ref (ad 0), .int v1, .int v2, .int v3] : List Value).toArray s 4 24 A) (F0 m pc ls [.int r]) := fun r  H locs pc ls hd hP hD hS hw => xWmono (fun _ => MQX.of) (W.iret (v := r) hx hb hr (fun t ht hW => ⟨Or.inl ⟨r, (), rfl, hw, ⟨by rw [ht]; exact hP, va_K.moved hW.alike hK, hD⟩⟩, hS.F ht⟩) hS.2.2 hd)
  have hendX : ∀ (k x : Nat)  (t : State) (locs : List Loc) (cells slots : Nat), cells ≤ 4 → slots ≤ 24 → t.status = .running → Ended t below (.threw x) → s.WarmedH t.vm → s.sameButNew ({ t with vm := s.vm } : State) locs cells slots → xExc k x s.heap.size t → va_P D vwCl (wdOn_source cA ad N formStands meetingUses) t.heap → va_D A (wdOn_source cA ad N formStands meetingUses) → va_S A s.heap t.heap locs → postX k  → MQX below (qcOn_source D cA ad N formStands meetingUses post postX A) ([.ref (ad 0), .int v1, .int v2, .int v3] : List Value).toArray s 4 24 A t := fun k x  t locs cells slots h1 h2 b1 b2 b3 b4 b5 hP hD hS hw => ⟨.threw x, b1, b2, ⟨Or.inr ⟨k, x, (), rfl, b5, hw, ⟨hP, va_K.moved b3.alike hK, hD⟩⟩, hS.F rfl⟩, locs, ⟨b3, b4.mono h1 h2⟩, hS.2.2⟩
  generalize hQ : MQX below (qcOn_source D cA ad N formStands meetingUses post postX A) ([.ref (ad 0), .int v1, .int v2, .int v3] : List Value).toArray s 4 24 A = Q at hend hendX ⊢
  have hl := lv_entry ([.ref (ad 0), .int v1, .int v2, .int v3]) (n := 4) (Nat.le_of_ble_eq_true rfl)
  rw [lg_entry_eq]
  generalize (lg_sl ([.ref (ad 0), .int v1, .int v2, .int v3]) ++ List.replicate (4 - (lg_sl ([.ref (ad 0), .int v1, .int v2, .int v3])).length) Slot.unset).toArray = ls at hl ⊢
  have hl : lv_has ls 4 [(0, .ref (ad 0)), (1, .int v1), (2, .int v2), (3, .int v3)] := hl
  unfold wpOn_source at hw
  refine lv_aload_n hx hb dOn_source_0 rfl (lv_at hl 0 rfl) ?_
  refine xcxv (xrunV ⟨hx, hb, hml, hown, hts⟩ (ktOn_requireForm l hfl D cA ad N _ formStands _ _ hw) (cwV 0 hts (goodV kw_568 kw_570 ks_2_1 kw_1 kw_571) rfl rfl rfl (by decide +kernel) ⟨Nat.le_of_ble_eq_true rfl, Nat.le_of_ble_eq_true rfl⟩) (xpreVE hE hS hK hP hD hN [0] rfl rfl 0 rfl rfl) rfl rfl hl.1 rfl (lv_room (Nat.le_of_ble_eq_true rfl)) dOn_source_1 ⟨Nat.le_of_ble_eq_true rfl, Nat.le_of_ble_eq_true rfl⟩) (hout _) hlocks hP hD hS hA [0] [1, 2] rfl rfl rfl rfl [2, 0, 1] rfl (fun _ => rfl) (fun u H locs hw hP hD hS => ?_) (fun k x u t locs b1 b2 b3 b4 b5 b6 b7 b8 b9 => hendX k x  t locs _ _ (Nat.le_of_ble_eq_true rfl) (Nat.le_of_ble_eq_true rfl) b1 b2 b3 b4 b5 b6 b7 b8 b9)
  have hP : va_P D vwCl (wdOn_source cA ad N formStands meetingUses) H := hP
  have hD : va_D A (wdOn_source cA ad N formStands meetingUses) := hD
  refine lv_aload_n hx hb dOn_source_4 rfl (lv_at hl 0 rfl) ?_
  refine lv_iload_n hx hb dOn_source_5 rfl (lv_at hl 1 rfl) ?_
  refine lv_iload_n hx hb dOn_source_6 rfl (lv_at hl 2 rfl) ?_
  refine lv_iload_n hx hb dOn_source_7 rfl (lv_at hl 3 rfl) ?_
  refine xcxv (xrunV ⟨hx, hb, hml, hown, hts⟩ (ktOn_requireMeetingUse l hfl D cA ad N _ formStands v1 v2 v3 _ _ hw) (cwV 3 hts (goodV kw_671 kw_673 ks_2_7 kw_1 kw_674) rfl rfl rfl (by decide +kernel) ⟨Nat.le_of_ble_eq_true rfl, Nat.le_of_ble_eq_true rfl⟩) (xpreVE hE hS hK hP hD hN [0] rfl rfl 0 rfl rfl) rfl rfl hl.1 rfl (lv_room (Nat.le_of_ble_eq_true rfl)) dOn_source_8 ⟨Nat.le_of_ble_eq_true rfl, Nat.le_of_ble_eq_true rfl⟩) (hout _) hlocks hP hD hS hA [0] [1, 2] rfl rfl rfl rfl [2, 0, 1] rfl (fun _ => rfl) (fun u H locs hw hP hD hS => ?_) (fun k x u t locs b1 b2 b3 b4 b5 b6 b7 b8 b9 => hendX k x  t locs _ _ (Nat.le_of_ble_eq_true rfl) (Nat.le_of_ble_eq_true rfl) b1 b2 b3 b4 b5 b6 b7 b8 b9)
  have hP : va_P D vwCl (wdOn_source cA ad N formStands meetingUses) H := hP
  have hD : va_D A (wdOn_source cA ad N formStands meetingUses) := hD
  refine lv_aload_n hx hb dOn_source_11 rfl (lv_at hl 0 rfl) ?_
  refine va_get (D := D) (ci := 0) (v := .ref (ad 18)) (C := "OnceNamed") (T := TX0) (N := 10) hx hb hts (fun w h => List.mem_cons_of_mem _ (inX0 w h)) hown hK hP 0 rfl rfl 3 (by decide) (hts _ (List.mem_cons_of_mem _ kw_270)) (fun _ h9 => h9) rfl dOn_source_12 ?_
  refine lv_iload_n hx hb dOn_source_15 rfl (lv_at hl 1 rfl) ?_
  refine lv_iload_n hx hb dOn_source_16 rfl (lv_at hl 2 rfl) ?_
  refine lv_iload_n hx hb dOn_source_17 rfl (lv_at hl 3 rfl) ?_
  refine xci (va_runV ⟨hx, hb, hml, hown, hts⟩ (ktNamedForm_meetingUse l D cA ad N _ meetingUses v1 v2 v3 _ hw) (cwV 3 hts (goodV kw_680 kw_681 kw_682 kw_6 kw_683) rfl rfl rfl (by decide +kernel) ⟨Nat.le_of_ble_eq_true rfl, Nat.le_of_ble_eq_true rfl⟩) (xpreV hK hP hD hN [1, 2] rfl rfl 1 rfl rfl) rfl rfl hl.1 rfl (lv_room (Nat.le_of_ble_eq_true rfl)) dOn_source_18 ⟨Nat.le_of_ble_eq_true rfl, Nat.le_of_ble_eq_true rfl⟩) hP hD hS hA [1, 2] [0] rfl rfl rfl rfl [0, 1, 2] rfl (fun _ => rfl) (fun r18 u H locs hw hP hD hS => ?_)
  have hP : va_P D vwCl (wdOn_source cA ad N formStands meetingUses) H := hP
  have hD : va_D A (wdOn_source cA ad N formStands meetingUses) := hD
  exact hend r18 _ _ _ _ dOn_source_21 hP hD hS hw
