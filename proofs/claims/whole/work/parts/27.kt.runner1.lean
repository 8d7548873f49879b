abbrev wdRunner_enterProgram (cA : ClassId) (ad : Nat → Nat) (N : Nat) (starts : Nat → Int32) (way : Int32) (values : Nat → Int32) : va_W := [((ad 1), .inr (1, [.int (nI N), .ref (ad 2), .ref (ad 3), .ref (ad 4), .ref (ad 5), .ref (ad 6), .ref (ad 7), .ref (ad 8), .ref (ad 9), .ref (ad 10)])), ((ad 10), .inl (cA, 6, .inl starts)), ((ad 18), .inr (3, [.ref (ad 1), .ref (ad 11), .int (nI N), .ref (ad 19), .ref (ad 20), .ref (ad 21), .ref (ad 22), .ref (ad 23), .ref (ad 24), .ref (ad 25), .ref (ad 26), .ref (ad 27), .ref (ad 28), .ref (ad 29)])), ((ad 35), .inr (5, [.ref (ad 1), .ref (ad 18), .ref (ad 30), .ref (ad 36), .ref (ad 37), .int way])), ((ad 36), .inl (cA, 601, .inl values))]
abbrev qcRunner_enterProgram (D : va_G) (cA : ClassId) (ad : Nat → Nat) (N : Nat) (starts : Nat → Int32) (way : Int32) (values : Nat → Int32) (post : (Nat → Int32) → Prop) (A : Nat → Prop) : Array Value → State → Outcome → State → Prop := va_Qv (S := (Nat → Int32)) (fun u => post u) (fun u t => xB D [(cA, .int)] A (wdRunner_enterProgram cA ad N starts way u) t) A
abbrev rmRunner_enterProgram : Room := { frames := 1, cells := 0, slots := 0, locals := 23 }
set_option maxHeartbeats 4000000 in
set_option maxRecDepth 100000 in
theorem ktRunner_enterProgram (l : Launch) (D : va_G) (cA : ClassId) (ad : Nat → Nat) (N : Nat) (sz : Nat) (starts : Nat → Int32) (way : Int32) (values : Nat → Int32)  (post : (Nat → Int32) → Prop) (hw : wpRunner_enterProgram starts values post) : Met l yRunner_enterProgram (Cond.code yRunner_enterProgram cRunner_enterProgram 2 none :: xW) rmRunner_enterProgram (va_Pc [.ref (ad 35)] (xPc D [(cA, .int)] (wdRunner_enterProgram cA ad N starts way values) sz)) (qcRunner_enterProgram D cA ad N starts way values post (va_A (wdRunner_enterProgram cA ad N starts way values) sz)) 0 0 (va_A (wdRunner_enterProgram cA ad N starts way values) sz) := by
  refine Met.ofW (cc := cRunner_enterProgram) (maxL := 2) (ret := none) (by decide) rfl ?_
  intro p e s m args below meth c s₁ B hml hv
  obtain ⟨rfl, hsz, hP, hK, hD0, hN⟩ := hv
  have hx := B.exec
  have hb := B.bytes
  have hr := B.returns
  have hts := atoms_spec (ws := (Cond.code yRunner_enterProgram cRunner_enterProgram 2 none :: xW)) B.pre
  have hown : s.vm.findClass "OnceNamed$Runner" = some m.cls := findClass_of_methodNamed B.named
  have hlocks := B.notSynchronized
  subst hsz
  have hD := hD0.self (sz := s.heap.size)
  generalize hAe : va_A (wdRunner_enterProgram cA ad N starts way values) s.heap.size = A at hD ⊢
  have hA : ∀ q : Nat, s.heap.size ≤ q → A q := fun q h => by rw [← hAe]; exact Or.inr h
  have hS : va_S A s.heap s.heap [] := va_S.rf
  have hend : ∀ (u0 : Nat → Int32) (H : Heap) (locs : List Loc) (pc : Nat) (ls : Array Slot), decode cRunner_enterProgram pc = .ok (.return_, 1) → va_P D vwCl (wdRunner_enterProgram cA ad N starts way u0) H → va_D A (wdRunner_enterProgram cA ad N starts way u0) → va_S A s.heap H locs → post u0 → W p l e (headSpec (Cond.code yRunner_enterProgram cRunner_enterProgram 2 none :: xW) rmRunner_enterProgram).room s m ([.ref (ad 35)] : List Value).toArray below meth c H locs 0 0 (MQ below (qcRunner_enterProgram D cA ad N starts way values post A) ([.ref (ad 35)] : List Value).toArray s 0 0 A) (F0 m pc ls []) := fun u0 H locs pc ls hd hP hD hS hw => W.vret hx hb hr (fun t ht hW => ⟨⟨u0, rfl, hw, ⟨by rw [ht]; exact hP, va_K.moved hW.alike hK, hD⟩⟩, hS.F ht⟩) hS.2.2 hd
  generalize hQ : MQ below (qcRunner_enterProgram D cA ad N starts way values post A) ([.ref (ad 35)] : List Value).toArray s 0 0 A = Q at hend ⊢
  have hl := lv_entry ([.ref (ad 35)]) (n := 2) (Nat.le_of_ble_eq_true rfl)
  rw [lg_entry_eq]
  generalize (lg_sl ([.ref (ad 35)]) ++ List.replicate (2 - (lg_sl ([.ref (ad 35)])).length) Slot.unset).toArray = ls at hl ⊢
  have hl : lv_has ls 2 [(0, .ref (ad 35))] := hl
  unfold wpRunner_enterProgram at hw
  refine lv_aload_n hx hb dRunner_enterProgram_0 rfl (lv_at hl 0 rfl) ?_
  refine va_get (D := D) (ci := 5) (v := .ref (ad 36)) (C := "OnceNamed$Runner") (T := TX5) (N := 6) hx hb hts (fun w h => List.mem_cons_of_mem _ (inX5 w h)) hown hK hP 3 rfl rfl 3 (by decide) (hts _ (List.mem_cons_of_mem _ kw_197)) (fun _ h9 => h9) rfl dRunner_enterProgram_1 ?_
  refine lv_iconst (v := 0) hx hb dRunner_enterProgram_4 (by decide) ?_
  refine xcv (va_runS ⟨hx, hb, hml, hown, hts⟩ (ktArrays_fill l D cA ad N (ad 36) 601 _ values 0 _ hw) (va_cwS 2 hts (goodS kw_836 kw_42 kw_4 kw_43) rfl rfl rfl (by decide +kernel) ⟨Nat.le_of_ble_eq_true rfl, Nat.le_of_ble_eq_true rfl⟩) (xpreS hK hP hD hN [4] rfl rfl) rfl rfl hl.1 rfl (lv_room (Nat.le_of_ble_eq_true rfl)) dRunner_enterProgram_5 ⟨Nat.le_of_ble_eq_true rfl, Nat.le_of_ble_eq_true rfl⟩) hP hD hS hA [4] [0, 1, 2, 3] rfl rfl rfl rfl [0, 1, 2, 3, 4] rfl (fun _ => rfl) (fun values_5 H locs hw hP hD hS => ?_)
  try dsimp only at hw
  have hP : va_P D vwCl (wdRunner_enterProgram cA ad N starts way values_5) H := hP
  have hD : va_D A (wdRunner_enterProgram cA ad N starts way values_5) := hD
  refine lv_iconst (v := 0) hx hb dRunner_enterProgram_8 (by decide) ?_
  refine lv_istore_n (lv' := [(1, .int 0), (0, .ref (ad 35))]) hx hb dRunner_enterProgram_9 rfl hl (by decide) rfl (fun ls hl => ?_)
  obtain ⟨k10, hw⟩ := hw
  have hlp10 : ∀ (k : Nat), ∀ (v1_L10 : Int32) (values_L10 : Nat → Int32) (ls : Array Slot) (H : Heap) (locs : List Loc), lv_has ls 2 [(0, .ref (ad 35)), (1, .int v1_L10)] → va_P D vwCl (wdRunner_enterProgram cA ad N starts way values_L10) H → va_D A (wdRunner_enterProgram cA ad N starts way values_L10) → va_S A s.heap H locs → lpRunner_enterProgram_10 starts post k v1_L10 values_L10 → W p l e (headSpec (Cond.code yRunner_enterProgram cRunner_enterProgram 2 none :: xW) rmRunner_enterProgram).room s m ([.ref (ad 35)] : List Value).toArray below meth c H locs 0 0 Q (F0 m 10 ls []) := by
    intro k
    induction k with
    | zero => intro v1_L10 values_L10 ls H locs hl hP hD hS hw; exact False.elim hw
    | succ k ih =>
      intro v1_L10 values_L10 ls H locs hl hP hD hS hw
      refine lv_iload_n hx hb dRunner_enterProgram_10 rfl (lv_at hl 1 rfl) ?_
      refine lv_bipush (v := 6) hx hb dRunner_enterProgram_11 (by decide) ?_
      refine lv_icmp_ge (tgt := 43) hx hb dRunner_enterProgram_13 rfl (fun hc => ?_) (fun hc => ?_)
      · have hw := hw.1 hc
        exact hend values_L10 _ _ _ _ dRunner_enterProgram_43 hP hD hS hw
      · have hw := hw.2 hc
        refine lv_aload_n hx hb dRunner_enterProgram_16 rfl (lv_at hl 0 rfl) ?_
        refine va_get (D := D) (ci := 5) (v := .ref (ad 36)) (C := "OnceNamed$Runner") (T := TX5) (N := 6) hx hb hts (fun w h => List.mem_cons_of_mem _ (inX5 w h)) hown hK hP 3 rfl rfl 3 (by decide) (hts _ (List.mem_cons_of_mem _ kw_197)) (fun _ h9 => h9) rfl dRunner_enterProgram_17 ?_
        refine lv_aload_n hx hb dRunner_enterProgram_20 rfl (lv_at hl 0 rfl) ?_
        refine va_get (D := D) (ci := 5) (v := .ref (ad 18)) (C := "OnceNamed$Runner") (T := TX5) (N := 6) hx hb hts (fun w h => List.mem_cons_of_mem _ (inX5 w h)) hown hK hP 3 rfl rfl 1 (by decide) (hts _ (List.mem_cons_of_mem _ kw_195)) (fun _ h9 => h9) rfl dRunner_enterProgram_21 ?_
        refine lv_iload_n hx hb dRunner_enterProgram_24 rfl (lv_at hl 1 rfl) ?_
        refine xci (va_runV ⟨hx, hb, hml, hown, hts⟩ (ktNamedForm_entryName l D cA ad N _ v1_L10 _ hw) (cwV 1 hts (goodV kw_837 kw_838 kw_839 kw_6 kw_840) rfl rfl rfl (by decide +kernel) ⟨Nat.le_of_ble_eq_true rfl, Nat.le_of_ble_eq_true rfl⟩) (xpreV hK hP hD hN [] rfl rfl 2 rfl rfl) rfl rfl hl.1 rfl (lv_room (Nat.le_of_ble_eq_true rfl)) dRunner_enterProgram_25 ⟨Nat.le_of_ble_eq_true rfl, Nat.le_of_ble_eq_true rfl⟩) hP hD hS hA [] [0, 1, 2, 3, 4] rfl rfl rfl rfl [0, 1, 2, 3, 4] rfl (fun _ => rfl) (fun r25 u H locs hw hP hD hS => ?_)
        have hP : va_P D vwCl (wdRunner_enterProgram cA ad N starts way values_L10) H := hP
        have hD : va_D A (wdRunner_enterProgram cA ad N starts way values_L10) := hD
        refine lv_aload_n hx hb dRunner_enterProgram_28 rfl (lv_at hl 0 rfl) ?_
        refine va_get (D := D) (ci := 5) (v := .ref (ad 1)) (C := "OnceNamed$Runner") (T := TX5) (N := 6) hx hb hts (fun w h => List.mem_cons_of_mem _ (inX5 w h)) hown hK hP 3 rfl rfl 0 (by decide) (hts _ (List.mem_cons_of_mem _ kw_194)) (fun _ h9 => h9) rfl dRunner_enterProgram_29 ?_
        refine lv_iload_n hx hb dRunner_enterProgram_32 rfl (lv_at hl 1 rfl) ?_
        refine xci (va_runV ⟨hx, hb, hml, hown, hts⟩ (ktProgram_startOf l D cA ad N _ starts v1_L10 _ hw) (cwV 1 hts (goodV kw_841 kw_842 kw_843 kw_3 kw_844) rfl rfl rfl (by decide +kernel) ⟨Nat.le_of_ble_eq_true rfl, Nat.le_of_ble_eq_true rfl⟩) (xpreV hK hP hD hN [0, 1] rfl rfl 0 rfl rfl) rfl rfl hl.1 rfl (lv_room (Nat.le_of_ble_eq_true rfl)) dRunner_enterProgram_33 ⟨Nat.le_of_ble_eq_true rfl, Nat.le_of_ble_eq_true rfl⟩) hP hD hS hA [0, 1] [2, 3, 4] rfl rfl rfl rfl [3, 4, 0, 1, 2] rfl (fun _ => rfl) (fun r33 u H locs hw hP hD hS => ?_)
        have hP : va_P D vwCl (wdRunner_enterProgram cA ad N starts way values_L10) H := hP
        have hD : va_D A (wdRunner_enterProgram cA ad N starts way values_L10) := hD
        have ho := hw.1
        have hw := hw.2
        refine va_iast hx hb hK hP hD hS 4 0 rfl rfl ho dRunner_enterProgram_36 (fun H locs hP hD hS => ?_)
        have hP : va_P D vwCl (wdRunner_enterProgram cA ad N starts way (upd values_L10 (Int32.toNatClampNeg r25) r33)) H := hP
        have hD : va_D A (wdRunner_enterProgram cA ad N starts way (upd values_L10 (Int32.toNatClampNeg r25) r33)) := hD
        refine lv_iinc (k := 1) (v := (v1_L10 + 1)) (lv' := [(1, .int (v1_L10 + 1)), (0, .ref (ad 35))]) hx hb dRunner_enterProgram_37 hl rfl rfl (by decide) rfl (fun ls hl => ?_)
        refine lv_goto (tgt := 10) hx hb dRunner_enterProgram_40 rfl ?_
        exact ih (v1_L10 + 1) (upd values_L10 (Int32.toNatClampNeg r25) r33) _ _ _ (lv_sub hl [1, 0] rfl) hP hD hS hw
  refine hlp10 k10 0 values_5 _ _ _ (lv_sub hl [1, 0] rfl) hP hD hS hw
abbrev wdRunner_valueOf (cA : ClassId) (ad : Nat → Nat) (N : Nat) (way : Int32) (values : Nat → Int32) : va_W := [((ad 35), .inr (5, [.ref (ad 1), .ref (ad 18), .ref (ad 30), .ref (ad 36), .ref (ad 37), .int way])), ((ad 36), .inl (cA, 601, .inl values))]
abbrev qcRunner_valueOf (D : va_G) (cA : ClassId) (ad : Nat → Nat) (N : Nat) (way : Int32) (values : Nat → Int32) (post : Int32 → Prop) (A : Nat → Prop) : Array Value → State → Outcome → State → Prop := va_Qi (S := Unit) (fun r u => post r ) (fun u t => xB D [(cA, .int)] A (wdRunner_valueOf cA ad N way values) t) A
abbrev rmRunner_valueOf : Room := { frames := 0, cells := 0, slots := 0, locals := 0 }
set_option maxHeartbeats 4000000 in
set_option maxRecDepth 100000 in
theorem ktRunner_valueOf (l : Launch) (D : va_G) (cA : ClassId) (ad : Nat → Nat) (N : Nat) (sz : Nat) (way : Int32) (values : Nat → Int32) (v1 : Int32) (post : Int32 → Prop) (hw : wpRunner_valueOf values v1 post) : Met l yRunner_valueOf (Cond.code yRunner_valueOf cRunner_valueOf 2 (some .int) :: xW) rmRunner_valueOf (va_Pc [.ref (ad 35), .int v1] (xPc D [(cA, .int)] (wdRunner_valueOf cA ad N way values) sz)) (qcRunner_valueOf D cA ad N way values post (va_A (wdRunner_valueOf cA ad N way values) sz)) 0 0 (va_A (wdRunner_valueOf cA ad N way values) sz) := by
  refine Met.ofW (cc := cRunner_valueOf) (maxL := 2) (ret := (some .int)) (by decide) rfl ?_
  intro p e s m args below meth c s₁ B hml hv
  obtain ⟨rfl, hsz, hP, hK, hD0, hN⟩ := hv
  have hx := B.exec
  have hb := B.bytes
  have hr := B.returns
  have hts := atoms_spec (ws := (Cond.code yRunner_valueOf cRunner_valueOf 2 (some .int) :: xW)) B.pre
  have hown : s.vm.findClass "OnceNamed$Runner" = some m.cls := findClass_of_methodNamed B.named
  have hlocks := B.notSynchronized
  subst hsz
  have hD := hD0.self (sz := s.heap.size)
  generalize hAe : va_A (wdRunner_valueOf cA ad N way values) s.heap.size = A at hD ⊢
  have hA : ∀ q : Nat, s.heap.size ≤ q → A q := fun q h => by rw [← hAe]; exact Or.inr h
  have hS : va_S A s.heap s.heap [] := va_S.rf
  have hend : ∀ (r : Int32)  (H : Heap) (locs : List Loc) (pc : Nat) (ls : Array Slot), decode cRunner_valueOf pc = .ok (.ireturn, 1) → va_P D vwCl (wdRunner_valueOf cA ad N way values) H → va_D A (wdRunner_valueOf cA ad N way values) → va_S A s.heap H locs → post r  → W p l e (headSpec (Cond.code yRunner_valueOf cRunner_valueOf 2 (some .int) :: xW) rmRunner_valueOf).room s m ([.ref (ad 35), .int v1] : List Value).toArray below meth c H locs 0 0 (MQ below (qcRunner_valueOf D cA ad N way values post A) ([.ref (ad 35), .int v1] : List Value).toArray s 0 0 A) (F0 m pc ls [.int r]) := fun r  H locs pc ls hd hP hD hS hw => W.iret (v := r) hx hb hr (fun t ht hW => ⟨⟨r, (), rfl, hw, ⟨by rw [ht]; exact hP, va_K.moved hW.alike hK, hD⟩⟩, hS.F ht⟩) hS.2.2 hd
  generalize hQ : MQ below (qcRunner_valueOf D cA ad N way values post A) ([.ref (ad 35), .int v1] : List Value).toArray s 0 0 A = Q at hend ⊢
  have hl := lv_entry ([.ref (ad 35), .int v1]) (n := 2) (Nat.le_of_ble_eq_true rfl)
  rw [lg_entry_eq]
  generalize (lg_sl ([.ref (ad 35), .int v1]) ++ List.replicate (2 - (lg_sl ([.ref (ad 35), .int v1])).length) Slot.unset).toArray = ls at hl ⊢
  have hl : lv_has ls 2 [(0, .ref (ad 35)), (1, .int v1)] := hl
  unfold wpRunner_valueOf at hw
  refine lv_iload_n hx hb dRunner_valueOf_0 rfl (lv_at hl 1 rfl) ?_
  refine lv_iconst (v := (-1)) hx hb dRunner_valueOf_1 (by decide) ?_
  refine lv_icmp_ne (tgt := 9) hx hb dRunner_valueOf_2 rfl (fun hc => ?_) (fun hc => ?_)
  · have hw := hw.1 hc
    refine lv_aload_n hx hb dRunner_valueOf_9 rfl (lv_at hl 0 rfl) ?_
    refine va_get (D := D) (ci := 5) (v := .ref (ad 36)) (C := "OnceNamed$Runner") (T := TX5) (N := 6) hx hb hts (fun w h => List.mem_cons_of_mem _ (inX5 w h)) hown hK hP 0 rfl rfl 3 (by decide) (hts _ (List.mem_cons_of_mem _ kw_197)) (fun _ h9 => h9) rfl dRunner_valueOf_10 ?_
    refine lv_iload_n hx hb dRunner_valueOf_13 rfl (lv_at hl 1 rfl) ?_
    have ho := hw.1
    have hw := hw.2
    refine va_iald hx hb hK hP 1 0 rfl rfl ho dRunner_valueOf_14 ?_
    exact hend (values (Int32.toNatClampNeg v1)) _ _ _ _ dRunner_valueOf_15 hP hD hS hw
  · have hw := hw.2 hc
    refine lv_iconst (v := 0) hx hb dRunner_valueOf_5 (by decide) ?_
    refine lv_goto (tgt := 15) hx hb dRunner_valueOf_6 rfl ?_
    exact hend 0 _ _ _ _ dRunner_valueOf_15 hP hD hS hw
abbrev wdRunner_reckon (cA : ClassId) (ad : Nat → Nat) (N : Nat)  : va_W := []
abbrev qcRunner_reckon (D : va_G) (cA : ClassId) (ad : Nat → Nat) (N : Nat)  (post : Int32 → Prop) (A : Nat → Prop) : Array Value → State → Outcome → State → Prop := va_Qi (S := Unit) (fun r u => post r ) (fun u t => xB D [(cA, .int)] A (wdRunner_reckon cA ad N) t) A
abbrev rmRunner_reckon : Room := { frames := 0, cells := 0, slots := 0, locals := 0 }
set_option maxHeartbeats 4000000 in
set_option maxRecDepth 100000 in
theorem ktRunner_reckon (l : Launch) (D : va_G) (cA : ClassId) (ad : Nat → Nat) (N : Nat) (sz : Nat)  (v0 : Int32) (v1 : Int32) (v2 : Int32) (post : Int32 → Prop) (hw : wpRunner_reckon v0 v1 v2 post) : Met l yRunner_reckon (Cond.code yRunner_reckon cRunner_reckon 3 (some .int) :: xW) rmRunner_reckon (va_Pc [.int v0, .int v1, .int v2] (xPc D [(cA, .int)] (wdRunner_reckon cA ad N) sz)) (qcRunner_reckon D cA ad N  post (va_A (wdRunner_reckon cA ad N) sz)) 0 0 (va_A (wdRunner_reckon cA ad N) sz) := by
  refine Met.ofW (cc := cRunner_reckon) (maxL := 3) (ret := (some .int)) (by decide) rfl ?_
  intro p e s m args below meth c s₁ B hml hv
  obtain ⟨rfl, hsz, hP, hK, hD0, hN⟩ := hv
  have hx := B.exec
  have hb := B.bytes
  have hr := B.returns
  have hts := atoms_spec (ws := (Cond.code yRunner_reckon cRunner_reckon 3 (some .int) :: xW)) B.pre
  have hown : s.vm.findClass "OnceNamed$Runner" = some m.cls := findClass_of_methodNamed B.named
  have hlocks := B.notSynchronized
  subst hsz
  have hD := hD0.self (sz := s.heap.size)
  generalize hAe : va_A (wdRunner_reckon cA ad N) s.heap.size = A at hD ⊢
  have hA : ∀ q : Nat, s.heap.size ≤ q → A q := fun q h => by rw [← hAe]; exact Or.inr h
  have hS : va_S A s.heap s.heap [] := va_S.rf
  have hend : ∀ (r : Int32)  (H : Heap) (locs : List Loc) (pc : Nat) (ls : Array Slot), decode cRunner_reckon pc = .ok (.ireturn, 1) → va_P D vwCl (wdRunner_reckon cA ad N) H → va_D A (wdRunner_reckon cA ad N) → va_S A s.heap H locs → post r  → W p l e (headSpec (Cond.code yRunner_reckon cRunner_reckon 3 (some .int) :: xW) rmRunner_reckon).room s m ([.int v0, .int v1, .int v2] : List Value).toArray below meth c H locs 0 0 (MQ below (qcRunner_reckon D cA ad N  post A) ([.int v0, .int v1, .int v2] : List Value).toArray s 0 0 A) (F0 m pc ls [.int r]) := fun r  H locs pc ls hd hP hD hS hw => W.iret (v := r) hx hb hr (fun t ht hW => ⟨⟨r, (), rfl, hw, ⟨by rw [ht]; exact hP, va_K.moved hW.alike hK, hD⟩⟩, hS.F ht⟩) hS.2.2 hd
  generalize hQ : MQ below (qcRunner_reckon D cA ad N  post A) ([.int v0, .int v1, .int v2] : List Value).toArray s 0 0 A = Q at hend ⊢
  have hl := lv_entry ([.int v0, .int v1, .int v2]) (n := 3) (Nat.le_of_ble_eq_true rfl)
  rw [lg_entry_eq]
  generalize (lg_sl ([.int v0, .int v1, .int v2]) ++ List.replicate (3 - (lg_sl ([.int v0, .int v1, .int v2])).length) Slot.unset).toArray = ls at hl ⊢
  have hl : lv_has ls 3 [(0, .int v0), (1, .int v1), (2, .int v2)] := hl
  unfold wpRunner_reckon at hw
  refine lv_iload_n hx hb dRunner_reckon_0 rfl (lv_at hl 0 rfl) ?_
  by_cases hs2 : v0 = 2
  · have hw := hw.1 hs2
    refine lv_tableIn (tgt := 36) hx hb dRunner_reckon_1 (by rw [hs2]; decide) (by rw [hs2]; decide) (by rw [hs2]; rfl) rfl ?_
    refine lv_iload_n hx hb dRunner_reckon_36 rfl (lv_at hl 1 rfl) ?_
    refine lv_iload_n hx hb dRunner_reckon_37 rfl (lv_at hl 2 rfl) ?_
    refine lv_iadd hx hb dRunner_reckon_38 ?_
    exact hend (v1 + v2) _ _ _ _ dRunner_reckon_39 hP hD hS hw
  by_cases hs3 : v0 = 3
  · have hw := hw.2.1 hs3
    refine lv_tableIn (tgt := 40) hx hb dRunner_reckon_1 (by rw [hs3]; decide) (by rw [hs3]; decide) (by rw [hs3]; rfl) rfl ?_
    refine lv_iload_n hx hb dRunner_reckon_40 rfl (lv_at hl 1 rfl) ?_
    refine lv_iload_n hx hb dRunner_reckon_41 rfl (lv_at hl 2 rfl) ?_
    refine lv_isub hx hb dRunner_reckon_42 ?_
    exact hend (v1 - v2) _ _ _ _ dRunner_reckon_43 hP hD hS hw
  by_cases hs4 : v0 = 4
  · have hw := hw.2.2.1 hs4
    refine lv_tableIn (tgt := 44) hx hb dRunner_reckon_1 (by rw [hs4]; decide) (by rw [hs4]; decide) (by rw [hs4]; rfl) rfl ?_
    refine lv_iload_n hx hb dRunner_reckon_44 rfl (lv_at hl 1 rfl) ?_
    refine lv_iload_n hx hb dRunner_reckon_45 rfl (lv_at hl 2 rfl) ?_
    refine lv_imul hx hb dRunner_reckon_46 ?_
    exact hend (v1 * v2) _ _ _ _ dRunner_reckon_47 hP hD hS hw
  by_cases hs5 : v0 = 5
  · have hw := hw.2.2.2.1 hs5
    refine lv_tableIn (tgt := 48) hx hb dRunner_reckon_1 (by rw [hs5]; decide) (by rw [hs5]; decide) (by rw [hs5]; rfl) rfl ?_
    refine lv_iload_n hx hb dRunner_reckon_48 rfl (lv_at hl 2 rfl) ?_
    refine lv_if_ne (tgt := 56) hx hb dRunner_reckon_49 rfl (fun hc => ?_) (fun hc => ?_)
    · have hw := hw.1 hc
      refine lv_iload_n hx hb dRunner_reckon_56 rfl (lv_at hl 1 rfl) ?_
      refine lv_iload_n hx hb dRunner_reckon_57 rfl (lv_at hl 2 rfl) ?_
      have ho := hw.1
      have hw := hw.2
      refine lv_idiv hx hb dRunner_reckon_58 ho ?_
      exact hend (v1 / v2) _ _ _ _ dRunner_reckon_59 hP hD hS hw
    · have hw := hw.2 hc
      refine lv_iconst (v := 0) hx hb dRunner_reckon_52 (by decide) ?_
      refine lv_goto (tgt := 59) hx hb dRunner_reckon_53 rfl ?_
      exact hend 0 _ _ _ _ dRunner_reckon_59 hP hD hS hw
  by_cases hs6 : v0 = 6
  · have hw := hw.2.2.2.2.1 hs6
    refine lv_tableIn (tgt := 60) hx hb dRunner_reckon_1 (by rw [hs6]; decide) (by rw [hs6]; decide) (by rw [hs6]; rfl) rfl ?_
    refine lv_iload_n hx hb dRunner_reckon_60 rfl (lv_at hl 1 rfl) ?_
    refine lv_iload_n hx hb dRunner_reckon_61 rfl (lv_at hl 2 rfl) ?_
    refine lv_icmp_ge (tgt := 69) hx hb dRunner_reckon_62 rfl (fun hc => ?_) (fun hc => ?_)
    · have hw := hw.1 hc
      refine lv_iconst (v := 0) hx hb dRunner_reckon_69 (by decide) ?_
      exact hend 0 _ _ _ _ dRunner_reckon_70 hP hD hS hw
    · have hw := hw.2 hc
      refine lv_iconst (v := 1) hx hb dRunner_reckon_65 (by decide) ?_
      refine lv_goto (tgt := 70) hx hb dRunner_reckon_66 rfl ?_
      exact hend 1 _ _ _ _ dRunner_reckon_70 hP hD hS hw
  have hw := hw.2.2.2.2.2 hs2 hs3 hs4 hs5 hs6
  refine lv_tableOut (tgt := 71) hx hb dRunner_reckon_1 (xsw_out5 hs2 hs3 hs4 hs5 hs6) rfl ?_
  refine lv_iload_n hx hb dRunner_reckon_71 rfl (lv_at hl 1 rfl) ?_
  exact hend v1 _ _ _ _ dRunner_reckon_72 hP hD hS hw
abbrev wdRunner_doStep (cA : ClassId) (ad : Nat → Nat) (N : Nat) (R6a : Nat) (R6b : Nat) (kind : Nat → Int32) (first : Nat → Int32) (way : Int32) (values : Nat → Int32) (R6size : Int32) (R6out : Int32) (R6num : Nat → Int32) : va_W := [((ad 1), .inr (1, [.int (nI N), .ref (ad 2), .ref (ad 3), .ref (ad 4), .ref (ad 5), .ref (ad 6), .ref (ad 7), .ref (ad 8), .ref (ad 9), .ref (ad 10)])), ((ad 3), .inl (cA, N * 6, .inl kind)), ((ad 5), .inl (cA, N * 6, .inl first)), ((ad 35), .inr (5, [.ref (ad 1), .ref (ad 18), .ref (ad 30), .ref (ad 36), .ref (ad 37), .int way])), ((ad 36), .inl (cA, 601, .inl values)), (R6a, .inr (6, [.ref R6b, .int R6size, .int R6out])), (R6b, .inl (cA, 50, .inl R6num))]
abbrev qcRunner_doStep (D : va_G) (cA : ClassId) (ad : Nat → Nat) (N : Nat) (R6a : Nat) (R6b : Nat) (kind : Nat → Int32) (first : Nat → Int32) (way : Int32) (values : Nat → Int32) (R6size : Int32) (R6out : Int32) (R6num : Nat → Int32) (post : (Nat → Int32) → Int32 → Int32 → (Nat → Int32) → Prop) (A : Nat → Prop) : Array Value → State → Outcome → State → Prop := va_Qv (S := (Nat → Int32) × (Int32) × (Int32) × (Nat → Int32)) (fun u => post u.1 u.2.1 u.2.2.1 u.2.2.2) (fun u t => xB D [(cA, .int)] A (wdRunner_doStep cA ad N R6a R6b kind first way u.1 u.2.1 u.2.2.1 u.2.2.2) t) A
abbrev rmRunner_doStep : Room := { frames := 1, cells := 0, slots := 0, locals := 22 }
set_option maxHeartbeats 4000000 in
set_option maxRecDepth 100000 in
theorem ktRunner_doStep (l : Launch) (D : va_G) (cA : ClassId) (ad : Nat → Nat) (N : Nat) (R6a : Nat) (R6b : Nat) (sz : Nat) (kind : Nat → Int32) (first : Nat → Int32) (way : Int32) (values : Nat → Int32) (R6size : Int32) (R6out : Int32) (R6num : Nat → Int32) (v1 : Int32) (v2 : Int32) (v3 : Int32) (v4 : Int32) (v5 : Int32) (post : (Nat → Int32) → Int32 → Int32 → (Nat → Int32) → Prop) (hw : wpRunner_doStep N kind first values R6size R6out R6num v1 v2 v3 v4 v5 post) : Met l yRunner_doStep (Cond.code yRunner_doStep cRunner_doStep 10 none :: xW) rmRunner_doStep (va_Pc [.ref (ad 35), .int v1, .int v2, .int v3, .int v4, .int v5, .ref R6a] (xPc D [(cA, .int)] (wdRunner_doStep cA ad N R6a R6b kind first way values R6size R6out R6num) sz)) (qcRunner_doStep D cA ad N R6a R6b kind first way values R6size R6out R6num post (va_A (wdRunner_doStep cA ad N R6a R6b kind first way values R6size R6out R6num) sz)) 0 0 (va_A (wdRunner_doStep cA ad N R6a R6b kind first way values R6size R6out R6num) sz) := by
  refine Met.ofW (cc := cRunner_doStep) (maxL := 10) (ret := none) (by decide) rfl ?_
  intro p e s m args below meth c s₁ B hml hv
  obtain ⟨rfl, hsz, hP, hK, hD0, hN⟩ := hv
  have hx := B.exec
  have hb := B.bytes
  have hr := B.returns
  have hts := atoms_spec (ws := (Cond.code yRunner_doStep cRunner_doStep 10 none :: xW)) B.pre
  have hown : s.vm.findClass "OnceNamed$Runner" = some m.cls := findClass_of_methodNamed B.named
  have hlocks := B.notSynchronized
  subst hsz
  have hD := hD0.self (sz := s.heap.size)
  generalize hAe : va_A (wdRunner_doStep cA ad N R6a R6b kind first way values R6size R6out R6num) s.heap.size = A at hD ⊢
  have hA : ∀ q : Nat, s.heap.size ≤ q → A q := fun q h => by rw [← hAe]; exact Or.inr h
  have hS : va_S A s.heap s.heap [] := va_S.rf
  have hend : ∀ (u0 : Nat → Int32) (u1 : Int32) (u2 : Int32) (u3 : Nat → Int32) (H : Heap) (locs : List Loc) (pc : Nat) (ls : Array Slot), decode cRunner_doStep pc = .ok (.return_, 1) → va_P D vwCl (wdRunner_doStep cA ad N R6a R6b kind first way u0 u1 u2 u3) H → va_D A (wdRunner_doStep cA ad N R6a R6b kind first way u0 u1 u2 u3) → va_S A s.heap H locs → post u0 u1 u2 u3 → W p l e (headSpec (Cond.code yRunner_doStep cRunner_doStep 10 none :: xW) rmRunner_doStep).room s m ([.ref (ad 35), .int v1, .int v2, .int v3, .int v4, .int v5, .ref R6a] : List Value).toArray below meth c H locs 0 0 (MQ below (qcRunner_doStep D cA ad N R6a R6b kind first way values R6size R6out R6num post A) ([.ref (ad 35), .int v1, .int v2, .int v3, .int v4, .int v5, .ref R6a] : List Value).toArray s 0 0 A) (F0 m pc ls []) := fun u0 u1 u2 u3 H locs pc ls hd hP hD hS hw => W.vret hx hb hr (fun t ht hW => ⟨⟨(u0, u1, u2, u3), rfl, hw, ⟨by rw [ht]; exact hP, va_K.moved hW.alike hK, hD⟩⟩, hS.F ht⟩) hS.2.2 hd
  generalize hQ : MQ below (qcRunner_doStep D cA ad N R6a R6b kind first way values R6size R6out R6num post A) ([.ref (ad 35), .int v1, .int v2, .int v3, .int v4, .int v5, .ref R6a] : List Value).toArray s 0 0 A = Q at hend ⊢
  have hl := lv_entry ([.ref (ad 35), .int v1, .int v2, .int v3, .int v4, .int v5, .ref R6a]) (n := 10) (Nat.le_of_ble_eq_true rfl)
  rw [lg_entry_eq]
  generalize (lg_sl ([.ref (ad 35), .int v1, .int v2, .int v3, .int v4, .int v5, .ref R6a]) ++ List.replicate (10 - (lg_sl ([.ref (ad 35), .int v1, .int v2, .int v3, .int v4, .int v5, .ref R6a])).length) Slot.unset).toArray = ls at hl ⊢
  have hl : lv_has ls 10 [(0, .ref (ad 35)), (1, .int v1), (2, .int v2), (3, .int v3), (4, .int v4), (5, .int v5), (6, .ref R6a)] := hl
  unfold wpRunner_doStep at hw
  refine lv_aload_n hx hb dRunner_doStep_0 rfl (lv_at hl 0 rfl) ?_
  refine va_get (D := D) (ci := 5) (v := .ref (ad 1)) (C := "OnceNamed$Runner") (T := TX5) (N := 6) hx hb hts (fun w h => List.mem_cons_of_mem _ (inX5 w h)) hown hK hP 3 rfl rfl 0 (by decide) (hts _ (List.mem_cons_of_mem _ kw_194)) (fun _ h9 => h9) rfl dRunner_doStep_1 ?_
  refine lv_iload_n hx hb dRunner_doStep_4 rfl (lv_at hl 1 rfl) ?_
  refine lv_iload_n hx hb dRunner_doStep_5 rfl (lv_at hl 2 rfl) ?_
  refine xci (va_runV ⟨hx, hb, hml, hown, hts⟩ (ktProgram_kindOf l D cA ad N _ kind v1 v2 _ hw) (cwV 2 hts (goodV kw_890 kw_618 kw_619 kw_3 kw_620) rfl rfl rfl (by decide +kernel) ⟨Nat.le_of_ble_eq_true rfl, Nat.le_of_ble_eq_true rfl⟩) (xpreV hK hP hD hN [0, 1] rfl rfl 0 rfl rfl) rfl rfl hl.1 rfl (lv_room (Nat.le_of_ble_eq_true rfl)) dRunner_doStep_6 ⟨Nat.le_of_ble_eq_true rfl, Nat.le_of_ble_eq_true rfl⟩) hP hD hS hA [0, 1] [2, 3, 4, 5, 6] rfl rfl rfl rfl [5, 6, 0, 1, 2, 3, 4] rfl (fun _ => rfl) (fun r6 u H locs hw hP hD hS => ?_)
  have hP : va_P D vwCl (wdRunner_doStep cA ad N R6a R6b kind first way values R6size R6out R6num) H := hP
  have hD : va_D A (wdRunner_doStep cA ad N R6a R6b kind first way values R6size R6out R6num) := hD
  refine lv_istore (lv' := [(7, .int r6), (0, .ref (ad 35)), (1, .int v1), (2, .int v2), (3, .int v3), (4, .int v4), (5, .int v5), (6, .ref R6a)]) hx hb dRunner_doStep_9 hl (by decide) rfl (fun ls hl => ?_)
  refine lv_aload_n hx hb dRunner_doStep_11 rfl (lv_at hl 1 rfl) ?_
  refine lv_iload hx hb dRunner_doStep_12 (lv_at hl 5 rfl) ?_
  refine xci (va_runV ⟨hx, hb, hml, hown, hts⟩ (ktRunner_valueOf l D cA ad N _ way values v4 _ hw) (cwV 1 hts (goodV kw_851 kw_853 ks_3_6 kw_8 kw_854) rfl rfl rfl (by decide +kernel) ⟨Nat.le_of_ble_eq_true rfl, Nat.le_of_ble_eq_true rfl⟩) (xpreV hK hP hD hN [3, 4] rfl rfl 3 rfl rfl) rfl rfl hl.1 rfl (lv_room (Nat.le_of_ble_eq_true rfl)) dRunner_doStep_14 ⟨Nat.le_of_ble_eq_true rfl, Nat.le_of_ble_eq_true rfl⟩) hP hD hS hA [3, 4] [0, 1, 2, 5, 6] rfl rfl rfl rfl [0, 1, 2, 5, 6, 3, 4] rfl (fun _ => rfl) (fun r14 u H locs hw hP hD hS => ?_)
  have hP : va_P D vwCl (wdRunner_doStep cA ad N R6a R6b kind first way values R6size R6out R6num) H := hP
  have hD : va_D A (wdRunner_doStep cA ad N R6a R6b kind first way values R6size R6out R6num) := hD
  refine lv_istore (lv' := [(8, .int r14), (7, .int r6), (0, .ref (ad 35)), (1, .int v1), (2, .int v2), (3, .int v3), (4, .int v4), (5, .int v5), (6, .ref R6a)]) hx hb dRunner_doStep_17 hl (by decide) rfl (fun ls hl => ?_)
  refine lv_aload_n hx hb dRunner_doStep_19 rfl (lv_at hl 2 rfl) ?_
  refine lv_iload hx hb dRunner_doStep_20 (lv_at hl 7 rfl) ?_
  refine xci (va_runV ⟨hx, hb, hml, hown, hts⟩ (ktRunner_valueOf l D cA ad N _ way values v5 _ hw) (cwV 1 hts (goodV kw_851 kw_853 ks_3_6 kw_8 kw_854) rfl rfl rfl (by decide +kernel) ⟨Nat.le_of_ble_eq_true rfl, Nat.le_of_ble_eq_true rfl⟩) (xpreV hK hP hD hN [3, 4] rfl rfl 3 rfl rfl) rfl rfl hl.1 rfl (lv_room (Nat.le_of_ble_eq_true rfl)) dRunner_doStep_22 ⟨Nat.le_of_ble_eq_true rfl, Nat.le_of_ble_eq_true rfl⟩) hP hD hS hA [3, 4] [0, 1, 2, 5, 6] rfl rfl rfl rfl [0, 1, 2, 5, 6, 3, 4] rfl (fun _ => rfl) (fun r22 u H locs hw hP hD hS => ?_)
  have hP : va_P D vwCl (wdRunner_doStep cA ad N R6a R6b kind first way values R6size R6out R6num) H := hP
  have hD : va_D A (wdRunner_doStep cA ad N R6a R6b kind first way values R6size R6out R6num) := hD
  refine lv_istore (lv' := [(9, .int r22), (8, .int r14), (7, .int r6), (0, .ref (ad 35)), (1, .int v1), (2, .int v2), (3, .int v3), (4, .int v4), (5, .int v5), (6, .ref R6a)]) hx hb dRunner_doStep_25 hl (by decide) rfl (fun ls hl => ?_)
  refine lv_iload hx hb dRunner_doStep_27 (lv_at hl 2 rfl) ?_
  refine lv_bipush (v := 7) hx hb dRunner_doStep_29 (by decide) ?_
  refine lv_icmp_ne (tgt := 42) hx hb dRunner_doStep_31 rfl (fun hc => ?_) (fun hc => ?_)
  · have hw := hw.1 hc
    refine lv_iload hx hb dRunner_doStep_42 (lv_at hl 2 rfl) ?_
    refine lv_iconst (v := 5) hx hb dRunner_doStep_44 (by decide) ?_
    obtain ⟨J60, hJ60, hw⟩ := hw
    have hj60 : ∀  (ls : Array Slot) (H : Heap) (locs : List Loc), lv_has ls 10 [(0, .ref (ad 35)), (1, .int v1), (2, .int v2), (3, .int v3), (4, .int v4), (5, .int v5), (6, .ref R6a), (7, .int r6), (8, .int r14), (9, .int r22)] → va_P D vwCl (wdRunner_doStep cA ad N R6a R6b kind first way values R6size R6out R6num) H → va_D A (wdRunner_doStep cA ad N R6a R6b kind first way values R6size R6out R6num) → va_S A s.heap H locs → J60 → W p l e (headSpec (Cond.code yRunner_doStep cRunner_doStep 10 none :: xW) rmRunner_doStep).room s m ([.ref (ad 35), .int v1, .int v2, .int v3, .int v4, .int v5, .ref R6a] : List Value).toArray below meth c H locs 0 0 Q (F0 m 60 ls []) := by
      intro  ls H locs hl hP hD hS hw
      have hw := hJ60  hw
      refine lv_iload_n hx hb dRunner_doStep_60 rfl (lv_at hl 3 rfl) ?_
      refine lv_iconst (v := (-1)) hx hb dRunner_doStep_61 (by decide) ?_
      refine lv_icmp_eq (tgt := 97) hx hb dRunner_doStep_62 rfl (fun hc => ?_) (fun hc => ?_)
      · have hw := hw.1 hc
        exact hend values R6size R6out R6num _ _ _ _ dRunner_doStep_97 hP hD hS hw
      · have hw := hw.2 hc
        refine lv_aload_n hx hb dRunner_doStep_65 rfl (lv_at hl 0 rfl) ?_
        refine va_get (D := D) (ci := 5) (v := .ref (ad 36)) (C := "OnceNamed$Runner") (T := TX5) (N := 6) hx hb hts (fun w h => List.mem_cons_of_mem _ (inX5 w h)) hown hK hP 3 rfl rfl 3 (by decide) (hts _ (List.mem_cons_of_mem _ kw_197)) (fun _ h9 => h9) rfl dRunner_doStep_66 ?_
        refine lv_iload_n hx hb dRunner_doStep_69 rfl (lv_at hl 3 rfl) ?_
        refine lv_iload hx hb dRunner_doStep_70 (lv_at hl 7 rfl) ?_
        refine lv_if_ne (tgt := 87) hx hb dRunner_doStep_72 rfl (fun hc => ?_) (fun hc => ?_)
        · have hw := hw.1 hc
          refine lv_iload hx hb dRunner_doStep_87 (lv_at hl 7 rfl) ?_
          refine lv_iload hx hb dRunner_doStep_89 (lv_at hl 8 rfl) ?_
          refine lv_iload hx hb dRunner_doStep_91 (lv_at hl 9 rfl) ?_
          refine xci (va_runS ⟨hx, hb, hml, hown, hts⟩ (ktRunner_reckon l D cA ad N _ r6 r14 r22 _ hw) (va_cwS 3 hts (goodS kw_903 kw_904 kw_8 kw_905) rfl rfl rfl (by decide +kernel) ⟨Nat.le_of_ble_eq_true rfl, Nat.le_of_ble_eq_true rfl⟩) (xpreS hK hP hD hN [] rfl rfl) rfl rfl hl.1 rfl (lv_room (Nat.le_of_ble_eq_true rfl)) dRunner_doStep_93 ⟨Nat.le_of_ble_eq_true rfl, Nat.le_of_ble_eq_true rfl⟩) hP hD hS hA [] [0, 1, 2, 3, 4, 5, 6] rfl rfl rfl rfl [0, 1, 2, 3, 4, 5, 6] rfl (fun _ => rfl) (fun r93 u H locs hw hP hD hS => ?_)
          have hP : va_P D vwCl (wdRunner_doStep cA ad N R6a R6b kind first way values R6size R6out R6num) H := hP
          have hD : va_D A (wdRunner_doStep cA ad N R6a R6b kind first way values R6size R6out R6num) := hD
          have ho := hw.1
          have hw := hw.2
          refine va_iast hx hb hK hP hD hS 4 0 rfl rfl ho dRunner_doStep_96 (fun H locs hP hD hS => ?_)
          have hP : va_P D vwCl (wdRunner_doStep cA ad N R6a R6b kind first way (upd values (Int32.toNatClampNeg v3) r93) R6size R6out R6num) H := hP
          have hD : va_D A (wdRunner_doStep cA ad N R6a R6b kind first way (upd values (Int32.toNatClampNeg v3) r93) R6size R6out R6num) := hD
          exact hend (upd values (Int32.toNatClampNeg v3) r93) R6size R6out R6num _ _ _ _ dRunner_doStep_97 hP hD hS hw
        · have hw := hw.2 hc
          refine lv_aload_n hx hb dRunner_doStep_75 rfl (lv_at hl 0 rfl) ?_
          refine va_get (D := D) (ci := 5) (v := .ref (ad 1)) (C := "OnceNamed$Runner") (T := TX5) (N := 6) hx hb hts (fun w h => List.mem_cons_of_mem _ (inX5 w h)) hown hK hP 3 rfl rfl 0 (by decide) (hts _ (List.mem_cons_of_mem _ kw_194)) (fun _ h9 => h9) rfl dRunner_doStep_76 ?_
          refine lv_iload_n hx hb dRunner_doStep_79 rfl (lv_at hl 1 rfl) ?_
          refine lv_iload_n hx hb dRunner_doStep_80 rfl (lv_at hl 2 rfl) ?_
          refine xci (va_runV ⟨hx, hb, hml, hown, hts⟩ (ktProgram_numberPut l D cA ad N _ first v1 v2 _ hw) (cwV 2 hts (goodV kw_899 kw_900 kw_901 kw_3 kw_902) rfl rfl rfl (by decide +kernel) ⟨Nat.le_of_ble_eq_true rfl, Nat.le_of_ble_eq_true rfl⟩) (xpreV hK hP hD hN [0, 2] rfl rfl 0 rfl rfl) rfl rfl hl.1 rfl (lv_room (Nat.le_of_ble_eq_true rfl)) dRunner_doStep_81 ⟨Nat.le_of_ble_eq_true rfl, Nat.le_of_ble_eq_true rfl⟩) hP hD hS hA [0, 2] [1, 3, 4, 5, 6] rfl rfl rfl rfl [5, 0, 6, 1, 2, 3, 4] rfl (fun _ => rfl) (fun r81 u H locs hw hP hD hS => ?_)
          have hP : va_P D vwCl (wdRunner_doStep cA ad N R6a R6b kind first way values R6size R6out R6num) H := hP
          have hD : va_D A (wdRunner_doStep cA ad N R6a R6b kind first way values R6size R6out R6num) := hD
          refine lv_goto (tgt := 96) hx hb dRunner_doStep_84 rfl ?_
          have ho := hw.1
          have hw := hw.2
          refine va_iast hx hb hK hP hD hS 4 0 rfl rfl ho dRunner_doStep_96 (fun H locs hP hD hS => ?_)
          have hP : va_P D vwCl (wdRunner_doStep cA ad N R6a R6b kind first way (upd values (Int32.toNatClampNeg v3) r81) R6size R6out R6num) H := hP
          have hD : va_D A (wdRunner_doStep cA ad N R6a R6b kind first way (upd values (Int32.toNatClampNeg v3) r81) R6size R6out R6num) := hD
          exact hend (upd values (Int32.toNatClampNeg v3) r81) R6size R6out R6num _ _ _ _ dRunner_doStep_97 hP hD hS hw
    refine lv_icmp_ne (tgt := 60) hx hb dRunner_doStep_45 rfl (fun hc => ?_) (fun hc => ?_)
    · have hw := hw.1 hc
      exact hj60  _ _ _ (lv_sub hl [3, 4, 5, 6, 7, 8, 9, 2, 1, 0] rfl) hP hD hS hw
    · have hw := hw.2 hc
      refine lv_iload hx hb dRunner_doStep_48 (lv_at hl 0 rfl) ?_
      refine lv_if_ne (tgt := 60) hx hb dRunner_doStep_50 rfl (fun hc => ?_) (fun hc => ?_)
      · have hw := hw.1 hc
        exact hj60  _ _ _ (lv_sub hl [3, 4, 5, 6, 7, 8, 9, 2, 1, 0] rfl) hP hD hS hw
      · have hw := hw.2 hc
        refine lv_aload hx hb dRunner_doStep_53 (lv_at hl 9 rfl) ?_
        refine lv_iconst (v := 1) hx hb dRunner_doStep_55 (by decide) ?_
        refine xcv (va_runV ⟨hx, hb, hml, hown, hts⟩ (ktTalk_fail l D cA ad N R6a R6b _ R6size R6out 1 _ hw) (cwV 1 hts (goodV kw_895 kw_896 kw_897 kw_9 kw_898) rfl rfl rfl (by decide +kernel) ⟨Nat.le_of_ble_eq_true rfl, Nat.le_of_ble_eq_true rfl⟩) (xpreV hK hP hD hN [5] rfl rfl 5 rfl rfl) rfl rfl hl.1 rfl (lv_room (Nat.le_of_ble_eq_true rfl)) dRunner_doStep_56 ⟨Nat.le_of_ble_eq_true rfl, Nat.le_of_ble_eq_true rfl⟩) hP hD hS hA [5] [0, 1, 2, 3, 4, 6] rfl rfl rfl rfl [0, 1, 2, 3, 4, 6, 5] rfl (fun _ => rfl) (fun R6out_56 H locs hw hP hD hS => ?_)
        try dsimp only at hw
        have hP : va_P D vwCl (wdRunner_doStep cA ad N R6a R6b kind first way values R6size R6out_56 R6num) H := hP
        have hD : va_D A (wdRunner_doStep cA ad N R6a R6b kind first way values R6size R6out_56 R6num) := hD
        exact hend values R6size R6out_56 R6num _ _ _ _ dRunner_doStep_59 hP hD hS hw
  · have hw := hw.2 hc
    refine lv_aload hx hb dRunner_doStep_34 (lv_at hl 9 rfl) ?_
    refine lv_iload hx hb dRunner_doStep_36 (lv_at hl 1 rfl) ?_
    refine xcv (va_runV ⟨hx, hb, hml, hown, hts⟩ (ktTalk_say l D cA ad N R6a R6b _ R6size R6out R6num r14 _ hw) (cwV 1 hts (goodV kw_891 kw_892 kw_893 kw_9 kw_894) rfl rfl rfl (by decide +kernel) ⟨Nat.le_of_ble_eq_true rfl, Nat.le_of_ble_eq_true rfl⟩) (xpreV hK hP hD hN [5, 6] rfl rfl 5 rfl rfl) rfl rfl hl.1 rfl (lv_room (Nat.le_of_ble_eq_true rfl)) dRunner_doStep_38 ⟨Nat.le_of_ble_eq_true rfl, Nat.le_of_ble_eq_true rfl⟩) hP hD hS hA [5, 6] [0, 1, 2, 3, 4] rfl rfl rfl rfl [0, 1, 2, 3, 4, 5, 6] rfl (fun _ => rfl) (fun u H locs hw hP hD hS => ?_)
    obtain ⟨R6size_38, R6out_38, R6num_38⟩ := u
    try dsimp only at hw
    have hP : va_P D vwCl (wdRunner_doStep cA ad N R6a R6b kind first way values R6size_38 R6out_38 R6num_38) H := hP
    have hD : va_D A (wdRunner_doStep cA ad N R6a R6b kind first way values R6size_38 R6out_38 R6num_38) := hD
    exact hend values R6size_38 R6out_38 R6num_38 _ _ _ _ dRunner_doStep_41 hP hD hS hw
abbrev wdRunner_placeOf (cA : ClassId) (ad : Nat → Nat) (N : Nat) (way : Int32) : va_W := [((ad 18), .inr (3, [.ref (ad 1), .ref (ad 11), .int (nI N), .ref (ad 19), .ref (ad 20), .ref (ad 21), .ref (ad 22), .ref (ad 23), .ref (ad 24), .ref (ad 25), .ref (ad 26), .ref (ad 27), .ref (ad 28), .ref (ad 29)])), ((ad 35), .inr (5, [.ref (ad 1), .ref (ad 18), .ref (ad 30), .ref (ad 36), .ref (ad 37), .int way]))]
abbrev qcRunner_placeOf (D : va_G) (cA : ClassId) (ad : Nat → Nat) (N : Nat) (way : Int32) (post : Int32 → Prop) (A : Nat → Prop) : Array Value → State → Outcome → State → Prop := va_Qi (S := Unit) (fun r u => post r ) (fun u t => xB D [(cA, .int)] A (wdRunner_placeOf cA ad N way) t) A
abbrev rmRunner_placeOf : Room := { frames := 1, cells := 0, slots := 0, locals := 21 }
set_option maxHeartbeats 4000000 in
set_option maxRecDepth 100000 in
theorem ktRunner_placeOf (l : Launch) (D : va_G) (cA : ClassId) (ad : Nat → Nat) (N : Nat) (sz : Nat) (way : Int32) (v1 : Int32) (post : Int32 → Prop) (hw : wpRunner_placeOf v1 post) : Met l yRunner_placeOf (Cond.code yRunner_placeOf cRunner_placeOf 2 (some .int) :: xW) rmRunner_placeOf (va_Pc [.ref (ad 35), .int v1] (xPc D [(cA, .int)] (wdRunner_placeOf cA ad N way) sz)) (qcRunner_placeOf D cA ad N way post (va_A (wdRunner_placeOf cA ad N way) sz)) 0 0 (va_A (wdRunner_placeOf cA ad N way) sz) := by
  refine Met.ofW (cc := cRunner_placeOf) (maxL := 2) (ret := (some .int)) (by decide) rfl ?_
  intro p e s m args below meth c s₁ B hml hv
  obtain ⟨rfl, hsz, hP, hK, hD0, hN⟩ := hv
  have hx := B.exec
  have hb := B.bytes
  have hr := B.returns
  have hts := atoms_spec (ws := (Cond.code yRunner_placeOf cRunner_placeOf 2 (some .int) :: xW)) B.pre
  have hown : s.vm.findClass "OnceNamed$Runner" = some m.cls := findClass_of_methodNamed B.named
  have hlocks := B.notSynchronized
  subst hsz
  have hD := hD0.self (sz := s.heap.size)
  generalize hAe : va_A (wdRunner_placeOf cA ad N way) s.heap.size = A at hD ⊢
  have hA : ∀ q : Nat, s.heap.size ≤ q → A q := fun q h => by rw [← hAe]; exact Or.inr h
  have hS : va_S A s.heap s.heap [] := va_S.rf
  have hend : ∀ (r : Int32)  (H : Heap) (locs : List Loc) (pc : Nat) (ls : Array Slot), decode cRunner_placeOf pc = .ok (.ireturn, 1) → va_P D vwCl (wdRunner_placeOf cA ad N way) H → va_D A (wdRunner_placeOf cA ad N way) → va_S A s.heap H locs → post r  → W p l e (headSpec (Cond.code yRunner_placeOf cRunner_placeOf 2 (some .int) :: xW) rmRunner_placeOf).room s m ([.ref (ad 35), .int v1] : List Value).toArray below meth c H locs 0 0 (MQ below (qcRunner_placeOf D cA ad N way post A) ([.ref (ad 35), .int v1] : List Value).toArray s 0 0 A) (F0 m pc ls [.int r]) := fun r  H locs pc ls hd hP hD hS hw => W.iret (v := r) hx hb hr (fun t ht hW => ⟨⟨r, (), rfl, hw, ⟨by rw [ht]; exact hP, va_K.moved hW.alike hK, hD⟩⟩, hS.F ht⟩) hS.2.2 hd
  generalize hQ : MQ below (qcRunner_placeOf D cA ad N way post A) ([.ref (ad 35), .int v1] : List Value).toArray s 0 0 A = Q at hend ⊢
  have hl := lv_entry ([.ref (ad 35), .int v1]) (n := 2) (Nat.le_of_ble_eq_true rfl)
  rw [lg_entry_eq]
  generalize (lg_sl ([.ref (ad 35), .int v1]) ++ List.replicate (2 - (lg_sl ([.ref (ad 35), .int v1])).length) Slot.unset).toArray = ls at hl ⊢
  have hl : lv_has ls 2 [(0, .ref (ad 35)), (1, .int v1)] := hl
  unfold wpRunner_placeOf at hw
  refine lv_iload_n hx hb dRunner_placeOf_0 rfl (lv_at hl 1 rfl) ?_
  refine lv_iconst (v := (-1)) hx hb dRunner_placeOf_1 (by decide) ?_
  refine lv_icmp_ne (tgt := 9) hx hb dRunner_placeOf_2 rfl (fun hc => ?_) (fun hc => ?_)
  · have hw := hw.1 hc
    refine lv_aload_n hx hb dRunner_placeOf_9 rfl (lv_at hl 0 rfl) ?_
    refine va_get (D := D) (ci := 5) (v := .ref (ad 18)) (C := "OnceNamed$Runner") (T := TX5) (N := 6) hx hb hts (fun w h => List.mem_cons_of_mem _ (inX5 w h)) hown hK hP 1 rfl rfl 1 (by decide) (hts _ (List.mem_cons_of_mem _ kw_195)) (fun _ h9 => h9) rfl dRunner_placeOf_10 ?_
    refine lv_iload_n hx hb dRunner_placeOf_13 rfl (lv_at hl 1 rfl) ?_
    refine xci (va_runV ⟨hx, hb, hml, hown, hts⟩ (ktNamedForm_entryName l D cA ad N _ v1 _ hw) (cwV 1 hts (goodV kw_837 kw_838 kw_839 kw_6 kw_840) rfl rfl rfl (by decide +kernel) ⟨Nat.le_of_ble_eq_true rfl, Nat.le_of_ble_eq_true rfl⟩) (xpreV hK hP hD hN [] rfl rfl 0 rfl rfl) rfl rfl hl.1 rfl (lv_room (Nat.le_of_ble_eq_true rfl)) dRunner_placeOf_14 ⟨Nat.le_of_ble_eq_true rfl, Nat.le_of_ble_eq_true rfl⟩) hP hD hS hA [] [0, 1] rfl rfl rfl rfl [0, 1] rfl (fun _ => rfl) (fun r14 u H locs hw hP hD hS => ?_)
    have hP : va_P D vwCl (wdRunner_placeOf cA ad N way) H := hP
    have hD : va_D A (wdRunner_placeOf cA ad N way) := hD
    exact hend r14 _ _ _ _ dRunner_placeOf_17 hP hD hS hw
  · have hw := hw.2 hc
    refine lv_iconst (v := (-1)) hx hb dRunner_placeOf_5 (by decide) ?_
    refine lv_goto (tgt := 17) hx hb dRunner_placeOf_6 rfl ?_
    exact hend (-1) _ _ _ _ dRunner_placeOf_17 hP hD hS hw
abbrev wdRunner_doSteps (cA : ClassId) (ad : Nat → Nat) (N : Nat) (R2a : Nat) (R2b : Nat) (stepCount : Nat → Int32) (kind : Nat → Int32) (target : Nat → Int32) (first : Nat → Int32) (second : Nat → Int32) (stepNames : Nat → Int32) (firstUses : Nat → Int32) (secondUses : Nat → Int32) (way : Int32) (values : Nat → Int32) (R2size : Int32) (R2out : Int32) (R2num : Nat → Int32) : va_W := [((ad 1), .inr (1, [.int (nI N), .ref (ad 2), .ref (ad 3), .ref (ad 4), .ref (ad 5), .ref (ad 6), .ref (ad 7), .ref (ad 8), .ref (ad 9), .ref (ad 10)])), ((ad 2), .inl (cA, N, .inl stepCount)), ((ad 3), .inl (cA, N * 6, .inl kind)), ((ad 4), .inl (cA, N * 6, .inl target)), ((ad 5), .inl (cA, N * 6, .inl first)), ((ad 6), .inl (cA, N * 6, .inl second)), ((ad 18), .inr (3, [.ref (ad 1), .ref (ad 11), .int (nI N), .ref (ad 19), .ref (ad 20), .ref (ad 21), .ref (ad 22), .ref (ad 23), .ref (ad 24), .ref (ad 25), .ref (ad 26), .ref (ad 27), .ref (ad 28), .ref (ad 29)])), ((ad 21), .inl (cA, N * 6, .inl stepNames)), ((ad 22), .inl (cA, N * 6, .inl firstUses)), ((ad 23), .inl (cA, N * 6, .inl secondUses)), ((ad 35), .inr (5, [.ref (ad 1), .ref (ad 18), .ref (ad 30), .ref (ad 36), .ref (ad 37), .int way])), ((ad 36), .inl (cA, 601, .inl values)), (R2a, .inr (6, [.ref R2b, .int R2size, .int R2out])), (R2b, .inl (cA, 50, .inl R2num))]
abbrev qcRunner_doSteps (D : va_G) (cA : ClassId) (ad : Nat → Nat) (N : Nat) (R2a : Nat) (R2b : Nat) (stepCount : Nat → Int32) (kind : Nat → Int32) (target : Nat → Int32) (first : Nat → Int32) (second : Nat → Int32) (stepNames : Nat → Int32) (firstUses : Nat → Int32) (secondUses : Nat → Int32) (way : Int32) (values : Nat → Int32) (R2size : Int32) (R2out : Int32) (R2num : Nat → Int32) (post : (Nat → Int32) → Int32 → Int32 → (Nat → Int32) → Prop) (A : Nat → Prop) : Array Value → State → Outcome → State → Prop := va_Qv (S := (Nat → Int32) × (Int32) × (Int32) × (Nat → Int32)) (fun u => post u.1 u.2.1 u.2.2.1 u.2.2.2) (fun u t => xB D [(cA, .int)] A (wdRunner_doSteps cA ad N R2a R2b stepCount kind target first second stepNames firstUses secondUses way u.1 u.2.1 u.2.2.1 u.2.2.2) t) A
abbrev rmRunner_doSteps : Room := { frames := 2, cells := 0, slots := 0, locals := 51 }
set_option maxHeartbeats 4000000 in
set_option maxRecDepth 100000 in
theorem ktRunner_doSteps (l : Launch) (D : va_G) (cA : ClassId) (ad : Nat → Nat) (N : Nat) (R2a : Nat) (R2b : Nat) (sz : Nat) (stepCount : Nat → Int32) (kind : Nat → Int32) (target : Nat → Int32) (first : Nat → Int32) (second : Nat → Int32) (stepNames : Nat → Int32) (firstUses : Nat → Int32) (secondUses : Nat → Int32) (way : Int32) (values : Nat → Int32) (R2size : Int32) (R2out : Int32) (R2num : Nat → Int32) (v1 : Int32) (post : (Nat → Int32) → Int32 → Int32 → (Nat → Int32) → Prop) (hw : wpRunner_doSteps N stepCount kind target first second stepNames firstUses secondUses way values R2size R2out R2num v1 post) : Met l yRunner_doSteps (Cond.code yRunner_doSteps cRunner_doSteps 6 none :: xW) rmRunner_doSteps (va_Pc [.ref (ad 35), .int v1, .ref R2a] (xPc D [(cA, .int)] (wdRunner_doSteps cA ad N R2a R2b stepCount kind target first second stepNames firstUses secondUses way values R2size R2out R2num) sz)) (qcRunner_doSteps D cA ad N R2a R2b stepCount kind target first second stepNames firstUses secondUses way values R2size R2out R2num post (va_A (wdRunner_doSteps cA ad N R2a R2b stepCount kind target first second stepNames firstUses secondUses way values R2size R2out R2num) sz)) 0 0 (va_A (wdRunner_doSteps cA ad N R2a R2b stepCount kind target first second stepNames firstUses secondUses way values R2size R2out R2num) sz) := by
  refine Met.ofW (cc := cRunner_doSteps) (maxL := 6) (ret := none) (by decide) rfl ?_
  intro p e s m args below meth c s₁ B hml hv
  obtain ⟨rfl, hsz, hP, hK, hD0, hN⟩ := hv
  have hx := B.exec
  have hb := B.bytes
  have hr := B.returns
  have hts := atoms_spec (ws := (Cond.code yRunner_doSteps cRunner_doSteps 6 none :: xW)) B.pre
  have hown : s.vm.findClass "OnceNamed$Runner" = some m.cls := findClass_of_methodNamed B.named
  have hlocks := B.notSynchronized
  subst hsz
  have hD := hD0.self (sz := s.heap.size)
  generalize hAe : va_A (wdRunner_doSteps cA ad N R2a R2b stepCount kind target first second stepNames firstUses secondUses way values R2size R2out R2num) s.heap.size = A at hD ⊢
  have hA : ∀ q : Nat, s.heap.size ≤ q → A q := fun q h => by rw [← hAe]; exact Or.inr h
  have hS : va_S A s.heap s.heap [] := va_S.rf
  have hend : ∀ (u0 : Nat → Int32) (u1 : Int32) (u2 : Int32) (u3 : Nat → Int32) (H : Heap) (locs : List Loc) (pc : Nat) (ls : Array Slot), decode cRunner_doSteps pc = .ok (.return_, 1) → va_P D vwCl (wdRunner_doSteps cA ad N R2a R2b stepCount kind target first second stepNames firstUses secondUses way u0 u1 u2 u3) H → va_D A (wdRunner_doSteps cA ad N R2a R2b stepCount kind target first second stepNames firstUses secondUses way u0 u1 u2 u3) → va_S A s.heap H locs → post u0 u1 u2 u3 → W p l e (headSpec (Cond.code yRunner_doSteps cRunner_doSteps 6 none :: xW) rmRunner_doSteps).room s m ([.ref (ad 35), .int v1, .ref R2a] : List Value).toArray below meth c H locs 0 0 (MQ below (qcRunner_doSteps D cA ad N R2a R2b stepCount kind target first second stepNames firstUses secondUses way values R2size R2out R2num post A) ([.ref (ad 35), .int v1, .ref R2a] : List Value).toArray s 0 0 A) (F0 m pc ls []) := fun u0 u1 u2 u3 H locs pc ls hd hP hD hS hw => W.vret hx hb hr (fun t ht hW => ⟨⟨(u0, u1, u2, u3), rfl, hw, ⟨by rw [ht]; exact hP, va_K.moved hW.alike hK, hD⟩⟩, hS.F ht⟩) hS.2.2 hd
  generalize hQ : MQ below (qcRunner_doSteps D cA ad N R2a R2b stepCount kind target first second stepNames firstUses secondUses way values R2size R2out R2num post A) ([.ref (ad 35), .int v1, .ref R2a] : List Value).toArray s 0 0 A = Q at hend ⊢
  have hl := lv_entry ([.ref (ad 35), .int v1, .ref R2a]) (n := 6) (Nat.le_of_ble_eq_true rfl)
  rw [lg_entry_eq]
  generalize (lg_sl ([.ref (ad 35), .int v1, .ref R2a]) ++ List.replicate (6 - (lg_sl ([.ref (ad 35), .int v1, .ref R2a])).length) Slot.unset).toArray = ls at hl ⊢
  have hl : lv_has ls 6 [(0, .ref (ad 35)), (1, .int v1), (2, .ref R2a)] := hl
  unfold wpRunner_doSteps at hw
  refine lv_iconst (v := 0) hx hb dRunner_doSteps_0 (by decide) ?_
  refine lv_istore_n (lv' := [(3, .int 0), (0, .ref (ad 35)), (1, .int v1), (2, .ref R2a)]) hx hb dRunner_doSteps_1 rfl hl (by decide) rfl (fun ls hl => ?_)
  obtain ⟨k2, hw⟩ := hw
  have hlp2 : ∀ (k : Nat), ∀ (v3_L2 : Int32) (values_L2 : Nat → Int32) (R2size_L2 : Int32) (R2out_L2 : Int32) (R2num_L2 : Nat → Int32) (ls : Array Slot) (H : Heap) (locs : List Loc), lv_has ls 6 [(0, .ref (ad 35)), (1, .int v1), (2, .ref R2a), (3, .int v3_L2)] → va_P D vwCl (wdRunner_doSteps cA ad N R2a R2b stepCount kind target first second stepNames firstUses secondUses way values_L2 R2size_L2 R2out_L2 R2num_L2) H → va_D A (wdRunner_doSteps cA ad N R2a R2b stepCount kind target first second stepNames firstUses secondUses way values_L2 R2size_L2 R2out_L2 R2num_L2) → va_S A s.heap H locs → lpRunner_doSteps_2 N v1 stepCount kind target first second stepNames firstUses secondUses way post k v3_L2 values_L2 R2size_L2 R2out_L2 R2num_L2 → W p l e (headSpec (Cond.code yRunner_doSteps cRunner_doSteps 6 none :: xW) rmRunner_doSteps).room s m ([.ref (ad 35), .int v1, .ref R2a] : List Value).toArray below meth c H locs 0 0 Q (F0 m 2 ls []) := by
    intro k
    induction k with
    | zero => intro v3_L2 values_L2 R2size_L2 R2out_L2 R2num_L2 ls H locs hl hP hD hS hw; exact False.elim hw
    | succ k ih =>
      intro v3_L2 values_L2 R2size_L2 R2out_L2 R2num_L2 ls H locs hl hP hD hS hw
      refine lv_iload_n hx hb dRunner_doSteps_2 rfl (lv_at hl 3 rfl) ?_
      refine lv_aload_n hx hb dRunner_doSteps_3 rfl (lv_at hl 0 rfl) ?_
      refine va_get (D := D) (ci := 5) (v := .ref (ad 1)) (C := "OnceNamed$Runner") (T := TX5) (N := 6) hx hb hts (fun w h => List.mem_cons_of_mem _ (inX5 w h)) hown hK hP 10 rfl rfl 0 (by decide) (hts _ (List.mem_cons_of_mem _ kw_194)) (fun _ h9 => h9) rfl dRunner_doSteps_4 ?_
      refine lv_iload_n hx hb dRunner_doSteps_7 rfl (lv_at hl 1 rfl) ?_
      dsimp only [lpRunner_doSteps_2] at hw
      refine xci (va_runV ⟨hx, hb, hml, hown, hts⟩ (ktProgram_stepsOf l D cA ad N _ stepCount v1 _ hw) (cwV 1 hts (goodV kw_874 kw_355 kw_356 kw_3 kw_357) rfl rfl rfl (by decide +kernel) ⟨Nat.le_of_ble_eq_true rfl, Nat.le_of_ble_eq_true rfl⟩) (xpreV hK hP hD hN [0, 1] rfl rfl 0 rfl rfl) rfl rfl hl.1 rfl (lv_room (Nat.le_of_ble_eq_true rfl)) dRunner_doSteps_8 ⟨Nat.le_of_ble_eq_true rfl, Nat.le_of_ble_eq_true rfl⟩) hP hD hS hA [0, 1] [2, 3, 4, 5, 6, 7, 8, 9, 10, 11, 12, 13] rfl rfl rfl rfl [12, 13, 0, 1, 2, 3, 4, 5, 6, 7, 8, 9, 10, 11] rfl (fun _ => rfl) (fun r8 u H locs hw hP hD hS => ?_)
      have hP : va_P D vwCl (wdRunner_doSteps cA ad N R2a R2b stepCount kind target first second stepNames firstUses secondUses way values_L2 R2size_L2 R2out_L2 R2num_L2) H := hP
      have hD : va_D A (wdRunner_doSteps cA ad N R2a R2b stepCount kind target first second stepNames firstUses secondUses way values_L2 R2size_L2 R2out_L2 R2num_L2) := hD
      refine lv_icmp_ge (tgt := 135) hx hb dRunner_doSteps_11 rfl (fun hc => ?_) (fun hc => ?_)
      · have hw := hw.1 hc
        exact hend values_L2 R2size_L2 R2out_L2 R2num_L2 _ _ _ _ dRunner_doSteps_135 hP hD hS hw
      · have hw := hw.2 hc
        refine lv_aload_n hx hb dRunner_doSteps_14 rfl (lv_at hl 2 rfl) ?_
        refine xci (va_runV ⟨hx, hb, hml, hown, hts⟩ (ktTalk_outcome l D cA ad N R2a R2b _ R2size_L2 R2out_L2 _ hw) (cwV 0 hts (goodV kw_875 kw_876 kw_877 kw_9 kw_878) rfl rfl rfl (by decide +kernel) ⟨Nat.le_of_ble_eq_true rfl, Nat.le_of_ble_eq_true rfl⟩) (xpreV hK hP hD hN [12] rfl rfl 12 rfl rfl) rfl rfl hl.1 rfl (lv_room (Nat.le_of_ble_eq_true rfl)) dRunner_doSteps_15 ⟨Nat.le_of_ble_eq_true rfl, Nat.le_of_ble_eq_true rfl⟩) hP hD hS hA [12] [0, 1, 2, 3, 4, 5, 6, 7, 8, 9, 10, 11, 13] rfl rfl rfl rfl [0, 1, 2, 3, 4, 5, 6, 7, 8, 9, 10, 11, 13, 12] rfl (fun _ => rfl) (fun r15 u H locs hw hP hD hS => ?_)
        have hP : va_P D vwCl (wdRunner_doSteps cA ad N R2a R2b stepCount kind target first second stepNames firstUses secondUses way values_L2 R2size_L2 R2out_L2 R2num_L2) H := hP
        have hD : va_D A (wdRunner_doSteps cA ad N R2a R2b stepCount kind target first second stepNames firstUses secondUses way values_L2 R2size_L2 R2out_L2 R2num_L2) := hD
        refine lv_if_ne (tgt := 135) hx hb dRunner_doSteps_18 rfl (fun hc => ?_) (fun hc => ?_)
        · have hw := hw.1 hc
          exact hend values_L2 R2size_L2 R2out_L2 R2num_L2 _ _ _ _ dRunner_doSteps_135 hP hD hS hw
        · have hw := hw.2 hc
          refine lv_aload_n hx hb dRunner_doSteps_21 rfl (lv_at hl 0 rfl) ?_
          refine va_get (D := D) (ci := 5) (v := .int way) (C := "OnceNamed$Runner") (T := TX5) (N := 6) hx hb hts (fun w h => List.mem_cons_of_mem _ (inX5 w h)) hown hK hP 10 rfl rfl 5 (by decide) (hts _ (List.mem_cons_of_mem _ kw_199)) (fun _ h9 => h9) rfl dRunner_doSteps_22 ?_
          refine lv_if_ne (tgt := 85) hx hb dRunner_doSteps_25 rfl (fun hc => ?_) (fun hc => ?_)
          · have hw := hw.1 hc
            refine lv_aload_n hx hb dRunner_doSteps_85 rfl (lv_at hl 0 rfl) ?_
            refine va_get (D := D) (ci := 5) (v := .ref (ad 18)) (C := "OnceNamed$Runner") (T := TX5) (N := 6) hx hb hts (fun w h => List.mem_cons_of_mem _ (inX5 w h)) hown hK hP 10 rfl rfl 1 (by decide) (hts _ (List.mem_cons_of_mem _ kw_195)) (fun _ h9 => h9) rfl dRunner_doSteps_86 ?_
            refine lv_iload_n hx hb dRunner_doSteps_89 rfl (lv_at hl 1 rfl) ?_
            refine lv_iload_n hx hb dRunner_doSteps_90 rfl (lv_at hl 3 rfl) ?_
            refine lv_iconst (v := 0) hx hb dRunner_doSteps_91 (by decide) ?_
            refine xci (va_runV ⟨hx, hb, hml, hown, hts⟩ (ktNamedForm_stepUse l D cA ad N _ firstUses secondUses v1 v3_L2 0 _ hw) (cwV 3 hts (goodV kw_906 kw_721 kw_722 kw_6 kw_723) rfl rfl rfl (by decide +kernel) ⟨Nat.le_of_ble_eq_true rfl, Nat.le_of_ble_eq_true rfl⟩) (xpreV hK hP hD hN [6, 8, 9] rfl rfl 6 rfl rfl) rfl rfl hl.1 rfl (lv_room (Nat.le_of_ble_eq_true rfl)) dRunner_doSteps_92 ⟨Nat.le_of_ble_eq_true rfl, Nat.le_of_ble_eq_true rfl⟩) hP hD hS hA [6, 8, 9] [0, 1, 2, 3, 4, 5, 7, 10, 11, 12, 13] rfl rfl rfl rfl [0, 1, 2, 3, 4, 5, 11, 6, 12, 13, 7, 8, 9, 10] rfl (fun _ => rfl) (fun r92 u H locs hw hP hD hS => ?_)
            have hP : va_P D vwCl (wdRunner_doSteps cA ad N R2a R2b stepCount kind target first second stepNames firstUses secondUses way values_L2 R2size_L2 R2out_L2 R2num_L2) H := hP
            have hD : va_D A (wdRunner_doSteps cA ad N R2a R2b stepCount kind target first second stepNames firstUses secondUses way values_L2 R2size_L2 R2out_L2 R2num_L2) := hD
            refine lv_istore (lv' := [(4, .int r92), (0, .ref (ad 35)), (1, .int v1), (2, .ref R2a), (3, .int v3_L2)]) hx hb dRunner_doSteps_95 hl (by decide) rfl (fun ls hl => ?_)
            refine lv_aload_n hx hb dRunner_doSteps_97 rfl (lv_at hl 1 rfl) ?_
            refine va_get (D := D) (ci := 5) (v := .ref (ad 18)) (C := "OnceNamed$Runner") (T := TX5) (N := 6) hx hb hts (fun w h => List.mem_cons_of_mem _ (inX5 w h)) hown hK hP 10 rfl rfl 1 (by decide) (hts _ (List.mem_cons_of_mem _ kw_195)) (fun _ h9 => h9) rfl dRunner_doSteps_98 ?_
            refine lv_iload_n hx hb dRunner_doSteps_101 rfl (lv_at hl 2 rfl) ?_
            refine lv_iload_n hx hb dRunner_doSteps_102 rfl (lv_at hl 4 rfl) ?_
            refine lv_iconst (v := 1) hx hb dRunner_doSteps_103 (by decide) ?_
            refine xci (va_runV ⟨hx, hb, hml, hown, hts⟩ (ktNamedForm_stepUse l D cA ad N _ firstUses secondUses v1 v3_L2 1 _ hw) (cwV 3 hts (goodV kw_906 kw_721 kw_722 kw_6 kw_723) rfl rfl rfl (by decide +kernel) ⟨Nat.le_of_ble_eq_true rfl, Nat.le_of_ble_eq_true rfl⟩) (xpreV hK hP hD hN [6, 8, 9] rfl rfl 6 rfl rfl) rfl rfl hl.1 rfl (lv_room (Nat.le_of_ble_eq_true rfl)) dRunner_doSteps_104 ⟨Nat.le_of_ble_eq_true rfl, Nat.le_of_ble_eq_true rfl⟩) hP hD hS hA [6, 8, 9] [0, 1, 2, 3, 4, 5, 7, 10, 11, 12, 13] rfl rfl rfl rfl [0, 1, 2, 3, 4, 5, 11, 6, 12, 13, 7, 8, 9, 10] rfl (fun _ => rfl) (fun r104 u H locs hw hP hD hS => ?_)
            have hP : va_P D vwCl (wdRunner_doSteps cA ad N R2a R2b stepCount kind target first second stepNames firstUses secondUses way values_L2 R2size_L2 R2out_L2 R2num_L2) H := hP
            have hD : va_D A (wdRunner_doSteps cA ad N R2a R2b stepCount kind target first second stepNames firstUses secondUses way values_L2 R2size_L2 R2out_L2 R2num_L2) := hD
            refine lv_istore (lv' := [(5, .int r104), (4, .int r92), (0, .ref (ad 35)), (1, .int v1), (2, .ref R2a), (3, .int v3_L2)]) hx hb dRunner_doSteps_107 hl (by decide) rfl (fun ls hl => ?_)
            refine lv_aload_n hx hb dRunner_doSteps_109 rfl (lv_at hl 2 rfl) ?_
            refine lv_iload_n hx hb dRunner_doSteps_110 rfl (lv_at hl 3 rfl) ?_
            refine lv_iload_n hx hb dRunner_doSteps_111 rfl (lv_at hl 5 rfl) ?_
            refine lv_aload_n hx hb dRunner_doSteps_112 rfl (lv_at hl 2 rfl) ?_
            refine va_get (D := D) (ci := 5) (v := .ref (ad 18)) (C := "OnceNamed$Runner") (T := TX5) (N := 6) hx hb hts (fun w h => List.mem_cons_of_mem _ (inX5 w h)) hown hK hP 10 rfl rfl 1 (by decide) (hts _ (List.mem_cons_of_mem _ kw_195)) (fun _ h9 => h9) rfl dRunner_doSteps_113 ?_
            refine lv_iload_n hx hb dRunner_doSteps_116 rfl (lv_at hl 3 rfl) ?_
            refine lv_iload_n hx hb dRunner_doSteps_117 rfl (lv_at hl 5 rfl) ?_
            refine xci (va_runV ⟨hx, hb, hml, hown, hts⟩ (ktNamedForm_nameSet l D cA ad N _ stepNames v1 v3_L2 _ hw) (cwV 2 hts (goodV kw_907 kw_697 kw_698 kw_6 kw_699) rfl rfl rfl (by decide +kernel) ⟨Nat.le_of_ble_eq_true rfl, Nat.le_of_ble_eq_true rfl⟩) (xpreV hK hP hD hN [6, 7] rfl rfl 6 rfl rfl) rfl rfl hl.1 rfl (lv_room (Nat.le_of_ble_eq_true rfl)) dRunner_doSteps_118 ⟨Nat.le_of_ble_eq_true rfl, Nat.le_of_ble_eq_true rfl⟩) hP hD hS hA [6, 7] [0, 1, 2, 3, 4, 5, 8, 9, 10, 11, 12, 13] rfl rfl rfl rfl [0, 1, 2, 3, 4, 5, 12, 13, 6, 7, 8, 9, 10, 11] rfl (fun _ => rfl) (fun r118 u H locs hw hP hD hS => ?_)
            have hP : va_P D vwCl (wdRunner_doSteps cA ad N R2a R2b stepCount kind target first second stepNames firstUses secondUses way values_L2 R2size_L2 R2out_L2 R2num_L2) H := hP
            have hD : va_D A (wdRunner_doSteps cA ad N R2a R2b stepCount kind target first second stepNames firstUses secondUses way values_L2 R2size_L2 R2out_L2 R2num_L2) := hD
            refine lv_iload hx hb dRunner_doSteps_121 (lv_at hl 1 rfl) ?_
            refine lv_iload hx hb dRunner_doSteps_123 (lv_at hl 0 rfl) ?_
            refine lv_aload_n hx hb dRunner_doSteps_125 rfl (lv_at hl 4 rfl) ?_
            refine xcv (va_runV ⟨hx, hb, hml, hown, hts⟩ (ktRunner_doStep l D cA ad N R2a R2b _ kind first way values_L2 R2size_L2 R2out_L2 R2num_L2 v1 v3_L2 r118 r92 r104 _ hw) (cwV 6 hts (goodV kw_886 kw_888 ks_3_10 kw_8 kw_889) rfl rfl rfl (by decide +kernel) ⟨Nat.le_of_ble_eq_true rfl, Nat.le_of_ble_eq_true rfl⟩) (xpreV hK hP hD hN [0, 2, 4, 10, 11, 12, 13] rfl rfl 10 rfl rfl) rfl rfl hl.1 rfl (lv_room (Nat.le_of_ble_eq_true rfl)) dRunner_doSteps_126 ⟨Nat.le_of_ble_eq_true rfl, Nat.le_of_ble_eq_true rfl⟩) hP hD hS hA [0, 2, 4, 10, 11, 12, 13] [1, 3, 5, 6, 7, 8, 9] rfl rfl rfl rfl [7, 0, 8, 1, 9, 2, 3, 4, 5, 6, 10, 11, 12, 13] rfl (fun _ => rfl) (fun u H locs hw hP hD hS => ?_)
            obtain ⟨values_126, R2size_126, R2out_126, R2num_126⟩ := u
            try dsimp only at hw
            have hP : va_P D vwCl (wdRunner_doSteps cA ad N R2a R2b stepCount kind target first second stepNames firstUses secondUses way values_126 R2size_126 R2out_126 R2num_126) H := hP
            have hD : va_D A (wdRunner_doSteps cA ad N R2a R2b stepCount kind target first second stepNames firstUses secondUses way values_126 R2size_126 R2out_126 R2num_126) := hD
            refine lv_iinc (k := 5) (v := (v3_L2 + 1)) (lv' := [(3, .int (v3_L2 + 1)), (5, .int r104), (4, .int r92), (0, .ref (ad 35)), (1, .int v1), (2, .ref R2a)]) hx hb dRunner_doSteps_129 hl rfl rfl (by decide) rfl (fun ls hl => ?_)
            refine lv_goto (tgt := 2) hx hb dRunner_doSteps_132 rfl ?_
            exact ih (v3_L2 + 1) values_126 R2size_126 R2out_126 R2num_126 _ _ _ (lv_sub hl [3, 4, 5, 0] rfl) hP hD hS hw
          · have hw := hw.2 hc
            refine lv_aload_n hx hb dRunner_doSteps_28 rfl (lv_at hl 0 rfl) ?_
            refine lv_aload_n hx hb dRunner_doSteps_29 rfl (lv_at hl 0 rfl) ?_
            refine va_get (D := D) (ci := 5) (v := .ref (ad 1)) (C := "OnceNamed$Runner") (T := TX5) (N := 6) hx hb hts (fun w h => List.mem_cons_of_mem _ (inX5 w h)) hown hK hP 10 rfl rfl 0 (by decide) (hts _ (List.mem_cons_of_mem _ kw_194)) (fun _ h9 => h9) rfl dRunner_doSteps_30 ?_
            refine lv_iload_n hx hb dRunner_doSteps_33 rfl (lv_at hl 1 rfl) ?_
            refine lv_iload_n hx hb dRunner_doSteps_34 rfl (lv_at hl 3 rfl) ?_
            refine xci (va_runV ⟨hx, hb, hml, hown, hts⟩ (ktProgram_firstVariable l D cA ad N _ kind first v1 v3_L2 _ hw) (cwV 2 hts (goodV kw_879 kw_363 kw_364 kw_3 kw_365) rfl rfl rfl (by decide +kernel) ⟨Nat.le_of_ble_eq_true rfl, Nat.le_of_ble_eq_true rfl⟩) (xpreV hK hP hD hN [0, 2, 4] rfl rfl 0 rfl rfl) rfl rfl hl.1 rfl (lv_room (Nat.le_of_ble_eq_true rfl)) dRunner_doSteps_35 ⟨Nat.le_of_ble_eq_true rfl, Nat.le_of_ble_eq_true rfl⟩) hP hD hS hA [0, 2, 4] [1, 3, 5, 6, 7, 8, 9, 10, 11, 12, 13] rfl rfl rfl rfl [11, 0, 12, 1, 13, 2, 3, 4, 5, 6, 7, 8, 9, 10] rfl (fun _ => rfl) (fun r35 u H locs hw hP hD hS => ?_)
            have hP : va_P D vwCl (wdRunner_doSteps cA ad N R2a R2b stepCount kind target first second stepNames firstUses secondUses way values_L2 R2size_L2 R2out_L2 R2num_L2) H := hP
            have hD : va_D A (wdRunner_doSteps cA ad N R2a R2b stepCount kind target first second stepNames firstUses secondUses way values_L2 R2size_L2 R2out_L2 R2num_L2) := hD
            refine xci (va_runV ⟨hx, hb, hml, hown, hts⟩ (ktRunner_placeOf l D cA ad N _ way r35 _ hw) (cwV 1 hts (goodV kw_880 kw_882 ks_3_9 kw_8 kw_883) rfl rfl rfl (by decide +kernel) ⟨Nat.le_of_ble_eq_true rfl, Nat.le_of_ble_eq_true rfl⟩) (xpreV hK hP hD hN [6, 10] rfl rfl 10 rfl rfl) rfl rfl hl.1 rfl (lv_room (Nat.le_of_ble_eq_true rfl)) dRunner_doSteps_38 ⟨Nat.le_of_ble_eq_true rfl, Nat.le_of_ble_eq_true rfl⟩) hP hD hS hA [6, 10] [0, 1, 2, 3, 4, 5, 7, 8, 9, 11, 12, 13] rfl rfl rfl rfl [0, 1, 2, 3, 4, 5, 12, 6, 7, 8, 13, 9, 10, 11] rfl (fun _ => rfl) (fun r38 u H locs hw hP hD hS => ?_)
            have hP : va_P D vwCl (wdRunner_doSteps cA ad N R2a R2b stepCount kind target first second stepNames firstUses secondUses way values_L2 R2size_L2 R2out_L2 R2num_L2) H := hP
            have hD : va_D A (wdRunner_doSteps cA ad N R2a R2b stepCount kind target first second stepNames firstUses secondUses way values_L2 R2size_L2 R2out_L2 R2num_L2) := hD
            refine lv_istore (lv' := [(4, .int r38), (0, .ref (ad 35)), (1, .int v1), (2, .ref R2a), (3, .int v3_L2)]) hx hb dRunner_doSteps_41 hl (by decide) rfl (fun ls hl => ?_)
            refine lv_aload_n hx hb dRunner_doSteps_43 rfl (lv_at hl 1 rfl) ?_
            refine lv_aload_n hx hb dRunner_doSteps_44 rfl (lv_at hl 1 rfl) ?_
            refine va_get (D := D) (ci := 5) (v := .ref (ad 1)) (C := "OnceNamed$Runner") (T := TX5) (N := 6) hx hb hts (fun w h => List.mem_cons_of_mem _ (inX5 w h)) hown hK hP 10 rfl rfl 0 (by decide) (hts _ (List.mem_cons_of_mem _ kw_194)) (fun _ h9 => h9) rfl dRunner_doSteps_45 ?_
            refine lv_iload_n hx hb dRunner_doSteps_48 rfl (lv_at hl 2 rfl) ?_
            refine lv_iload_n hx hb dRunner_doSteps_49 rfl (lv_at hl 4 rfl) ?_
            refine xci (va_runV ⟨hx, hb, hml, hown, hts⟩ (ktProgram_secondVariable l D cA ad N _ kind second v1 v3_L2 _ hw) (cwV 2 hts (goodV kw_884 kw_374 kw_375 kw_3 kw_376) rfl rfl rfl (by decide +kernel) ⟨Nat.le_of_ble_eq_true rfl, Nat.le_of_ble_eq_true rfl⟩) (xpreV hK hP hD hN [0, 2, 5] rfl rfl 0 rfl rfl) rfl rfl hl.1 rfl (lv_room (Nat.le_of_ble_eq_true rfl)) dRunner_doSteps_50 ⟨Nat.le_of_ble_eq_true rfl, Nat.le_of_ble_eq_true rfl⟩) hP hD hS hA [0, 2, 5] [1, 3, 4, 6, 7, 8, 9, 10, 11, 12, 13] rfl rfl rfl rfl [11, 0, 12, 1, 2, 13, 3, 4, 5, 6, 7, 8, 9, 10] rfl (fun _ => rfl) (fun r50 u H locs hw hP hD hS => ?_)
            have hP : va_P D vwCl (wdRunner_doSteps cA ad N R2a R2b stepCount kind target first second stepNames firstUses secondUses way values_L2 R2size_L2 R2out_L2 R2num_L2) H := hP
            have hD : va_D A (wdRunner_doSteps cA ad N R2a R2b stepCount kind target first second stepNames firstUses secondUses way values_L2 R2size_L2 R2out_L2 R2num_L2) := hD
            refine xci (va_runV ⟨hx, hb, hml, hown, hts⟩ (ktRunner_placeOf l D cA ad N _ way r50 _ hw) (cwV 1 hts (goodV kw_880 kw_882 ks_3_9 kw_8 kw_883) rfl rfl rfl (by decide +kernel) ⟨Nat.le_of_ble_eq_true rfl, Nat.le_of_ble_eq_true rfl⟩) (xpreV hK hP hD hN [6, 10] rfl rfl 10 rfl rfl) rfl rfl hl.1 rfl (lv_room (Nat.le_of_ble_eq_true rfl)) dRunner_doSteps_53 ⟨Nat.le_of_ble_eq_true rfl, Nat.le_of_ble_eq_true rfl⟩) hP hD hS hA [6, 10] [0, 1, 2, 3, 4, 5, 7, 8, 9, 11, 12, 13] rfl rfl rfl rfl [0, 1, 2, 3, 4, 5, 12, 6, 7, 8, 13, 9, 10, 11] rfl (fun _ => rfl) (fun r53 u H locs hw hP hD hS => ?_)
            have hP : va_P D vwCl (wdRunner_doSteps cA ad N R2a R2b stepCount kind target first second stepNames firstUses secondUses way values_L2 R2size_L2 R2out_L2 R2num_L2) H := hP
            have hD : va_D A (wdRunner_doSteps cA ad N R2a R2b stepCount kind target first second stepNames firstUses secondUses way values_L2 R2size_L2 R2out_L2 R2num_L2) := hD
            refine lv_istore (lv' := [(5, .int r53), (4, .int r38), (0, .ref (ad 35)), (1, .int v1), (2, .ref R2a), (3, .int v3_L2)]) hx hb dRunner_doSteps_56 hl (by decide) rfl (fun ls hl => ?_)
            refine lv_aload_n hx hb dRunner_doSteps_58 rfl (lv_at hl 2 rfl) ?_
            refine lv_iload_n hx hb dRunner_doSteps_59 rfl (lv_at hl 3 rfl) ?_
            refine lv_iload_n hx hb dRunner_doSteps_60 rfl (lv_at hl 5 rfl) ?_
            refine lv_aload_n hx hb dRunner_doSteps_61 rfl (lv_at hl 2 rfl) ?_
            refine lv_aload_n hx hb dRunner_doSteps_62 rfl (lv_at hl 2 rfl) ?_
            refine va_get (D := D) (ci := 5) (v := .ref (ad 1)) (C := "OnceNamed$Runner") (T := TX5) (N := 6) hx hb hts (fun w h => List.mem_cons_of_mem _ (inX5 w h)) hown hK hP 10 rfl rfl 0 (by decide) (hts _ (List.mem_cons_of_mem _ kw_194)) (fun _ h9 => h9) rfl dRunner_doSteps_63 ?_
            refine lv_iload_n hx hb dRunner_doSteps_66 rfl (lv_at hl 3 rfl) ?_
            refine lv_iload_n hx hb dRunner_doSteps_67 rfl (lv_at hl 5 rfl) ?_
            refine xci (va_runV ⟨hx, hb, hml, hown, hts⟩ (ktProgram_variableSet l D cA ad N _ kind target v1 v3_L2 _ hw) (cwV 2 hts (goodV kw_885 kw_328 kw_329 kw_3 kw_330) rfl rfl rfl (by decide +kernel) ⟨Nat.le_of_ble_eq_true rfl, Nat.le_of_ble_eq_true rfl⟩) (xpreV hK hP hD hN [0, 2, 3] rfl rfl 0 rfl rfl) rfl rfl hl.1 rfl (lv_room (Nat.le_of_ble_eq_true rfl)) dRunner_doSteps_68 ⟨Nat.le_of_ble_eq_true rfl, Nat.le_of_ble_eq_true rfl⟩) hP hD hS hA [0, 2, 3] [1, 4, 5, 6, 7, 8, 9, 10, 11, 12, 13] rfl rfl rfl rfl [11, 0, 12, 13, 1, 2, 3, 4, 5, 6, 7, 8, 9, 10] rfl (fun _ => rfl) (fun r68 u H locs hw hP hD hS => ?_)
            have hP : va_P D vwCl (wdRunner_doSteps cA ad N R2a R2b stepCount kind target first second stepNames firstUses secondUses way values_L2 R2size_L2 R2out_L2 R2num_L2) H := hP
            have hD : va_D A (wdRunner_doSteps cA ad N R2a R2b stepCount kind target first second stepNames firstUses secondUses way values_L2 R2size_L2 R2out_L2 R2num_L2) := hD
            refine xci (va_runV ⟨hx, hb, hml, hown, hts⟩ (ktRunner_placeOf l D cA ad N _ way r68 _ hw) (cwV 1 hts (goodV kw_880 kw_882 ks_3_9 kw_8 kw_883) rfl rfl rfl (by decide +kernel) ⟨Nat.le_of_ble_eq_true rfl, Nat.le_of_ble_eq_true rfl⟩) (xpreV hK hP hD hN [6, 10] rfl rfl 10 rfl rfl) rfl rfl hl.1 rfl (lv_room (Nat.le_of_ble_eq_true rfl)) dRunner_doSteps_71 ⟨Nat.le_of_ble_eq_true rfl, Nat.le_of_ble_eq_true rfl⟩) hP hD hS hA [6, 10] [0, 1, 2, 3, 4, 5, 7, 8, 9, 11, 12, 13] rfl rfl rfl rfl [0, 1, 2, 3, 4, 5, 12, 6, 7, 8, 13, 9, 10, 11] rfl (fun _ => rfl) (fun r71 u H locs hw hP hD hS => ?_)
            have hP : va_P D vwCl (wdRunner_doSteps cA ad N R2a R2b stepCount kind target first second stepNames firstUses secondUses way values_L2 R2size_L2 R2out_L2 R2num_L2) H := hP
            have hD : va_D A (wdRunner_doSteps cA ad N R2a R2b stepCount kind target first second stepNames firstUses secondUses way values_L2 R2size_L2 R2out_L2 R2num_L2) := hD
            refine lv_iload hx hb dRunner_doSteps_74 (lv_at hl 1 rfl) ?_
            refine lv_iload hx hb dRunner_doSteps_76 (lv_at hl 0 rfl) ?_
            refine lv_aload_n hx hb dRunner_doSteps_78 rfl (lv_at hl 4 rfl) ?_
            refine xcv (va_runV ⟨hx, hb, hml, hown, hts⟩ (ktRunner_doStep l D cA ad N R2a R2b _ kind first way values_L2 R2size_L2 R2out_L2 R2num_L2 v1 v3_L2 r71 r38 r53 _ hw) (cwV 6 hts (goodV kw_886 kw_888 ks_3_10 kw_8 kw_889) rfl rfl rfl (by decide +kernel) ⟨Nat.le_of_ble_eq_true rfl, Nat.le_of_ble_eq_true rfl⟩) (xpreV hK hP hD hN [0, 2, 4, 10, 11, 12, 13] rfl rfl 10 rfl rfl) rfl rfl hl.1 rfl (lv_room (Nat.le_of_ble_eq_true rfl)) dRunner_doSteps_79 ⟨Nat.le_of_ble_eq_true rfl, Nat.le_of_ble_eq_true rfl⟩) hP hD hS hA [0, 2, 4, 10, 11, 12, 13] [1, 3, 5, 6, 7, 8, 9] rfl rfl rfl rfl [7, 0, 8, 1, 9, 2, 3, 4, 5, 6, 10, 11, 12, 13] rfl (fun _ => rfl) (fun u H locs hw hP hD hS => ?_)
            obtain ⟨values_79, R2size_79, R2out_79, R2num_79⟩ := u
            try dsimp only at hw
            have hP : va_P D vwCl (wdRunner_doSteps cA ad N R2a R2b stepCount kind target first second stepNames firstUses secondUses way values_79 R2size_79 R2out_79 R2num_79) H := hP
            have hD : va_D A (wdRunner_doSteps cA ad N R2a R2b stepCount kind target first second stepNames firstUses secondUses way values_79 R2size_79 R2out_79 R2num_79) := hD
            refine lv_goto (tgt := 129) hx hb dRunner_doSteps_82 rfl ?_
            refine lv_iinc (k := 5) (v := (v3_L2 + 1)) (lv' := [(3, .int (v3_L2 + 1)), (5, .int r53), (4, .int r38), (0, .ref (ad 35)), (1, .int v1), (2, .ref R2a)]) hx hb dRunner_doSteps_129 hl rfl rfl (by decide) rfl (fun ls hl => ?_)
            refine lv_goto (tgt := 2) hx hb dRunner_doSteps_132 rfl ?_
            exact ih (v3_L2 + 1) values_79 R2size_79 R2out_79 R2num_79 _ _ _ (lv_sub hl [3, 4, 5, 0] rfl) hP hD hS hw
  refine hlp2 k2 0 values R2size R2out R2num _ _ _ (lv_sub hl [1, 2, 3, 0] rfl) hP hD hS hw
abbrev wdRunner_nextBlock (cA : ClassId) (ad : Nat → Nat) (N : Nat) (forkVariable : Nat → Int32) (yes : Nat → Int32) (no : Nat → Int32) (endUses : Nat → Int32) (way : Int32) (values : Nat → Int32) : va_W := [((ad 1), .inr (1, [.int (nI N), .ref (ad 2), .ref (ad 3), .ref (ad 4), .ref (ad 5), .ref (ad 6), .ref (ad 7), .ref (ad 8), .ref (ad 9), .ref (ad 10)])), ((ad 7), .inl (cA, N, .inl forkVariable)), ((ad 8), .inl (cA, N, .inl yes)), ((ad 9), .inl (cA, N, .inl no)), ((ad 18), .inr (3, [.ref (ad 1), .ref (ad 11), .int (nI N), .ref (ad 19), .ref (ad 20), .ref (ad 21), .ref (ad 22), .ref (ad 23), .ref (ad 24), .ref (ad 25), .ref (ad 26), .ref (ad 27), .ref (ad 28), .ref (ad 29)])), ((ad 24), .inl (cA, N, .inl endUses)), ((ad 35), .inr (5, [.ref (ad 1), .ref (ad 18), .ref (ad 30), .ref (ad 36), .ref (ad 37), .int way])), ((ad 36), .inl (cA, 601, .inl values))]
abbrev qcRunner_nextBlock (D : va_G) (cA : ClassId) (ad : Nat → Nat) (N : Nat) (forkVariable : Nat → Int32) (yes : Nat → Int32) (no : Nat → Int32) (endUses : Nat → Int32) (way : Int32) (values : Nat → Int32) (post : Int32 → Prop) (A : Nat → Prop) : Array Value → State → Outcome → State → Prop := va_Qi (S := Unit) (fun r u => post r ) (fun u t => xB D [(cA, .int)] A (wdRunner_nextBlock cA ad N forkVariable yes no endUses way values) t) A
abbrev rmRunner_nextBlock : Room := { frames := 2, cells := 0, slots := 0, locals := 42 }
set_option maxHeartbeats 4000000 in
set_option maxRecDepth 100000 in
theorem ktRunner_nextBlock (l : Launch) (D : va_G) (cA : ClassId) (ad : Nat → Nat) (N : Nat) (sz : Nat) (forkVariable : Nat → Int32) (yes : Nat → Int32) (no : Nat → Int32) (endUses : Nat → Int32) (way : Int32) (values : Nat → Int32) (v1 : Int32) (post : Int32 → Prop) (hw : wpRunner_nextBlock N forkVariable yes no endUses way values v1 post) : Met l yRunner_nextBlock (Cond.code yRunner_nextBlock cRunner_nextBlock 3 (some .int) :: xW) rmRunner_nextBlock (va_Pc [.ref (ad 35), .int v1] (xPc D [(cA, .int)] (wdRunner_nextBlock cA ad N forkVariable yes no endUses way values) sz)) (qcRunner_nextBlock D cA ad N forkVariable yes no endUses way values post (va_A (wdRunner_nextBlock cA ad N forkVariable yes no endUses way values) sz)) 0 0 (va_A (wdRunner_nextBlock cA ad N forkVariable yes no endUses way values) sz) := by
  refine Met.ofW (cc := cRunner_nextBlock) (maxL := 3) (ret := (some .int)) (by decide) rfl ?_
  intro p e s m args below meth c s₁ B hml hv
  obtain ⟨rfl, hsz, hP, hK, hD0, hN⟩ := hv
  have hx := B.exec
  have hb := B.bytes
  have hr := B.returns
  have hts := atoms_spec (ws := (Cond.code yRunner_nextBlock cRunner_nextBlock 3 (some .int) :: xW)) B.pre
  have hown : s.vm.findClass "OnceNamed$Runner" = some m.cls := findClass_of_methodNamed B.named
  have hlocks := B.notSynchronized
  subst hsz
  have hD := hD0.self (sz := s.heap.size)
  generalize hAe : va_A (wdRunner_nextBlock cA ad N forkVariable yes no endUses way values) s.heap.size = A at hD ⊢
  have hA : ∀ q : Nat, s.heap.size ≤ q → A q := fun q h => by rw [← hAe]; exact Or.inr h
  have hS : va_S A s.heap s.heap [] := va_S.rf
  have hend : ∀ (r : Int32)  (H : Heap) (locs : List Loc) (pc : Nat) (ls : Array Slot), decode cRunner_nextBlock pc = .ok (.ireturn, 1) → va_P D vwCl (wdRunner_nextBlock cA ad N forkVariable yes no endUses way values) H → va_D A (wdRunner_nextBlock cA ad N forkVariable yes no endUses way values) → va_S A s.heap H locs → post r  → W p l e (headSpec (Cond.code yRunner_nextBlock cRunner_nextBlock 3 (some .int) :: xW) rmRunner_nextBlock).room s m ([.ref (ad 35), .int v1] : List Value).toArray below meth c H locs 0 0 (MQ below (qcRunner_nextBlock D cA ad N forkVariable yes no endUses way values post A) ([.ref (ad 35), .int v1] : List Value).toArray s 0 0 A) (F0 m pc ls [.int r]) := fun r  H locs pc ls hd hP hD hS hw => W.iret (v := r) hx hb hr (fun t ht hW => ⟨⟨r, (), rfl, hw, ⟨by rw [ht]; exact hP, va_K.moved hW.alike hK, hD⟩⟩, hS.F ht⟩) hS.2.2 hd
  generalize hQ : MQ below (qcRunner_nextBlock D cA ad N forkVariable yes no endUses way values post A) ([.ref (ad 35), .int v1] : List Value).toArray s 0 0 A = Q at hend ⊢
  have hl := lv_entry ([.ref (ad 35), .int v1]) (n := 3) (Nat.le_of_ble_eq_true rfl)
  rw [lg_entry_eq]
  generalize (lg_sl ([.ref (ad 35), .int v1]) ++ List.replicate (3 - (lg_sl ([.ref (ad 35), .int v1])).length) Slot.unset).toArray = ls at hl ⊢
  have hl : lv_has ls 3 [(0, .ref (ad 35)), (1, .int v1)] := hl
  unfold wpRunner_nextBlock at hw
  refine lv_aload_n hx hb dRunner_nextBlock_0 rfl (lv_at hl 0 rfl) ?_
  refine va_get (D := D) (ci := 5) (v := .int way) (C := "OnceNamed$Runner") (T := TX5) (N := 6) hx hb hts (fun w h => List.mem_cons_of_mem _ (inX5 w h)) hown hK hP 6 rfl rfl 5 (by decide) (hts _ (List.mem_cons_of_mem _ kw_199)) (fun _ h9 => h9) rfl dRunner_nextBlock_1 ?_
  obtain ⟨J30, hJ30, hw⟩ := hw
  have hj30 : ∀ (t30_0 : Int32) (ls : Array Slot) (H : Heap) (locs : List Loc), lv_has ls 3 [(0, .ref (ad 35)), (1, .int v1)] → va_P D vwCl (wdRunner_nextBlock cA ad N forkVariable yes no endUses way values) H → va_D A (wdRunner_nextBlock cA ad N forkVariable yes no endUses way values) → va_S A s.heap H locs → J30 t30_0 → W p l e (headSpec (Cond.code yRunner_nextBlock cRunner_nextBlock 3 (some .int) :: xW) rmRunner_nextBlock).room s m ([.ref (ad 35), .int v1] : List Value).toArray below meth c H locs 0 0 Q (F0 m 30 ls [.int t30_0]) := by
    intro t30_0 ls H locs hl hP hD hS hw
    have hw := hJ30 t30_0 hw
    refine lv_istore_n (lv' := [(2, .int t30_0), (0, .ref (ad 35)), (1, .int v1)]) hx hb dRunner_nextBlock_30 rfl hl (by decide) rfl (fun ls hl => ?_)
    refine lv_aload_n hx hb dRunner_nextBlock_31 rfl (lv_at hl 1 rfl) ?_
    refine va_get (D := D) (ci := 5) (v := .ref (ad 1)) (C := "OnceNamed$Runner") (T := TX5) (N := 6) hx hb hts (fun w h => List.mem_cons_of_mem _ (inX5 w h)) hown hK hP 6 rfl rfl 0 (by decide) (hts _ (List.mem_cons_of_mem _ kw_194)) (fun _ h9 => h9) rfl dRunner_nextBlock_32 ?_
    refine lv_iload_n hx hb dRunner_nextBlock_35 rfl (lv_at hl 2 rfl) ?_
    refine lv_aload_n hx hb dRunner_nextBlock_36 rfl (lv_at hl 1 rfl) ?_
    refine lv_iload_n hx hb dRunner_nextBlock_37 rfl (lv_at hl 0 rfl) ?_
    refine xci (va_runV ⟨hx, hb, hml, hown, hts⟩ (ktRunner_valueOf l D cA ad N _ way values t30_0 _ hw) (cwV 1 hts (goodV kw_851 kw_853 ks_3_6 kw_8 kw_854) rfl rfl rfl (by decide +kernel) ⟨Nat.le_of_ble_eq_true rfl, Nat.le_of_ble_eq_true rfl⟩) (xpreV hK hP hD hN [6, 7] rfl rfl 6 rfl rfl) rfl rfl hl.1 rfl (lv_room (Nat.le_of_ble_eq_true rfl)) dRunner_nextBlock_38 ⟨Nat.le_of_ble_eq_true rfl, Nat.le_of_ble_eq_true rfl⟩) hP hD hS hA [6, 7] [0, 1, 2, 3, 4, 5] rfl rfl rfl rfl [0, 1, 2, 3, 4, 5, 6, 7] rfl (fun _ => rfl) (fun r38 u H locs hw hP hD hS => ?_)
    have hP : va_P D vwCl (wdRunner_nextBlock cA ad N forkVariable yes no endUses way values) H := hP
    have hD : va_D A (wdRunner_nextBlock cA ad N forkVariable yes no endUses way values) := hD
    refine lv_if_ne (tgt := 48) hx hb dRunner_nextBlock_41 rfl (fun hc => ?_) (fun hc => ?_)
    · have hw := hw.1 hc
      refine lv_iconst (v := 0) hx hb dRunner_nextBlock_48 (by decide) ?_
      refine xci (va_runV ⟨hx, hb, hml, hown, hts⟩ (ktProgram_blockAfter l D cA ad N _ yes no v1 false _ hw) (cwV 2 hts (goodV kw_914 kw_915 kw_916 kw_3 kw_917) rfl rfl rfl (by decide +kernel) ⟨Nat.le_of_ble_eq_true rfl, Nat.le_of_ble_eq_true rfl⟩) (xpreV hK hP hD hN [0, 2, 3] rfl rfl 0 rfl rfl) rfl rfl hl.1 rfl (lv_room (Nat.le_of_ble_eq_true rfl)) dRunner_nextBlock_49 ⟨Nat.le_of_ble_eq_true rfl, Nat.le_of_ble_eq_true rfl⟩) hP hD hS hA [0, 2, 3] [1, 4, 5, 6, 7] rfl rfl rfl rfl [5, 0, 6, 7, 1, 2, 3, 4] rfl (fun _ => rfl) (fun r49 u H locs hw hP hD hS => ?_)
      have hP : va_P D vwCl (wdRunner_nextBlock cA ad N forkVariable yes no endUses way values) H := hP
      have hD : va_D A (wdRunner_nextBlock cA ad N forkVariable yes no endUses way values) := hD
      exact hend r49 _ _ _ _ dRunner_nextBlock_52 hP hD hS hw
    · have hw := hw.2 hc
      refine lv_iconst (v := 1) hx hb dRunner_nextBlock_44 (by decide) ?_
      refine lv_goto (tgt := 49) hx hb dRunner_nextBlock_45 rfl ?_
      refine xci (va_runV ⟨hx, hb, hml, hown, hts⟩ (ktProgram_blockAfter l D cA ad N _ yes no v1 true _ hw) (cwV 2 hts (goodV kw_914 kw_915 kw_916 kw_3 kw_917) rfl rfl rfl (by decide +kernel) ⟨Nat.le_of_ble_eq_true rfl, Nat.le_of_ble_eq_true rfl⟩) (xpreV hK hP hD hN [0, 2, 3] rfl rfl 0 rfl rfl) rfl rfl hl.1 rfl (lv_room (Nat.le_of_ble_eq_true rfl)) dRunner_nextBlock_49 ⟨Nat.le_of_ble_eq_true rfl, Nat.le_of_ble_eq_true rfl⟩) hP hD hS hA [0, 2, 3] [1, 4, 5, 6, 7] rfl rfl rfl rfl [5, 0, 6, 7, 1, 2, 3, 4] rfl (fun _ => rfl) (fun r49 u H locs hw hP hD hS => ?_)
      have hP : va_P D vwCl (wdRunner_nextBlock cA ad N forkVariable yes no endUses way values) H := hP
      have hD : va_D A (wdRunner_nextBlock cA ad N forkVariable yes no endUses way values) := hD
      exact hend r49 _ _ _ _ dRunner_nextBlock_52 hP hD hS hw
  refine lv_if_ne (tgt := 22) hx hb dRunner_nextBlock_4 rfl (fun hc => ?_) (fun hc => ?_)
  · have hw := hw.1 hc
    refine lv_aload_n hx hb dRunner_nextBlock_22 rfl (lv_at hl 0 rfl) ?_
    refine va_get (D := D) (ci := 5) (v := .ref (ad 18)) (C := "OnceNamed$Runner") (T := TX5) (N := 6) hx hb hts (fun w h => List.mem_cons_of_mem _ (inX5 w h)) hown hK hP 6 rfl rfl 1 (by decide) (hts _ (List.mem_cons_of_mem _ kw_195)) (fun _ h9 => h9) rfl dRunner_nextBlock_23 ?_
    refine lv_iload_n hx hb dRunner_nextBlock_26 rfl (lv_at hl 1 rfl) ?_
    refine xci (va_runV ⟨hx, hb, hml, hown, hts⟩ (ktNamedForm_endUse l D cA ad N _ endUses v1 _ hw) (cwV 1 hts (goodV kw_913 kw_717 kw_718 kw_6 kw_719) rfl rfl rfl (by decide +kernel) ⟨Nat.le_of_ble_eq_true rfl, Nat.le_of_ble_eq_true rfl⟩) (xpreV hK hP hD hN [4, 5] rfl rfl 4 rfl rfl) rfl rfl hl.1 rfl (lv_room (Nat.le_of_ble_eq_true rfl)) dRunner_nextBlock_27 ⟨Nat.le_of_ble_eq_true rfl, Nat.le_of_ble_eq_true rfl⟩) hP hD hS hA [4, 5] [0, 1, 2, 3, 6, 7] rfl rfl rfl rfl [0, 1, 2, 3, 6, 7, 4, 5] rfl (fun _ => rfl) (fun r27 u H locs hw hP hD hS => ?_)
    have hP : va_P D vwCl (wdRunner_nextBlock cA ad N forkVariable yes no endUses way values) H := hP
    have hD : va_D A (wdRunner_nextBlock cA ad N forkVariable yes no endUses way values) := hD
    exact hj30 r27 _ _ _ (lv_sub hl [0, 1] rfl) hP hD hS hw
  · have hw := hw.2 hc
    refine lv_aload_n hx hb dRunner_nextBlock_7 rfl (lv_at hl 0 rfl) ?_
    refine lv_aload_n hx hb dRunner_nextBlock_8 rfl (lv_at hl 0 rfl) ?_
    refine va_get (D := D) (ci := 5) (v := .ref (ad 1)) (C := "OnceNamed$Runner") (T := TX5) (N := 6) hx hb hts (fun w h => List.mem_cons_of_mem _ (inX5 w h)) hown hK hP 6 rfl rfl 0 (by decide) (hts _ (List.mem_cons_of_mem _ kw_194)) (fun _ h9 => h9) rfl dRunner_nextBlock_9 ?_
    refine lv_iload_n hx hb dRunner_nextBlock_12 rfl (lv_at hl 1 rfl) ?_
    refine xci (va_runV ⟨hx, hb, hml, hown, hts⟩ (ktProgram_variableOfFork l D cA ad N _ forkVariable v1 _ hw) (cwV 1 hts (goodV kw_912 kw_382 kw_383 kw_3 kw_384) rfl rfl rfl (by decide +kernel) ⟨Nat.le_of_ble_eq_true rfl, Nat.le_of_ble_eq_true rfl⟩) (xpreV hK hP hD hN [0, 1] rfl rfl 0 rfl rfl) rfl rfl hl.1 rfl (lv_room (Nat.le_of_ble_eq_true rfl)) dRunner_nextBlock_13 ⟨Nat.le_of_ble_eq_true rfl, Nat.le_of_ble_eq_true rfl⟩) hP hD hS hA [0, 1] [2, 3, 4, 5, 6, 7] rfl rfl rfl rfl [6, 7, 0, 1, 2, 3, 4, 5] rfl (fun _ => rfl) (fun r13 u H locs hw hP hD hS => ?_)
    have hP : va_P D vwCl (wdRunner_nextBlock cA ad N forkVariable yes no endUses way values) H := hP
    have hD : va_D A (wdRunner_nextBlock cA ad N forkVariable yes no endUses way values) := hD
    refine xci (va_runV ⟨hx, hb, hml, hown, hts⟩ (ktRunner_placeOf l D cA ad N _ way r13 _ hw) (cwV 1 hts (goodV kw_880 kw_882 ks_3_9 kw_8 kw_883) rfl rfl rfl (by decide +kernel) ⟨Nat.le_of_ble_eq_true rfl, Nat.le_of_ble_eq_true rfl⟩) (xpreV hK hP hD hN [4, 6] rfl rfl 6 rfl rfl) rfl rfl hl.1 rfl (lv_room (Nat.le_of_ble_eq_true rfl)) dRunner_nextBlock_16 ⟨Nat.le_of_ble_eq_true rfl, Nat.le_of_ble_eq_true rfl⟩) hP hD hS hA [4, 6] [0, 1, 2, 3, 5, 7] rfl rfl rfl rfl [0, 1, 2, 3, 6, 4, 7, 5] rfl (fun _ => rfl) (fun r16 u H locs hw hP hD hS => ?_)
    have hP : va_P D vwCl (wdRunner_nextBlock cA ad N forkVariable yes no endUses way values) H := hP
    have hD : va_D A (wdRunner_nextBlock cA ad N forkVariable yes no endUses way values) := hD
    refine lv_goto (tgt := 30) hx hb dRunner_nextBlock_19 rfl ?_
    exact hj30 r16 _ _ _ (lv_sub hl [0, 1] rfl) hP hD hS hw
abbrev wdRunner_setByCopies (cA : ClassId) (ad : Nat → Nat) (N : Nat) (meetingNames : Nat → Int32) (meetingUses : Nat → Int32) (pending : Int32) (length : Int32) (pendingTo : Nat → Int32) (pendingFrom : Nat → Int32) (copyTo : Nat → Int32) (copyFrom : Nat → Int32) (way : Int32) (values : Nat → Int32) : va_W := [((ad 18), .inr (3, [.ref (ad 1), .ref (ad 11), .int (nI N), .ref (ad 19), .ref (ad 20), .ref (ad 21), .ref (ad 22), .ref (ad 23), .ref (ad 24), .ref (ad 25), .ref (ad 26), .ref (ad 27), .ref (ad 28), .ref (ad 29)])), ((ad 19), .inl (cA, N * 6, .inl meetingNames)), ((ad 20), .inl (cA, N * 6 * (N + 1), .inl meetingUses)), ((ad 30), .inr (4, [.ref (ad 31), .ref (ad 32), .ref (ad 33), .ref (ad 34), .int pending, .int length])), ((ad 31), .inl (cA, 6, .inl pendingTo)), ((ad 32), .inl (cA, 6, .inl pendingFrom)), ((ad 33), .inl (cA, 9, .inl copyTo)), ((ad 34), .inl (cA, 9, .inl copyFrom)), ((ad 35), .inr (5, [.ref (ad 1), .ref (ad 18), .ref (ad 30), .ref (ad 36), .ref (ad 37), .int way])), ((ad 36), .inl (cA, 601, .inl values))]
abbrev qcRunner_setByCopies (D : va_G) (cA : ClassId) (ad : Nat → Nat) (N : Nat) (meetingNames : Nat → Int32) (meetingUses : Nat → Int32) (pending : Int32) (length : Int32) (pendingTo : Nat → Int32) (pendingFrom : Nat → Int32) (copyTo : Nat → Int32) (copyFrom : Nat → Int32) (way : Int32) (values : Nat → Int32) (post : Int32 → Int32 → (Nat → Int32) → (Nat → Int32) → (Nat → Int32) → (Nat → Int32) → (Nat → Int32) → Prop) (A : Nat → Prop) : Array Value → State → Outcome → State → Prop := va_Qv (S := (Int32) × (Int32) × (Nat → Int32) × (Nat → Int32) × (Nat → Int32) × (Nat → Int32) × (Nat → Int32)) (fun u => post u.1 u.2.1 u.2.2.1 u.2.2.2.1 u.2.2.2.2.1 u.2.2.2.2.2.1 u.2.2.2.2.2.2) (fun u t => xB D [(cA, .int)] A (wdRunner_setByCopies cA ad N meetingNames meetingUses u.1 u.2.1 u.2.2.1 u.2.2.2.1 u.2.2.2.2.1 u.2.2.2.2.2.1 way u.2.2.2.2.2.2) t) A
abbrev rmRunner_setByCopies : Room := { frames := 4, cells := 0, slots := 0, locals := 97 }
set_option maxHeartbeats 4000000 in
set_option maxRecDepth 100000 in
theorem ktRunner_setByCopies (l : Launch) (D : va_G) (cA : ClassId) (ad : Nat → Nat) (N : Nat) (sz : Nat) (meetingNames : Nat → Int32) (meetingUses : Nat → Int32) (pending : Int32) (length : Int32) (pendingTo : Nat → Int32) (pendingFrom : Nat → Int32) (copyTo : Nat → Int32) (copyFrom : Nat → Int32) (way : Int32) (values : Nat → Int32) (v1 : Int32) (v2 : Int32) (post : Int32 → Int32 → (Nat → Int32) → (Nat → Int32) → (Nat → Int32) → (Nat → Int32) → (Nat → Int32) → Prop) (hw : wpRunner_setByCopies N meetingNames meetingUses pendingTo pendingFrom copyTo copyFrom values v1 v2 post) : Met l yRunner_setByCopies (Cond.code yRunner_setByCopies cRunner_setByCopies 4 none :: xW) rmRunner_setByCopies (va_Pc [.ref (ad 35), .int v1, .int v2] (xPc D [(cA, .int)] (wdRunner_setByCopies cA ad N meetingNames meetingUses pending length pendingTo pendingFrom copyTo copyFrom way values) sz)) (qcRunner_setByCopies D cA ad N meetingNames meetingUses pending length pendingTo pendingFrom copyTo copyFrom way values post (va_A (wdRunner_setByCopies cA ad N meetingNames meetingUses pending length pendingTo pendingFrom copyTo copyFrom way values) sz)) 0 0 (va_A (wdRunner_setByCopies cA ad N meetingNames meetingUses pending length pendingTo pendingFrom copyTo copyFrom way values) sz) := by
  refine Met.ofW (cc := cRunner_setByCopies) (maxL := 4) (ret := none) (by decide) rfl ?_
  intro p e s m args below meth c s₁ B hml hv
  obtain ⟨rfl, hsz, hP, hK, hD0, hN⟩ := hv
  have hx := B.exec
  have hb := B.bytes
  have hr := B.returns
  have hts := atoms_spec (ws := (Cond.code yRunner_setByCopies cRunner_setByCopies 4 none :: xW)) B.pre
  have hown : s.vm.findClass "OnceNamed$Runner" = some m.cls := findClass_of_methodNamed B.named
  have hlocks := B.notSynchronized
  subst hsz
  have hD := hD0.self (sz := s.heap.size)
  generalize hAe : va_A (wdRunner_setByCopies cA ad N meetingNames meetingUses pending length pendingTo pendingFrom copyTo copyFrom way values) s.heap.size = A at hD ⊢
  have hA : ∀ q : Nat, s.heap.size ≤ q → A q := fun q h => by rw [← hAe]; exact Or.inr h
  have hS : va_S A s.heap s.heap [] := va_S.rf
  have hend : ∀ (u0 : Int32) (u1 : Int32) (u2 : Nat → Int32) (u3 : Nat → Int32) (u4 : Nat → Int32) (u5 : Nat → Int32) (u6 : Nat → Int32) (H : Heap) (locs : List Loc) (pc : Nat) (ls : Array Slot), decode cRunner_setByCopies pc = .ok (.return_, 1) → va_P D vwCl (wdRunner_setByCopies cA ad N meetingNames meetingUses u0 u1 u2 u3 u4 u5 way u6) H → va_D A (wdRunner_setByCopies cA ad N meetingNames meetingUses u0 u1 u2 u3 u4 u5 way u6) → va_S A s.heap H locs → post u0 u1 u2 u3 u4 u5 u6 → W p l e (headSpec (Cond.code yRunner_setByCopies cRunner_setByCopies 4 none :: xW) rmRunner_setByCopies).room s m ([.ref (ad 35), .int v1, .int v2] : List Value).toArray below meth c H locs 0 0 (MQ below (qcRunner_setByCopies D cA ad N meetingNames meetingUses pending length pendingTo pendingFrom copyTo copyFrom way values post A) ([.ref (ad 35), .int v1, .int v2] : List Value).toArray s 0 0 A) (F0 m pc ls []) := fun u0 u1 u2 u3 u4 u5 u6 H locs pc ls hd hP hD hS hw => W.vret hx hb hr (fun t ht hW => ⟨⟨(u0, u1, u2, u3, u4, u5, u6), rfl, hw, ⟨by rw [ht]; exact hP, va_K.moved hW.alike hK, hD⟩⟩, hS.F ht⟩) hS.2.2 hd
  generalize hQ : MQ below (qcRunner_setByCopies D cA ad N meetingNames meetingUses pending length pendingTo pendingFrom copyTo copyFrom way values post A) ([.ref (ad 35), .int v1, .int v2] : List Value).toArray s 0 0 A = Q at hend ⊢
  have hl := lv_entry ([.ref (ad 35), .int v1, .int v2]) (n := 4) (Nat.le_of_ble_eq_true rfl)
  rw [lg_entry_eq]
  generalize (lg_sl ([.ref (ad 35), .int v1, .int v2]) ++ List.replicate (4 - (lg_sl ([.ref (ad 35), .int v1, .int v2])).length) Slot.unset).toArray = ls at hl ⊢
  have hl : lv_has ls 4 [(0, .ref (ad 35)), (1, .int v1), (2, .int v2)] := hl
  unfold wpRunner_setByCopies at hw
  refine lv_aload_n hx hb dRunner_setByCopies_0 rfl (lv_at hl 0 rfl) ?_
  refine va_get (D := D) (ci := 5) (v := .ref (ad 30)) (C := "OnceNamed$Runner") (T := TX5) (N := 6) hx hb hts (fun w h => List.mem_cons_of_mem _ (inX5 w h)) hown hK hP 8 rfl rfl 2 (by decide) (hts _ (List.mem_cons_of_mem _ kw_196)) (fun _ h9 => h9) rfl dRunner_setByCopies_1 ?_
  refine lv_aload_n hx hb dRunner_setByCopies_4 rfl (lv_at hl 0 rfl) ?_
  refine va_get (D := D) (ci := 5) (v := .ref (ad 18)) (C := "OnceNamed$Runner") (T := TX5) (N := 6) hx hb hts (fun w h => List.mem_cons_of_mem _ (inX5 w h)) hown hK hP 8 rfl rfl 1 (by decide) (hts _ (List.mem_cons_of_mem _ kw_195)) (fun _ h9 => h9) rfl dRunner_setByCopies_5 ?_
  refine lv_iload_n hx hb dRunner_setByCopies_8 rfl (lv_at hl 1 rfl) ?_
  refine lv_iload_n hx hb dRunner_setByCopies_9 rfl (lv_at hl 2 rfl) ?_
  refine xcv (va_runV ⟨hx, hb, hml, hown, hts⟩ (ktCopyPlan_draw l D cA ad N _ meetingNames meetingUses pending length pendingTo pendingFrom copyTo copyFrom v1 v2 _ hw) (cwV 3 hts (goodV kw_860 kw_778 kw_779 kw_7 kw_780) rfl rfl rfl (by decide +kernel) ⟨Nat.le_of_ble_eq_true rfl, Nat.le_of_ble_eq_true rfl⟩) (xpreV hK hP hD hN [0, 1, 2, 3, 4, 5, 6, 7] rfl rfl 3 rfl rfl) rfl rfl hl.1 rfl (lv_room (Nat.le_of_ble_eq_true rfl)) dRunner_setByCopies_10 ⟨Nat.le_of_ble_eq_true rfl, Nat.le_of_ble_eq_true rfl⟩) hP hD hS hA [0, 1, 2, 3, 4, 5, 6, 7] [8, 9] rfl rfl rfl rfl [2, 3, 4, 5, 6, 7, 8, 9, 0, 1] rfl (fun _ => rfl) (fun u H locs hw hP hD hS => ?_)
  obtain ⟨pending_10, length_10, pendingTo_10, pendingFrom_10, copyTo_10, copyFrom_10⟩ := u
  try dsimp only at hw
  have hP : va_P D vwCl (wdRunner_setByCopies cA ad N meetingNames meetingUses pending_10 length_10 pendingTo_10 pendingFrom_10 copyTo_10 copyFrom_10 way values) H := hP
  have hD : va_D A (wdRunner_setByCopies cA ad N meetingNames meetingUses pending_10 length_10 pendingTo_10 pendingFrom_10 copyTo_10 copyFrom_10 way values) := hD
  refine lv_iconst (v := 0) hx hb dRunner_setByCopies_13 (by decide) ?_
  refine lv_istore_n (lv' := [(3, .int 0), (0, .ref (ad 35)), (1, .int v1), (2, .int v2)]) hx hb dRunner_setByCopies_14 rfl hl (by decide) rfl (fun ls hl => ?_)
  obtain ⟨k15, hw⟩ := hw
  have hlp15 : ∀ (k : Nat), ∀ (v3_L15 : Int32) (values_L15 : Nat → Int32) (ls : Array Slot) (H : Heap) (locs : List Loc), lv_has ls 4 [(0, .ref (ad 35)), (1, .int v1), (2, .int v2), (3, .int v3_L15)] → va_P D vwCl (wdRunner_setByCopies cA ad N meetingNames meetingUses pending_10 length_10 pendingTo_10 pendingFrom_10 copyTo_10 copyFrom_10 way values_L15) H → va_D A (wdRunner_setByCopies cA ad N meetingNames meetingUses pending_10 length_10 pendingTo_10 pendingFrom_10 copyTo_10 copyFrom_10 way values_L15) → va_S A s.heap H locs → lpRunner_setByCopies_15 pending_10 length_10 pendingTo_10 pendingFrom_10 copyTo_10 copyFrom_10 post k v3_L15 values_L15 → W p l e (headSpec (Cond.code yRunner_setByCopies cRunner_setByCopies 4 none :: xW) rmRunner_setByCopies).room s m ([.ref (ad 35), .int v1, .int v2] : List Value).toArray below meth c H locs 0 0 Q (F0 m 15 ls []) := by
    intro k
    induction k with
    | zero => intro v3_L15 values_L15 ls H locs hl hP hD hS hw; exact False.elim hw
    | succ k ih =>
      intro v3_L15 values_L15 ls H locs hl hP hD hS hw
      refine lv_iload_n hx hb dRunner_setByCopies_15 rfl (lv_at hl 3 rfl) ?_
      refine lv_aload_n hx hb dRunner_setByCopies_16 rfl (lv_at hl 0 rfl) ?_
      refine va_get (D := D) (ci := 5) (v := .ref (ad 30)) (C := "OnceNamed$Runner") (T := TX5) (N := 6) hx hb hts (fun w h => List.mem_cons_of_mem _ (inX5 w h)) hown hK hP 8 rfl rfl 2 (by decide) (hts _ (List.mem_cons_of_mem _ kw_196)) (fun _ h9 => h9) rfl dRunner_setByCopies_17 ?_
      dsimp only [lpRunner_setByCopies_15] at hw
      refine xci (va_runV ⟨hx, hb, hml, hown, hts⟩ (ktCopyPlan_length l D cA ad N _ pending_10 length_10 _ hw) (cwV 0 hts (goodV kw_861 kw_808 kw_809 kw_7 kw_810) rfl rfl rfl (by decide +kernel) ⟨Nat.le_of_ble_eq_true rfl, Nat.le_of_ble_eq_true rfl⟩) (xpreV hK hP hD hN [3] rfl rfl 3 rfl rfl) rfl rfl hl.1 rfl (lv_room (Nat.le_of_ble_eq_true rfl)) dRunner_setByCopies_20 ⟨Nat.le_of_ble_eq_true rfl, Nat.le_of_ble_eq_true rfl⟩) hP hD hS hA [3] [0, 1, 2, 4, 5, 6, 7, 8, 9] rfl rfl rfl rfl [0, 1, 2, 9, 3, 4, 5, 6, 7, 8] rfl (fun _ => rfl) (fun r20 u H locs hw hP hD hS => ?_)
      have hP : va_P D vwCl (wdRunner_setByCopies cA ad N meetingNames meetingUses pending_10 length_10 pendingTo_10 pendingFrom_10 copyTo_10 copyFrom_10 way values_L15) H := hP
      have hD : va_D A (wdRunner_setByCopies cA ad N meetingNames meetingUses pending_10 length_10 pendingTo_10 pendingFrom_10 copyTo_10 copyFrom_10 way values_L15) := hD
      refine lv_icmp_ge (tgt := 58) hx hb dRunner_setByCopies_23 rfl (fun hc => ?_) (fun hc => ?_)
      · have hw := hw.1 hc
        exact hend pending_10 length_10 pendingTo_10 pendingFrom_10 copyTo_10 copyFrom_10 values_L15 _ _ _ _ dRunner_setByCopies_58 hP hD hS hw
      · have hw := hw.2 hc
        refine lv_aload_n hx hb dRunner_setByCopies_26 rfl (lv_at hl 0 rfl) ?_
        refine va_get (D := D) (ci := 5) (v := .ref (ad 36)) (C := "OnceNamed$Runner") (T := TX5) (N := 6) hx hb hts (fun w h => List.mem_cons_of_mem _ (inX5 w h)) hown hK hP 8 rfl rfl 3 (by decide) (hts _ (List.mem_cons_of_mem _ kw_197)) (fun _ h9 => h9) rfl dRunner_setByCopies_27 ?_
        refine lv_aload_n hx hb dRunner_setByCopies_30 rfl (lv_at hl 0 rfl) ?_
        refine va_get (D := D) (ci := 5) (v := .ref (ad 30)) (C := "OnceNamed$Runner") (T := TX5) (N := 6) hx hb hts (fun w h => List.mem_cons_of_mem _ (inX5 w h)) hown hK hP 8 rfl rfl 2 (by decide) (hts _ (List.mem_cons_of_mem _ kw_196)) (fun _ h9 => h9) rfl dRunner_setByCopies_31 ?_
        refine lv_iload_n hx hb dRunner_setByCopies_34 rfl (lv_at hl 3 rfl) ?_
        refine xci (va_runV ⟨hx, hb, hml, hown, hts⟩ (ktCopyPlan_to l D cA ad N _ pending_10 length_10 copyTo_10 v3_L15 _ hw) (cwV 1 hts (goodV kw_862 kw_863 kw_864 kw_7 kw_865) rfl rfl rfl (by decide +kernel) ⟨Nat.le_of_ble_eq_true rfl, Nat.le_of_ble_eq_true rfl⟩) (xpreV hK hP hD hN [3, 6] rfl rfl 3 rfl rfl) rfl rfl hl.1 rfl (lv_room (Nat.le_of_ble_eq_true rfl)) dRunner_setByCopies_35 ⟨Nat.le_of_ble_eq_true rfl, Nat.le_of_ble_eq_true rfl⟩) hP hD hS hA [3, 6] [0, 1, 2, 4, 5, 7, 8, 9] rfl rfl rfl rfl [0, 1, 2, 8, 3, 4, 9, 5, 6, 7] rfl (fun _ => rfl) (fun r35 u H locs hw hP hD hS => ?_)
        have hP : va_P D vwCl (wdRunner_setByCopies cA ad N meetingNames meetingUses pending_10 length_10 pendingTo_10 pendingFrom_10 copyTo_10 copyFrom_10 way values_L15) H := hP
        have hD : va_D A (wdRunner_setByCopies cA ad N meetingNames meetingUses pending_10 length_10 pendingTo_10 pendingFrom_10 copyTo_10 copyFrom_10 way values_L15) := hD
        refine lv_aload_n hx hb dRunner_setByCopies_38 rfl (lv_at hl 0 rfl) ?_
        refine va_get (D := D) (ci := 5) (v := .ref (ad 36)) (C := "OnceNamed$Runner") (T := TX5) (N := 6) hx hb hts (fun w h => List.mem_cons_of_mem _ (inX5 w h)) hown hK hP 8 rfl rfl 3 (by decide) (hts _ (List.mem_cons_of_mem _ kw_197)) (fun _ h9 => h9) rfl dRunner_setByCopies_39 ?_
        refine lv_aload_n hx hb dRunner_setByCopies_42 rfl (lv_at hl 0 rfl) ?_
        refine va_get (D := D) (ci := 5) (v := .ref (ad 30)) (C := "OnceNamed$Runner") (T := TX5) (N := 6) hx hb hts (fun w h => List.mem_cons_of_mem _ (inX5 w h)) hown hK hP 8 rfl rfl 2 (by decide) (hts _ (List.mem_cons_of_mem _ kw_196)) (fun _ h9 => h9) rfl dRunner_setByCopies_43 ?_
        refine lv_iload_n hx hb dRunner_setByCopies_46 rfl (lv_at hl 3 rfl) ?_
        refine xci (va_runV ⟨hx, hb, hml, hown, hts⟩ (ktCopyPlan_from l D cA ad N _ pending_10 length_10 copyFrom_10 v3_L15 _ hw) (cwV 1 hts (goodV kw_866 kw_867 kw_868 kw_7 kw_869) rfl rfl rfl (by decide +kernel) ⟨Nat.le_of_ble_eq_true rfl, Nat.le_of_ble_eq_true rfl⟩) (xpreV hK hP hD hN [3, 7] rfl rfl 3 rfl rfl) rfl rfl hl.1 rfl (lv_room (Nat.le_of_ble_eq_true rfl)) dRunner_setByCopies_47 ⟨Nat.le_of_ble_eq_true rfl, Nat.le_of_ble_eq_true rfl⟩) hP hD hS hA [3, 7] [0, 1, 2, 4, 5, 6, 8, 9] rfl rfl rfl rfl [0, 1, 2, 8, 3, 4, 5, 9, 6, 7] rfl (fun _ => rfl) (fun r47 u H locs hw hP hD hS => ?_)
        have hP : va_P D vwCl (wdRunner_setByCopies cA ad N meetingNames meetingUses pending_10 length_10 pendingTo_10 pendingFrom_10 copyTo_10 copyFrom_10 way values_L15) H := hP
        have hD : va_D A (wdRunner_setByCopies cA ad N meetingNames meetingUses pending_10 length_10 pendingTo_10 pendingFrom_10 copyTo_10 copyFrom_10 way values_L15) := hD
        have ho := hw.1
        have hw := hw.2
        refine va_iald hx hb hK hP 9 0 rfl rfl ho dRunner_setByCopies_50 ?_
        have ho := hw.1
        have hw := hw.2
        refine va_iast hx hb hK hP hD hS 9 0 rfl rfl ho dRunner_setByCopies_51 (fun H locs hP hD hS => ?_)
        have hP : va_P D vwCl (wdRunner_setByCopies cA ad N meetingNames meetingUses pending_10 length_10 pendingTo_10 pendingFrom_10 copyTo_10 copyFrom_10 way (upd values_L15 (Int32.toNatClampNeg r35) (values_L15 (Int32.toNatClampNeg r47)))) H := hP
        have hD : va_D A (wdRunner_setByCopies cA ad N meetingNames meetingUses pending_10 length_10 pendingTo_10 pendingFrom_10 copyTo_10 copyFrom_10 way (upd values_L15 (Int32.toNatClampNeg r35) (values_L15 (Int32.toNatClampNeg r47)))) := hD
        refine lv_iinc (k := 3) (v := (v3_L15 + 1)) (lv' := [(3, .int (v3_L15 + 1)), (0, .ref (ad 35)), (1, .int v1), (2, .int v2)]) hx hb dRunner_setByCopies_52 hl rfl rfl (by decide) rfl (fun ls hl => ?_)
        refine lv_goto (tgt := 15) hx hb dRunner_setByCopies_55 rfl ?_
        exact ih (v3_L15 + 1) (upd values_L15 (Int32.toNatClampNeg r35) (values_L15 (Int32.toNatClampNeg r47))) _ _ _ (lv_sub hl [1, 2, 3, 0] rfl) hP hD hS hw
  refine hlp15 k15 0 values _ _ _ (lv_sub hl [1, 2, 3, 0] rfl) hP hD hS hw
