abbrev wdTalk_begin (cA : ClassId) (ad : Nat → Nat) (N : Nat) (R0a : Nat) (R0b : Nat) (R0size : Int32) (R0out : Int32) : va_W := [(R0a, .inr (6, [.ref R0b, .int R0size, .int R0out]))]
abbrev qcTalk_begin (D : va_G) (cA : ClassId) (ad : Nat → Nat) (N : Nat) (R0a : Nat) (R0b : Nat) (R0size : Int32) (R0out : Int32) (post : Int32 → Int32 → Prop) (A : Nat → Prop) : Array Value → State → Outcome → State → Prop := va_Qv (S := (Int32) × (Int32)) (fun u => post u.1 u.2) (fun u t => xB D [(cA, .int)] A (wdTalk_begin cA ad N R0a R0b u.1 u.2) t) A
abbrev rmTalk_begin : Room := { frames := 0, cells := 0, slots := 0, locals := 0 }
set_option maxHeartbeats 4000000 in
set_option maxRecDepth 100000 in
theorem ktTalk_begin (l : Launch) (D : va_G) (cA : ClassId) (ad : Nat → Nat) (N : Nat) (R0a : Nat) (R0b : Nat) (sz : Nat) (R0size : Int32) (R0out : Int32)  (post : Int32 → Int32 → Prop) (hw : wpTalk_begin post) : Met l yTalk_begin (Cond.code yTalk_begin cTalk_begin 1 none :: xW) rmTalk_begin (va_Pc [.ref R0a] (xPc D [(cA, .int)] (wdTalk_begin cA ad N R0a R0b R0size R0out) sz)) (qcTalk_begin D cA ad N R0a R0b R0size R0out post (va_A (wdTalk_begin cA ad N R0a R0b R0size R0out) sz)) 0 0 (va_A (wdTalk_begin cA ad N R0a R0b R0size R0out) sz) := by
  refine Met.ofW (cc := cTalk_begin) (maxL := 1) (ret := none) (by decide) rfl ?_
  intro p e s m args below meth c s₁ B hml hv
  obtain ⟨rfl, hsz, hP, hK, hD0, hN⟩ := hv
  have hx := B.exec
  have hb := B.bytes
  have hr := B.returns
  have hts := atoms_spec (ws := (Cond.code yTalk_begin cTalk_begin 1 none :: xW)) B.pre
  have hown : s.vm.findClass "OnceNamed$Talk" = some m.cls := findClass_of_methodNamed B.named
  have hlocks := B.notSynchronized
  subst hsz
  have hD := hD0.self (sz := s.heap.size)
  generalize hAe : va_A (wdTalk_begin cA ad N R0a R0b R0size R0out) s.heap.size = A at hD ⊢
  have hA : ∀ q : Nat, s.heap.size ≤ q → A q := fun q h => by rw [← hAe]; exact Or.inr h
  have hS : va_S A s.heap s.heap [] := va_S.rf
  have hend : ∀ (u0 : Int32) (u1 : Int32) (H : Heap) (locs : List Loc) (pc : Nat) (ls : Array Slot), decode cTalk_begin pc = .ok (.return_, 1) → va_P D vwCl (wdTalk_begin cA ad N R0a R0b u0 u1) H → va_D A (wdTalk_begin cA ad N R0a R0b u0 u1) → va_S A s.heap H locs → post u0 u1 → W p l e (headSpec (Cond.code yTalk_begin cTalk_begin 1 none :: xW) rmTalk_begin).room s m ([.ref R0a] : List Value).toArray below meth c H locs 0 0 (MQ below (qcTalk_begin D cA ad N R0a R0b R0size R0out post A) ([.ref R0a] : List Value).toArray s 0 0 A) (F0 m pc ls []) := fun u0 u1 H locs pc ls hd hP hD hS hw => W.vret hx hb hr (fun t ht hW => ⟨⟨(u0, u1), rfl, hw, ⟨by rw [ht]; exact hP, va_K.moved hW.alike hK, hD⟩⟩, hS.F ht⟩) hS.2.2 hd
  generalize hQ : MQ below (qcTalk_begin D cA ad N R0a R0b R0size R0out post A) ([.ref R0a] : List Value).toArray s 0 0 A = Q at hend ⊢
  have hl := lv_entry ([.ref R0a]) (n := 1) (Nat.le_of_ble_eq_true rfl)
  rw [lg_entry_eq]
  generalize (lg_sl ([.ref R0a]) ++ List.replicate (1 - (lg_sl ([.ref R0a])).length) Slot.unset).toArray = ls at hl ⊢
  have hl : lv_has ls 1 [(0, .ref R0a)] := hl
  unfold wpTalk_begin at hw
  refine lv_aload_n hx hb dTalk_begin_0 rfl (lv_at hl 0 rfl) ?_
  refine lv_iconst (v := 0) hx hb dTalk_begin_1 (by decide) ?_
  refine va_put (D := D) (ci := 6) (v := .int 0) (ty := .int) (C := "OnceNamed$Talk") (T := TX6) (N := 3) hx hb hts (fun w h => List.mem_cons_of_mem _ (inX6 w h)) tyX6 tyX6_ok nmX6 hown hK hP hD hS 0 rfl rfl 1 (by decide) (hts _ (List.mem_cons_of_mem _ kw_220)) (fun _ h9 => h9) rfl (by decide +kernel) rfl rfl (Nat.le_of_ble_eq_true rfl) dTalk_begin_2 (fun H locs hP hD hS => ?_)
  have hP : va_P D vwCl (wdTalk_begin cA ad N R0a R0b 0 R0out) H := hP
  have hD : va_D A (wdTalk_begin cA ad N R0a R0b 0 R0out) := hD
  refine lv_aload_n hx hb dTalk_begin_5 rfl (lv_at hl 0 rfl) ?_
  refine lv_iconst (v := 0) hx hb dTalk_begin_6 (by decide) ?_
  refine va_put (D := D) (ci := 6) (v := .int 0) (ty := .int) (C := "OnceNamed$Talk") (T := TX6) (N := 3) hx hb hts (fun w h => List.mem_cons_of_mem _ (inX6 w h)) tyX6 tyX6_ok nmX6 hown hK hP hD hS 0 rfl rfl 2 (by decide) (hts _ (List.mem_cons_of_mem _ kw_221)) (fun _ h9 => h9) rfl (by decide +kernel) rfl rfl (Nat.le_of_ble_eq_true rfl) dTalk_begin_7 (fun H locs hP hD hS => ?_)
  have hP : va_P D vwCl (wdTalk_begin cA ad N R0a R0b 0 0) H := hP
  have hD : va_D A (wdTalk_begin cA ad N R0a R0b 0 0) := hD
  exact hend 0 0 _ _ _ _ dTalk_begin_10 hP hD hS hw
abbrev wdTalk_say (cA : ClassId) (ad : Nat → Nat) (N : Nat) (R0a : Nat) (R0b : Nat) (R0size : Int32) (R0out : Int32) (R0num : Nat → Int32) : va_W := [(R0a, .inr (6, [.ref R0b, .int R0size, .int R0out])), (R0b, .inl (cA, 50, .inl R0num))]
abbrev qcTalk_say (D : va_G) (cA : ClassId) (ad : Nat → Nat) (N : Nat) (R0a : Nat) (R0b : Nat) (R0size : Int32) (R0out : Int32) (R0num : Nat → Int32) (post : Int32 → Int32 → (Nat → Int32) → Prop) (A : Nat → Prop) : Array Value → State → Outcome → State → Prop := va_Qv (S := (Int32) × (Int32) × (Nat → Int32)) (fun u => post u.1 u.2.1 u.2.2) (fun u t => xB D [(cA, .int)] A (wdTalk_say cA ad N R0a R0b u.1 u.2.1 u.2.2) t) A
abbrev rmTalk_say : Room := { frames := 0, cells := 0, slots := 0, locals := 0 }
set_option maxHeartbeats 4000000 in
set_option maxRecDepth 100000 in
theorem ktTalk_say (l : Launch) (D : va_G) (cA : ClassId) (ad : Nat → Nat) (N : Nat) (R0a : Nat) (R0b : Nat) (sz : Nat) (R0size : Int32) (R0out : Int32) (R0num : Nat → Int32) (v1 : Int32) (post : Int32 → Int32 → (Nat → Int32) → Prop) (hw : wpTalk_say R0size R0out R0num v1 post) : Met l yTalk_say (Cond.code yTalk_say cTalk_say 2 none :: xW) rmTalk_say (va_Pc [.ref R0a, .int v1] (xPc D [(cA, .int)] (wdTalk_say cA ad N R0a R0b R0size R0out R0num) sz)) (qcTalk_say D cA ad N R0a R0b R0size R0out R0num post (va_A (wdTalk_say cA ad N R0a R0b R0size R0out R0num) sz)) 0 0 (va_A (wdTalk_say cA ad N R0a R0b R0size R0out R0num) sz) := by
  refine Met.ofW (cc := cTalk_say) (maxL := 2) (ret := none) (by decide) rfl ?_
  intro p e s m args below meth c s₁ B hml hv
  obtain ⟨rfl, hsz, hP, hK, hD0, hN⟩ := hv
  have hx := B.exec
  have hb := B.bytes
  have hr := B.returns
  have hts := atoms_spec (ws := (Cond.code yTalk_say cTalk_say 2 none :: xW)) B.pre
  have hown : s.vm.findClass "OnceNamed$Talk" = some m.cls := findClass_of_methodNamed B.named
  have hlocks := B.notSynchronized
  subst hsz
  have hD := hD0.self (sz := s.heap.size)
  generalize hAe : va_A (wdTalk_say cA ad N R0a R0b R0size R0out R0num) s.heap.size = A at hD ⊢
  have hA : ∀ q : Nat, s.heap.size ≤ q → A q := fun q h => by rw [← hAe]; exact Or.inr h
  have hS : va_S A s.heap s.heap [] := va_S.rf
  have hend : ∀ (u0 : Int32) (u1 : Int32) (u2 : Nat → Int32) (H : Heap) (locs : List Loc) (pc : Nat) (ls : Array Slot), decode cTalk_say pc = .ok (.return_, 1) → va_P D vwCl (wdTalk_say cA ad N R0a R0b u0 u1 u2) H → va_D A (wdTalk_say cA ad N R0a R0b u0 u1 u2) → va_S A s.heap H locs → post u0 u1 u2 → W p l e (headSpec (Cond.code yTalk_say cTalk_say 2 none :: xW) rmTalk_say).room s m ([.ref R0a, .int v1] : List Value).toArray below meth c H locs 0 0 (MQ below (qcTalk_say D cA ad N R0a R0b R0size R0out R0num post A) ([.ref R0a, .int v1] : List Value).toArray s 0 0 A) (F0 m pc ls []) := fun u0 u1 u2 H locs pc ls hd hP hD hS hw => W.vret hx hb hr (fun t ht hW => ⟨⟨(u0, u1, u2), rfl, hw, ⟨by rw [ht]; exact hP, va_K.moved hW.alike hK, hD⟩⟩, hS.F ht⟩) hS.2.2 hd
  generalize hQ : MQ below (qcTalk_say D cA ad N R0a R0b R0size R0out R0num post A) ([.ref R0a, .int v1] : List Value).toArray s 0 0 A = Q at hend ⊢
  have hl := lv_entry ([.ref R0a, .int v1]) (n := 2) (Nat.le_of_ble_eq_true rfl)
  rw [lg_entry_eq]
  generalize (lg_sl ([.ref R0a, .int v1]) ++ List.replicate (2 - (lg_sl ([.ref R0a, .int v1])).length) Slot.unset).toArray = ls at hl ⊢
  have hl : lv_has ls 2 [(0, .ref R0a), (1, .int v1)] := hl
  unfold wpTalk_say at hw
  refine lv_aload_n hx hb dTalk_say_0 rfl (lv_at hl 0 rfl) ?_
  refine va_get (D := D) (ci := 6) (v := .int R0size) (C := "OnceNamed$Talk") (T := TX6) (N := 3) hx hb hts (fun w h => List.mem_cons_of_mem _ (inX6 w h)) hown hK hP 0 rfl rfl 1 (by decide) (hts _ (List.mem_cons_of_mem _ kw_220)) (fun _ h9 => h9) rfl dTalk_say_1 ?_
  refine lv_bipush (v := 50) hx hb dTalk_say_4 (by decide) ?_
  refine lv_icmp_lt (tgt := 15) hx hb dTalk_say_6 rfl (fun hc => ?_) (fun hc => ?_)
  · have hw := hw.1 hc
    refine lv_aload_n hx hb dTalk_say_15 rfl (lv_at hl 0 rfl) ?_
    refine va_get (D := D) (ci := 6) (v := .ref R0b) (C := "OnceNamed$Talk") (T := TX6) (N := 3) hx hb hts (fun w h => List.mem_cons_of_mem _ (inX6 w h)) hown hK hP 0 rfl rfl 0 (by decide) (hts _ (List.mem_cons_of_mem _ kw_219)) (fun _ h9 => h9) rfl dTalk_say_16 ?_
    refine lv_aload_n hx hb dTalk_say_19 rfl (lv_at hl 0 rfl) ?_
    refine va_get (D := D) (ci := 6) (v := .int R0size) (C := "OnceNamed$Talk") (T := TX6) (N := 3) hx hb hts (fun w h => List.mem_cons_of_mem _ (inX6 w h)) hown hK hP 0 rfl rfl 1 (by decide) (hts _ (List.mem_cons_of_mem _ kw_220)) (fun _ h9 => h9) rfl dTalk_say_20 ?_
    refine lv_iload_n hx hb dTalk_say_23 rfl (lv_at hl 1 rfl) ?_
    have ho := hw.1
    have hw := hw.2
    refine va_iast hx hb hK hP hD hS 1 0 rfl rfl ho dTalk_say_24 (fun H locs hP hD hS => ?_)
    have hP : va_P D vwCl (wdTalk_say cA ad N R0a R0b R0size R0out (upd R0num (Int32.toNatClampNeg R0size) v1)) H := hP
    have hD : va_D A (wdTalk_say cA ad N R0a R0b R0size R0out (upd R0num (Int32.toNatClampNeg R0size) v1)) := hD
    refine lv_aload_n hx hb dTalk_say_25 rfl (lv_at hl 0 rfl) ?_
    refine lv_dup hx hb dTalk_say_26 rfl ?_
    refine va_get (D := D) (ci := 6) (v := .int R0size) (C := "OnceNamed$Talk") (T := TX6) (N := 3) hx hb hts (fun w h => List.mem_cons_of_mem _ (inX6 w h)) hown hK hP 0 rfl rfl 1 (by decide) (hts _ (List.mem_cons_of_mem _ kw_220)) (fun _ h9 => h9) rfl dTalk_say_27 ?_
    refine lv_iconst (v := 1) hx hb dTalk_say_30 (by decide) ?_
    refine lv_iadd hx hb dTalk_say_31 ?_
    refine va_put (D := D) (ci := 6) (v := .int (R0size + 1)) (ty := .int) (C := "OnceNamed$Talk") (T := TX6) (N := 3) hx hb hts (fun w h => List.mem_cons_of_mem _ (inX6 w h)) tyX6 tyX6_ok nmX6 hown hK hP hD hS 0 rfl rfl 1 (by decide) (hts _ (List.mem_cons_of_mem _ kw_220)) (fun _ h9 => h9) rfl (by decide +kernel) rfl rfl (Nat.le_of_ble_eq_true rfl) dTalk_say_32 (fun H locs hP hD hS => ?_)
    have hP : va_P D vwCl (wdTalk_say cA ad N R0a R0b (R0size + 1) R0out (upd R0num (Int32.toNatClampNeg R0size) v1)) H := hP
    have hD : va_D A (wdTalk_say cA ad N R0a R0b (R0size + 1) R0out (upd R0num (Int32.toNatClampNeg R0size) v1)) := hD
    exact hend (R0size + 1) R0out (upd R0num (Int32.toNatClampNeg R0size) v1) _ _ _ _ dTalk_say_35 hP hD hS hw
  · have hw := hw.2 hc
    refine lv_aload_n hx hb dTalk_say_9 rfl (lv_at hl 0 rfl) ?_
    refine lv_iconst (v := 2) hx hb dTalk_say_10 (by decide) ?_
    refine va_put (D := D) (ci := 6) (v := .int 2) (ty := .int) (C := "OnceNamed$Talk") (T := TX6) (N := 3) hx hb hts (fun w h => List.mem_cons_of_mem _ (inX6 w h)) tyX6 tyX6_ok nmX6 hown hK hP hD hS 0 rfl rfl 2 (by decide) (hts _ (List.mem_cons_of_mem _ kw_221)) (fun _ h9 => h9) rfl (by decide +kernel) rfl rfl (Nat.le_of_ble_eq_true rfl) dTalk_say_11 (fun H locs hP hD hS => ?_)
    have hP : va_P D vwCl (wdTalk_say cA ad N R0a R0b R0size 2 R0num) H := hP
    have hD : va_D A (wdTalk_say cA ad N R0a R0b R0size 2 R0num) := hD
    exact hend R0size 2 R0num _ _ _ _ dTalk_say_14 hP hD hS hw
abbrev wdTalk_fail (cA : ClassId) (ad : Nat → Nat) (N : Nat) (R0a : Nat) (R0b : Nat) (R0size : Int32) (R0out : Int32) : va_W := [(R0a, .inr (6, [.ref R0b, .int R0size, .int R0out]))]
abbrev qcTalk_fail (D : va_G) (cA : ClassId) (ad : Nat → Nat) (N : Nat) (R0a : Nat) (R0b : Nat) (R0size : Int32) (R0out : Int32) (post : Int32 → Prop) (A : Nat → Prop) : Array Value → State → Outcome → State → Prop := va_Qv (S := (Int32)) (fun u => post u) (fun u t => xB D [(cA, .int)] A (wdTalk_fail cA ad N R0a R0b R0size u) t) A
abbrev rmTalk_fail : Room := { frames := 0, cells := 0, slots := 0, locals := 0 }
set_option maxHeartbeats 4000000 in
set_option maxRecDepth 100000 in
theorem ktTalk_fail (l : Launch) (D : va_G) (cA : ClassId) (ad : Nat → Nat) (N : Nat) (R0a : Nat) (R0b : Nat) (sz : Nat) (R0size : Int32) (R0out : Int32) (v1 : Int32) (post : Int32 → Prop) (hw : wpTalk_fail v1 post) : Met l yTalk_fail (Cond.code yTalk_fail cTalk_fail 2 none :: xW) rmTalk_fail (va_Pc [.ref R0a, .int v1] (xPc D [(cA, .int)] (wdTalk_fail cA ad N R0a R0b R0size R0out) sz)) (qcTalk_fail D cA ad N R0a R0b R0size R0out post (va_A (wdTalk_fail cA ad N R0a R0b R0size R0out) sz)) 0 0 (va_A (wdTalk_fail cA ad N R0a R0b R0size R0out) sz) := by
  refine Met.ofW (cc := cTalk_fail) (maxL := 2) (ret := none) (by decide) rfl ?_
  intro p e s m args below meth c s₁ B hml hv
  obtain ⟨rfl, hsz, hP, hK, hD0, hN⟩ := hv
  have hx := B.exec
  have hb := B.bytes
  have hr := B.returns
  have hts := atoms_spec (ws := (Cond.code yTalk_fail cTalk_fail 2 none :: xW)) B.pre
  have hown : s.vm.findClass "OnceNamed$Talk" = some m.cls := findClass_of_methodNamed B.named
  have hlocks := B.notSynchronized
  subst hsz
  have hD := hD0.self (sz := s.heap.size)
  generalize hAe : va_A (wdTalk_fail cA ad N R0a R0b R0size R0out) s.heap.size = A at hD ⊢
  have hA : ∀ q : Nat, s.heap.size ≤ q → A q := fun q h => by rw [← hAe]; exact Or.inr h
  have hS : va_S A s.heap s.heap [] := va_S.rf
  have hend : ∀ (u0 : Int32) (H : Heap) (locs : List Loc) (pc : Nat) (ls : Array Slot), decode cTalk_fail pc = .ok (.return_, 1) → va_P D vwCl (wdTalk_fail cA ad N R0a R0b R0size u0) H → va_D A (wdTalk_fail cA ad N R0a R0b R0size u0) → va_S A s.heap H locs → post u0 → W p l e (headSpec (Cond.code yTalk_fail cTalk_fail 2 none :: xW) rmTalk_fail).room s m ([.ref R0a, .int v1] : List Value).toArray below meth c H locs 0 0 (MQ below (qcTalk_fail D cA ad N R0a R0b R0size R0out post A) ([.ref R0a, .int v1] : List Value).toArray s 0 0 A) (F0 m pc ls []) := fun u0 H locs pc ls hd hP hD hS hw => W.vret hx hb hr (fun t ht hW => ⟨⟨u0, rfl, hw, ⟨by rw [ht]; exact hP, va_K.moved hW.alike hK, hD⟩⟩, hS.F ht⟩) hS.2.2 hd
  generalize hQ : MQ below (qcTalk_fail D cA ad N R0a R0b R0size R0out post A) ([.ref R0a, .int v1] : List Value).toArray s 0 0 A = Q at hend ⊢
  have hl := lv_entry ([.ref R0a, .int v1]) (n := 2) (Nat.le_of_ble_eq_true rfl)
  rw [lg_entry_eq]
  generalize (lg_sl ([.ref R0a, .int v1]) ++ List.replicate (2 - (lg_sl ([.ref R0a, .int v1])).length) Slot.unset).toArray = ls at hl ⊢
  have hl : lv_has ls 2 [(0, .ref R0a), (1, .int v1)] := hl
  unfold wpTalk_fail at hw
  refine lv_aload_n hx hb dTalk_fail_0 rfl (lv_at hl 0 rfl) ?_
  refine lv_iload_n hx hb dTalk_fail_1 rfl (lv_at hl 1 rfl) ?_
  refine va_put (D := D) (ci := 6) (v := .int v1) (ty := .int) (C := "OnceNamed$Talk") (T := TX6) (N := 3) hx hb hts (fun w h => List.mem_cons_of_mem _ (inX6 w h)) tyX6 tyX6_ok nmX6 hown hK hP hD hS 0 rfl rfl 2 (by decide) (hts _ (List.mem_cons_of_mem _ kw_221)) (fun _ h9 => h9) rfl (by decide +kernel) rfl rfl (Nat.le_of_ble_eq_true rfl) dTalk_fail_2 (fun H locs hP hD hS => ?_)
  have hP : va_P D vwCl (wdTalk_fail cA ad N R0a R0b R0size v1) H := hP
  have hD : va_D A (wdTalk_fail cA ad N R0a R0b R0size v1) := hD
  exact hend v1 _ _ _ _ dTalk_fail_5 hP hD hS hw
abbrev wdTalk_outcome (cA : ClassId) (ad : Nat → Nat) (N : Nat) (R0a : Nat) (R0b : Nat) (R0size : Int32) (R0out : Int32) : va_W := [(R0a, .inr (6, [.ref R0b, .int R0size, .int R0out]))]
abbrev qcTalk_outcome (D : va_G) (cA : ClassId) (ad : Nat → Nat) (N : Nat) (R0a : Nat) (R0b : Nat) (R0size : Int32) (R0out : Int32) (post : Int32 → Prop) (A : Nat → Prop) : Array Value → State → Outcome → State → Prop := va_Qi (S := Unit) (fun r u => post r ) (fun u t => xB D [(cA, .int)] A (wdTalk_outcome cA ad N R0a R0b R0size R0out) t) A
abbrev rmTalk_outcome : Room := { frames := 0, cells := 0, slots := 0, locals := 0 }
set_option maxHeartbeats 4000000 in
set_option maxRecDepth 100000 in
theorem ktTalk_outcome (l : Launch) (D : va_G) (cA : ClassId) (ad : Nat → Nat) (N : Nat) (R0a : Nat) (R0b : Nat) (sz : Nat) (R0size : Int32) (R0out : Int32)  (post : Int32 → Prop) (hw : wpTalk_outcome R0out post) : Met l yTalk_outcome (Cond.code yTalk_outcome cTalk_outcome 1 (some .int) :: xW) rmTalk_outcome (va_Pc [.ref R0a] (xPc D [(cA, .int)] (wdTalk_outcome cA ad N R0a R0b R0size R0out) sz)) (qcTalk_outcome D cA ad N R0a R0b R0size R0out post (va_A (wdTalk_outcome cA ad N R0a R0b R0size R0out) sz)) 0 0 (va_A (wdTalk_outcome cA ad N R0a R0b R0size R0out) sz) := by
  refine Met.ofW (cc := cTalk_outcome) (maxL := 1) (ret := (some .int)) (by decide) rfl ?_
  intro p e s m args below meth c s₁ B hml hv
  obtain ⟨rfl, hsz, hP, hK, hD0, hN⟩ := hv
  have hx := B.exec
  have hb := B.bytes
  have hr := B.returns
  have hts := atoms_spec (ws := (Cond.code yTalk_outcome cTalk_outcome 1 (some .int) :: xW)) B.pre
  have hown : s.vm.findClass "OnceNamed$Talk" = some m.cls := findClass_of_methodNamed B.named
  have hlocks := B.notSynchronized
  subst hsz
  have hD := hD0.self (sz := s.heap.size)
  generalize hAe : va_A (wdTalk_outcome cA ad N R0a R0b R0size R0out) s.heap.size = A at hD ⊢
  have hA : ∀ q : Nat, s.heap.size ≤ q → A q := fun q h => by rw [← hAe]; exact Or.inr h
  have hS : va_S A s.heap s.heap [] := va_S.rf
  have hend : ∀ (r : Int32)  (H : Heap) (locs : List Loc) (pc : Nat) (ls : Array Slot), decode cTalk_outcome pc = .ok (.ireturn, 1) → va_P D vwCl (wdTalk_outcome cA ad N R0a R0b R0size R0out) H → va_D A (wdTalk_outcome cA ad N R0a R0b R0size R0out) → va_S A s.heap H locs → post r  → W p l e (headSpec (Cond.code yTalk_outcome cTalk_outcome 1 (some .int) :: xW) rmTalk_outcome).room s m ([.ref R0a] : List Value).toArray below meth c H locs 0 0 (MQ below (qcTalk_outcome D cA ad N R0a R0b R0size R0out post A) ([.ref R0a] : List Value).toArray s 0 0 A) (F0 m pc ls [.int r]) := fun r  H locs pc ls hd hP hD hS hw => W.iret (v := r) hx hb hr (fun t ht hW => ⟨⟨r, (), rfl, hw, ⟨by rw [ht]; exact hP, va_K.moved hW.alike hK, hD⟩⟩, hS.F ht⟩) hS.2.2 hd
  generalize hQ : MQ below (qcTalk_outcome D cA ad N R0a R0b R0size R0out post A) ([.ref R0a] : List Value).toArray s 0 0 A = Q at hend ⊢
  have hl := lv_entry ([.ref R0a]) (n := 1) (Nat.le_of_ble_eq_true rfl)
  rw [lg_entry_eq]
  generalize (lg_sl ([.ref R0a]) ++ List.replicate (1 - (lg_sl ([.ref R0a])).length) Slot.unset).toArray = ls at hl ⊢
  have hl : lv_has ls 1 [(0, .ref R0a)] := hl
  unfold wpTalk_outcome at hw
  refine lv_aload_n hx hb dTalk_outcome_0 rfl (lv_at hl 0 rfl) ?_
  refine va_get (D := D) (ci := 6) (v := .int R0out) (C := "OnceNamed$Talk") (T := TX6) (N := 3) hx hb hts (fun w h => List.mem_cons_of_mem _ (inX6 w h)) hown hK hP 0 rfl rfl 2 (by decide) (hts _ (List.mem_cons_of_mem _ kw_221)) (fun _ h9 => h9) rfl dTalk_outcome_1 ?_
  exact hend R0out _ _ _ _ dTalk_outcome_4 hP hD hS hw
abbrev wdTalk_size (cA : ClassId) (ad : Nat → Nat) (N : Nat) (R0a : Nat) (R0b : Nat) (R0size : Int32) (R0out : Int32) : va_W := [(R0a, .inr (6, [.ref R0b, .int R0size, .int R0out]))]
abbrev qcTalk_size (D : va_G) (cA : ClassId) (ad : Nat → Nat) (N : Nat) (R0a : Nat) (R0b : Nat) (R0size : Int32) (R0out : Int32) (post : Int32 → Prop) (A : Nat → Prop) : Array Value → State → Outcome → State → Prop := va_Qi (S := Unit) (fun r u => post r ) (fun u t => xB D [(cA, .int)] A (wdTalk_size cA ad N R0a R0b R0size R0out) t) A
abbrev rmTalk_size : Room := { frames := 0, cells := 0, slots := 0, locals := 0 }
set_option maxHeartbeats 4000000 in
set_option maxRecDepth 100000 in
theorem ktTalk_size (l : Launch) (D : va_G) (cA : ClassId) (ad : Nat → Nat) (N : Nat) (R0a : Nat) (R0b : Nat) (sz : Nat) (R0size : Int32) (R0out : Int32)  (post : Int32 → Prop) (hw : wpTalk_size R0size post) : Met l yTalk_size (Cond.code yTalk_size cTalk_size 1 (some .int) :: xW) rmTalk_size (va_Pc [.ref R0a] (xPc D [(cA, .int)] (wdTalk_size cA ad N R0a R0b R0size R0out) sz)) (qcTalk_size D cA ad N R0a R0b R0size R0out post (va_A (wdTalk_size cA ad N R0a R0b R0size R0out) sz)) 0 0 (va_A (wdTalk_size cA ad N R0a R0b R0size R0out) sz) := by
  refine Met.ofW (cc := cTalk_size) (maxL := 1) (ret := (some .int)) (by decide) rfl ?_
  intro p e s m args below meth c s₁ B hml hv
  obtain ⟨rfl, hsz, hP, hK, hD0, hN⟩ := hv
  have hx := B.exec
  have hb := B.bytes
  have hr := B.returns
  have hts := atoms_spec (ws := (Cond.code yTalk_size cTalk_size 1 (some .int) :: xW)) B.pre
  have hown : s.vm.findClass "OnceNamed$Talk" = some m.cls := findClass_of_methodNamed B.named
  have hlocks := B.notSynchronized
  subst hsz
  have hD := hD0.self (sz := s.heap.size)
  generalize hAe : va_A (wdTalk_size cA ad N R0a R0b R0size R0out) s.heap.size = A at hD ⊢
  have hA : ∀ q : Nat, s.heap.size ≤ q → A q := fun q h => by rw [← hAe]; exact Or.inr h
  have hS : va_S A s.heap s.heap [] := va_S.rf
  have hend : ∀ (r : Int32)  (H : Heap) (locs : List Loc) (pc : Nat) (ls : Array Slot), decode cTalk_size pc = .ok (.ireturn, 1) → va_P D vwCl (wdTalk_size cA ad N R0a R0b R0size R0out) H → va_D A (wdTalk_size cA ad N R0a R0b R0size R0out) → va_S A s.heap H locs → post r  → W p l e (headSpec (Cond.code yTalk_size cTalk_size 1 (some .int) :: xW) rmTalk_size).room s m ([.ref R0a] : List Value).toArray below meth c H locs 0 0 (MQ below (qcTalk_size D cA ad N R0a R0b R0size R0out post A) ([.ref R0a] : List Value).toArray s 0 0 A) (F0 m pc ls [.int r]) := fun r  H locs pc ls hd hP hD hS hw => W.iret (v := r) hx hb hr (fun t ht hW => ⟨⟨r, (), rfl, hw, ⟨by rw [ht]; exact hP, va_K.moved hW.alike hK, hD⟩⟩, hS.F ht⟩) hS.2.2 hd
  generalize hQ : MQ below (qcTalk_size D cA ad N R0a R0b R0size R0out post A) ([.ref R0a] : List Value).toArray s 0 0 A = Q at hend ⊢
  have hl := lv_entry ([.ref R0a]) (n := 1) (Nat.le_of_ble_eq_true rfl)
  rw [lg_entry_eq]
  generalize (lg_sl ([.ref R0a]) ++ List.replicate (1 - (lg_sl ([.ref R0a])).length) Slot.unset).toArray = ls at hl ⊢
  have hl : lv_has ls 1 [(0, .ref R0a)] := hl
  unfold wpTalk_size at hw
  refine lv_aload_n hx hb dTalk_size_0 rfl (lv_at hl 0 rfl) ?_
  refine va_get (D := D) (ci := 6) (v := .int R0size) (C := "OnceNamed$Talk") (T := TX6) (N := 3) hx hb hts (fun w h => List.mem_cons_of_mem _ (inX6 w h)) hown hK hP 0 rfl rfl 1 (by decide) (hts _ (List.mem_cons_of_mem _ kw_220)) (fun _ h9 => h9) rfl dTalk_size_1 ?_
  exact hend R0size _ _ _ _ dTalk_size_4 hP hD hS hw
abbrev wdTalk_number (cA : ClassId) (ad : Nat → Nat) (N : Nat) (R0a : Nat) (R0b : Nat) (R0size : Int32) (R0out : Int32) (R0num : Nat → Int32) : va_W := [(R0a, .inr (6, [.ref R0b, .int R0size, .int R0out])), (R0b, .inl (cA, 50, .inl R0num))]
abbrev qcTalk_number (D : va_G) (cA : ClassId) (ad : Nat → Nat) (N : Nat) (R0a : Nat) (R0b : Nat) (R0size : Int32) (R0out : Int32) (R0num : Nat → Int32) (post : Int32 → Prop) (A : Nat → Prop) : Array Value → State → Outcome → State → Prop := va_Qi (S := Unit) (fun r u => post r ) (fun u t => xB D [(cA, .int)] A (wdTalk_number cA ad N R0a R0b R0size R0out R0num) t) A
abbrev rmTalk_number : Room := { frames := 0, cells := 0, slots := 0, locals := 0 }
set_option maxHeartbeats 4000000 in
set_option maxRecDepth 100000 in
theorem ktTalk_number (l : Launch) (D : va_G) (cA : ClassId) (ad : Nat → Nat) (N : Nat) (R0a : Nat) (R0b : Nat) (sz : Nat) (R0size : Int32) (R0out : Int32) (R0num : Nat → Int32) (v1 : Int32) (post : Int32 → Prop) (hw : wpTalk_number R0num v1 post) : Met l yTalk_number (Cond.code yTalk_number cTalk_number 2 (some .int) :: xW) rmTalk_number (va_Pc [.ref R0a, .int v1] (xPc D [(cA, .int)] (wdTalk_number cA ad N R0a R0b R0size R0out R0num) sz)) (qcTalk_number D cA ad N R0a R0b R0size R0out R0num post (va_A (wdTalk_number cA ad N R0a R0b R0size R0out R0num) sz)) 0 0 (va_A (wdTalk_number cA ad N R0a R0b R0size R0out R0num) sz) := by
  refine Met.ofW (cc := cTalk_number) (maxL := 2) (ret := (some .int)) (by decide) rfl ?_
  intro p e s m args below meth c s₁ B hml hv
  obtain ⟨rfl, hsz, hP, hK, hD0, hN⟩ := hv
  have hx := B.exec
  have hb := B.bytes
  have hr := B.returns
  have hts := atoms_spec (ws := (Cond.code yTalk_number cTalk_number 2 (some .int) :: xW)) B.pre
  have hown : s.vm.findClass "OnceNamed$Talk" = some m.cls := findClass_of_methodNamed B.named
  have hlocks := B.notSynchronized
  subst hsz
  have hD := hD0.self (sz := s.heap.size)
  generalize hAe : va_A (wdTalk_number cA ad N R0a R0b R0size R0out R0num) s.heap.size = A at hD ⊢
  have hA : ∀ q : Nat, s.heap.size ≤ q → A q := fun q h => by rw [← hAe]; exact Or.inr h
  have hS : va_S A s.heap s.heap [] := va_S.rf
  have hend : ∀ (r : Int32)  (H : Heap) (locs : List Loc) (pc : Nat) (ls : Array Slot), decode cTalk_number pc = .ok (.ireturn, 1) → va_P D vwCl (wdTalk_number cA ad N R0a R0b R0size R0out R0num) H → va_D A (wdTalk_number cA ad N R0a R0b R0size R0out R0num) → va_S A s.heap H locs → post r  → W p l e (headSpec (Cond.code yTalk_number cTalk_number 2 (some .int) :: xW) rmTalk_number).room s m ([.ref R0a, .int v1] : List Value).toArray below meth c H locs 0 0 (MQ below (qcTalk_number D cA ad N R0a R0b R0size R0out R0num post A) ([.ref R0a, .int v1] : List Value).toArray s 0 0 A) (F0 m pc ls [.int r]) := fun r  H locs pc ls hd hP hD hS hw => W.iret (v := r) hx hb hr (fun t ht hW => ⟨⟨r, (), rfl, hw, ⟨by rw [ht]; exact hP, va_K.moved hW.alike hK, hD⟩⟩, hS.F ht⟩) hS.2.2 hd
  generalize hQ : MQ below (qcTalk_number D cA ad N R0a R0b R0size R0out R0num post A) ([.ref R0a, .int v1] : List Value).toArray s 0 0 A = Q at hend ⊢
  have hl := lv_entry ([.ref R0a, .int v1]) (n := 2) (Nat.le_of_ble_eq_true rfl)
  rw [lg_entry_eq]
  generalize (lg_sl ([.ref R0a, .int v1]) ++ List.replicate (2 - (lg_sl ([.ref R0a, .int v1])).length) Slot.unset).toArray = ls at hl ⊢
  have hl : lv_has ls 2 [(0, .ref R0a), (1, .int v1)] := hl
  unfold wpTalk_number at hw
  refine lv_aload_n hx hb dTalk_number_0 rfl (lv_at hl 0 rfl) ?_
  refine va_get (D := D) (ci := 6) (v := .ref R0b) (C := "OnceNamed$Talk") (T := TX6) (N := 3) hx hb hts (fun w h => List.mem_cons_of_mem _ (inX6 w h)) hown hK hP 0 rfl rfl 0 (by decide) (hts _ (List.mem_cons_of_mem _ kw_219)) (fun _ h9 => h9) rfl dTalk_number_1 ?_
  refine lv_iload_n hx hb dTalk_number_4 rfl (lv_at hl 1 rfl) ?_
  have ho := hw.1
  have hw := hw.2
  refine va_iald hx hb hK hP 1 0 rfl rfl ho dTalk_number_5 ?_
  exact hend (R0num (Int32.toNatClampNeg v1)) _ _ _ _ dTalk_number_6 hP hD hS hw
abbrev wdTalk_isLike (cA : ClassId) (ad : Nat → Nat) (N : Nat) (R0a : Nat) (R0b : Nat) (R1a : Nat) (R1b : Nat) (R0size : Int32) (R0out : Int32) (R0num : Nat → Int32) (R1size : Int32) (R1out : Int32) (R1num : Nat → Int32) : va_W := [(R0a, .inr (6, [.ref R0b, .int R0size, .int R0out])), (R0b, .inl (cA, 50, .inl R0num)), (R1a, .inr (6, [.ref R1b, .int R1size, .int R1out])), (R1b, .inl (cA, 50, .inl R1num))]
abbrev qcTalk_isLike (D : va_G) (cA : ClassId) (ad : Nat → Nat) (N : Nat) (R0a : Nat) (R0b : Nat) (R1a : Nat) (R1b : Nat) (R0size : Int32) (R0out : Int32) (R0num : Nat → Int32) (R1size : Int32) (R1out : Int32) (R1num : Nat → Int32) (post : Bool → Prop) (A : Nat → Prop) : Array Value → State → Outcome → State → Prop := va_Qi (S := Unit) (fun r u => ∃ z : Bool, r = bI z ∧ post z ) (fun u t => xB D [(cA, .int)] A (wdTalk_isLike cA ad N R0a R0b R1a R1b R0size R0out R0num R1size R1out R1num) t) A
abbrev rmTalk_isLike : Room := { frames := 0, cells := 0, slots := 0, locals := 0 }
set_option maxHeartbeats 4000000 in
set_option maxRecDepth 100000 in
theorem ktTalk_isLike (l : Launch) (D : va_G) (cA : ClassId) (ad : Nat → Nat) (N : Nat) (R0a : Nat) (R0b : Nat) (R1a : Nat) (R1b : Nat) (sz : Nat) (R0size : Int32) (R0out : Int32) (R0num : Nat → Int32) (R1size : Int32) (R1out : Int32) (R1num : Nat → Int32)  (post : Bool → Prop) (hw : wpTalk_isLike R0size R0out R0num R1size R1out R1num post) : Met l yTalk_isLike (Cond.code yTalk_isLike cTalk_isLike 3 (some .boolean) :: xW) rmTalk_isLike (va_Pc [.ref R0a, .ref R1a] (xPc D [(cA, .int)] (wdTalk_isLike cA ad N R0a R0b R1a R1b R0size R0out R0num R1size R1out R1num) sz)) (qcTalk_isLike D cA ad N R0a R0b R1a R1b R0size R0out R0num R1size R1out R1num post (va_A (wdTalk_isLike cA ad N R0a R0b R1a R1b R0size R0out R0num R1size R1out R1num) sz)) 0 0 (va_A (wdTalk_isLike cA ad N R0a R0b R1a R1b R0size R0out R0num R1size R1out R1num) sz) := by
  refine Met.ofW (cc := cTalk_isLike) (maxL := 3) (ret := (some .boolean)) (by decide) rfl ?_
  intro p e s m args below meth c s₁ B hml hv
  obtain ⟨rfl, hsz, hP, hK, hD0, hN⟩ := hv
  have hx := B.exec
  have hb := B.bytes
  have hr := B.returns
  have hts := atoms_spec (ws := (Cond.code yTalk_isLike cTalk_isLike 3 (some .boolean) :: xW)) B.pre
  have hown : s.vm.findClass "OnceNamed$Talk" = some m.cls := findClass_of_methodNamed B.named
  have hlocks := B.notSynchronized
  subst hsz
  have hD := hD0.self (sz := s.heap.size)
  generalize hAe : va_A (wdTalk_isLike cA ad N R0a R0b R1a R1b R0size R0out R0num R1size R1out R1num) s.heap.size = A at hD ⊢
  have hA : ∀ q : Nat, s.heap.size ≤ q → A q := fun q h => by rw [← hAe]; exact Or.inr h
  have hS : va_S A s.heap s.heap [] := va_S.rf
  have hend : ∀ (r : Bool)  (H : Heap) (locs : List Loc) (pc : Nat) (ls : Array Slot), decode cTalk_isLike pc = .ok (.ireturn, 1) → va_P D vwCl (wdTalk_isLike cA ad N R0a R0b R1a R1b R0size R0out R0num R1size R1out R1num) H → va_D A (wdTalk_isLike cA ad N R0a R0b R1a R1b R0size R0out R0num R1size R1out R1num) → va_S A s.heap H locs → post r  → W p l e (headSpec (Cond.code yTalk_isLike cTalk_isLike 3 (some .boolean) :: xW) rmTalk_isLike).room s m ([.ref R0a, .ref R1a] : List Value).toArray below meth c H locs 0 0 (MQ below (qcTalk_isLike D cA ad N R0a R0b R1a R1b R0size R0out R0num R1size R1out R1num post A) ([.ref R0a, .ref R1a] : List Value).toArray s 0 0 A) (F0 m pc ls [.int (bI r)]) := fun r  H locs pc ls hd hP hD hS hw => W.zret (v := bI r) hx hb hr (bI_nar r) (fun t ht hW => ⟨⟨bI r, (), rfl, ⟨r, rfl, hw⟩, ⟨by rw [ht]; exact hP, va_K.moved hW.alike hK, hD⟩⟩, hS.F ht⟩) hS.2.2 hd
  generalize hQ : MQ below (qcTalk_isLike D cA ad N R0a R0b R1a R1b R0size R0out R0num R1size R1out R1num post A) ([.ref R0a, .ref R1a] : List Value).toArray s 0 0 A = Q at hend ⊢
  have hl := lv_entry ([.ref R0a, .ref R1a]) (n := 3) (Nat.le_of_ble_eq_true rfl)
  rw [lg_entry_eq]
  generalize (lg_sl ([.ref R0a, .ref R1a]) ++ List.replicate (3 - (lg_sl ([.ref R0a, .ref R1a])).length) Slot.unset).toArray = ls at hl ⊢
  have hl : lv_has ls 3 [(0, .ref R0a), (1, .ref R1a)] := hl
  unfold wpTalk_isLike at hw
  refine lv_aload_n hx hb dTalk_isLike_0 rfl (lv_at hl 0 rfl) ?_
  refine va_get (D := D) (ci := 6) (v := .int R0out) (C := "OnceNamed$Talk") (T := TX6) (N := 3) hx hb hts (fun w h => List.mem_cons_of_mem _ (inX6 w h)) hown hK hP 0 rfl rfl 2 (by decide) (hts _ (List.mem_cons_of_mem _ kw_221)) (fun _ h9 => h9) rfl dTalk_isLike_1 ?_
  refine lv_aload_n hx hb dTalk_isLike_4 rfl (lv_at hl 1 rfl) ?_
  refine va_get (D := D) (ci := 6) (v := .int R1out) (C := "OnceNamed$Talk") (T := TX6) (N := 3) hx hb hts (fun w h => List.mem_cons_of_mem _ (inX6 w h)) hown hK hP 2 rfl rfl 2 (by decide) (hts _ (List.mem_cons_of_mem _ kw_221)) (fun _ h9 => h9) rfl dTalk_isLike_5 ?_
  refine lv_icmp_ne (tgt := 22) hx hb dTalk_isLike_8 rfl (fun hc => ?_) (fun hc => ?_)
  · have hw := hw.1 hc
    refine lv_iconst (v := 0) hx hb dTalk_isLike_22 (by decide) ?_
    exact hend false _ _ _ _ dTalk_isLike_23 hP hD hS hw
  · have hw := hw.2 hc
    refine lv_aload_n hx hb dTalk_isLike_11 rfl (lv_at hl 0 rfl) ?_
    refine va_get (D := D) (ci := 6) (v := .int R0size) (C := "OnceNamed$Talk") (T := TX6) (N := 3) hx hb hts (fun w h => List.mem_cons_of_mem _ (inX6 w h)) hown hK hP 0 rfl rfl 1 (by decide) (hts _ (List.mem_cons_of_mem _ kw_220)) (fun _ h9 => h9) rfl dTalk_isLike_12 ?_
    refine lv_aload_n hx hb dTalk_isLike_15 rfl (lv_at hl 1 rfl) ?_
    refine va_get (D := D) (ci := 6) (v := .int R1size) (C := "OnceNamed$Talk") (T := TX6) (N := 3) hx hb hts (fun w h => List.mem_cons_of_mem _ (inX6 w h)) hown hK hP 2 rfl rfl 1 (by decide) (hts _ (List.mem_cons_of_mem _ kw_220)) (fun _ h9 => h9) rfl dTalk_isLike_16 ?_
    refine lv_icmp_eq (tgt := 24) hx hb dTalk_isLike_19 rfl (fun hc => ?_) (fun hc => ?_)
    · have hw := hw.1 hc
      refine lv_iconst (v := 0) hx hb dTalk_isLike_24 (by decide) ?_
      refine lv_istore_n (lv' := [(2, .int 0), (0, .ref R0a), (1, .ref R1a)]) hx hb dTalk_isLike_25 rfl hl (by decide) rfl (fun ls hl => ?_)
      obtain ⟨k26, hw⟩ := hw
      have hlp26 : ∀ (k : Nat), ∀ (v2_L26 : Int32) (ls : Array Slot) (H : Heap) (locs : List Loc), lv_has ls 3 [(0, .ref R0a), (1, .ref R1a), (2, .int v2_L26)] → va_P D vwCl (wdTalk_isLike cA ad N R0a R0b R1a R1b R0size R0out R0num R1size R1out R1num) H → va_D A (wdTalk_isLike cA ad N R0a R0b R1a R1b R0size R0out R0num R1size R1out R1num) → va_S A s.heap H locs → lpTalk_isLike_26 R0size R0num R1num post k v2_L26 → W p l e (headSpec (Cond.code yTalk_isLike cTalk_isLike 3 (some .boolean) :: xW) rmTalk_isLike).room s m ([.ref R0a, .ref R1a] : List Value).toArray below meth c H locs 0 0 Q (F0 m 26 ls []) := by
        intro k
        induction k with
        | zero => intro v2_L26 ls H locs hl hP hD hS hw; exact False.elim hw
        | succ k ih =>
          intro v2_L26 ls H locs hl hP hD hS hw
          refine lv_iload_n hx hb dTalk_isLike_26 rfl (lv_at hl 2 rfl) ?_
          refine lv_aload_n hx hb dTalk_isLike_27 rfl (lv_at hl 0 rfl) ?_
          refine va_get (D := D) (ci := 6) (v := .int R0size) (C := "OnceNamed$Talk") (T := TX6) (N := 3) hx hb hts (fun w h => List.mem_cons_of_mem _ (inX6 w h)) hown hK hP 0 rfl rfl 1 (by decide) (hts _ (List.mem_cons_of_mem _ kw_220)) (fun _ h9 => h9) rfl dTalk_isLike_28 ?_
          refine lv_icmp_ge (tgt := 57) hx hb dTalk_isLike_31 rfl (fun hc => ?_) (fun hc => ?_)
          · have hw := hw.1 hc
            refine lv_iconst (v := 1) hx hb dTalk_isLike_57 (by decide) ?_
            exact hend true _ _ _ _ dTalk_isLike_58 hP hD hS hw
          · have hw := hw.2 hc
            refine lv_aload_n hx hb dTalk_isLike_34 rfl (lv_at hl 0 rfl) ?_
            refine va_get (D := D) (ci := 6) (v := .ref R0b) (C := "OnceNamed$Talk") (T := TX6) (N := 3) hx hb hts (fun w h => List.mem_cons_of_mem _ (inX6 w h)) hown hK hP 0 rfl rfl 0 (by decide) (hts _ (List.mem_cons_of_mem _ kw_219)) (fun _ h9 => h9) rfl dTalk_isLike_35 ?_
            refine lv_iload_n hx hb dTalk_isLike_38 rfl (lv_at hl 2 rfl) ?_
            have ho := hw.1
            have hw := hw.2
            refine va_iald hx hb hK hP 1 0 rfl rfl ho dTalk_isLike_39 ?_
            refine lv_aload_n hx hb dTalk_isLike_40 rfl (lv_at hl 1 rfl) ?_
            refine va_get (D := D) (ci := 6) (v := .ref R1b) (C := "OnceNamed$Talk") (T := TX6) (N := 3) hx hb hts (fun w h => List.mem_cons_of_mem _ (inX6 w h)) hown hK hP 2 rfl rfl 0 (by decide) (hts _ (List.mem_cons_of_mem _ kw_219)) (fun _ h9 => h9) rfl dTalk_isLike_41 ?_
            refine lv_iload_n hx hb dTalk_isLike_44 rfl (lv_at hl 2 rfl) ?_
            have ho := hw.1
            have hw := hw.2
            refine va_iald hx hb hK hP 3 0 rfl rfl ho dTalk_isLike_45 ?_
            refine lv_icmp_eq (tgt := 51) hx hb dTalk_isLike_46 rfl (fun hc => ?_) (fun hc => ?_)
            · have hw := hw.1 hc
              refine lv_iinc (k := 2) (v := (v2_L26 + 1)) (lv' := [(2, .int (v2_L26 + 1)), (0, .ref R0a), (1, .ref R1a)]) hx hb dTalk_isLike_51 hl rfl rfl (by decide) rfl (fun ls hl => ?_)
              refine lv_goto (tgt := 26) hx hb dTalk_isLike_54 rfl ?_
              exact ih (v2_L26 + 1) _ _ _ (lv_sub hl [1, 2, 0] rfl) hP hD hS hw
            · have hw := hw.2 hc
              refine lv_iconst (v := 0) hx hb dTalk_isLike_49 (by decide) ?_
              exact hend false _ _ _ _ dTalk_isLike_50 hP hD hS hw
      refine hlp26 k26 0 _ _ _ (lv_sub hl [1, 2, 0] rfl) hP hD hS hw
    · have hw := hw.2 hc
      refine lv_iconst (v := 0) hx hb dTalk_isLike_22 (by decide) ?_
      exact hend false _ _ _ _ dTalk_isLike_23 hP hD hS hw
