abbrev wdCopyPlan_collect (cA : ClassId) (ad : Nat → Nat) (N : Nat) (meetingNames : Nat → Int32) (meetingUses : Nat → Int32) (pending : Int32) (length : Int32) (pendingTo : Nat → Int32) (pendingFrom : Nat → Int32) : va_W := [((ad 18), .inr (3, [.ref (ad 1), .ref (ad 11), .int (nI N), .ref (ad 19), .ref (ad 20), .ref (ad 21), .ref (ad 22), .ref (ad 23), .ref (ad 24), .ref (ad 25), .ref (ad 26), .ref (ad 27), .ref (ad 28), .ref (ad 29)])), ((ad 19), .inl (cA, N * 6, .inl meetingNames)), ((ad 20), .inl (cA, N * 6 * (N + 1), .inl meetingUses)), ((ad 30), .inr (4, [.ref (ad 31), .ref (ad 32), .ref (ad 33), .ref (ad 34), .int pending, .int length])), ((ad 31), .inl (cA, 6, .inl pendingTo)), ((ad 32), .inl (cA, 6, .inl pendingFrom))]
abbrev qcCopyPlan_collect (D : va_G) (cA : ClassId) (ad : Nat → Nat) (N : Nat) (meetingNames : Nat → Int32) (meetingUses : Nat → Int32) (pending : Int32) (length : Int32) (pendingTo : Nat → Int32) (pendingFrom : Nat → Int32) (post : Int32 → (Nat → Int32) → (Nat → Int32) → Prop) (A : Nat → Prop) : Array Value → State → Outcome → State → Prop := va_Qv (S := (Int32) × (Nat → Int32) × (Nat → Int32)) (fun u => post u.1 u.2.1 u.2.2) (fun u t => xB D [(cA, .int)] A (wdCopyPlan_collect cA ad N meetingNames meetingUses u.1 length u.2.1 u.2.2) t) A
abbrev rmCopyPlan_collect : Room := { frames := 2, cells := 0, slots := 0, locals := 46 }
set_option maxHeartbeats 4000000 in
set_option maxRecDepth 100000 in
theorem ktCopyPlan_collect (l : Launch) (D : va_G) (cA : ClassId) (ad : Nat → Nat) (N : Nat) (sz : Nat) (meetingNames : Nat → Int32) (meetingUses : Nat → Int32) (pending : Int32) (length : Int32) (pendingTo : Nat → Int32) (pendingFrom : Nat → Int32) (v2 : Int32) (v3 : Int32) (post : Int32 → (Nat → Int32) → (Nat → Int32) → Prop) (hw : wpCopyPlan_collect N meetingNames meetingUses pendingTo pendingFrom v2 v3 post) : Met l yCopyPlan_collect (Cond.code yCopyPlan_collect cCopyPlan_collect 7 none :: xW) rmCopyPlan_collect (va_Pc [.ref (ad 30), .ref (ad 18), .int v2, .int v3] (xPc D [(cA, .int)] (wdCopyPlan_collect cA ad N meetingNames meetingUses pending length pendingTo pendingFrom) sz)) (qcCopyPlan_collect D cA ad N meetingNames meetingUses pending length pendingTo pendingFrom post (va_A (wdCopyPlan_collect cA ad N meetingNames meetingUses pending length pendingTo pendingFrom) sz)) 0 0 (va_A (wdCopyPlan_collect cA ad N meetingNames meetingUses pending length pendingTo pendingFrom) sz) := by
  refine Met.ofW (cc := cCopyPlan_collect) (maxL := 7) (ret := none) (by decide) rfl ?_
  intro p e s m args below meth c s₁ B hml hv
  obtain ⟨rfl, hsz, hP, hK, hD0, hN⟩ := hv
  have hx := B.exec
  have hb := B.bytes
  have hr := B.returns
  have hts := atoms_spec (ws := (Cond.code yCopyPlan_collect cCopyPlan_collect 7 none :: xW)) B.pre
  have hown : s.vm.findClass "OnceNamed$CopyPlan" = some m.cls := findClass_of_methodNamed B.named
  have hlocks := B.notSynchronized
  subst hsz
  have hD := hD0.self (sz := s.heap.size)
  generalize hAe : va_A (wdCopyPlan_collect cA ad N meetingNames meetingUses pending length pendingTo pendingFrom) s.heap.size = A at hD ⊢
  have hA : ∀ q : Nat, s.heap.size ≤ q → A q := fun q h => by rw [← hAe]; exact Or.inr h
  have hS : va_S A s.heap s.heap [] := va_S.rf
  have hend : ∀ (u0 : Int32) (u1 : Nat → Int32) (u2 : Nat → Int32) (H : Heap) (locs : List Loc) (pc : Nat) (ls : Array Slot), decode cCopyPlan_collect pc = .ok (.return_, 1) → va_P D vwCl (wdCopyPlan_collect cA ad N meetingNames meetingUses u0 length u1 u2) H → va_D A (wdCopyPlan_collect cA ad N meetingNames meetingUses u0 length u1 u2) → va_S A s.heap H locs → post u0 u1 u2 → W p l e (headSpec (Cond.code yCopyPlan_collect cCopyPlan_collect 7 none :: xW) rmCopyPlan_collect).room s m ([.ref (ad 30), .ref (ad 18), .int v2, .int v3] : List Value).toArray below meth c H locs 0 0 (MQ below (qcCopyPlan_collect D cA ad N meetingNames meetingUses pending length pendingTo pendingFrom post A) ([.ref (ad 30), .ref (ad 18), .int v2, .int v3] : List Value).toArray s 0 0 A) (F0 m pc ls []) := fun u0 u1 u2 H locs pc ls hd hP hD hS hw => W.vret hx hb hr (fun t ht hW => ⟨⟨(u0, u1, u2), rfl, hw, ⟨by rw [ht]; exact hP, va_K.moved hW.alike hK, hD⟩⟩, hS.F ht⟩) hS.2.2 hd
  generalize hQ : MQ below (qcCopyPlan_collect D cA ad N meetingNames meetingUses pending length pendingTo pendingFrom post A) ([.ref (ad 30), .ref (ad 18), .int v2, .int v3] : List Value).toArray s 0 0 A = Q at hend ⊢
  have hl := lv_entry ([.ref (ad 30), .ref (ad 18), .int v2, .int v3]) (n := 7) (Nat.le_of_ble_eq_true rfl)
  rw [lg_entry_eq]
  generalize (lg_sl ([.ref (ad 30), .ref (ad 18), .int v2, .int v3]) ++ List.replicate (7 - (lg_sl ([.ref (ad 30), .ref (ad 18), .int v2, .int v3])).length) Slot.unset).toArray = ls at hl ⊢
  have hl : lv_has ls 7 [(0, .ref (ad 30)), (1, .ref (ad 18)), (2, .int v2), (3, .int v3)] := hl
  unfold wpCopyPlan_collect at hw
  refine lv_aload_n hx hb dCopyPlan_collect_0 rfl (lv_at hl 0 rfl) ?_
  refine lv_iconst (v := 0) hx hb dCopyPlan_collect_1 (by decide) ?_
  refine va_put (D := D) (ci := 4) (v := .int 0) (ty := .int) (C := "OnceNamed$CopyPlan") (T := TX4) (N := 6) hx hb hts (fun w h => List.mem_cons_of_mem _ (inX4 w h)) tyX4 tyX4_ok nmX4 hown hK hP hD hS 3 rfl rfl 4 (by decide) (hts _ (List.mem_cons_of_mem _ kw_173)) (fun _ h9 => h9) rfl (by decide +kernel) rfl rfl (Nat.le_of_ble_eq_true rfl) dCopyPlan_collect_2 (fun H locs hP hD hS => ?_)
  have hP : va_P D vwCl (wdCopyPlan_collect cA ad N meetingNames meetingUses 0 length pendingTo pendingFrom) H := hP
  have hD : va_D A (wdCopyPlan_collect cA ad N meetingNames meetingUses 0 length pendingTo pendingFrom) := hD
  refine lv_iconst (v := 0) hx hb dCopyPlan_collect_5 (by decide) ?_
  refine lv_istore (lv' := [(4, .int 0), (0, .ref (ad 30)), (1, .ref (ad 18)), (2, .int v2), (3, .int v3)]) hx hb dCopyPlan_collect_6 hl (by decide) rfl (fun ls hl => ?_)
  obtain ⟨k8, hw⟩ := hw
  have hlp8 : ∀ (k : Nat), ∀ (v4_L8 : Int32) (pending_L8 : Int32) (pendingTo_L8 : Nat → Int32) (pendingFrom_L8 : Nat → Int32) (ls : Array Slot) (H : Heap) (locs : List Loc), lv_has ls 7 [(0, .ref (ad 30)), (1, .ref (ad 18)), (2, .int v2), (3, .int v3), (4, .int v4_L8)] → va_P D vwCl (wdCopyPlan_collect cA ad N meetingNames meetingUses pending_L8 length pendingTo_L8 pendingFrom_L8) H → va_D A (wdCopyPlan_collect cA ad N meetingNames meetingUses pending_L8 length pendingTo_L8 pendingFrom_L8) → va_S A s.heap H locs → lpCopyPlan_collect_8 N v2 v3 meetingNames meetingUses post k v4_L8 pending_L8 pendingTo_L8 pendingFrom_L8 → W p l e (headSpec (Cond.code yCopyPlan_collect cCopyPlan_collect 7 none :: xW) rmCopyPlan_collect).room s m ([.ref (ad 30), .ref (ad 18), .int v2, .int v3] : List Value).toArray below meth c H locs 0 0 Q (F0 m 8 ls []) := by
    intro k
    induction k with
    | zero => intro v4_L8 pending_L8 pendingTo_L8 pendingFrom_L8 ls H locs hl hP hD hS hw; exact False.elim hw
    | succ k ih =>
      intro v4_L8 pending_L8 pendingTo_L8 pendingFrom_L8 ls H locs hl hP hD hS hw
      refine lv_iload hx hb dCopyPlan_collect_8 (lv_at hl 4 rfl) ?_
      refine lv_bipush (v := 6) hx hb dCopyPlan_collect_10 (by decide) ?_
      refine lv_icmp_ge (tgt := 85) hx hb dCopyPlan_collect_12 rfl (fun hc => ?_) (fun hc => ?_)
      · have hw := hw.1 hc
        exact hend pending_L8 pendingTo_L8 pendingFrom_L8 _ _ _ _ dCopyPlan_collect_85 hP hD hS hw
      · have hw := hw.2 hc
        refine lv_aload_n hx hb dCopyPlan_collect_15 rfl (lv_at hl 1 rfl) ?_
        refine lv_iload_n hx hb dCopyPlan_collect_16 rfl (lv_at hl 2 rfl) ?_
        refine lv_iload hx hb dCopyPlan_collect_17 (lv_at hl 4 rfl) ?_
        refine lv_iload_n hx hb dCopyPlan_collect_19 rfl (lv_at hl 3 rfl) ?_
        refine xci (va_runV ⟨hx, hb, hml, hown, hts⟩ (ktNamedForm_meetingUse l D cA ad N _ meetingUses v2 v4_L8 v3 _ hw) (cwV 3 hts (goodV kw_785 kw_681 kw_682 kw_6 kw_683) rfl rfl rfl (by decide +kernel) ⟨Nat.le_of_ble_eq_true rfl, Nat.le_of_ble_eq_true rfl⟩) (xpreV hK hP hD hN [0, 2] rfl rfl 0 rfl rfl) rfl rfl hl.1 rfl (lv_room (Nat.le_of_ble_eq_true rfl)) dCopyPlan_collect_20 ⟨Nat.le_of_ble_eq_true rfl, Nat.le_of_ble_eq_true rfl⟩) hP hD hS hA [0, 2] [1, 3, 4, 5] rfl rfl rfl rfl [4, 0, 5, 1, 2, 3] rfl (fun _ => rfl) (fun r20 u H locs hw hP hD hS => ?_)
        have hP : va_P D vwCl (wdCopyPlan_collect cA ad N meetingNames meetingUses pending_L8 length pendingTo_L8 pendingFrom_L8) H := hP
        have hD : va_D A (wdCopyPlan_collect cA ad N meetingNames meetingUses pending_L8 length pendingTo_L8 pendingFrom_L8) := hD
        refine lv_istore (lv' := [(5, .int r20), (0, .ref (ad 30)), (1, .ref (ad 18)), (2, .int v2), (3, .int v3), (4, .int v4_L8)]) hx hb dCopyPlan_collect_23 hl (by decide) rfl (fun ls hl => ?_)
        refine lv_aload_n hx hb dCopyPlan_collect_25 rfl (lv_at hl 2 rfl) ?_
        refine lv_iload_n hx hb dCopyPlan_collect_26 rfl (lv_at hl 3 rfl) ?_
        refine lv_iload hx hb dCopyPlan_collect_27 (lv_at hl 5 rfl) ?_
        refine xci (va_runV ⟨hx, hb, hml, hown, hts⟩ (ktNamedForm_meetingName l D cA ad N _ meetingNames v2 v4_L8 _ hw) (cwV 2 hts (goodV kw_786 kw_661 kw_662 kw_6 kw_663) rfl rfl rfl (by decide +kernel) ⟨Nat.le_of_ble_eq_true rfl, Nat.le_of_ble_eq_true rfl⟩) (xpreV hK hP hD hN [0, 1] rfl rfl 0 rfl rfl) rfl rfl hl.1 rfl (lv_room (Nat.le_of_ble_eq_true rfl)) dCopyPlan_collect_29 ⟨Nat.le_of_ble_eq_true rfl, Nat.le_of_ble_eq_true rfl⟩) hP hD hS hA [0, 1] [2, 3, 4, 5] rfl rfl rfl rfl [4, 5, 0, 1, 2, 3] rfl (fun _ => rfl) (fun r29 u H locs hw hP hD hS => ?_)
        have hP : va_P D vwCl (wdCopyPlan_collect cA ad N meetingNames meetingUses pending_L8 length pendingTo_L8 pendingFrom_L8) H := hP
        have hD : va_D A (wdCopyPlan_collect cA ad N meetingNames meetingUses pending_L8 length pendingTo_L8 pendingFrom_L8) := hD
        refine lv_istore (lv' := [(6, .int r29), (5, .int r20), (0, .ref (ad 30)), (1, .ref (ad 18)), (2, .int v2), (3, .int v3), (4, .int v4_L8)]) hx hb dCopyPlan_collect_32 hl (by decide) rfl (fun ls hl => ?_)
        refine lv_iload hx hb dCopyPlan_collect_34 (lv_at hl 1 rfl) ?_
        refine lv_iconst (v := (-1)) hx hb dCopyPlan_collect_36 (by decide) ?_
        refine lv_icmp_eq (tgt := 79) hx hb dCopyPlan_collect_37 rfl (fun hc => ?_) (fun hc => ?_)
        · have hw := hw.1 hc
          refine lv_iinc (k := 6) (v := (v4_L8 + 1)) (lv' := [(4, .int (v4_L8 + 1)), (6, .int r29), (5, .int r20), (0, .ref (ad 30)), (1, .ref (ad 18)), (2, .int v2), (3, .int v3)]) hx hb dCopyPlan_collect_79 hl rfl rfl (by decide) rfl (fun ls hl => ?_)
          refine lv_goto (tgt := 8) hx hb dCopyPlan_collect_82 rfl ?_
          exact ih (v4_L8 + 1) pending_L8 pendingTo_L8 pendingFrom_L8 _ _ _ (lv_sub hl [3, 4, 5, 6, 0] rfl) hP hD hS hw
        · have hw := hw.2 hc
          refine lv_iload hx hb dCopyPlan_collect_40 (lv_at hl 1 rfl) ?_
          refine lv_iload hx hb dCopyPlan_collect_42 (lv_at hl 0 rfl) ?_
          refine lv_icmp_eq (tgt := 79) hx hb dCopyPlan_collect_44 rfl (fun hc => ?_) (fun hc => ?_)
          · have hw := hw.1 hc
            refine lv_iinc (k := 6) (v := (v4_L8 + 1)) (lv' := [(4, .int (v4_L8 + 1)), (6, .int r29), (5, .int r20), (0, .ref (ad 30)), (1, .ref (ad 18)), (2, .int v2), (3, .int v3)]) hx hb dCopyPlan_collect_79 hl rfl rfl (by decide) rfl (fun ls hl => ?_)
            refine lv_goto (tgt := 8) hx hb dCopyPlan_collect_82 rfl ?_
            exact ih (v4_L8 + 1) pending_L8 pendingTo_L8 pendingFrom_L8 _ _ _ (lv_sub hl [3, 4, 5, 6, 0] rfl) hP hD hS hw
          · have hw := hw.2 hc
            refine lv_aload_n hx hb dCopyPlan_collect_47 rfl (lv_at hl 2 rfl) ?_
            refine va_get (D := D) (ci := 4) (v := .ref (ad 31)) (C := "OnceNamed$CopyPlan") (T := TX4) (N := 6) hx hb hts (fun w h => List.mem_cons_of_mem _ (inX4 w h)) hown hK hP 3 rfl rfl 0 (by decide) (hts _ (List.mem_cons_of_mem _ kw_169)) (fun _ h9 => h9) rfl dCopyPlan_collect_48 ?_
            refine lv_aload_n hx hb dCopyPlan_collect_51 rfl (lv_at hl 2 rfl) ?_
            refine va_get (D := D) (ci := 4) (v := .int pending_L8) (C := "OnceNamed$CopyPlan") (T := TX4) (N := 6) hx hb hts (fun w h => List.mem_cons_of_mem _ (inX4 w h)) hown hK hP 3 rfl rfl 4 (by decide) (hts _ (List.mem_cons_of_mem _ kw_173)) (fun _ h9 => h9) rfl dCopyPlan_collect_52 ?_
            refine lv_iload hx hb dCopyPlan_collect_55 (lv_at hl 0 rfl) ?_
            have ho := hw.1
            have hw := hw.2
            refine va_iast hx hb hK hP hD hS 4 0 rfl rfl ho dCopyPlan_collect_57 (fun H locs hP hD hS => ?_)
            have hP : va_P D vwCl (wdCopyPlan_collect cA ad N meetingNames meetingUses pending_L8 length (upd pendingTo_L8 (Int32.toNatClampNeg pending_L8) r29) pendingFrom_L8) H := hP
            have hD : va_D A (wdCopyPlan_collect cA ad N meetingNames meetingUses pending_L8 length (upd pendingTo_L8 (Int32.toNatClampNeg pending_L8) r29) pendingFrom_L8) := hD
            refine lv_aload_n hx hb dCopyPlan_collect_58 rfl (lv_at hl 2 rfl) ?_
            refine va_get (D := D) (ci := 4) (v := .ref (ad 32)) (C := "OnceNamed$CopyPlan") (T := TX4) (N := 6) hx hb hts (fun w h => List.mem_cons_of_mem _ (inX4 w h)) hown hK hP 3 rfl rfl 1 (by decide) (hts _ (List.mem_cons_of_mem _ kw_170)) (fun _ h9 => h9) rfl dCopyPlan_collect_59 ?_
            refine lv_aload_n hx hb dCopyPlan_collect_62 rfl (lv_at hl 2 rfl) ?_
            refine va_get (D := D) (ci := 4) (v := .int pending_L8) (C := "OnceNamed$CopyPlan") (T := TX4) (N := 6) hx hb hts (fun w h => List.mem_cons_of_mem _ (inX4 w h)) hown hK hP 3 rfl rfl 4 (by decide) (hts _ (List.mem_cons_of_mem _ kw_173)) (fun _ h9 => h9) rfl dCopyPlan_collect_63 ?_
            refine lv_iload hx hb dCopyPlan_collect_66 (lv_at hl 1 rfl) ?_
            have ho := hw.1
            have hw := hw.2
            refine va_iast hx hb hK hP hD hS 5 0 rfl rfl ho dCopyPlan_collect_68 (fun H locs hP hD hS => ?_)
            have hP : va_P D vwCl (wdCopyPlan_collect cA ad N meetingNames meetingUses pending_L8 length (upd pendingTo_L8 (Int32.toNatClampNeg pending_L8) r29) (upd pendingFrom_L8 (Int32.toNatClampNeg pending_L8) r20)) H := hP
            have hD : va_D A (wdCopyPlan_collect cA ad N meetingNames meetingUses pending_L8 length (upd pendingTo_L8 (Int32.toNatClampNeg pending_L8) r29) (upd pendingFrom_L8 (Int32.toNatClampNeg pending_L8) r20)) := hD
            refine lv_aload_n hx hb dCopyPlan_collect_69 rfl (lv_at hl 2 rfl) ?_
            refine lv_dup hx hb dCopyPlan_collect_70 rfl ?_
            refine va_get (D := D) (ci := 4) (v := .int pending_L8) (C := "OnceNamed$CopyPlan") (T := TX4) (N := 6) hx hb hts (fun w h => List.mem_cons_of_mem _ (inX4 w h)) hown hK hP 3 rfl rfl 4 (by decide) (hts _ (List.mem_cons_of_mem _ kw_173)) (fun _ h9 => h9) rfl dCopyPlan_collect_71 ?_
            refine lv_iconst (v := 1) hx hb dCopyPlan_collect_74 (by decide) ?_
            refine lv_iadd hx hb dCopyPlan_collect_75 ?_
            refine va_put (D := D) (ci := 4) (v := .int (pending_L8 + 1)) (ty := .int) (C := "OnceNamed$CopyPlan") (T := TX4) (N := 6) hx hb hts (fun w h => List.mem_cons_of_mem _ (inX4 w h)) tyX4 tyX4_ok nmX4 hown hK hP hD hS 3 rfl rfl 4 (by decide) (hts _ (List.mem_cons_of_mem _ kw_173)) (fun _ h9 => h9) rfl (by decide +kernel) rfl rfl (Nat.le_of_ble_eq_true rfl) dCopyPlan_collect_76 (fun H locs hP hD hS => ?_)
            have hP : va_P D vwCl (wdCopyPlan_collect cA ad N meetingNames meetingUses (pending_L8 + 1) length (upd pendingTo_L8 (Int32.toNatClampNeg pending_L8) r29) (upd pendingFrom_L8 (Int32.toNatClampNeg pending_L8) r20)) H := hP
            have hD : va_D A (wdCopyPlan_collect cA ad N meetingNames meetingUses (pending_L8 + 1) length (upd pendingTo_L8 (Int32.toNatClampNeg pending_L8) r29) (upd pendingFrom_L8 (Int32.toNatClampNeg pending_L8) r20)) := hD
            refine lv_iinc (k := 6) (v := (v4_L8 + 1)) (lv' := [(4, .int (v4_L8 + 1)), (6, .int r29), (5, .int r20), (0, .ref (ad 30)), (1, .ref (ad 18)), (2, .int v2), (3, .int v3)]) hx hb dCopyPlan_collect_79 hl rfl rfl (by decide) rfl (fun ls hl => ?_)
            refine lv_goto (tgt := 8) hx hb dCopyPlan_collect_82 rfl ?_
            exact ih (v4_L8 + 1) (pending_L8 + 1) (upd pendingTo_L8 (Int32.toNatClampNeg pending_L8) r29) (upd pendingFrom_L8 (Int32.toNatClampNeg pending_L8) r20) _ _ _ (lv_sub hl [3, 4, 5, 6, 0] rfl) hP hD hS hw
  refine hlp8 k8 0 0 pendingTo pendingFrom _ _ _ (lv_sub hl [1, 2, 3, 4, 0] rfl) hP hD hS hw
abbrev wdCopyPlan_isAwaited (cA : ClassId) (ad : Nat → Nat) (N : Nat) (pending : Int32) (length : Int32) (pendingFrom : Nat → Int32) : va_W := [((ad 30), .inr (4, [.ref (ad 31), .ref (ad 32), .ref (ad 33), .ref (ad 34), .int pending, .int length])), ((ad 32), .inl (cA, 6, .inl pendingFrom))]
abbrev qcCopyPlan_isAwaited (D : va_G) (cA : ClassId) (ad : Nat → Nat) (N : Nat) (pending : Int32) (length : Int32) (pendingFrom : Nat → Int32) (post : Bool → Prop) (A : Nat → Prop) : Array Value → State → Outcome → State → Prop := va_Qi (S := Unit) (fun r u => ∃ z : Bool, r = bI z ∧ post z ) (fun u t => xB D [(cA, .int)] A (wdCopyPlan_isAwaited cA ad N pending length pendingFrom) t) A
abbrev rmCopyPlan_isAwaited : Room := { frames := 0, cells := 0, slots := 0, locals := 0 }
set_option maxHeartbeats 4000000 in
set_option maxRecDepth 100000 in
theorem ktCopyPlan_isAwaited (l : Launch) (D : va_G) (cA : ClassId) (ad : Nat → Nat) (N : Nat) (sz : Nat) (pending : Int32) (length : Int32) (pendingFrom : Nat → Int32) (v1 : Int32) (post : Bool → Prop) (hw : wpCopyPlan_isAwaited pending pendingFrom v1 post) : Met l yCopyPlan_isAwaited (Cond.code yCopyPlan_isAwaited cCopyPlan_isAwaited 3 (some .boolean) :: xW) rmCopyPlan_isAwaited (va_Pc [.ref (ad 30), .int v1] (xPc D [(cA, .int)] (wdCopyPlan_isAwaited cA ad N pending length pendingFrom) sz)) (qcCopyPlan_isAwaited D cA ad N pending length pendingFrom post (va_A (wdCopyPlan_isAwaited cA ad N pending length pendingFrom) sz)) 0 0 (va_A (wdCopyPlan_isAwaited cA ad N pending length pendingFrom) sz) := by
  refine Met.ofW (cc := cCopyPlan_isAwaited) (maxL := 3) (ret := (some .boolean)) (by decide) rfl ?_
  intro p e s m args below meth c s₁ B hml hv
  obtain ⟨rfl, hsz, hP, hK, hD0, hN⟩ := hv
  have hx := B.exec
  have hb := B.bytes
  have hr := B.returns
  have hts := atoms_spec (ws := (Cond.code yCopyPlan_isAwaited cCopyPlan_isAwaited 3 (some .boolean) :: xW)) B.pre
  have hown : s.vm.findClass "OnceNamed$CopyPlan" = some m.cls := findClass_of_methodNamed B.named
  have hlocks := B.notSynchronized
  subst hsz
  have hD := hD0.self (sz := s.heap.size)
  generalize hAe : va_A (wdCopyPlan_isAwaited cA ad N pending length pendingFrom) s.heap.size = A at hD ⊢
  have hA : ∀ q : Nat, s.heap.size ≤ q → A q := fun q h => by rw [← hAe]; exact Or.inr h
  have hS : va_S A s.heap s.heap [] := va_S.rf
  have hend : ∀ (r : Bool)  (H : Heap) (locs : List Loc) (pc : Nat) (ls : Array Slot), decode cCopyPlan_isAwaited pc = .ok (.ireturn, 1) → va_P D vwCl (wdCopyPlan_isAwaited cA ad N pending length pendingFrom) H → va_D A (wdCopyPlan_isAwaited cA ad N pending length pendingFrom) → va_S A s.heap H locs → post r  → W p l e (headSpec (Cond.code yCopyPlan_isAwaited cCopyPlan_isAwaited 3 (some .boolean) :: xW) rmCopyPlan_isAwaited).room s m ([.ref (ad 30), .int v1] : List Value).toArray below meth c H locs 0 0 (MQ below (qcCopyPlan_isAwaited D cA ad N pending length pendingFrom post A) ([.ref (ad 30), .int v1] : List Value).toArray s 0 0 A) (F0 m pc ls [.int (bI r)]) := fun r  H locs pc ls hd hP hD hS hw => W.zret (v := bI r) hx hb hr (bI_nar r) (fun t ht hW => ⟨⟨bI r, (), rfl, ⟨r, rfl, hw⟩, ⟨by rw [ht]; exact hP, va_K.moved hW.alike hK, hD⟩⟩, hS.F ht⟩) hS.2.2 hd
  generalize hQ : MQ below (qcCopyPlan_isAwaited D cA ad N pending length pendingFrom post A) ([.ref (ad 30), .int v1] : List Value).toArray s 0 0 A = Q at hend ⊢
  have hl := lv_entry ([.ref (ad 30), .int v1]) (n := 3) (Nat.le_of_ble_eq_true rfl)
  rw [lg_entry_eq]
  generalize (lg_sl ([.ref (ad 30), .int v1]) ++ List.replicate (3 - (lg_sl ([.ref (ad 30), .int v1])).length) Slot.unset).toArray = ls at hl ⊢
  have hl : lv_has ls 3 [(0, .ref (ad 30)), (1, .int v1)] := hl
  unfold wpCopyPlan_isAwaited at hw
  refine lv_iconst (v := 0) hx hb dCopyPlan_isAwaited_0 (by decide) ?_
  refine lv_istore_n (lv' := [(2, .int 0), (0, .ref (ad 30)), (1, .int v1)]) hx hb dCopyPlan_isAwaited_1 rfl hl (by decide) rfl (fun ls hl => ?_)
  obtain ⟨k2, hw⟩ := hw
  have hlp2 : ∀ (k : Nat), ∀ (v2_L2 : Int32) (ls : Array Slot) (H : Heap) (locs : List Loc), lv_has ls 3 [(0, .ref (ad 30)), (1, .int v1), (2, .int v2_L2)] → va_P D vwCl (wdCopyPlan_isAwaited cA ad N pending length pendingFrom) H → va_D A (wdCopyPlan_isAwaited cA ad N pending length pendingFrom) → va_S A s.heap H locs → lpCopyPlan_isAwaited_2 v1 pending pendingFrom post k v2_L2 → W p l e (headSpec (Cond.code yCopyPlan_isAwaited cCopyPlan_isAwaited 3 (some .boolean) :: xW) rmCopyPlan_isAwaited).room s m ([.ref (ad 30), .int v1] : List Value).toArray below meth c H locs 0 0 Q (F0 m 2 ls []) := by
    intro k
    induction k with
    | zero => intro v2_L2 ls H locs hl hP hD hS hw; exact False.elim hw
    | succ k ih =>
      intro v2_L2 ls H locs hl hP hD hS hw
      refine lv_iload_n hx hb dCopyPlan_isAwaited_2 rfl (lv_at hl 2 rfl) ?_
      refine lv_aload_n hx hb dCopyPlan_isAwaited_3 rfl (lv_at hl 0 rfl) ?_
      refine va_get (D := D) (ci := 4) (v := .int pending) (C := "OnceNamed$CopyPlan") (T := TX4) (N := 6) hx hb hts (fun w h => List.mem_cons_of_mem _ (inX4 w h)) hown hK hP 0 rfl rfl 4 (by decide) (hts _ (List.mem_cons_of_mem _ kw_173)) (fun _ h9 => h9) rfl dCopyPlan_isAwaited_4 ?_
      refine lv_icmp_ge (tgt := 28) hx hb dCopyPlan_isAwaited_7 rfl (fun hc => ?_) (fun hc => ?_)
      · have hw := hw.1 hc
        refine lv_iconst (v := 0) hx hb dCopyPlan_isAwaited_28 (by decide) ?_
        exact hend false _ _ _ _ dCopyPlan_isAwaited_29 hP hD hS hw
      · have hw := hw.2 hc
        refine lv_aload_n hx hb dCopyPlan_isAwaited_10 rfl (lv_at hl 0 rfl) ?_
        refine va_get (D := D) (ci := 4) (v := .ref (ad 32)) (C := "OnceNamed$CopyPlan") (T := TX4) (N := 6) hx hb hts (fun w h => List.mem_cons_of_mem _ (inX4 w h)) hown hK hP 0 rfl rfl 1 (by decide) (hts _ (List.mem_cons_of_mem _ kw_170)) (fun _ h9 => h9) rfl dCopyPlan_isAwaited_11 ?_
        refine lv_iload_n hx hb dCopyPlan_isAwaited_14 rfl (lv_at hl 2 rfl) ?_
        have ho := hw.1
        have hw := hw.2
        refine va_iald hx hb hK hP 1 0 rfl rfl ho dCopyPlan_isAwaited_15 ?_
        refine lv_iload_n hx hb dCopyPlan_isAwaited_16 rfl (lv_at hl 1 rfl) ?_
        refine lv_icmp_ne (tgt := 22) hx hb dCopyPlan_isAwaited_17 rfl (fun hc => ?_) (fun hc => ?_)
        · have hw := hw.1 hc
          refine lv_iinc (k := 2) (v := (v2_L2 + 1)) (lv' := [(2, .int (v2_L2 + 1)), (0, .ref (ad 30)), (1, .int v1)]) hx hb dCopyPlan_isAwaited_22 hl rfl rfl (by decide) rfl (fun ls hl => ?_)
          refine lv_goto (tgt := 2) hx hb dCopyPlan_isAwaited_25 rfl ?_
          exact ih (v2_L2 + 1) _ _ _ (lv_sub hl [1, 2, 0] rfl) hP hD hS hw
        · have hw := hw.2 hc
          refine lv_iconst (v := 1) hx hb dCopyPlan_isAwaited_20 (by decide) ?_
          exact hend true _ _ _ _ dCopyPlan_isAwaited_21 hP hD hS hw
  refine hlp2 k2 0 _ _ _ (lv_sub hl [1, 2, 0] rfl) hP hD hS hw
abbrev wdCopyPlan_freeMove (cA : ClassId) (ad : Nat → Nat) (N : Nat) (pending : Int32) (length : Int32) (pendingTo : Nat → Int32) (pendingFrom : Nat → Int32) : va_W := [((ad 30), .inr (4, [.ref (ad 31), .ref (ad 32), .ref (ad 33), .ref (ad 34), .int pending, .int length])), ((ad 31), .inl (cA, 6, .inl pendingTo)), ((ad 32), .inl (cA, 6, .inl pendingFrom))]
abbrev qcCopyPlan_freeMove (D : va_G) (cA : ClassId) (ad : Nat → Nat) (N : Nat) (pending : Int32) (length : Int32) (pendingTo : Nat → Int32) (pendingFrom : Nat → Int32) (post : Int32 → Prop) (A : Nat → Prop) : Array Value → State → Outcome → State → Prop := va_Qi (S := Unit) (fun r u => post r ) (fun u t => xB D [(cA, .int)] A (wdCopyPlan_freeMove cA ad N pending length pendingTo pendingFrom) t) A
abbrev rmCopyPlan_freeMove : Room := { frames := 1, cells := 0, slots := 0, locals := 22 }
set_option maxHeartbeats 4000000 in
set_option maxRecDepth 100000 in
theorem ktCopyPlan_freeMove (l : Launch) (D : va_G) (cA : ClassId) (ad : Nat → Nat) (N : Nat) (sz : Nat) (pending : Int32) (length : Int32) (pendingTo : Nat → Int32) (pendingFrom : Nat → Int32)  (post : Int32 → Prop) (hw : wpCopyPlan_freeMove pending pendingTo pendingFrom post) : Met l yCopyPlan_freeMove (Cond.code yCopyPlan_freeMove cCopyPlan_freeMove 2 (some .int) :: xW) rmCopyPlan_freeMove (va_Pc [.ref (ad 30)] (xPc D [(cA, .int)] (wdCopyPlan_freeMove cA ad N pending length pendingTo pendingFrom) sz)) (qcCopyPlan_freeMove D cA ad N pending length pendingTo pendingFrom post (va_A (wdCopyPlan_freeMove cA ad N pending length pendingTo pendingFrom) sz)) 0 0 (va_A (wdCopyPlan_freeMove cA ad N pending length pendingTo pendingFrom) sz) := by
  refine Met.ofW (cc := cCopyPlan_freeMove) (maxL := 2) (ret := (some .int)) (by decide) rfl ?_
  intro p e s m args below meth c s₁ B hml hv
  obtain ⟨rfl, hsz, hP, hK, hD0, hN⟩ := hv
  have hx := B.exec
  have hb := B.bytes
  have hr := B.returns
  have hts := atoms_spec (ws := (Cond.code yCopyPlan_freeMove cCopyPlan_freeMove 2 (some .int) :: xW)) B.pre
  have hown : s.vm.findClass "OnceNamed$CopyPlan" = some m.cls := findClass_of_methodNamed B.named
  have hlocks := B.notSynchronized
  subst hsz
  have hD := hD0.self (sz := s.heap.size)
  generalize hAe : va_A (wdCopyPlan_freeMove cA ad N pending length pendingTo pendingFrom) s.heap.size = A at hD ⊢
  have hA : ∀ q : Nat, s.heap.size ≤ q → A q := fun q h => by rw [← hAe]; exact Or.inr h
  have hS : va_S A s.heap s.heap [] := va_S.rf
  have hend : ∀ (r : Int32)  (H : Heap) (locs : List Loc) (pc : Nat) (ls : Array Slot), decode cCopyPlan_freeMove pc = .ok (.ireturn, 1) → va_P D vwCl (wdCopyPlan_freeMove cA ad N pending length pendingTo pendingFrom) H → va_D A (wdCopyPlan_freeMove cA ad N pending length pendingTo pendingFrom) → va_S A s.heap H locs → post r  → W p l e (headSpec (Cond.code yCopyPlan_freeMove cCopyPlan_freeMove 2 (some .int) :: xW) rmCopyPlan_freeMove).room s m ([.ref (ad 30)] : List Value).toArray below meth c H locs 0 0 (MQ below (qcCopyPlan_freeMove D cA ad N pending length pendingTo pendingFrom post A) ([.ref (ad 30)] : List Value).toArray s 0 0 A) (F0 m pc ls [.int r]) := fun r  H locs pc ls hd hP hD hS hw => W.iret (v := r) hx hb hr (fun t ht hW => ⟨⟨r, (), rfl, hw, ⟨by rw [ht]; exact hP, va_K.moved hW.alike hK, hD⟩⟩, hS.F ht⟩) hS.2.2 hd
  generalize hQ : MQ below (qcCopyPlan_freeMove D cA ad N pending length pendingTo pendingFrom post A) ([.ref (ad 30)] : List Value).toArray s 0 0 A = Q at hend ⊢
  have hl := lv_entry ([.ref (ad 30)]) (n := 2) (Nat.le_of_ble_eq_true rfl)
  rw [lg_entry_eq]
  generalize (lg_sl ([.ref (ad 30)]) ++ List.replicate (2 - (lg_sl ([.ref (ad 30)])).length) Slot.unset).toArray = ls at hl ⊢
  have hl : lv_has ls 2 [(0, .ref (ad 30))] := hl
  unfold wpCopyPlan_freeMove at hw
  refine lv_iconst (v := 0) hx hb dCopyPlan_freeMove_0 (by decide) ?_
  refine lv_istore_n (lv' := [(1, .int 0), (0, .ref (ad 30))]) hx hb dCopyPlan_freeMove_1 rfl hl (by decide) rfl (fun ls hl => ?_)
  obtain ⟨k2, hw⟩ := hw
  have hlp2 : ∀ (k : Nat), ∀ (v1_L2 : Int32) (ls : Array Slot) (H : Heap) (locs : List Loc), lv_has ls 2 [(0, .ref (ad 30)), (1, .int v1_L2)] → va_P D vwCl (wdCopyPlan_freeMove cA ad N pending length pendingTo pendingFrom) H → va_D A (wdCopyPlan_freeMove cA ad N pending length pendingTo pendingFrom) → va_S A s.heap H locs → lpCopyPlan_freeMove_2 pending pendingTo pendingFrom post k v1_L2 → W p l e (headSpec (Cond.code yCopyPlan_freeMove cCopyPlan_freeMove 2 (some .int) :: xW) rmCopyPlan_freeMove).room s m ([.ref (ad 30)] : List Value).toArray below meth c H locs 0 0 Q (F0 m 2 ls []) := by
    intro k
    induction k with
    | zero => intro v1_L2 ls H locs hl hP hD hS hw; exact False.elim hw
    | succ k ih =>
      intro v1_L2 ls H locs hl hP hD hS hw
      refine lv_iload_n hx hb dCopyPlan_freeMove_2 rfl (lv_at hl 1 rfl) ?_
      refine lv_aload_n hx hb dCopyPlan_freeMove_3 rfl (lv_at hl 0 rfl) ?_
      refine va_get (D := D) (ci := 4) (v := .int pending) (C := "OnceNamed$CopyPlan") (T := TX4) (N := 6) hx hb hts (fun w h => List.mem_cons_of_mem _ (inX4 w h)) hown hK hP 0 rfl rfl 4 (by decide) (hts _ (List.mem_cons_of_mem _ kw_173)) (fun _ h9 => h9) rfl dCopyPlan_freeMove_4 ?_
      refine lv_icmp_ge (tgt := 31) hx hb dCopyPlan_freeMove_7 rfl (fun hc => ?_) (fun hc => ?_)
      · have hw := hw.1 hc
        refine lv_iconst (v := (-1)) hx hb dCopyPlan_freeMove_31 (by decide) ?_
        exact hend (-1) _ _ _ _ dCopyPlan_freeMove_32 hP hD hS hw
      · have hw := hw.2 hc
        refine lv_aload_n hx hb dCopyPlan_freeMove_10 rfl (lv_at hl 0 rfl) ?_
        refine lv_aload_n hx hb dCopyPlan_freeMove_11 rfl (lv_at hl 0 rfl) ?_
        refine va_get (D := D) (ci := 4) (v := .ref (ad 31)) (C := "OnceNamed$CopyPlan") (T := TX4) (N := 6) hx hb hts (fun w h => List.mem_cons_of_mem _ (inX4 w h)) hown hK hP 0 rfl rfl 0 (by decide) (hts _ (List.mem_cons_of_mem _ kw_169)) (fun _ h9 => h9) rfl dCopyPlan_freeMove_12 ?_
        refine lv_iload_n hx hb dCopyPlan_freeMove_15 rfl (lv_at hl 1 rfl) ?_
        have ho := hw.1
        have hw := hw.2
        refine va_iald hx hb hK hP 1 0 rfl rfl ho dCopyPlan_freeMove_16 ?_
        refine xci (va_runV ⟨hx, hb, hml, hown, hts⟩ (ktCopyPlan_isAwaited l D cA ad N _ pending length pendingFrom (pendingTo (Int32.toNatClampNeg v1_L2)) _ hw) (cwV 1 hts (goodV kw_791 kw_793 ks_2_15 kw_7 kw_794) rfl rfl rfl (by decide +kernel) ⟨Nat.le_of_ble_eq_true rfl, Nat.le_of_ble_eq_true rfl⟩) (xpreV hK hP hD hN [0, 2] rfl rfl 0 rfl rfl) rfl rfl hl.1 rfl (lv_room (Nat.le_of_ble_eq_true rfl)) dCopyPlan_freeMove_17 ⟨Nat.le_of_ble_eq_true rfl, Nat.le_of_ble_eq_true rfl⟩) hP hD hS hA [0, 2] [1] rfl rfl rfl rfl [1, 0, 2] rfl (fun _ => rfl) (fun r17 u H locs hw hP hD hS => ?_)
        obtain ⟨r17, rfl, hw⟩ := hw
        have hP : va_P D vwCl (wdCopyPlan_freeMove cA ad N pending length pendingTo pendingFrom) H := hP
        have hD : va_D A (wdCopyPlan_freeMove cA ad N pending length pendingTo pendingFrom) := hD
        refine lv_if_ne (tgt := 25) hx hb dCopyPlan_freeMove_20 rfl (fun hc => ?_) (fun hc => ?_)
        · have hw := hw.1 (bI_1 hc)
          refine lv_iinc (k := 1) (v := (v1_L2 + 1)) (lv' := [(1, .int (v1_L2 + 1)), (0, .ref (ad 30))]) hx hb dCopyPlan_freeMove_25 hl rfl rfl (by decide) rfl (fun ls hl => ?_)
          refine lv_goto (tgt := 2) hx hb dCopyPlan_freeMove_28 rfl ?_
          exact ih (v1_L2 + 1) _ _ _ (lv_sub hl [1, 0] rfl) hP hD hS hw
        · have hw := hw.2 (bI_0 hc)
          refine lv_iload_n hx hb dCopyPlan_freeMove_23 rfl (lv_at hl 1 rfl) ?_
          exact hend v1_L2 _ _ _ _ dCopyPlan_freeMove_24 hP hD hS hw
  refine hlp2 k2 0 _ _ _ (lv_sub hl [1, 0] rfl) hP hD hS hw
abbrev wdCopyPlan_copy (cA : ClassId) (ad : Nat → Nat) (N : Nat) (pending : Int32) (length : Int32) (copyTo : Nat → Int32) (copyFrom : Nat → Int32) : va_W := [((ad 30), .inr (4, [.ref (ad 31), .ref (ad 32), .ref (ad 33), .ref (ad 34), .int pending, .int length])), ((ad 33), .inl (cA, 9, .inl copyTo)), ((ad 34), .inl (cA, 9, .inl copyFrom))]
abbrev qcCopyPlan_copy (D : va_G) (cA : ClassId) (ad : Nat → Nat) (N : Nat) (pending : Int32) (length : Int32) (copyTo : Nat → Int32) (copyFrom : Nat → Int32) (post : Int32 → (Nat → Int32) → (Nat → Int32) → Prop) (A : Nat → Prop) : Array Value → State → Outcome → State → Prop := va_Qv (S := (Int32) × (Nat → Int32) × (Nat → Int32)) (fun u => post u.1 u.2.1 u.2.2) (fun u t => xB D [(cA, .int)] A (wdCopyPlan_copy cA ad N pending u.1 u.2.1 u.2.2) t) A
abbrev rmCopyPlan_copy : Room := { frames := 0, cells := 0, slots := 0, locals := 0 }
set_option maxHeartbeats 4000000 in
set_option maxRecDepth 100000 in
theorem ktCopyPlan_copy (l : Launch) (D : va_G) (cA : ClassId) (ad : Nat → Nat) (N : Nat) (sz : Nat) (pending : Int32) (length : Int32) (copyTo : Nat → Int32) (copyFrom : Nat → Int32) (v1 : Int32) (v2 : Int32) (post : Int32 → (Nat → Int32) → (Nat → Int32) → Prop) (hw : wpCopyPlan_copy length copyTo copyFrom v1 v2 post) : Met l yCopyPlan_copy (Cond.code yCopyPlan_copy cCopyPlan_copy 3 none :: xW) rmCopyPlan_copy (va_Pc [.ref (ad 30), .int v1, .int v2] (xPc D [(cA, .int)] (wdCopyPlan_copy cA ad N pending length copyTo copyFrom) sz)) (qcCopyPlan_copy D cA ad N pending length copyTo copyFrom post (va_A (wdCopyPlan_copy cA ad N pending length copyTo copyFrom) sz)) 0 0 (va_A (wdCopyPlan_copy cA ad N pending length copyTo copyFrom) sz) := by
  refine Met.ofW (cc := cCopyPlan_copy) (maxL := 3) (ret := none) (by decide) rfl ?_
  intro p e s m args below meth c s₁ B hml hv
  obtain ⟨rfl, hsz, hP, hK, hD0, hN⟩ := hv
  have hx := B.exec
  have hb := B.bytes
  have hr := B.returns
  have hts := atoms_spec (ws := (Cond.code yCopyPlan_copy cCopyPlan_copy 3 none :: xW)) B.pre
  have hown : s.vm.findClass "OnceNamed$CopyPlan" = some m.cls := findClass_of_methodNamed B.named
  have hlocks := B.notSynchronized
  subst hsz
  have hD := hD0.self (sz := s.heap.size)
  generalize hAe : va_A (wdCopyPlan_copy cA ad N pending length copyTo copyFrom) s.heap.size = A at hD ⊢
  have hA : ∀ q : Nat, s.heap.size ≤ q → A q := fun q h => by rw [← hAe]; exact Or.inr h
  have hS : va_S A s.heap s.heap [] := va_S.rf
  have hend : ∀ (u0 : Int32) (u1 : Nat → Int32) (u2 : Nat → Int32) (H : Heap) (locs : List Loc) (pc : Nat) (ls : Array Slot), decode cCopyPlan_copy pc = .ok (.return_, 1) → va_P D vwCl (wdCopyPlan_copy cA ad N pending u0 u1 u2) H → va_D A (wdCopyPlan_copy cA ad N pending u0 u1 u2) → va_S A s.heap H locs → post u0 u1 u2 → W p l e (headSpec (Cond.code yCopyPlan_copy cCopyPlan_copy 3 none :: xW) rmCopyPlan_copy).room s m ([.ref (ad 30), .int v1, .int v2] : List Value).toArray below meth c H locs 0 0 (MQ below (qcCopyPlan_copy D cA ad N pending length copyTo copyFrom post A) ([.ref (ad 30), .int v1, .int v2] : List Value).toArray s 0 0 A) (F0 m pc ls []) := fun u0 u1 u2 H locs pc ls hd hP hD hS hw => W.vret hx hb hr (fun t ht hW => ⟨⟨(u0, u1, u2), rfl, hw, ⟨by rw [ht]; exact hP, va_K.moved hW.alike hK, hD⟩⟩, hS.F ht⟩) hS.2.2 hd
  generalize hQ : MQ below (qcCopyPlan_copy D cA ad N pending length copyTo copyFrom post A) ([.ref (ad 30), .int v1, .int v2] : List Value).toArray s 0 0 A = Q at hend ⊢
  have hl := lv_entry ([.ref (ad 30), .int v1, .int v2]) (n := 3) (Nat.le_of_ble_eq_true rfl)
  rw [lg_entry_eq]
  generalize (lg_sl ([.ref (ad 30), .int v1, .int v2]) ++ List.replicate (3 - (lg_sl ([.ref (ad 30), .int v1, .int v2])).length) Slot.unset).toArray = ls at hl ⊢
  have hl : lv_has ls 3 [(0, .ref (ad 30)), (1, .int v1), (2, .int v2)] := hl
  unfold wpCopyPlan_copy at hw
  refine lv_aload_n hx hb dCopyPlan_copy_0 rfl (lv_at hl 0 rfl) ?_
  refine va_get (D := D) (ci := 4) (v := .ref (ad 33)) (C := "OnceNamed$CopyPlan") (T := TX4) (N := 6) hx hb hts (fun w h => List.mem_cons_of_mem _ (inX4 w h)) hown hK hP 0 rfl rfl 2 (by decide) (hts _ (List.mem_cons_of_mem _ kw_171)) (fun _ h9 => h9) rfl dCopyPlan_copy_1 ?_
  refine lv_aload_n hx hb dCopyPlan_copy_4 rfl (lv_at hl 0 rfl) ?_
  refine va_get (D := D) (ci := 4) (v := .int length) (C := "OnceNamed$CopyPlan") (T := TX4) (N := 6) hx hb hts (fun w h => List.mem_cons_of_mem _ (inX4 w h)) hown hK hP 0 rfl rfl 5 (by decide) (hts _ (List.mem_cons_of_mem _ kw_174)) (fun _ h9 => h9) rfl dCopyPlan_copy_5 ?_
  refine lv_iload_n hx hb dCopyPlan_copy_8 rfl (lv_at hl 1 rfl) ?_
  have ho := hw.1
  have hw := hw.2
  refine va_iast hx hb hK hP hD hS 1 0 rfl rfl ho dCopyPlan_copy_9 (fun H locs hP hD hS => ?_)
  have hP : va_P D vwCl (wdCopyPlan_copy cA ad N pending length (upd copyTo (Int32.toNatClampNeg length) v1) copyFrom) H := hP
  have hD : va_D A (wdCopyPlan_copy cA ad N pending length (upd copyTo (Int32.toNatClampNeg length) v1) copyFrom) := hD
  refine lv_aload_n hx hb dCopyPlan_copy_10 rfl (lv_at hl 0 rfl) ?_
  refine va_get (D := D) (ci := 4) (v := .ref (ad 34)) (C := "OnceNamed$CopyPlan") (T := TX4) (N := 6) hx hb hts (fun w h => List.mem_cons_of_mem _ (inX4 w h)) hown hK hP 0 rfl rfl 3 (by decide) (hts _ (List.mem_cons_of_mem _ kw_172)) (fun _ h9 => h9) rfl dCopyPlan_copy_11 ?_
  refine lv_aload_n hx hb dCopyPlan_copy_14 rfl (lv_at hl 0 rfl) ?_
  refine va_get (D := D) (ci := 4) (v := .int length) (C := "OnceNamed$CopyPlan") (T := TX4) (N := 6) hx hb hts (fun w h => List.mem_cons_of_mem _ (inX4 w h)) hown hK hP 0 rfl rfl 5 (by decide) (hts _ (List.mem_cons_of_mem _ kw_174)) (fun _ h9 => h9) rfl dCopyPlan_copy_15 ?_
  refine lv_iload_n hx hb dCopyPlan_copy_18 rfl (lv_at hl 2 rfl) ?_
  have ho := hw.1
  have hw := hw.2
  refine va_iast hx hb hK hP hD hS 2 0 rfl rfl ho dCopyPlan_copy_19 (fun H locs hP hD hS => ?_)
  have hP : va_P D vwCl (wdCopyPlan_copy cA ad N pending length (upd copyTo (Int32.toNatClampNeg length) v1) (upd copyFrom (Int32.toNatClampNeg length) v2)) H := hP
  have hD : va_D A (wdCopyPlan_copy cA ad N pending length (upd copyTo (Int32.toNatClampNeg length) v1) (upd copyFrom (Int32.toNatClampNeg length) v2)) := hD
  refine lv_aload_n hx hb dCopyPlan_copy_20 rfl (lv_at hl 0 rfl) ?_
  refine lv_dup hx hb dCopyPlan_copy_21 rfl ?_
  refine va_get (D := D) (ci := 4) (v := .int length) (C := "OnceNamed$CopyPlan") (T := TX4) (N := 6) hx hb hts (fun w h => List.mem_cons_of_mem _ (inX4 w h)) hown hK hP 0 rfl rfl 5 (by decide) (hts _ (List.mem_cons_of_mem _ kw_174)) (fun _ h9 => h9) rfl dCopyPlan_copy_22 ?_
  refine lv_iconst (v := 1) hx hb dCopyPlan_copy_25 (by decide) ?_
  refine lv_iadd hx hb dCopyPlan_copy_26 ?_
  refine va_put (D := D) (ci := 4) (v := .int (length + 1)) (ty := .int) (C := "OnceNamed$CopyPlan") (T := TX4) (N := 6) hx hb hts (fun w h => List.mem_cons_of_mem _ (inX4 w h)) tyX4 tyX4_ok nmX4 hown hK hP hD hS 0 rfl rfl 5 (by decide) (hts _ (List.mem_cons_of_mem _ kw_174)) (fun _ h9 => h9) rfl (by decide +kernel) rfl rfl (Nat.le_of_ble_eq_true rfl) dCopyPlan_copy_27 (fun H locs hP hD hS => ?_)
  have hP : va_P D vwCl (wdCopyPlan_copy cA ad N pending (length + 1) (upd copyTo (Int32.toNatClampNeg length) v1) (upd copyFrom (Int32.toNatClampNeg length) v2)) H := hP
  have hD : va_D A (wdCopyPlan_copy cA ad N pending (length + 1) (upd copyTo (Int32.toNatClampNeg length) v1) (upd copyFrom (Int32.toNatClampNeg length) v2)) := hD
  exact hend (length + 1) (upd copyTo (Int32.toNatClampNeg length) v1) (upd copyFrom (Int32.toNatClampNeg length) v2) _ _ _ _ dCopyPlan_copy_30 hP hD hS hw
abbrev wdCopyPlan_remove (cA : ClassId) (ad : Nat → Nat) (N : Nat) (pending : Int32) (length : Int32) (pendingTo : Nat → Int32) (pendingFrom : Nat → Int32) : va_W := [((ad 30), .inr (4, [.ref (ad 31), .ref (ad 32), .ref (ad 33), .ref (ad 34), .int pending, .int length])), ((ad 31), .inl (cA, 6, .inl pendingTo)), ((ad 32), .inl (cA, 6, .inl pendingFrom))]
abbrev qcCopyPlan_remove (D : va_G) (cA : ClassId) (ad : Nat → Nat) (N : Nat) (pending : Int32) (length : Int32) (pendingTo : Nat → Int32) (pendingFrom : Nat → Int32) (post : Int32 → (Nat → Int32) → (Nat → Int32) → Prop) (A : Nat → Prop) : Array Value → State → Outcome → State → Prop := va_Qv (S := (Int32) × (Nat → Int32) × (Nat → Int32)) (fun u => post u.1 u.2.1 u.2.2) (fun u t => xB D [(cA, .int)] A (wdCopyPlan_remove cA ad N u.1 length u.2.1 u.2.2) t) A
abbrev rmCopyPlan_remove : Room := { frames := 0, cells := 0, slots := 0, locals := 0 }
set_option maxHeartbeats 4000000 in
set_option maxRecDepth 100000 in
theorem ktCopyPlan_remove (l : Launch) (D : va_G) (cA : ClassId) (ad : Nat → Nat) (N : Nat) (sz : Nat) (pending : Int32) (length : Int32) (pendingTo : Nat → Int32) (pendingFrom : Nat → Int32) (v1 : Int32) (post : Int32 → (Nat → Int32) → (Nat → Int32) → Prop) (hw : wpCopyPlan_remove pending pendingTo pendingFrom v1 post) : Met l yCopyPlan_remove (Cond.code yCopyPlan_remove cCopyPlan_remove 2 none :: xW) rmCopyPlan_remove (va_Pc [.ref (ad 30), .int v1] (xPc D [(cA, .int)] (wdCopyPlan_remove cA ad N pending length pendingTo pendingFrom) sz)) (qcCopyPlan_remove D cA ad N pending length pendingTo pendingFrom post (va_A (wdCopyPlan_remove cA ad N pending length pendingTo pendingFrom) sz)) 0 0 (va_A (wdCopyPlan_remove cA ad N pending length pendingTo pendingFrom) sz) := by
  refine Met.ofW (cc := cCopyPlan_remove) (maxL := 2) (ret := none) (by decide) rfl ?_
  intro p e s m args below meth c s₁ B hml hv
  obtain ⟨rfl, hsz, hP, hK, hD0, hN⟩ := hv
  have hx := B.exec
  have hb := B.bytes
  have hr := B.returns
  have hts := atoms_spec (ws := (Cond.code yCopyPlan_remove cCopyPlan_remove 2 none :: xW)) B.pre
  have hown : s.vm.findClass "OnceNamed$CopyPlan" = some m.cls := findClass_of_methodNamed B.named
  have hlocks := B.notSynchronized
  subst hsz
  have hD := hD0.self (sz := s.heap.size)
  generalize hAe : va_A (wdCopyPlan_remove cA ad N pending length pendingTo pendingFrom) s.heap.size = A at hD ⊢
  have hA : ∀ q : Nat, s.heap.size ≤ q → A q := fun q h => by rw [← hAe]; exact Or.inr h
  have hS : va_S A s.heap s.heap [] := va_S.rf
  have hend : ∀ (u0 : Int32) (u1 : Nat → Int32) (u2 : Nat → Int32) (H : Heap) (locs : List Loc) (pc : Nat) (ls : Array Slot), decode cCopyPlan_remove pc = .ok (.return_, 1) → va_P D vwCl (wdCopyPlan_remove cA ad N u0 length u1 u2) H → va_D A (wdCopyPlan_remove cA ad N u0 length u1 u2) → va_S A s.heap H locs → post u0 u1 u2 → W p l e (headSpec (Cond.code yCopyPlan_remove cCopyPlan_remove 2 none :: xW) rmCopyPlan_remove).room s m ([.ref (ad 30), .int v1] : List Value).toArray below meth c H locs 0 0 (MQ below (qcCopyPlan_remove D cA ad N pending length pendingTo pendingFrom post A) ([.ref (ad 30), .int v1] : List Value).toArray s 0 0 A) (F0 m pc ls []) := fun u0 u1 u2 H locs pc ls hd hP hD hS hw => W.vret hx hb hr (fun t ht hW => ⟨⟨(u0, u1, u2), rfl, hw, ⟨by rw [ht]; exact hP, va_K.moved hW.alike hK, hD⟩⟩, hS.F ht⟩) hS.2.2 hd
  generalize hQ : MQ below (qcCopyPlan_remove D cA ad N pending length pendingTo pendingFrom post A) ([.ref (ad 30), .int v1] : List Value).toArray s 0 0 A = Q at hend ⊢
  have hl := lv_entry ([.ref (ad 30), .int v1]) (n := 2) (Nat.le_of_ble_eq_true rfl)
  rw [lg_entry_eq]
  generalize (lg_sl ([.ref (ad 30), .int v1]) ++ List.replicate (2 - (lg_sl ([.ref (ad 30), .int v1])).length) Slot.unset).toArray = ls at hl ⊢
  have hl : lv_has ls 2 [(0, .ref (ad 30)), (1, .int v1)] := hl
  unfold wpCopyPlan_remove at hw
  refine lv_aload_n hx hb dCopyPlan_remove_0 rfl (lv_at hl 0 rfl) ?_
  refine lv_dup hx hb dCopyPlan_remove_1 rfl ?_
  refine va_get (D := D) (ci := 4) (v := .int pending) (C := "OnceNamed$CopyPlan") (T := TX4) (N := 6) hx hb hts (fun w h => List.mem_cons_of_mem _ (inX4 w h)) hown hK hP 0 rfl rfl 4 (by decide) (hts _ (List.mem_cons_of_mem _ kw_173)) (fun _ h9 => h9) rfl dCopyPlan_remove_2 ?_
  refine lv_iconst (v := 1) hx hb dCopyPlan_remove_5 (by decide) ?_
  refine lv_isub hx hb dCopyPlan_remove_6 ?_
  refine va_put (D := D) (ci := 4) (v := .int (pending - 1)) (ty := .int) (C := "OnceNamed$CopyPlan") (T := TX4) (N := 6) hx hb hts (fun w h => List.mem_cons_of_mem _ (inX4 w h)) tyX4 tyX4_ok nmX4 hown hK hP hD hS 0 rfl rfl 4 (by decide) (hts _ (List.mem_cons_of_mem _ kw_173)) (fun _ h9 => h9) rfl (by decide +kernel) rfl rfl (Nat.le_of_ble_eq_true rfl) dCopyPlan_remove_7 (fun H locs hP hD hS => ?_)
  have hP : va_P D vwCl (wdCopyPlan_remove cA ad N (pending - 1) length pendingTo pendingFrom) H := hP
  have hD : va_D A (wdCopyPlan_remove cA ad N (pending - 1) length pendingTo pendingFrom) := hD
  refine lv_aload_n hx hb dCopyPlan_remove_10 rfl (lv_at hl 0 rfl) ?_
  refine va_get (D := D) (ci := 4) (v := .ref (ad 31)) (C := "OnceNamed$CopyPlan") (T := TX4) (N := 6) hx hb hts (fun w h => List.mem_cons_of_mem _ (inX4 w h)) hown hK hP 0 rfl rfl 0 (by decide) (hts _ (List.mem_cons_of_mem _ kw_169)) (fun _ h9 => h9) rfl dCopyPlan_remove_11 ?_
  refine lv_iload_n hx hb dCopyPlan_remove_14 rfl (lv_at hl 1 rfl) ?_
  refine lv_aload_n hx hb dCopyPlan_remove_15 rfl (lv_at hl 0 rfl) ?_
  refine va_get (D := D) (ci := 4) (v := .ref (ad 31)) (C := "OnceNamed$CopyPlan") (T := TX4) (N := 6) hx hb hts (fun w h => List.mem_cons_of_mem _ (inX4 w h)) hown hK hP 0 rfl rfl 0 (by decide) (hts _ (List.mem_cons_of_mem _ kw_169)) (fun _ h9 => h9) rfl dCopyPlan_remove_16 ?_
  refine lv_aload_n hx hb dCopyPlan_remove_19 rfl (lv_at hl 0 rfl) ?_
  refine va_get (D := D) (ci := 4) (v := .int (pending - 1)) (C := "OnceNamed$CopyPlan") (T := TX4) (N := 6) hx hb hts (fun w h => List.mem_cons_of_mem _ (inX4 w h)) hown hK hP 0 rfl rfl 4 (by decide) (hts _ (List.mem_cons_of_mem _ kw_173)) (fun _ h9 => h9) rfl dCopyPlan_remove_20 ?_
  have ho := hw.1
  have hw := hw.2
  refine va_iald hx hb hK hP 1 0 rfl rfl ho dCopyPlan_remove_23 ?_
  have ho := hw.1
  have hw := hw.2
  refine va_iast hx hb hK hP hD hS 1 0 rfl rfl ho dCopyPlan_remove_24 (fun H locs hP hD hS => ?_)
  have hP : va_P D vwCl (wdCopyPlan_remove cA ad N (pending - 1) length (upd pendingTo (Int32.toNatClampNeg v1) (pendingTo (Int32.toNatClampNeg (pending - 1)))) pendingFrom) H := hP
  have hD : va_D A (wdCopyPlan_remove cA ad N (pending - 1) length (upd pendingTo (Int32.toNatClampNeg v1) (pendingTo (Int32.toNatClampNeg (pending - 1)))) pendingFrom) := hD
  refine lv_aload_n hx hb dCopyPlan_remove_25 rfl (lv_at hl 0 rfl) ?_
  refine va_get (D := D) (ci := 4) (v := .ref (ad 32)) (C := "OnceNamed$CopyPlan") (T := TX4) (N := 6) hx hb hts (fun w h => List.mem_cons_of_mem _ (inX4 w h)) hown hK hP 0 rfl rfl 1 (by decide) (hts _ (List.mem_cons_of_mem _ kw_170)) (fun _ h9 => h9) rfl dCopyPlan_remove_26 ?_
  refine lv_iload_n hx hb dCopyPlan_remove_29 rfl (lv_at hl 1 rfl) ?_
  refine lv_aload_n hx hb dCopyPlan_remove_30 rfl (lv_at hl 0 rfl) ?_
  refine va_get (D := D) (ci := 4) (v := .ref (ad 32)) (C := "OnceNamed$CopyPlan") (T := TX4) (N := 6) hx hb hts (fun w h => List.mem_cons_of_mem _ (inX4 w h)) hown hK hP 0 rfl rfl 1 (by decide) (hts _ (List.mem_cons_of_mem _ kw_170)) (fun _ h9 => h9) rfl dCopyPlan_remove_31 ?_
  refine lv_aload_n hx hb dCopyPlan_remove_34 rfl (lv_at hl 0 rfl) ?_
  refine va_get (D := D) (ci := 4) (v := .int (pending - 1)) (C := "OnceNamed$CopyPlan") (T := TX4) (N := 6) hx hb hts (fun w h => List.mem_cons_of_mem _ (inX4 w h)) hown hK hP 0 rfl rfl 4 (by decide) (hts _ (List.mem_cons_of_mem _ kw_173)) (fun _ h9 => h9) rfl dCopyPlan_remove_35 ?_
  have ho := hw.1
  have hw := hw.2
  refine va_iald hx hb hK hP 2 0 rfl rfl ho dCopyPlan_remove_38 ?_
  have ho := hw.1
  have hw := hw.2
  refine va_iast hx hb hK hP hD hS 2 0 rfl rfl ho dCopyPlan_remove_39 (fun H locs hP hD hS => ?_)
  have hP : va_P D vwCl (wdCopyPlan_remove cA ad N (pending - 1) length (upd pendingTo (Int32.toNatClampNeg v1) (pendingTo (Int32.toNatClampNeg (pending - 1)))) (upd pendingFrom (Int32.toNatClampNeg v1) (pendingFrom (Int32.toNatClampNeg (pending - 1))))) H := hP
  have hD : va_D A (wdCopyPlan_remove cA ad N (pending - 1) length (upd pendingTo (Int32.toNatClampNeg v1) (pendingTo (Int32.toNatClampNeg (pending - 1)))) (upd pendingFrom (Int32.toNatClampNeg v1) (pendingFrom (Int32.toNatClampNeg (pending - 1))))) := hD
  exact hend (pending - 1) (upd pendingTo (Int32.toNatClampNeg v1) (pendingTo (Int32.toNatClampNeg (pending - 1)))) (upd pendingFrom (Int32.toNatClampNeg v1) (pendingFrom (Int32.toNatClampNeg (pending - 1)))) _ _ _ _ dCopyPlan_remove_40 hP hD hS hw
abbrev wdCopyPlan_readFromCopy (cA : ClassId) (ad : Nat → Nat) (N : Nat) (pending : Int32) (length : Int32) (pendingFrom : Nat → Int32) (copyTo : Nat → Int32) (copyFrom : Nat → Int32) : va_W := [((ad 30), .inr (4, [.ref (ad 31), .ref (ad 32), .ref (ad 33), .ref (ad 34), .int pending, .int length])), ((ad 32), .inl (cA, 6, .inl pendingFrom)), ((ad 33), .inl (cA, 9, .inl copyTo)), ((ad 34), .inl (cA, 9, .inl copyFrom))]
abbrev qcCopyPlan_readFromCopy (D : va_G) (cA : ClassId) (ad : Nat → Nat) (N : Nat) (pending : Int32) (length : Int32) (pendingFrom : Nat → Int32) (copyTo : Nat → Int32) (copyFrom : Nat → Int32) (post : (Nat → Int32) → Prop) (A : Nat → Prop) : Array Value → State → Outcome → State → Prop := va_Qv (S := (Nat → Int32)) (fun u => post u) (fun u t => xB D [(cA, .int)] A (wdCopyPlan_readFromCopy cA ad N pending length u copyTo copyFrom) t) A
abbrev rmCopyPlan_readFromCopy : Room := { frames := 0, cells := 0, slots := 0, locals := 0 }
set_option maxHeartbeats 4000000 in
set_option maxRecDepth 100000 in
theorem ktCopyPlan_readFromCopy (l : Launch) (D : va_G) (cA : ClassId) (ad : Nat → Nat) (N : Nat) (sz : Nat) (pending : Int32) (length : Int32) (pendingFrom : Nat → Int32) (copyTo : Nat → Int32) (copyFrom : Nat → Int32)  (post : (Nat → Int32) → Prop) (hw : wpCopyPlan_readFromCopy pending length pendingFrom copyTo copyFrom post) : Met l yCopyPlan_readFromCopy (Cond.code yCopyPlan_readFromCopy cCopyPlan_readFromCopy 2 none :: xW) rmCopyPlan_readFromCopy (va_Pc [.ref (ad 30)] (xPc D [(cA, .int)] (wdCopyPlan_readFromCopy cA ad N pending length pendingFrom copyTo copyFrom) sz)) (qcCopyPlan_readFromCopy D cA ad N pending length pendingFrom copyTo copyFrom post (va_A (wdCopyPlan_readFromCopy cA ad N pending length pendingFrom copyTo copyFrom) sz)) 0 0 (va_A (wdCopyPlan_readFromCopy cA ad N pending length pendingFrom copyTo copyFrom) sz) := by
  refine Met.ofW (cc := cCopyPlan_readFromCopy) (maxL := 2) (ret := none) (by decide) rfl ?_
  intro p e s m args below meth c s₁ B hml hv
  obtain ⟨rfl, hsz, hP, hK, hD0, hN⟩ := hv
  have hx := B.exec
  have hb := B.bytes
  have hr := B.returns
  have hts := atoms_spec (ws := (Cond.code yCopyPlan_readFromCopy cCopyPlan_readFromCopy 2 none :: xW)) B.pre
  have hown : s.vm.findClass "OnceNamed$CopyPlan" = some m.cls := findClass_of_methodNamed B.named
  have hlocks := B.notSynchronized
  subst hsz
  have hD := hD0.self (sz := s.heap.size)
  generalize hAe : va_A (wdCopyPlan_readFromCopy cA ad N pending length pendingFrom copyTo copyFrom) s.heap.size = A at hD ⊢
  have hA : ∀ q : Nat, s.heap.size ≤ q → A q := fun q h => by rw [← hAe]; exact Or.inr h
  have hS : va_S A s.heap s.heap [] := va_S.rf
  have hend : ∀ (u0 : Nat → Int32) (H : Heap) (locs : List Loc) (pc : Nat) (ls : Array Slot), decode cCopyPlan_readFromCopy pc = .ok (.return_, 1) → va_P D vwCl (wdCopyPlan_readFromCopy cA ad N pending length u0 copyTo copyFrom) H → va_D A (wdCopyPlan_readFromCopy cA ad N pending length u0 copyTo copyFrom) → va_S A s.heap H locs → post u0 → W p l e (headSpec (Cond.code yCopyPlan_readFromCopy cCopyPlan_readFromCopy 2 none :: xW) rmCopyPlan_readFromCopy).room s m ([.ref (ad 30)] : List Value).toArray below meth c H locs 0 0 (MQ below (qcCopyPlan_readFromCopy D cA ad N pending length pendingFrom copyTo copyFrom post A) ([.ref (ad 30)] : List Value).toArray s 0 0 A) (F0 m pc ls []) := fun u0 H locs pc ls hd hP hD hS hw => W.vret hx hb hr (fun t ht hW => ⟨⟨u0, rfl, hw, ⟨by rw [ht]; exact hP, va_K.moved hW.alike hK, hD⟩⟩, hS.F ht⟩) hS.2.2 hd
  generalize hQ : MQ below (qcCopyPlan_readFromCopy D cA ad N pending length pendingFrom copyTo copyFrom post A) ([.ref (ad 30)] : List Value).toArray s 0 0 A = Q at hend ⊢
  have hl := lv_entry ([.ref (ad 30)]) (n := 2) (Nat.le_of_ble_eq_true rfl)
  rw [lg_entry_eq]
  generalize (lg_sl ([.ref (ad 30)]) ++ List.replicate (2 - (lg_sl ([.ref (ad 30)])).length) Slot.unset).toArray = ls at hl ⊢
  have hl : lv_has ls 2 [(0, .ref (ad 30))] := hl
  unfold wpCopyPlan_readFromCopy at hw
  refine lv_iconst (v := 0) hx hb dCopyPlan_readFromCopy_0 (by decide) ?_
  refine lv_istore_n (lv' := [(1, .int 0), (0, .ref (ad 30))]) hx hb dCopyPlan_readFromCopy_1 rfl hl (by decide) rfl (fun ls hl => ?_)
  obtain ⟨k2, hw⟩ := hw
  have hlp2 : ∀ (k : Nat), ∀ (v1_L2 : Int32) (pendingFrom_L2 : Nat → Int32) (ls : Array Slot) (H : Heap) (locs : List Loc), lv_has ls 2 [(0, .ref (ad 30)), (1, .int v1_L2)] → va_P D vwCl (wdCopyPlan_readFromCopy cA ad N pending length pendingFrom_L2 copyTo copyFrom) H → va_D A (wdCopyPlan_readFromCopy cA ad N pending length pendingFrom_L2 copyTo copyFrom) → va_S A s.heap H locs → lpCopyPlan_readFromCopy_2 pending length copyTo copyFrom post k v1_L2 pendingFrom_L2 → W p l e (headSpec (Cond.code yCopyPlan_readFromCopy cCopyPlan_readFromCopy 2 none :: xW) rmCopyPlan_readFromCopy).room s m ([.ref (ad 30)] : List Value).toArray below meth c H locs 0 0 Q (F0 m 2 ls []) := by
    intro k
    induction k with
    | zero => intro v1_L2 pendingFrom_L2 ls H locs hl hP hD hS hw; exact False.elim hw
    | succ k ih =>
      intro v1_L2 pendingFrom_L2 ls H locs hl hP hD hS hw
      refine lv_iload_n hx hb dCopyPlan_readFromCopy_2 rfl (lv_at hl 1 rfl) ?_
      refine lv_aload_n hx hb dCopyPlan_readFromCopy_3 rfl (lv_at hl 0 rfl) ?_
      refine va_get (D := D) (ci := 4) (v := .int pending) (C := "OnceNamed$CopyPlan") (T := TX4) (N := 6) hx hb hts (fun w h => List.mem_cons_of_mem _ (inX4 w h)) hown hK hP 0 rfl rfl 4 (by decide) (hts _ (List.mem_cons_of_mem _ kw_173)) (fun _ h9 => h9) rfl dCopyPlan_readFromCopy_4 ?_
      refine lv_icmp_ge (tgt := 53) hx hb dCopyPlan_readFromCopy_7 rfl (fun hc => ?_) (fun hc => ?_)
      · have hw := hw.1 hc
        exact hend pendingFrom_L2 _ _ _ _ dCopyPlan_readFromCopy_53 hP hD hS hw
      · have hw := hw.2 hc
        refine lv_aload_n hx hb dCopyPlan_readFromCopy_10 rfl (lv_at hl 0 rfl) ?_
        refine va_get (D := D) (ci := 4) (v := .ref (ad 32)) (C := "OnceNamed$CopyPlan") (T := TX4) (N := 6) hx hb hts (fun w h => List.mem_cons_of_mem _ (inX4 w h)) hown hK hP 0 rfl rfl 1 (by decide) (hts _ (List.mem_cons_of_mem _ kw_170)) (fun _ h9 => h9) rfl dCopyPlan_readFromCopy_11 ?_
        refine lv_iload_n hx hb dCopyPlan_readFromCopy_14 rfl (lv_at hl 1 rfl) ?_
        have ho := hw.1
        have hw := hw.2
        refine va_iald hx hb hK hP 1 0 rfl rfl ho dCopyPlan_readFromCopy_15 ?_
        refine lv_aload_n hx hb dCopyPlan_readFromCopy_16 rfl (lv_at hl 0 rfl) ?_
        refine va_get (D := D) (ci := 4) (v := .ref (ad 34)) (C := "OnceNamed$CopyPlan") (T := TX4) (N := 6) hx hb hts (fun w h => List.mem_cons_of_mem _ (inX4 w h)) hown hK hP 0 rfl rfl 3 (by decide) (hts _ (List.mem_cons_of_mem _ kw_172)) (fun _ h9 => h9) rfl dCopyPlan_readFromCopy_17 ?_
        refine lv_aload_n hx hb dCopyPlan_readFromCopy_20 rfl (lv_at hl 0 rfl) ?_
        refine va_get (D := D) (ci := 4) (v := .int length) (C := "OnceNamed$CopyPlan") (T := TX4) (N := 6) hx hb hts (fun w h => List.mem_cons_of_mem _ (inX4 w h)) hown hK hP 0 rfl rfl 5 (by decide) (hts _ (List.mem_cons_of_mem _ kw_174)) (fun _ h9 => h9) rfl dCopyPlan_readFromCopy_21 ?_
        refine lv_iconst (v := 1) hx hb dCopyPlan_readFromCopy_24 (by decide) ?_
        refine lv_isub hx hb dCopyPlan_readFromCopy_25 ?_
        have ho := hw.1
        have hw := hw.2
        refine va_iald hx hb hK hP 3 0 rfl rfl ho dCopyPlan_readFromCopy_26 ?_
        refine lv_icmp_ne (tgt := 47) hx hb dCopyPlan_readFromCopy_27 rfl (fun hc => ?_) (fun hc => ?_)
        · have hw := hw.1 hc
          refine lv_iinc (k := 1) (v := (v1_L2 + 1)) (lv' := [(1, .int (v1_L2 + 1)), (0, .ref (ad 30))]) hx hb dCopyPlan_readFromCopy_47 hl rfl rfl (by decide) rfl (fun ls hl => ?_)
          refine lv_goto (tgt := 2) hx hb dCopyPlan_readFromCopy_50 rfl ?_
          exact ih (v1_L2 + 1) pendingFrom_L2 _ _ _ (lv_sub hl [1, 0] rfl) hP hD hS hw
        · have hw := hw.2 hc
          refine lv_aload_n hx hb dCopyPlan_readFromCopy_30 rfl (lv_at hl 0 rfl) ?_
          refine va_get (D := D) (ci := 4) (v := .ref (ad 32)) (C := "OnceNamed$CopyPlan") (T := TX4) (N := 6) hx hb hts (fun w h => List.mem_cons_of_mem _ (inX4 w h)) hown hK hP 0 rfl rfl 1 (by decide) (hts _ (List.mem_cons_of_mem _ kw_170)) (fun _ h9 => h9) rfl dCopyPlan_readFromCopy_31 ?_
          refine lv_iload_n hx hb dCopyPlan_readFromCopy_34 rfl (lv_at hl 1 rfl) ?_
          refine lv_aload_n hx hb dCopyPlan_readFromCopy_35 rfl (lv_at hl 0 rfl) ?_
          refine va_get (D := D) (ci := 4) (v := .ref (ad 33)) (C := "OnceNamed$CopyPlan") (T := TX4) (N := 6) hx hb hts (fun w h => List.mem_cons_of_mem _ (inX4 w h)) hown hK hP 0 rfl rfl 2 (by decide) (hts _ (List.mem_cons_of_mem _ kw_171)) (fun _ h9 => h9) rfl dCopyPlan_readFromCopy_36 ?_
          refine lv_aload_n hx hb dCopyPlan_readFromCopy_39 rfl (lv_at hl 0 rfl) ?_
          refine va_get (D := D) (ci := 4) (v := .int length) (C := "OnceNamed$CopyPlan") (T := TX4) (N := 6) hx hb hts (fun w h => List.mem_cons_of_mem _ (inX4 w h)) hown hK hP 0 rfl rfl 5 (by decide) (hts _ (List.mem_cons_of_mem _ kw_174)) (fun _ h9 => h9) rfl dCopyPlan_readFromCopy_40 ?_
          refine lv_iconst (v := 1) hx hb dCopyPlan_readFromCopy_43 (by decide) ?_
          refine lv_isub hx hb dCopyPlan_readFromCopy_44 ?_
          have ho := hw.1
          have hw := hw.2
          refine va_iald hx hb hK hP 2 0 rfl rfl ho dCopyPlan_readFromCopy_45 ?_
          have ho := hw.1
          have hw := hw.2
          refine va_iast hx hb hK hP hD hS 1 0 rfl rfl ho dCopyPlan_readFromCopy_46 (fun H locs hP hD hS => ?_)
          have hP : va_P D vwCl (wdCopyPlan_readFromCopy cA ad N pending length (upd pendingFrom_L2 (Int32.toNatClampNeg v1_L2) (copyTo (Int32.toNatClampNeg (length - 1)))) copyTo copyFrom) H := hP
          have hD : va_D A (wdCopyPlan_readFromCopy cA ad N pending length (upd pendingFrom_L2 (Int32.toNatClampNeg v1_L2) (copyTo (Int32.toNatClampNeg (length - 1)))) copyTo copyFrom) := hD
          refine lv_iinc (k := 1) (v := (v1_L2 + 1)) (lv' := [(1, .int (v1_L2 + 1)), (0, .ref (ad 30))]) hx hb dCopyPlan_readFromCopy_47 hl rfl rfl (by decide) rfl (fun ls hl => ?_)
          refine lv_goto (tgt := 2) hx hb dCopyPlan_readFromCopy_50 rfl ?_
          exact ih (v1_L2 + 1) (upd pendingFrom_L2 (Int32.toNatClampNeg v1_L2) (copyTo (Int32.toNatClampNeg (length - 1)))) _ _ _ (lv_sub hl [1, 0] rfl) hP hD hS hw
  refine hlp2 k2 0 pendingFrom _ _ _ (lv_sub hl [1, 0] rfl) hP hD hS hw
abbrev wdCopyPlan_draw (cA : ClassId) (ad : Nat → Nat) (N : Nat) (meetingNames : Nat → Int32) (meetingUses : Nat → Int32) (pending : Int32) (length : Int32) (pendingTo : Nat → Int32) (pendingFrom : Nat → Int32) (copyTo : Nat → Int32) (copyFrom : Nat → Int32) : va_W := [((ad 18), .inr (3, [.ref (ad 1), .ref (ad 11), .int (nI N), .ref (ad 19), .ref (ad 20), .ref (ad 21), .ref (ad 22), .ref (ad 23), .ref (ad 24), .ref (ad 25), .ref (ad 26), .ref (ad 27), .ref (ad 28), .ref (ad 29)])), ((ad 19), .inl (cA, N * 6, .inl meetingNames)), ((ad 20), .inl (cA, N * 6 * (N + 1), .inl meetingUses)), ((ad 30), .inr (4, [.ref (ad 31), .ref (ad 32), .ref (ad 33), .ref (ad 34), .int pending, .int length])), ((ad 31), .inl (cA, 6, .inl pendingTo)), ((ad 32), .inl (cA, 6, .inl pendingFrom)), ((ad 33), .inl (cA, 9, .inl copyTo)), ((ad 34), .inl (cA, 9, .inl copyFrom))]
abbrev qcCopyPlan_draw (D : va_G) (cA : ClassId) (ad : Nat → Nat) (N : Nat) (meetingNames : Nat → Int32) (meetingUses : Nat → Int32) (pending : Int32) (length : Int32) (pendingTo : Nat → Int32) (pendingFrom : Nat → Int32) (copyTo : Nat → Int32) (copyFrom : Nat → Int32) (post : Int32 → Int32 → (Nat → Int32) → (Nat → Int32) → (Nat → Int32) → (Nat → Int32) → Prop) (A : Nat → Prop) : Array Value → State → Outcome → State → Prop := va_Qv (S := (Int32) × (Int32) × (Nat → Int32) × (Nat → Int32) × (Nat → Int32) × (Nat → Int32)) (fun u => post u.1 u.2.1 u.2.2.1 u.2.2.2.1 u.2.2.2.2.1 u.2.2.2.2.2) (fun u t => xB D [(cA, .int)] A (wdCopyPlan_draw cA ad N meetingNames meetingUses u.1 u.2.1 u.2.2.1 u.2.2.2.1 u.2.2.2.2.1 u.2.2.2.2.2) t) A
abbrev rmCopyPlan_draw : Room := { frames := 3, cells := 0, slots := 0, locals := 72 }
set_option maxHeartbeats 4000000 in
set_option maxRecDepth 100000 in
theorem ktCopyPlan_draw (l : Launch) (D : va_G) (cA : ClassId) (ad : Nat → Nat) (N : Nat) (sz : Nat) (meetingNames : Nat → Int32) (meetingUses : Nat → Int32) (pending : Int32) (length : Int32) (pendingTo : Nat → Int32) (pendingFrom : Nat → Int32) (copyTo : Nat → Int32) (copyFrom : Nat → Int32) (v2 : Int32) (v3 : Int32) (post : Int32 → Int32 → (Nat → Int32) → (Nat → Int32) → (Nat → Int32) → (Nat → Int32) → Prop) (hw : wpCopyPlan_draw N meetingNames meetingUses pendingTo pendingFrom copyTo copyFrom v2 v3 post) : Met l yCopyPlan_draw (Cond.code yCopyPlan_draw cCopyPlan_draw 6 none :: xW) rmCopyPlan_draw (va_Pc [.ref (ad 30), .ref (ad 18), .int v2, .int v3] (xPc D [(cA, .int)] (wdCopyPlan_draw cA ad N meetingNames meetingUses pending length pendingTo pendingFrom copyTo copyFrom) sz)) (qcCopyPlan_draw D cA ad N meetingNames meetingUses pending length pendingTo pendingFrom copyTo copyFrom post (va_A (wdCopyPlan_draw cA ad N meetingNames meetingUses pending length pendingTo pendingFrom copyTo copyFrom) sz)) 0 0 (va_A (wdCopyPlan_draw cA ad N meetingNames meetingUses pending length pendingTo pendingFrom copyTo copyFrom) sz) := by
  refine Met.ofW (cc := cCopyPlan_draw) (maxL := 6) (ret := none) (by decide) rfl ?_
  intro p e s m args below meth c s₁ B hml hv
  obtain ⟨rfl, hsz, hP, hK, hD0, hN⟩ := hv
  have hx := B.exec
  have hb := B.bytes
  have hr := B.returns
  have hts := atoms_spec (ws := (Cond.code yCopyPlan_draw cCopyPlan_draw 6 none :: xW)) B.pre
  have hown : s.vm.findClass "OnceNamed$CopyPlan" = some m.cls := findClass_of_methodNamed B.named
  have hlocks := B.notSynchronized
  subst hsz
  have hD := hD0.self (sz := s.heap.size)
  generalize hAe : va_A (wdCopyPlan_draw cA ad N meetingNames meetingUses pending length pendingTo pendingFrom copyTo copyFrom) s.heap.size = A at hD ⊢
  have hA : ∀ q : Nat, s.heap.size ≤ q → A q := fun q h => by rw [← hAe]; exact Or.inr h
  have hS : va_S A s.heap s.heap [] := va_S.rf
  have hend : ∀ (u0 : Int32) (u1 : Int32) (u2 : Nat → Int32) (u3 : Nat → Int32) (u4 : Nat → Int32) (u5 : Nat → Int32) (H : Heap) (locs : List Loc) (pc : Nat) (ls : Array Slot), decode cCopyPlan_draw pc = .ok (.return_, 1) → va_P D vwCl (wdCopyPlan_draw cA ad N meetingNames meetingUses u0 u1 u2 u3 u4 u5) H → va_D A (wdCopyPlan_draw cA ad N meetingNames meetingUses u0 u1 u2 u3 u4 u5) → va_S A s.heap H locs → post u0 u1 u2 u3 u4 u5 → W p l e (headSpec (Cond.code yCopyPlan_draw cCopyPlan_draw 6 none :: xW) rmCopyPlan_draw).room s m ([.ref (ad 30), .ref (ad 18), .int v2, .int v3] : List Value).toArray below meth c H locs 0 0 (MQ below (qcCopyPlan_draw D cA ad N meetingNames meetingUses pending length pendingTo pendingFrom copyTo copyFrom post A) ([.ref (ad 30), .ref (ad 18), .int v2, .int v3] : List Value).toArray s 0 0 A) (F0 m pc ls []) := fun u0 u1 u2 u3 u4 u5 H locs pc ls hd hP hD hS hw => W.vret hx hb hr (fun t ht hW => ⟨⟨(u0, u1, u2, u3, u4, u5), rfl, hw, ⟨by rw [ht]; exact hP, va_K.moved hW.alike hK, hD⟩⟩, hS.F ht⟩) hS.2.2 hd
  generalize hQ : MQ below (qcCopyPlan_draw D cA ad N meetingNames meetingUses pending length pendingTo pendingFrom copyTo copyFrom post A) ([.ref (ad 30), .ref (ad 18), .int v2, .int v3] : List Value).toArray s 0 0 A = Q at hend ⊢
  have hl := lv_entry ([.ref (ad 30), .ref (ad 18), .int v2, .int v3]) (n := 6) (Nat.le_of_ble_eq_true rfl)
  rw [lg_entry_eq]
  generalize (lg_sl ([.ref (ad 30), .ref (ad 18), .int v2, .int v3]) ++ List.replicate (6 - (lg_sl ([.ref (ad 30), .ref (ad 18), .int v2, .int v3])).length) Slot.unset).toArray = ls at hl ⊢
  have hl : lv_has ls 6 [(0, .ref (ad 30)), (1, .ref (ad 18)), (2, .int v2), (3, .int v3)] := hl
  unfold wpCopyPlan_draw at hw
  refine lv_aload_n hx hb dCopyPlan_draw_0 rfl (lv_at hl 0 rfl) ?_
  refine lv_aload_n hx hb dCopyPlan_draw_1 rfl (lv_at hl 1 rfl) ?_
  refine lv_iload_n hx hb dCopyPlan_draw_2 rfl (lv_at hl 2 rfl) ?_
  refine lv_iload_n hx hb dCopyPlan_draw_3 rfl (lv_at hl 3 rfl) ?_
  refine xcv (va_runV ⟨hx, hb, hml, hown, hts⟩ (ktCopyPlan_collect l D cA ad N _ meetingNames meetingUses pending length pendingTo pendingFrom v2 v3 _ hw) (cwV 3 hts (goodV kw_781 kw_783 ks_2_13 kw_7 kw_784) rfl rfl rfl (by decide +kernel) ⟨Nat.le_of_ble_eq_true rfl, Nat.le_of_ble_eq_true rfl⟩) (xpreV hK hP hD hN [0, 1, 2, 3, 4, 5] rfl rfl 3 rfl rfl) rfl rfl hl.1 rfl (lv_room (Nat.le_of_ble_eq_true rfl)) dCopyPlan_draw_4 ⟨Nat.le_of_ble_eq_true rfl, Nat.le_of_ble_eq_true rfl⟩) hP hD hS hA [0, 1, 2, 3, 4, 5] [6, 7] rfl rfl rfl rfl [2, 3, 4, 5, 6, 7, 0, 1] rfl (fun _ => rfl) (fun u H locs hw hP hD hS => ?_)
  obtain ⟨pending_4, pendingTo_4, pendingFrom_4⟩ := u
  try dsimp only at hw
  have hP : va_P D vwCl (wdCopyPlan_draw cA ad N meetingNames meetingUses pending_4 length pendingTo_4 pendingFrom_4 copyTo copyFrom) H := hP
  have hD : va_D A (wdCopyPlan_draw cA ad N meetingNames meetingUses pending_4 length pendingTo_4 pendingFrom_4 copyTo copyFrom) := hD
  refine lv_aload_n hx hb dCopyPlan_draw_7 rfl (lv_at hl 0 rfl) ?_
  refine lv_iconst (v := 0) hx hb dCopyPlan_draw_8 (by decide) ?_
  refine va_put (D := D) (ci := 4) (v := .int 0) (ty := .int) (C := "OnceNamed$CopyPlan") (T := TX4) (N := 6) hx hb hts (fun w h => List.mem_cons_of_mem _ (inX4 w h)) tyX4 tyX4_ok nmX4 hown hK hP hD hS 3 rfl rfl 5 (by decide) (hts _ (List.mem_cons_of_mem _ kw_174)) (fun _ h9 => h9) rfl (by decide +kernel) rfl rfl (Nat.le_of_ble_eq_true rfl) dCopyPlan_draw_9 (fun H locs hP hD hS => ?_)
  have hP : va_P D vwCl (wdCopyPlan_draw cA ad N meetingNames meetingUses pending_4 0 pendingTo_4 pendingFrom_4 copyTo copyFrom) H := hP
  have hD : va_D A (wdCopyPlan_draw cA ad N meetingNames meetingUses pending_4 0 pendingTo_4 pendingFrom_4 copyTo copyFrom) := hD
  refine lv_iconst (v := 0) hx hb dCopyPlan_draw_12 (by decide) ?_
  refine lv_istore (lv' := [(4, .int 0), (0, .ref (ad 30)), (1, .ref (ad 18)), (2, .int v2), (3, .int v3)]) hx hb dCopyPlan_draw_13 hl (by decide) rfl (fun ls hl => ?_)
  obtain ⟨k15, hw⟩ := hw
  have hlp15 : ∀ (k : Nat), ∀ (v4_L15 : Int32) (pending_L15 : Int32) (length_L15 : Int32) (pendingTo_L15 : Nat → Int32) (pendingFrom_L15 : Nat → Int32) (copyTo_L15 : Nat → Int32) (copyFrom_L15 : Nat → Int32) (ls : Array Slot) (H : Heap) (locs : List Loc), lv_has ls 6 [(0, .ref (ad 30)), (1, .ref (ad 18)), (2, .int v2), (3, .int v3), (4, .int v4_L15)] → va_P D vwCl (wdCopyPlan_draw cA ad N meetingNames meetingUses pending_L15 length_L15 pendingTo_L15 pendingFrom_L15 copyTo_L15 copyFrom_L15) H → va_D A (wdCopyPlan_draw cA ad N meetingNames meetingUses pending_L15 length_L15 pendingTo_L15 pendingFrom_L15 copyTo_L15 copyFrom_L15) → va_S A s.heap H locs → lpCopyPlan_draw_15 post k v4_L15 pending_L15 length_L15 pendingTo_L15 pendingFrom_L15 copyTo_L15 copyFrom_L15 → W p l e (headSpec (Cond.code yCopyPlan_draw cCopyPlan_draw 6 none :: xW) rmCopyPlan_draw).room s m ([.ref (ad 30), .ref (ad 18), .int v2, .int v3] : List Value).toArray below meth c H locs 0 0 Q (F0 m 15 ls []) := by
    intro k
    induction k with
    | zero => intro v4_L15 pending_L15 length_L15 pendingTo_L15 pendingFrom_L15 copyTo_L15 copyFrom_L15 ls H locs hl hP hD hS hw; exact False.elim hw
    | succ k ih =>
      intro v4_L15 pending_L15 length_L15 pendingTo_L15 pendingFrom_L15 copyTo_L15 copyFrom_L15 ls H locs hl hP hD hS hw
      refine lv_iload hx hb dCopyPlan_draw_15 (lv_at hl 4 rfl) ?_
      refine lv_bipush (v := 9) hx hb dCopyPlan_draw_17 (by decide) ?_
      refine lv_icmp_ge (tgt := 91) hx hb dCopyPlan_draw_19 rfl (fun hc => ?_) (fun hc => ?_)
      · have hw := hw.1 hc
        exact hend pending_L15 length_L15 pendingTo_L15 pendingFrom_L15 copyTo_L15 copyFrom_L15 _ _ _ _ dCopyPlan_draw_91 hP hD hS hw
      · have hw := hw.2 hc
        refine lv_aload_n hx hb dCopyPlan_draw_22 rfl (lv_at hl 0 rfl) ?_
        refine va_get (D := D) (ci := 4) (v := .int pending_L15) (C := "OnceNamed$CopyPlan") (T := TX4) (N := 6) hx hb hts (fun w h => List.mem_cons_of_mem _ (inX4 w h)) hown hK hP 3 rfl rfl 4 (by decide) (hts _ (List.mem_cons_of_mem _ kw_173)) (fun _ h9 => h9) rfl dCopyPlan_draw_23 ?_
        refine lv_if_le (tgt := 91) hx hb dCopyPlan_draw_26 rfl (fun hc => ?_) (fun hc => ?_)
        · have hw := hw.1 hc
          exact hend pending_L15 length_L15 pendingTo_L15 pendingFrom_L15 copyTo_L15 copyFrom_L15 _ _ _ _ dCopyPlan_draw_91 hP hD hS hw
        · have hw := hw.2 hc
          refine lv_aload_n hx hb dCopyPlan_draw_29 rfl (lv_at hl 0 rfl) ?_
          refine xci (va_runV ⟨hx, hb, hml, hown, hts⟩ (ktCopyPlan_freeMove l D cA ad N _ pending_L15 length_L15 pendingTo_L15 pendingFrom_L15 _ hw) (cwV 0 hts (goodV kw_787 kw_789 ks_2_14 kw_7 kw_790) rfl rfl rfl (by decide +kernel) ⟨Nat.le_of_ble_eq_true rfl, Nat.le_of_ble_eq_true rfl⟩) (xpreV hK hP hD hN [3, 4, 5] rfl rfl 3 rfl rfl) rfl rfl hl.1 rfl (lv_room (Nat.le_of_ble_eq_true rfl)) dCopyPlan_draw_30 ⟨Nat.le_of_ble_eq_true rfl, Nat.le_of_ble_eq_true rfl⟩) hP hD hS hA [3, 4, 5] [0, 1, 2, 6, 7] rfl rfl rfl rfl [0, 1, 2, 5, 6, 7, 3, 4] rfl (fun _ => rfl) (fun r30 u H locs hw hP hD hS => ?_)
          have hP : va_P D vwCl (wdCopyPlan_draw cA ad N meetingNames meetingUses pending_L15 length_L15 pendingTo_L15 pendingFrom_L15 copyTo_L15 copyFrom_L15) H := hP
          have hD : va_D A (wdCopyPlan_draw cA ad N meetingNames meetingUses pending_L15 length_L15 pendingTo_L15 pendingFrom_L15 copyTo_L15 copyFrom_L15) := hD
          refine lv_istore (lv' := [(5, .int r30), (0, .ref (ad 30)), (1, .ref (ad 18)), (2, .int v2), (3, .int v3), (4, .int v4_L15)]) hx hb dCopyPlan_draw_33 hl (by decide) rfl (fun ls hl => ?_)
          refine lv_iload hx hb dCopyPlan_draw_35 (lv_at hl 0 rfl) ?_
          refine lv_iconst (v := (-1)) hx hb dCopyPlan_draw_37 (by decide) ?_
          refine lv_icmp_ne (tgt := 57) hx hb dCopyPlan_draw_38 rfl (fun hc => ?_) (fun hc => ?_)
          · have hw := hw.1 hc
            refine lv_aload_n hx hb dCopyPlan_draw_57 rfl (lv_at hl 1 rfl) ?_
            refine lv_aload_n hx hb dCopyPlan_draw_58 rfl (lv_at hl 1 rfl) ?_
            refine va_get (D := D) (ci := 4) (v := .ref (ad 31)) (C := "OnceNamed$CopyPlan") (T := TX4) (N := 6) hx hb hts (fun w h => List.mem_cons_of_mem _ (inX4 w h)) hown hK hP 3 rfl rfl 0 (by decide) (hts _ (List.mem_cons_of_mem _ kw_169)) (fun _ h9 => h9) rfl dCopyPlan_draw_59 ?_
            refine lv_iload hx hb dCopyPlan_draw_62 (lv_at hl 0 rfl) ?_
            have ho := hw.1
            have hw := hw.2
            refine va_iald hx hb hK hP 4 0 rfl rfl ho dCopyPlan_draw_64 ?_
            refine lv_aload_n hx hb dCopyPlan_draw_65 rfl (lv_at hl 1 rfl) ?_
            refine va_get (D := D) (ci := 4) (v := .ref (ad 32)) (C := "OnceNamed$CopyPlan") (T := TX4) (N := 6) hx hb hts (fun w h => List.mem_cons_of_mem _ (inX4 w h)) hown hK hP 3 rfl rfl 1 (by decide) (hts _ (List.mem_cons_of_mem _ kw_170)) (fun _ h9 => h9) rfl dCopyPlan_draw_66 ?_
            refine lv_iload hx hb dCopyPlan_draw_69 (lv_at hl 0 rfl) ?_
            have ho := hw.1
            have hw := hw.2
            refine va_iald hx hb hK hP 5 0 rfl rfl ho dCopyPlan_draw_71 ?_
            refine xcv (va_runV ⟨hx, hb, hml, hown, hts⟩ (ktCopyPlan_copy l D cA ad N _ pending_L15 length_L15 copyTo_L15 copyFrom_L15 (pendingTo_L15 (Int32.toNatClampNeg r30)) (pendingFrom_L15 (Int32.toNatClampNeg r30)) _ hw) (cwV 2 hts (goodV kw_795 kw_797 ks_3_0 kw_7 kw_798) rfl rfl rfl (by decide +kernel) ⟨Nat.le_of_ble_eq_true rfl, Nat.le_of_ble_eq_true rfl⟩) (xpreV hK hP hD hN [3, 6, 7] rfl rfl 3 rfl rfl) rfl rfl hl.1 rfl (lv_room (Nat.le_of_ble_eq_true rfl)) dCopyPlan_draw_72 ⟨Nat.le_of_ble_eq_true rfl, Nat.le_of_ble_eq_true rfl⟩) hP hD hS hA [3, 6, 7] [0, 1, 2, 4, 5] rfl rfl rfl rfl [0, 1, 2, 5, 3, 4, 6, 7] rfl (fun _ => rfl) (fun u H locs hw hP hD hS => ?_)
            obtain ⟨length_72, copyTo_72, copyFrom_72⟩ := u
            try dsimp only at hw
            have hP : va_P D vwCl (wdCopyPlan_draw cA ad N meetingNames meetingUses pending_L15 length_72 pendingTo_L15 pendingFrom_L15 copyTo_72 copyFrom_72) H := hP
            have hD : va_D A (wdCopyPlan_draw cA ad N meetingNames meetingUses pending_L15 length_72 pendingTo_L15 pendingFrom_L15 copyTo_72 copyFrom_72) := hD
            refine lv_aload_n hx hb dCopyPlan_draw_75 rfl (lv_at hl 1 rfl) ?_
            refine lv_iload hx hb dCopyPlan_draw_76 (lv_at hl 0 rfl) ?_
            refine xcv (va_runV ⟨hx, hb, hml, hown, hts⟩ (ktCopyPlan_remove l D cA ad N _ pending_L15 length_72 pendingTo_L15 pendingFrom_L15 r30 _ hw) (cwV 1 hts (goodV kw_799 kw_801 ks_3_1 kw_7 kw_802) rfl rfl rfl (by decide +kernel) ⟨Nat.le_of_ble_eq_true rfl, Nat.le_of_ble_eq_true rfl⟩) (xpreV hK hP hD hN [3, 4, 5] rfl rfl 3 rfl rfl) rfl rfl hl.1 rfl (lv_room (Nat.le_of_ble_eq_true rfl)) dCopyPlan_draw_78 ⟨Nat.le_of_ble_eq_true rfl, Nat.le_of_ble_eq_true rfl⟩) hP hD hS hA [3, 4, 5] [0, 1, 2, 6, 7] rfl rfl rfl rfl [0, 1, 2, 5, 6, 7, 3, 4] rfl (fun _ => rfl) (fun u H locs hw hP hD hS => ?_)
            obtain ⟨pending_78, pendingTo_78, pendingFrom_78⟩ := u
            try dsimp only at hw
            have hP : va_P D vwCl (wdCopyPlan_draw cA ad N meetingNames meetingUses pending_78 length_72 pendingTo_78 pendingFrom_78 copyTo_72 copyFrom_72) H := hP
            have hD : va_D A (wdCopyPlan_draw cA ad N meetingNames meetingUses pending_78 length_72 pendingTo_78 pendingFrom_78 copyTo_72 copyFrom_72) := hD
            refine lv_aload_n hx hb dCopyPlan_draw_81 rfl (lv_at hl 1 rfl) ?_
            refine xcv (va_runV ⟨hx, hb, hml, hown, hts⟩ (ktCopyPlan_readFromCopy l D cA ad N _ pending_78 length_72 pendingFrom_78 copyTo_72 copyFrom_72 _ hw) (cwV 0 hts (goodV kw_803 kw_805 ks_3_2 kw_7 kw_806) rfl rfl rfl (by decide +kernel) ⟨Nat.le_of_ble_eq_true rfl, Nat.le_of_ble_eq_true rfl⟩) (xpreV hK hP hD hN [3, 5, 6, 7] rfl rfl 3 rfl rfl) rfl rfl hl.1 rfl (lv_room (Nat.le_of_ble_eq_true rfl)) dCopyPlan_draw_82 ⟨Nat.le_of_ble_eq_true rfl, Nat.le_of_ble_eq_true rfl⟩) hP hD hS hA [3, 5, 6, 7] [0, 1, 2, 4] rfl rfl rfl rfl [0, 1, 2, 4, 3, 5, 6, 7] rfl (fun _ => rfl) (fun pendingFrom_82 H locs hw hP hD hS => ?_)
            try dsimp only at hw
            have hP : va_P D vwCl (wdCopyPlan_draw cA ad N meetingNames meetingUses pending_78 length_72 pendingTo_78 pendingFrom_82 copyTo_72 copyFrom_72) H := hP
            have hD : va_D A (wdCopyPlan_draw cA ad N meetingNames meetingUses pending_78 length_72 pendingTo_78 pendingFrom_82 copyTo_72 copyFrom_72) := hD
            refine lv_iinc (k := 5) (v := (v4_L15 + 1)) (lv' := [(4, .int (v4_L15 + 1)), (5, .int r30), (0, .ref (ad 30)), (1, .ref (ad 18)), (2, .int v2), (3, .int v3)]) hx hb dCopyPlan_draw_85 hl rfl rfl (by decide) rfl (fun ls hl => ?_)
            refine lv_goto (tgt := 15) hx hb dCopyPlan_draw_88 rfl ?_
            exact ih (v4_L15 + 1) pending_78 length_72 pendingTo_78 pendingFrom_82 copyTo_72 copyFrom_72 _ _ _ (lv_sub hl [2, 3, 4, 5, 0] rfl) hP hD hS hw
          · have hw := hw.2 hc
            refine lv_aload_n hx hb dCopyPlan_draw_41 rfl (lv_at hl 1 rfl) ?_
            refine lv_sipush (v := 600) hx hb dCopyPlan_draw_42 (by decide) ?_
            refine lv_aload_n hx hb dCopyPlan_draw_45 rfl (lv_at hl 1 rfl) ?_
            refine va_get (D := D) (ci := 4) (v := .ref (ad 31)) (C := "OnceNamed$CopyPlan") (T := TX4) (N := 6) hx hb hts (fun w h => List.mem_cons_of_mem _ (inX4 w h)) hown hK hP 3 rfl rfl 0 (by decide) (hts _ (List.mem_cons_of_mem _ kw_169)) (fun _ h9 => h9) rfl dCopyPlan_draw_46 ?_
            refine lv_iconst (v := 0) hx hb dCopyPlan_draw_49 (by decide) ?_
            have ho := hw.1
            have hw := hw.2
            refine va_iald hx hb hK hP 4 0 rfl rfl ho dCopyPlan_draw_50 ?_
            refine xcv (va_runV ⟨hx, hb, hml, hown, hts⟩ (ktCopyPlan_copy l D cA ad N _ pending_L15 length_L15 copyTo_L15 copyFrom_L15 600 (pendingTo_L15 (Int32.toNatClampNeg 0)) _ hw) (cwV 2 hts (goodV kw_795 kw_797 ks_3_0 kw_7 kw_798) rfl rfl rfl (by decide +kernel) ⟨Nat.le_of_ble_eq_true rfl, Nat.le_of_ble_eq_true rfl⟩) (xpreV hK hP hD hN [3, 6, 7] rfl rfl 3 rfl rfl) rfl rfl hl.1 rfl (lv_room (Nat.le_of_ble_eq_true rfl)) dCopyPlan_draw_51 ⟨Nat.le_of_ble_eq_true rfl, Nat.le_of_ble_eq_true rfl⟩) hP hD hS hA [3, 6, 7] [0, 1, 2, 4, 5] rfl rfl rfl rfl [0, 1, 2, 5, 3, 4, 6, 7] rfl (fun _ => rfl) (fun u H locs hw hP hD hS => ?_)
            obtain ⟨length_51, copyTo_51, copyFrom_51⟩ := u
            try dsimp only at hw
            have hP : va_P D vwCl (wdCopyPlan_draw cA ad N meetingNames meetingUses pending_L15 length_51 pendingTo_L15 pendingFrom_L15 copyTo_51 copyFrom_51) H := hP
            have hD : va_D A (wdCopyPlan_draw cA ad N meetingNames meetingUses pending_L15 length_51 pendingTo_L15 pendingFrom_L15 copyTo_51 copyFrom_51) := hD
            refine lv_goto (tgt := 81) hx hb dCopyPlan_draw_54 rfl ?_
            refine lv_aload_n hx hb dCopyPlan_draw_81 rfl (lv_at hl 1 rfl) ?_
            refine xcv (va_runV ⟨hx, hb, hml, hown, hts⟩ (ktCopyPlan_readFromCopy l D cA ad N _ pending_L15 length_51 pendingFrom_L15 copyTo_51 copyFrom_51 _ hw) (cwV 0 hts (goodV kw_803 kw_805 ks_3_2 kw_7 kw_806) rfl rfl rfl (by decide +kernel) ⟨Nat.le_of_ble_eq_true rfl, Nat.le_of_ble_eq_true rfl⟩) (xpreV hK hP hD hN [3, 5, 6, 7] rfl rfl 3 rfl rfl) rfl rfl hl.1 rfl (lv_room (Nat.le_of_ble_eq_true rfl)) dCopyPlan_draw_82 ⟨Nat.le_of_ble_eq_true rfl, Nat.le_of_ble_eq_true rfl⟩) hP hD hS hA [3, 5, 6, 7] [0, 1, 2, 4] rfl rfl rfl rfl [0, 1, 2, 4, 3, 5, 6, 7] rfl (fun _ => rfl) (fun pendingFrom_82 H locs hw hP hD hS => ?_)
            try dsimp only at hw
            have hP : va_P D vwCl (wdCopyPlan_draw cA ad N meetingNames meetingUses pending_L15 length_51 pendingTo_L15 pendingFrom_82 copyTo_51 copyFrom_51) H := hP
            have hD : va_D A (wdCopyPlan_draw cA ad N meetingNames meetingUses pending_L15 length_51 pendingTo_L15 pendingFrom_82 copyTo_51 copyFrom_51) := hD
            refine lv_iinc (k := 5) (v := (v4_L15 + 1)) (lv' := [(4, .int (v4_L15 + 1)), (5, .int r30), (0, .ref (ad 30)), (1, .ref (ad 18)), (2, .int v2), (3, .int v3)]) hx hb dCopyPlan_draw_85 hl rfl rfl (by decide) rfl (fun ls hl => ?_)
            refine lv_goto (tgt := 15) hx hb dCopyPlan_draw_88 rfl ?_
            exact ih (v4_L15 + 1) pending_L15 length_51 pendingTo_L15 pendingFrom_82 copyTo_51 copyFrom_51 _ _ _ (lv_sub hl [2, 3, 4, 5, 0] rfl) hP hD hS hw
  refine hlp15 k15 0 pending_4 0 pendingTo_4 pendingFrom_4 copyTo copyFrom _ _ _ (lv_sub hl [1, 2, 3, 4, 0] rfl) hP hD hS hw
abbrev wdCopyPlan_length (cA : ClassId) (ad : Nat → Nat) (N : Nat) (pending : Int32) (length : Int32) : va_W := [((ad 30), .inr (4, [.ref (ad 31), .ref (ad 32), .ref (ad 33), .ref (ad 34), .int pending, .int length]))]
abbrev qcCopyPlan_length (D : va_G) (cA : ClassId) (ad : Nat → Nat) (N : Nat) (pending : Int32) (length : Int32) (post : Int32 → Prop) (A : Nat → Prop) : Array Value → State → Outcome → State → Prop := va_Qi (S := Unit) (fun r u => post r ) (fun u t => xB D [(cA, .int)] A (wdCopyPlan_length cA ad N pending length) t) A
abbrev rmCopyPlan_length : Room := { frames := 0, cells := 0, slots := 0, locals := 0 }
set_option maxHeartbeats 4000000 in
set_option maxRecDepth 100000 in
theorem ktCopyPlan_length (l : Launch) (D : va_G) (cA : ClassId) (ad : Nat → Nat) (N : Nat) (sz : Nat) (pending : Int32) (length : Int32)  (post : Int32 → Prop) (hw : wpCopyPlan_length length post) : Met l yCopyPlan_length (Cond.code yCopyPlan_length cCopyPlan_length 1 (some .int) :: xW) rmCopyPlan_length (va_Pc [.ref (ad 30)] (xPc D [(cA, .int)] (wdCopyPlan_length cA ad N pending length) sz)) (qcCopyPlan_length D cA ad N pending length post (va_A (wdCopyPlan_length cA ad N pending length) sz)) 0 0 (va_A (wdCopyPlan_length cA ad N pending length) sz) := by
  refine Met.ofW (cc := cCopyPlan_length) (maxL := 1) (ret := (some .int)) (by decide) rfl ?_
  intro p e s m args below meth c s₁ B hml hv
  obtain ⟨rfl, hsz, hP, hK, hD0, hN⟩ := hv
  have hx := B.exec
  have hb := B.bytes
  have hr := B.returns
  have hts := atoms_spec (ws := (Cond.code yCopyPlan_length cCopyPlan_length 1 (some .int) :: xW)) B.pre
  have hown : s.vm.findClass "OnceNamed$CopyPlan" = some m.cls := findClass_of_methodNamed B.named
  have hlocks := B.notSynchronized
  subst hsz
  have hD := hD0.self (sz := s.heap.size)
  generalize hAe : va_A (wdCopyPlan_length cA ad N pending length) s.heap.size = A at hD ⊢
  have hA : ∀ q : Nat, s.heap.size ≤ q → A q := fun q h => by rw [← hAe]; exact Or.inr h
  have hS : va_S A s.heap s.heap [] := va_S.rf
  have hend : ∀ (r : Int32)  (H : Heap) (locs : List Loc) (pc : Nat) (ls : Array Slot), decode cCopyPlan_length pc = .ok (.ireturn, 1) → va_P D vwCl (wdCopyPlan_length cA ad N pending length) H → va_D A (wdCopyPlan_length cA ad N pending length) → va_S A s.heap H locs → post r  → W p l e (headSpec (Cond.code yCopyPlan_length cCopyPlan_length 1 (some .int) :: xW) rmCopyPlan_length).room s m ([.ref (ad 30)] : List Value).toArray below meth c H locs 0 0 (MQ below (qcCopyPlan_length D cA ad N pending length post A) ([.ref (ad 30)] : List Value).toArray s 0 0 A) (F0 m pc ls [.int r]) := fun r  H locs pc ls hd hP hD hS hw => W.iret (v := r) hx hb hr (fun t ht hW => ⟨⟨r, (), rfl, hw, ⟨by rw [ht]; exact hP, va_K.moved hW.alike hK, hD⟩⟩, hS.F ht⟩) hS.2.2 hd
  generalize hQ : MQ below (qcCopyPlan_length D cA ad N pending length post A) ([.ref (ad 30)] : List Value).toArray s 0 0 A = Q at hend ⊢
  have hl := lv_entry ([.ref (ad 30)]) (n := 1) (Nat.le_of_ble_eq_true rfl)
  rw [lg_entry_eq]
  generalize (lg_sl ([.ref (ad 30)]) ++ List.replicate (1 - (lg_sl ([.ref (ad 30)])).length) Slot.unset).toArray = ls at hl ⊢
  have hl : lv_has ls 1 [(0, .ref (ad 30))] := hl
  unfold wpCopyPlan_length at hw
  refine lv_aload_n hx hb dCopyPlan_length_0 rfl (lv_at hl 0 rfl) ?_
  refine va_get (D := D) (ci := 4) (v := .int length) (C := "OnceNamed$CopyPlan") (T := TX4) (N := 6) hx hb hts (fun w h => List.mem_cons_of_mem _ (inX4 w h)) hown hK hP 0 rfl rfl 5 (by decide) (hts _ (List.mem_cons_of_mem _ kw_174)) (fun _ h9 => h9) rfl dCopyPlan_length_1 ?_
  exact hend length _ _ _ _ dCopyPlan_length_4 hP hD hS hw
abbrev wdCopyPlan_to (cA : ClassId) (ad : Nat → Nat) (N : Nat) (pending : Int32) (length : Int32) (copyTo : Nat → Int32) : va_W := [((ad 30), .inr (4, [.ref (ad 31), .ref (ad 32), .ref (ad 33), .ref (ad 34), .int pending, .int length])), ((ad 33), .inl (cA, 9, .inl copyTo))]
abbrev qcCopyPlan_to (D : va_G) (cA : ClassId) (ad : Nat → Nat) (N : Nat) (pending : Int32) (length : Int32) (copyTo : Nat → Int32) (post : Int32 → Prop) (A : Nat → Prop) : Array Value → State → Outcome → State → Prop := va_Qi (S := Unit) (fun r u => post r ) (fun u t => xB D [(cA, .int)] A (wdCopyPlan_to cA ad N pending length copyTo) t) A
abbrev rmCopyPlan_to : Room := { frames := 0, cells := 0, slots := 0, locals := 0 }
set_option maxHeartbeats 4000000 in
set_option maxRecDepth 100000 in
theorem ktCopyPlan_to (l : Launch) (D : va_G) (cA : ClassId) (ad : Nat → Nat) (N : Nat) (sz : Nat) (pending : Int32) (length : Int32) (copyTo : Nat → Int32) (v1 : Int32) (post : Int32 → Prop) (hw : wpCopyPlan_to copyTo v1 post) : Met l yCopyPlan_to (Cond.code yCopyPlan_to cCopyPlan_to 2 (some .int) :: xW) rmCopyPlan_to (va_Pc [.ref (ad 30), .int v1] (xPc D [(cA, .int)] (wdCopyPlan_to cA ad N pending length copyTo) sz)) (qcCopyPlan_to D cA ad N pending length copyTo post (va_A (wdCopyPlan_to cA ad N pending length copyTo) sz)) 0 0 (va_A (wdCopyPlan_to cA ad N pending length copyTo) sz) := by
  refine Met.ofW (cc := cCopyPlan_to) (maxL := 2) (ret := (some .int)) (by decide) rfl ?_
  intro p e s m args below meth c s₁ B hml hv
  obtain ⟨rfl, hsz, hP, hK, hD0, hN⟩ := hv
  have hx := B.exec
  have hb := B.bytes
  have hr := B.returns
  have hts := atoms_spec (ws := (Cond.code yCopyPlan_to cCopyPlan_to 2 (some .int) :: xW)) B.pre
  have hown : s.vm.findClass "OnceNamed$CopyPlan" = some m.cls := findClass_of_methodNamed B.named
  have hlocks := B.notSynchronized
  subst hsz
  have hD := hD0.self (sz := s.heap.size)
  generalize hAe : va_A (wdCopyPlan_to cA ad N pending length copyTo) s.heap.size = A at hD ⊢
  have hA : ∀ q : Nat, s.heap.size ≤ q → A q := fun q h => by rw [← hAe]; exact Or.inr h
  have hS : va_S A s.heap s.heap [] := va_S.rf
  have hend : ∀ (r : Int32)  (H : Heap) (locs : List Loc) (pc : Nat) (ls : Array Slot), decode cCopyPlan_to pc = .ok (.ireturn, 1) → va_P D vwCl (wdCopyPlan_to cA ad N pending length copyTo) H → va_D A (wdCopyPlan_to cA ad N pending length copyTo) → va_S A s.heap H locs → post r  → W p l e (headSpec (Cond.code yCopyPlan_to cCopyPlan_to 2 (some .int) :: xW) rmCopyPlan_to).room s m ([.ref (ad 30), .int v1] : List Value).toArray below meth c H locs 0 0 (MQ below (qcCopyPlan_to D cA ad N pending length copyTo post A) ([.ref (ad 30), .int v1] : List Value).toArray s 0 0 A) (F0 m pc ls [.int r]) := fun r  H locs pc ls hd hP hD hS hw => W.iret (v := r) hx hb hr (fun t ht hW => ⟨⟨r, (), rfl, hw, ⟨by rw [ht]; exact hP, va_K.moved hW.alike hK, hD⟩⟩, hS.F ht⟩) hS.2.2 hd
  generalize hQ : MQ below (qcCopyPlan_to D cA ad N pending length copyTo post A) ([.ref (ad 30), .int v1] : List Value).toArray s 0 0 A = Q at hend ⊢
  have hl := lv_entry ([.ref (ad 30), .int v1]) (n := 2) (Nat.le_of_ble_eq_true rfl)
  rw [lg_entry_eq]
  generalize (lg_sl ([.ref (ad 30), .int v1]) ++ List.replicate (2 - (lg_sl ([.ref (ad 30), .int v1])).length) Slot.unset).toArray = ls at hl ⊢
  have hl : lv_has ls 2 [(0, .ref (ad 30)), (1, .int v1)] := hl
  unfold wpCopyPlan_to at hw
  refine lv_aload_n hx hb dCopyPlan_to_0 rfl (lv_at hl 0 rfl) ?_
  refine va_get (D := D) (ci := 4) (v := .ref (ad 33)) (C := "OnceNamed$CopyPlan") (T := TX4) (N := 6) hx hb hts (fun w h => List.mem_cons_of_mem _ (inX4 w h)) hown hK hP 0 rfl rfl 2 (by decide) (hts _ (List.mem_cons_of_mem _ kw_171)) (fun _ h9 => h9) rfl dCopyPlan_to_1 ?_
  refine lv_iload_n hx hb dCopyPlan_to_4 rfl (lv_at hl 1 rfl) ?_
  have ho := hw.1
  have hw := hw.2
  refine va_iald hx hb hK hP 1 0 rfl rfl ho dCopyPlan_to_5 ?_
  exact hend (copyTo (Int32.toNatClampNeg v1)) _ _ _ _ dCopyPlan_to_6 hP hD hS hw
abbrev wdCopyPlan_from (cA : ClassId) (ad : Nat → Nat) (N : Nat) (pending : Int32) (length : Int32) (copyFrom : Nat → Int32) : va_W := [((ad 30), .inr (4, [.ref (ad 31), .ref (ad 32), .ref (ad 33), .ref (ad 34), .int pending, .int length])), ((ad 34), .inl (cA, 9, .inl copyFrom))]
abbrev qcCopyPlan_from (D : va_G) (cA : ClassId) (ad : Nat → Nat) (N : Nat) (pending : Int32) (length : Int32) (copyFrom : Nat → Int32) (post : Int32 → Prop) (A : Nat → Prop) : Array Value → State → Outcome → State → Prop := va_Qi (S := Unit) (fun r u => post r ) (fun u t => xB D [(cA, .int)] A (wdCopyPlan_from cA ad N pending length copyFrom) t) A
abbrev rmCopyPlan_from : Room := { frames := 0, cells := 0, slots := 0, locals := 0 }
set_option maxHeartbeats 4000000 in
set_option maxRecDepth 100000 in
theorem ktCopyPlan_from (l : Launch) (D : va_G) (cA : ClassId) (ad : Nat → Nat) (N : Nat) (sz : Nat) (pending : Int32) (length : Int32) (copyFrom : Nat → Int32) (v1 : Int32) (post : Int32 → Prop) (hw : wpCopyPlan_from copyFrom v1 post) : Met l yCopyPlan_from (Cond.code yCopyPlan_from cCopyPlan_from 2 (some .int) :: xW) rmCopyPlan_from (va_Pc [.ref (ad 30), .int v1] (xPc D [(cA, .int)] (wdCopyPlan_from cA ad N pending length copyFrom) sz)) (qcCopyPlan_from D cA ad N pending length copyFrom post (va_A (wdCopyPlan_from cA ad N pending length copyFrom) sz)) 0 0 (va_A (wdCopyPlan_from cA ad N pending length copyFrom) sz) := by
  refine Met.ofW (cc := cCopyPlan_from) (maxL := 2) (ret := (some .int)) (by decide) rfl ?_
  intro p e s m args below meth c s₁ B hml hv
  obtain ⟨rfl, hsz, hP, hK, hD0, hN⟩ := hv
  have hx := B.exec
  have hb := B.bytes
  have hr := B.returns
  have hts := atoms_spec (ws := (Cond.code yCopyPlan_from cCopyPlan_from 2 (some .int) :: xW)) B.pre
  have hown : s.vm.findClass "OnceNamed$CopyPlan" = some m.cls := findClass_of_methodNamed B.named
  have hlocks := B.notSynchronized
  subst hsz
  have hD := hD0.self (sz := s.heap.size)
  generalize hAe : va_A (wdCopyPlan_from cA ad N pending length copyFrom) s.heap.size = A at hD ⊢
  have hA : ∀ q : Nat, s.heap.size ≤ q → A q := fun q h => by rw [← hAe]; exact Or.inr h
  have hS : va_S A s.heap s.heap [] := va_S.rf
  have hend : ∀ (r : Int32)  (H : Heap) (locs : List Loc) (pc : Nat) (ls : Array Slot), decode cCopyPlan_from pc = .ok (.ireturn, 1) → va_P D vwCl (wdCopyPlan_from cA ad N pending length copyFrom) H → va_D A (wdCopyPlan_from cA ad N pending length copyFrom) → va_S A s.heap H locs → post r  → W p l e (headSpec (Cond.code yCopyPlan_from cCopyPlan_from 2 (some .int) :: xW) rmCopyPlan_from).room s m ([.ref (ad 30), .int v1] : List Value).toArray below meth c H locs 0 0 (MQ below (qcCopyPlan_from D cA ad N pending length copyFrom post A) ([.ref (ad 30), .int v1] : List Value).toArray s 0 0 A) (F0 m pc ls [.int r]) := fun r  H locs pc ls hd hP hD hS hw => W.iret (v := r) hx hb hr (fun t ht hW => ⟨⟨r, (), rfl, hw, ⟨by rw [ht]; exact hP, va_K.moved hW.alike hK, hD⟩⟩, hS.F ht⟩) hS.2.2 hd
  generalize hQ : MQ below (qcCopyPlan_from D cA ad N pending length copyFrom post A) ([.ref (ad 30), .int v1] : List Value).toArray s 0 0 A = Q at hend ⊢
  have hl := lv_entry ([.ref (ad 30), .int v1]) (n := 2) (Nat.le_of_ble_eq_true rfl)
  rw [lg_entry_eq]
  generalize (lg_sl ([.ref (ad 30), .int v1]) ++ List.replicate (2 - (lg_sl ([.ref (ad 30), .int v1])).length) Slot.unset).toArray = ls at hl ⊢
  have hl : lv_has ls 2 [(0, .ref (ad 30)), (1, .int v1)] := hl
  unfold wpCopyPlan_from at hw
  refine lv_aload_n hx hb dCopyPlan_from_0 rfl (lv_at hl 0 rfl) ?_
  refine va_get (D := D) (ci := 4) (v := .ref (ad 34)) (C := "OnceNamed$CopyPlan") (T := TX4) (N := 6) hx hb hts (fun w h => List.mem_cons_of_mem _ (inX4 w h)) hown hK hP 0 rfl rfl 3 (by decide) (hts _ (List.mem_cons_of_mem _ kw_172)) (fun _ h9 => h9) rfl dCopyPlan_from_1 ?_
  refine lv_iload_n hx hb dCopyPlan_from_4 rfl (lv_at hl 1 rfl) ?_
  have ho := hw.1
  have hw := hw.2
  refine va_iald hx hb hK hP 1 0 rfl rfl ho dCopyPlan_from_5 ?_
  exact hend (copyFrom (Int32.toNatClampNeg v1)) _ _ _ _ dCopyPlan_from_6 hP hD hS hw
