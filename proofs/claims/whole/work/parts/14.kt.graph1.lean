abbrev wdGraph_reachedWithout (cA : ClassId) (ad : Nat → Nat) (N : Nat) (yes : Nat → Int32) (no : Nat → Int32) (orderSize : Int32) (reached : Int32) : va_W := [((ad 1), .inr (1, [.int (nI N), .ref (ad 2), .ref (ad 3), .ref (ad 4), .ref (ad 5), .ref (ad 6), .ref (ad 7), .ref (ad 8), .ref (ad 9), .ref (ad 10)])), ((ad 8), .inl (cA, N, .inl yes)), ((ad 9), .inl (cA, N, .inl no)), ((ad 11), .inr (2, [.int (nI N), .ref (ad 12), .ref (ad 13), .ref (ad 14), .ref (ad 15), .ref (ad 16), .ref (ad 17), .int orderSize, .int reached]))]
abbrev qcGraph_reachedWithout (D : va_G) (cA : ClassId) (ad : Nat → Nat) (N : Nat) (yes : Nat → Int32) (no : Nat → Int32) (orderSize : Int32) (reached : Int32) (post : Int32 → Prop) (A : Nat → Prop) : Array Value → State → Outcome → State → Prop := va_Qi (S := Unit) (fun r u => post r ) (fun u t => xB D [(cA, .int)] A (wdGraph_reachedWithout cA ad N yes no orderSize reached) t) A
abbrev rmGraph_reachedWithout : Room := { frames := 1, cells := 0, slots := 0, locals := 21 }
set_option maxHeartbeats 4000000 in
set_option maxRecDepth 100000 in
theorem ktGraph_reachedWithout (l : Launch) (D : va_G) (cA : ClassId) (ad : Nat → Nat) (N : Nat) (sz : Nat) (yes : Nat → Int32) (no : Nat → Int32) (orderSize : Int32) (reached : Int32) (v2 : Int32) (post : Int32 → Prop) (hw : wpGraph_reachedWithout N yes no v2 post) : Met l yGraph_reachedWithout (Cond.code yGraph_reachedWithout cGraph_reachedWithout 8 (some .int) :: xW) rmGraph_reachedWithout (va_Pc [.ref (ad 11), .ref (ad 1), .int v2] (xPc D [(cA, .int)] (wdGraph_reachedWithout cA ad N yes no orderSize reached) sz)) (qcGraph_reachedWithout D cA ad N yes no orderSize reached post (va_A (wdGraph_reachedWithout cA ad N yes no orderSize reached) sz)) 0 0 (va_A (wdGraph_reachedWithout cA ad N yes no orderSize reached) sz) := by
  refine Met.ofW (cc := cGraph_reachedWithout) (maxL := 8) (ret := (some .int)) (by decide) rfl ?_
  intro p e s m args below meth c s₁ B hml hv
  obtain ⟨rfl, hsz, hP, hK, hD0, hN⟩ := hv
  have hx := B.exec
  have hb := B.bytes
  have hr := B.returns
  have hts := atoms_spec (ws := (Cond.code yGraph_reachedWithout cGraph_reachedWithout 8 (some .int) :: xW)) B.pre
  have hown : s.vm.findClass "OnceNamed$Graph" = some m.cls := findClass_of_methodNamed B.named
  have hlocks := B.notSynchronized
  subst hsz
  have hD := hD0.self (sz := s.heap.size)
  generalize hAe : va_A (wdGraph_reachedWithout cA ad N yes no orderSize reached) s.heap.size = A at hD ⊢
  have hA : ∀ q : Nat, s.heap.size ≤ q → A q := fun q h => by rw [← hAe]; exact Or.inr h
  have hS : va_S A s.heap s.heap [] := va_S.rf
  have hend : ∀ (r : Int32)  (H : Heap) (locs : List Loc) (pc : Nat) (ls : Array Slot), decode cGraph_reachedWithout pc = .ok (.ireturn, 1) → va_P D vwCl (wdGraph_reachedWithout cA ad N yes no orderSize reached) H → va_D A (wdGraph_reachedWithout cA ad N yes no orderSize reached) → va_S A s.heap H locs → post r  → W p l e (headSpec (Cond.code yGraph_reachedWithout cGraph_reachedWithout 8 (some .int) :: xW) rmGraph_reachedWithout).room s m ([.ref (ad 11), .ref (ad 1), .int v2] : List Value).toArray below meth c H locs 0 0 (MQ below (qcGraph_reachedWithout D cA ad N yes no orderSize reached post A) ([.ref (ad 11), .ref (ad 1), .int v2] : List Value).toArray s 0 0 A) (F0 m pc ls [.int r]) := fun r  H locs pc ls hd hP hD hS hw => W.iret (v := r) hx hb hr (fun t ht hW => ⟨⟨r, (), rfl, hw, ⟨by rw [ht]; exact hP, va_K.moved hW.alike hK, hD⟩⟩, hS.F ht⟩) hS.2.2 hd
  generalize hQ : MQ below (qcGraph_reachedWithout D cA ad N yes no orderSize reached post A) ([.ref (ad 11), .ref (ad 1), .int v2] : List Value).toArray s 0 0 A = Q at hend ⊢
  have hl := lv_entry ([.ref (ad 11), .ref (ad 1), .int v2]) (n := 8) (Nat.le_of_ble_eq_true rfl)
  rw [lg_entry_eq]
  generalize (lg_sl ([.ref (ad 11), .ref (ad 1), .int v2]) ++ List.replicate (8 - (lg_sl ([.ref (ad 11), .ref (ad 1), .int v2])).length) Slot.unset).toArray = ls at hl ⊢
  have hl : lv_has ls 8 [(0, .ref (ad 11)), (1, .ref (ad 1)), (2, .int v2)] := hl
  unfold wpGraph_reachedWithout at hw
  refine lv_iload_n hx hb dGraph_reachedWithout_0 rfl (lv_at hl 2 rfl) ?_
  refine lv_iconst (v := (-1)) hx hb dGraph_reachedWithout_1 (by decide) ?_
  obtain ⟨J14, hJ14, hw⟩ := hw
  have hj14 : ∀ (t14_0 : Int32) (ls : Array Slot) (H : Heap) (locs : List Loc), lv_has ls 8 [(0, .ref (ad 11)), (1, .ref (ad 1)), (2, .int v2)] → va_P D vwCl (wdGraph_reachedWithout cA ad N yes no orderSize reached) H → va_D A (wdGraph_reachedWithout cA ad N yes no orderSize reached) → va_S A s.heap H locs → J14 t14_0 → W p l e (headSpec (Cond.code yGraph_reachedWithout cGraph_reachedWithout 8 (some .int) :: xW) rmGraph_reachedWithout).room s m ([.ref (ad 11), .ref (ad 1), .int v2] : List Value).toArray below meth c H locs 0 0 Q (F0 m 14 ls [.int t14_0]) := by
    intro t14_0 ls H locs hl hP hD hS hw
    have hw := hJ14 t14_0 hw
    refine lv_istore_n (lv' := [(3, .int t14_0), (0, .ref (ad 11)), (1, .ref (ad 1)), (2, .int v2)]) hx hb dGraph_reachedWithout_14 rfl hl (by decide) rfl (fun ls hl => ?_)
    refine lv_iconst (v := 1) hx hb dGraph_reachedWithout_15 (by decide) ?_
    refine lv_iload_n hx hb dGraph_reachedWithout_16 rfl (lv_at hl 0 rfl) ?_
    refine lv_iand hx hb dGraph_reachedWithout_17 ?_
    refine lv_topi (fun v4_18 e_v4_18 => ?_)
    have hw := hw v4_18 e_v4_18
    refine lv_istore (lv' := [(4, .int v4_18), (3, .int t14_0), (0, .ref (ad 11)), (1, .ref (ad 1)), (2, .int v2)]) hx hb dGraph_reachedWithout_18 hl (by decide) rfl (fun ls hl => ?_)
    refine lv_iconst (v := 0) hx hb dGraph_reachedWithout_20 (by decide) ?_
    refine lv_istore (lv' := [(5, .int 0), (4, .int v4_18), (3, .int t14_0), (0, .ref (ad 11)), (1, .ref (ad 1)), (2, .int v2)]) hx hb dGraph_reachedWithout_21 hl (by decide) rfl (fun ls hl => ?_)
    obtain ⟨k23, hw⟩ := hw
    have hlp23 : ∀ (k : Nat), ∀ (v4_L23 : Int32) (v5_L23 : Int32) (ls : Array Slot) (H : Heap) (locs : List Loc), lv_has ls 8 [(0, .ref (ad 11)), (1, .ref (ad 1)), (2, .int v2), (3, .int t14_0), (4, .int v4_L23), (5, .int v5_L23)] → va_P D vwCl (wdGraph_reachedWithout cA ad N yes no orderSize reached) H → va_D A (wdGraph_reachedWithout cA ad N yes no orderSize reached) → va_S A s.heap H locs → lpGraph_reachedWithout_23 N t14_0 yes no post k v4_L23 v5_L23 → W p l e (headSpec (Cond.code yGraph_reachedWithout cGraph_reachedWithout 8 (some .int) :: xW) rmGraph_reachedWithout).room s m ([.ref (ad 11), .ref (ad 1), .int v2] : List Value).toArray below meth c H locs 0 0 Q (F0 m 23 ls []) := by
      intro k
      induction k with
      | zero => intro v4_L23 v5_L23 ls H locs hl hP hD hS hw; exact False.elim hw
      | succ k ih =>
        intro v4_L23 v5_L23 ls H locs hl hP hD hS hw
        refine lv_iload hx hb dGraph_reachedWithout_23 (lv_at hl 5 rfl) ?_
        refine lv_aload_n hx hb dGraph_reachedWithout_25 rfl (lv_at hl 0 rfl) ?_
        refine va_get (D := D) (ci := 2) (v := .int (nI N)) (C := "OnceNamed$Graph") (T := TX2) (N := 9) hx hb hts (fun w h => List.mem_cons_of_mem _ (inX2 w h)) hown hK hP 3 rfl rfl 0 (by decide) (hts _ (List.mem_cons_of_mem _ kw_82)) (fun _ h9 => h9) rfl dGraph_reachedWithout_26 ?_
        refine lv_icmp_ge (tgt := 93) hx hb dGraph_reachedWithout_29 rfl (fun hc => ?_) (fun hc => ?_)
        · have hw := hw.1 hc
          refine lv_iload hx hb dGraph_reachedWithout_93 (lv_at hl 4 rfl) ?_
          exact hend v4_L23 _ _ _ _ dGraph_reachedWithout_95 hP hD hS hw
        · have hw := hw.2 hc
          refine lv_iload hx hb dGraph_reachedWithout_32 (lv_at hl 4 rfl) ?_
          refine lv_istore (lv' := [(6, .int v4_L23), (0, .ref (ad 11)), (1, .ref (ad 1)), (2, .int v2), (3, .int t14_0), (4, .int v4_L23), (5, .int v5_L23)]) hx hb dGraph_reachedWithout_34 hl (by decide) rfl (fun ls hl => ?_)
          refine lv_iconst (v := 0) hx hb dGraph_reachedWithout_36 (by decide) ?_
          refine lv_istore (lv' := [(7, .int 0), (6, .int v4_L23), (0, .ref (ad 11)), (1, .ref (ad 1)), (2, .int v2), (3, .int t14_0), (4, .int v4_L23), (5, .int v5_L23)]) hx hb dGraph_reachedWithout_37 hl (by decide) rfl (fun ls hl => ?_)
          obtain ⟨k39, hw⟩ := hw
          have hlp39 : ∀ (K77 : Int32 → Int32 → Prop), (∀ (v4_x77 : Int32) (v7_x77 : Int32) (ls : Array Slot) (H : Heap) (locs : List Loc), lv_has ls 8 [(0, .ref (ad 11)), (1, .ref (ad 1)), (2, .int v2), (3, .int t14_0), (4, .int v4_x77), (5, .int v5_L23), (6, .int v4_L23), (7, .int v7_x77)] → va_P D vwCl (wdGraph_reachedWithout cA ad N yes no orderSize reached) H → va_D A (wdGraph_reachedWithout cA ad N yes no orderSize reached) → va_S A s.heap H locs → K77 v4_x77 v7_x77 → W p l e (headSpec (Cond.code yGraph_reachedWithout cGraph_reachedWithout 8 (some .int) :: xW) rmGraph_reachedWithout).room s m ([.ref (ad 11), .ref (ad 1), .int v2] : List Value).toArray below meth c H locs 0 0 Q (F0 m 77 ls [])) → ∀ (k : Nat), ∀ (v4_L39 : Int32) (v7_L39 : Int32) (ls : Array Slot) (H : Heap) (locs : List Loc), lv_has ls 8 [(0, .ref (ad 11)), (1, .ref (ad 1)), (2, .int v2), (3, .int t14_0), (4, .int v4_L39), (5, .int v5_L23), (6, .int v4_L23), (7, .int v7_L39)] → va_P D vwCl (wdGraph_reachedWithout cA ad N yes no orderSize reached) H → va_D A (wdGraph_reachedWithout cA ad N yes no orderSize reached) → va_S A s.heap H locs → lpGraph_reachedWithout_39 N t14_0 yes no K77 k v4_L39 v7_L39 → W p l e (headSpec (Cond.code yGraph_reachedWithout cGraph_reachedWithout 8 (some .int) :: xW) rmGraph_reachedWithout).room s m ([.ref (ad 11), .ref (ad 1), .int v2] : List Value).toArray below meth c H locs 0 0 Q (F0 m 39 ls []) := by
            intro K77 hK77 k
            induction k with
            | zero => intro v4_L39 v7_L39 ls H locs hl hP hD hS hw; exact False.elim hw
            | succ k ih =>
              intro v4_L39 v7_L39 ls H locs hl hP hD hS hw
              refine lv_iload hx hb dGraph_reachedWithout_39 (lv_at hl 7 rfl) ?_
              refine lv_aload_n hx hb dGraph_reachedWithout_41 rfl (lv_at hl 0 rfl) ?_
              refine va_get (D := D) (ci := 2) (v := .int (nI N)) (C := "OnceNamed$Graph") (T := TX2) (N := 9) hx hb hts (fun w h => List.mem_cons_of_mem _ (inX2 w h)) hown hK hP 3 rfl rfl 0 (by decide) (hts _ (List.mem_cons_of_mem _ kw_82)) (fun _ h9 => h9) rfl dGraph_reachedWithout_42 ?_
              refine lv_icmp_ge (tgt := 77) hx hb dGraph_reachedWithout_45 rfl (fun hc => ?_) (fun hc => ?_)
              · have hw := hw.1 hc
                exact hK77 v4_L39 v7_L39 _ _ _ (lv_sub hl [0, 1, 2, 3, 4, 5, 6, 7] rfl) hP hD hS hw
              · have hw := hw.2 hc
                refine lv_iload hx hb dGraph_reachedWithout_48 (lv_at hl 4 rfl) ?_
                refine lv_iload hx hb dGraph_reachedWithout_50 (lv_at hl 7 rfl) ?_
                refine xci (va_runSN ⟨hx, hb, hml, hown, hts⟩ (ktOn_has l D cA ad N _ v4_L39 v7_L39 _ hw) ⟨va_cnB 2 hts (goodB kw_239) rfl rfl rfl hN.1 (hts _ (List.mem_cons_of_mem _ kw_1)) (by decide +kernel) ⟨Nat.le_of_ble_eq_true rfl, Nat.le_of_ble_eq_true rfl⟩, hts _ (List.mem_cons_of_mem _ kw_238), trivial⟩ (xpreS hK hP hD hN [] rfl rfl) rfl rfl hl.1 rfl (lv_room (Nat.le_of_ble_eq_true rfl)) dGraph_reachedWithout_52 ⟨Nat.le_of_ble_eq_true rfl, Nat.le_of_ble_eq_true rfl⟩) hP hD hS hA [] [0, 1, 2, 3] rfl rfl rfl rfl [0, 1, 2, 3] rfl (fun _ => rfl) (fun r52 u H locs hw hP hD hS => ?_)
                obtain ⟨r52, rfl, hw⟩ := hw
                have hP : va_P D vwCl (wdGraph_reachedWithout cA ad N yes no orderSize reached) H := hP
                have hD : va_D A (wdGraph_reachedWithout cA ad N yes no orderSize reached) := hD
                refine lv_if_eq (tgt := 71) hx hb dGraph_reachedWithout_55 rfl (fun hc => ?_) (fun hc => ?_)
                · have hw := hw.1 (bI_0 hc)
                  refine lv_iinc (k := 7) (v := (v7_L39 + 1)) (lv' := [(7, .int (v7_L39 + 1)), (0, .ref (ad 11)), (1, .ref (ad 1)), (2, .int v2), (3, .int t14_0), (4, .int v4_L39), (5, .int v5_L23), (6, .int v4_L23)]) hx hb dGraph_reachedWithout_71 hl rfl rfl (by decide) rfl (fun ls hl => ?_)
                  refine lv_goto (tgt := 39) hx hb dGraph_reachedWithout_74 rfl ?_
                  exact ih v4_L39 (v7_L39 + 1) _ _ _ (lv_sub hl [1, 2, 3, 4, 5, 6, 7, 0] rfl) hP hD hS hw
                · have hw := hw.2 (bI_1 hc)
                  refine lv_iload hx hb dGraph_reachedWithout_58 (lv_at hl 4 rfl) ?_
                  refine lv_aload_n hx hb dGraph_reachedWithout_60 rfl (lv_at hl 1 rfl) ?_
                  refine lv_iload hx hb dGraph_reachedWithout_61 (lv_at hl 7 rfl) ?_
                  refine xci (va_runV ⟨hx, hb, hml, hown, hts⟩ (ktProgram_followers l D cA ad N _ yes no v7_L39 _ hw) (cwV 1 hts (goodV kw_240 kw_241 kw_242 kw_3 kw_243) rfl rfl rfl (by decide +kernel) ⟨Nat.le_of_ble_eq_true rfl, Nat.le_of_ble_eq_true rfl⟩) (xpreV hK hP hD hN [0, 1, 2] rfl rfl 0 rfl rfl) rfl rfl hl.1 rfl (lv_room (Nat.le_of_ble_eq_true rfl)) dGraph_reachedWithout_63 ⟨Nat.le_of_ble_eq_true rfl, Nat.le_of_ble_eq_true rfl⟩) hP hD hS hA [0, 1, 2] [3] rfl rfl rfl rfl [1, 2, 3, 0] rfl (fun _ => rfl) (fun r63 u H locs hw hP hD hS => ?_)
                  have hP : va_P D vwCl (wdGraph_reachedWithout cA ad N yes no orderSize reached) H := hP
                  have hD : va_D A (wdGraph_reachedWithout cA ad N yes no orderSize reached) := hD
                  refine lv_iload_n hx hb dGraph_reachedWithout_66 rfl (lv_at hl 3 rfl) ?_
                  refine lv_iand hx hb dGraph_reachedWithout_67 ?_
                  refine lv_ior hx hb dGraph_reachedWithout_68 ?_
                  refine lv_topi (fun v4_69 e_v4_69 => ?_)
                  have hw := hw v4_69 e_v4_69
                  refine lv_istore (lv' := [(4, .int v4_69), (0, .ref (ad 11)), (1, .ref (ad 1)), (2, .int v2), (3, .int t14_0), (5, .int v5_L23), (6, .int v4_L23), (7, .int v7_L39)]) hx hb dGraph_reachedWithout_69 hl (by decide) rfl (fun ls hl => ?_)
                  refine lv_iinc (k := 7) (v := (v7_L39 + 1)) (lv' := [(7, .int (v7_L39 + 1)), (4, .int v4_69), (0, .ref (ad 11)), (1, .ref (ad 1)), (2, .int v2), (3, .int t14_0), (5, .int v5_L23), (6, .int v4_L23)]) hx hb dGraph_reachedWithout_71 hl rfl rfl (by decide) rfl (fun ls hl => ?_)
                  refine lv_goto (tgt := 39) hx hb dGraph_reachedWithout_74 rfl ?_
                  exact ih v4_69 (v7_L39 + 1) _ _ _ (lv_sub hl [2, 3, 4, 5, 1, 6, 7, 0] rfl) hP hD hS hw
          refine hlp39 _ ?_ k39 v4_L23 0 _ _ _ (lv_sub hl [2, 3, 4, 5, 6, 7, 1, 0] rfl) hP hD hS hw
          intro v4_x77 v7_x77 ls H locs hl hP hD hS hw
          try dsimp only at hw
          refine lv_iload hx hb dGraph_reachedWithout_77 (lv_at hl 4 rfl) ?_
          refine lv_iload hx hb dGraph_reachedWithout_79 (lv_at hl 6 rfl) ?_
          refine lv_icmp_ne (tgt := 87) hx hb dGraph_reachedWithout_81 rfl (fun hc => ?_) (fun hc => ?_)
          · have hw := hw.1 hc
            refine lv_iinc (k := 5) (v := (v5_L23 + 1)) (lv' := [(5, .int (v5_L23 + 1)), (0, .ref (ad 11)), (1, .ref (ad 1)), (2, .int v2), (3, .int t14_0), (4, .int v4_x77), (6, .int v4_L23), (7, .int v7_x77)]) hx hb dGraph_reachedWithout_87 hl rfl rfl (by decide) rfl (fun ls hl => ?_)
            refine lv_goto (tgt := 23) hx hb dGraph_reachedWithout_90 rfl ?_
            exact ih v4_x77 (v5_L23 + 1) _ _ _ (lv_sub hl [1, 2, 3, 4, 5, 0] rfl) hP hD hS hw
          · have hw := hw.2 hc
            refine lv_goto (tgt := 93) hx hb dGraph_reachedWithout_84 rfl ?_
            refine lv_iload hx hb dGraph_reachedWithout_93 (lv_at hl 4 rfl) ?_
            exact hend v4_x77 _ _ _ _ dGraph_reachedWithout_95 hP hD hS hw
    refine hlp23 k23 v4_18 0 _ _ _ (lv_sub hl [3, 4, 5, 2, 1, 0] rfl) hP hD hS hw
  refine lv_icmp_ne (tgt := 9) hx hb dGraph_reachedWithout_2 rfl (fun hc => ?_) (fun hc => ?_)
  · have hw := hw.1 hc
    refine lv_iconst (v := 1) hx hb dGraph_reachedWithout_9 (by decide) ?_
    refine lv_iload_n hx hb dGraph_reachedWithout_10 rfl (lv_at hl 2 rfl) ?_
    refine lv_ishl hx hb dGraph_reachedWithout_11 ?_
    refine lv_iconst (v := (-1)) hx hb dGraph_reachedWithout_12 (by decide) ?_
    refine lv_ixor hx hb dGraph_reachedWithout_13 ?_
    exact hj14 (((1 : Int32) <<< (v2 &&& 31)) ^^^ (-1)) _ _ _ (lv_sub hl [0, 1, 2] rfl) hP hD hS hw
  · have hw := hw.2 hc
    refine lv_iconst (v := (-1)) hx hb dGraph_reachedWithout_5 (by decide) ?_
    refine lv_goto (tgt := 14) hx hb dGraph_reachedWithout_6 rfl ?_
    exact hj14 (-1) _ _ _ (lv_sub hl [0, 1, 2] rfl) hP hD hS hw
abbrev wdGraph_findForerunners (cA : ClassId) (ad : Nat → Nat) (N : Nat) (yes : Nat → Int32) (no : Nat → Int32) (orderSize : Int32) (reached : Int32) (forerunners : Nat → Int32) : va_W := [((ad 1), .inr (1, [.int (nI N), .ref (ad 2), .ref (ad 3), .ref (ad 4), .ref (ad 5), .ref (ad 6), .ref (ad 7), .ref (ad 8), .ref (ad 9), .ref (ad 10)])), ((ad 8), .inl (cA, N, .inl yes)), ((ad 9), .inl (cA, N, .inl no)), ((ad 11), .inr (2, [.int (nI N), .ref (ad 12), .ref (ad 13), .ref (ad 14), .ref (ad 15), .ref (ad 16), .ref (ad 17), .int orderSize, .int reached])), ((ad 12), .inl (cA, N, .inl forerunners))]
abbrev qcGraph_findForerunners (D : va_G) (cA : ClassId) (ad : Nat → Nat) (N : Nat) (yes : Nat → Int32) (no : Nat → Int32) (orderSize : Int32) (reached : Int32) (forerunners : Nat → Int32) (post : (Nat → Int32) → Prop) (A : Nat → Prop) : Array Value → State → Outcome → State → Prop := va_Qv (S := (Nat → Int32)) (fun u => post u) (fun u t => xB D [(cA, .int)] A (wdGraph_findForerunners cA ad N yes no orderSize reached u) t) A
abbrev rmGraph_findForerunners : Room := { frames := 1, cells := 0, slots := 0, locals := 23 }
set_option maxHeartbeats 4000000 in
set_option maxRecDepth 100000 in
theorem ktGraph_findForerunners (l : Launch) (D : va_G) (cA : ClassId) (ad : Nat → Nat) (N : Nat) (sz : Nat) (yes : Nat → Int32) (no : Nat → Int32) (orderSize : Int32) (reached : Int32) (forerunners : Nat → Int32)  (post : (Nat → Int32) → Prop) (hw : wpGraph_findForerunners N yes no reached forerunners post) : Met l yGraph_findForerunners (Cond.code yGraph_findForerunners cGraph_findForerunners 5 none :: xW) rmGraph_findForerunners (va_Pc [.ref (ad 11), .ref (ad 1)] (xPc D [(cA, .int)] (wdGraph_findForerunners cA ad N yes no orderSize reached forerunners) sz)) (qcGraph_findForerunners D cA ad N yes no orderSize reached forerunners post (va_A (wdGraph_findForerunners cA ad N yes no orderSize reached forerunners) sz)) 0 0 (va_A (wdGraph_findForerunners cA ad N yes no orderSize reached forerunners) sz) := by
  refine Met.ofW (cc := cGraph_findForerunners) (maxL := 5) (ret := none) (by decide) rfl ?_
  intro p e s m args below meth c s₁ B hml hv
  obtain ⟨rfl, hsz, hP, hK, hD0, hN⟩ := hv
  have hx := B.exec
  have hb := B.bytes
  have hr := B.returns
  have hts := atoms_spec (ws := (Cond.code yGraph_findForerunners cGraph_findForerunners 5 none :: xW)) B.pre
  have hown : s.vm.findClass "OnceNamed$Graph" = some m.cls := findClass_of_methodNamed B.named
  have hlocks := B.notSynchronized
  subst hsz
  have hD := hD0.self (sz := s.heap.size)
  generalize hAe : va_A (wdGraph_findForerunners cA ad N yes no orderSize reached forerunners) s.heap.size = A at hD ⊢
  have hA : ∀ q : Nat, s.heap.size ≤ q → A q := fun q h => by rw [← hAe]; exact Or.inr h
  have hS : va_S A s.heap s.heap [] := va_S.rf
  have hend : ∀ (u0 : Nat → Int32) (H : Heap) (locs : List Loc) (pc : Nat) (ls : Array Slot), decode cGraph_findForerunners pc = .ok (.return_, 1) → va_P D vwCl (wdGraph_findForerunners cA ad N yes no orderSize reached u0) H → va_D A (wdGraph_findForerunners cA ad N yes no orderSize reached u0) → va_S A s.heap H locs → post u0 → W p l e (headSpec (Cond.code yGraph_findForerunners cGraph_findForerunners 5 none :: xW) rmGraph_findForerunners).room s m ([.ref (ad 11), .ref (ad 1)] : List Value).toArray below meth c H locs 0 0 (MQ below (qcGraph_findForerunners D cA ad N yes no orderSize reached forerunners post A) ([.ref (ad 11), .ref (ad 1)] : List Value).toArray s 0 0 A) (F0 m pc ls []) := fun u0 H locs pc ls hd hP hD hS hw => W.vret hx hb hr (fun t ht hW => ⟨⟨u0, rfl, hw, ⟨by rw [ht]; exact hP, va_K.moved hW.alike hK, hD⟩⟩, hS.F ht⟩) hS.2.2 hd
  generalize hQ : MQ below (qcGraph_findForerunners D cA ad N yes no orderSize reached forerunners post A) ([.ref (ad 11), .ref (ad 1)] : List Value).toArray s 0 0 A = Q at hend ⊢
  have hl := lv_entry ([.ref (ad 11), .ref (ad 1)]) (n := 5) (Nat.le_of_ble_eq_true rfl)
  rw [lg_entry_eq]
  generalize (lg_sl ([.ref (ad 11), .ref (ad 1)]) ++ List.replicate (5 - (lg_sl ([.ref (ad 11), .ref (ad 1)])).length) Slot.unset).toArray = ls at hl ⊢
  have hl : lv_has ls 5 [(0, .ref (ad 11)), (1, .ref (ad 1))] := hl
  unfold wpGraph_findForerunners at hw
  refine lv_aload_n hx hb dGraph_findForerunners_0 rfl (lv_at hl 0 rfl) ?_
  refine va_get (D := D) (ci := 2) (v := .ref (ad 12)) (C := "OnceNamed$Graph") (T := TX2) (N := 9) hx hb hts (fun w h => List.mem_cons_of_mem _ (inX2 w h)) hown hK hP 3 rfl rfl 1 (by decide) (hts _ (List.mem_cons_of_mem _ kw_83)) (fun _ h9 => h9) rfl dGraph_findForerunners_1 ?_
  refine lv_iconst (v := 0) hx hb dGraph_findForerunners_4 (by decide) ?_
  refine xcv (va_runS ⟨hx, hb, hml, hown, hts⟩ (ktArrays_fill l D cA ad N (ad 12) N _ forerunners 0 _ hw) (va_cwS 2 hts (goodS kw_248 kw_42 kw_4 kw_43) rfl rfl rfl (by decide +kernel) ⟨Nat.le_of_ble_eq_true rfl, Nat.le_of_ble_eq_true rfl⟩) (xpreS hK hP hD hN [4] rfl rfl) rfl rfl hl.1 rfl (lv_room (Nat.le_of_ble_eq_true rfl)) dGraph_findForerunners_5 ⟨Nat.le_of_ble_eq_true rfl, Nat.le_of_ble_eq_true rfl⟩) hP hD hS hA [4] [0, 1, 2, 3] rfl rfl rfl rfl [0, 1, 2, 3, 4] rfl (fun _ => rfl) (fun forerunners_5 H locs hw hP hD hS => ?_)
  try dsimp only at hw
  have hP : va_P D vwCl (wdGraph_findForerunners cA ad N yes no orderSize reached forerunners_5) H := hP
  have hD : va_D A (wdGraph_findForerunners cA ad N yes no orderSize reached forerunners_5) := hD
  refine lv_aload_n hx hb dGraph_findForerunners_8 rfl (lv_at hl 0 rfl) ?_
  refine va_get (D := D) (ci := 2) (v := .ref (ad 12)) (C := "OnceNamed$Graph") (T := TX2) (N := 9) hx hb hts (fun w h => List.mem_cons_of_mem _ (inX2 w h)) hown hK hP 3 rfl rfl 1 (by decide) (hts _ (List.mem_cons_of_mem _ kw_83)) (fun _ h9 => h9) rfl dGraph_findForerunners_9 ?_
  refine lv_iconst (v := 0) hx hb dGraph_findForerunners_12 (by decide) ?_
  refine lv_iconst (v := 1) hx hb dGraph_findForerunners_13 (by decide) ?_
  refine lv_aload_n hx hb dGraph_findForerunners_14 rfl (lv_at hl 0 rfl) ?_
  refine va_get (D := D) (ci := 2) (v := .int (nI N)) (C := "OnceNamed$Graph") (T := TX2) (N := 9) hx hb hts (fun w h => List.mem_cons_of_mem _ (inX2 w h)) hown hK hP 3 rfl rfl 0 (by decide) (hts _ (List.mem_cons_of_mem _ kw_82)) (fun _ h9 => h9) rfl dGraph_findForerunners_15 ?_
  refine lv_ishl hx hb dGraph_findForerunners_18 ?_
  have ho := hw.1
  have hw := hw.2
  refine va_iast hx hb hK hP hD hS 4 0 rfl rfl ho dGraph_findForerunners_19 (fun H locs hP hD hS => ?_)
  have hP : va_P D vwCl (wdGraph_findForerunners cA ad N yes no orderSize reached (upd forerunners_5 (Int32.toNatClampNeg 0) ((1 : Int32) <<< ((nI N) &&& 31)))) H := hP
  have hD : va_D A (wdGraph_findForerunners cA ad N yes no orderSize reached (upd forerunners_5 (Int32.toNatClampNeg 0) ((1 : Int32) <<< ((nI N) &&& 31)))) := hD
  refine lv_iconst (v := 0) hx hb dGraph_findForerunners_20 (by decide) ?_
  refine lv_istore_n (lv' := [(2, .int 0), (0, .ref (ad 11)), (1, .ref (ad 1))]) hx hb dGraph_findForerunners_21 rfl hl (by decide) rfl (fun ls hl => ?_)
  obtain ⟨k22, hw⟩ := hw
  have hlp22 : ∀ (k : Nat), ∀ (v2_L22 : Int32) (forerunners_L22 : Nat → Int32) (ls : Array Slot) (H : Heap) (locs : List Loc), lv_has ls 5 [(0, .ref (ad 11)), (1, .ref (ad 1)), (2, .int v2_L22)] → va_P D vwCl (wdGraph_findForerunners cA ad N yes no orderSize reached forerunners_L22) H → va_D A (wdGraph_findForerunners cA ad N yes no orderSize reached forerunners_L22) → va_S A s.heap H locs → lpGraph_findForerunners_22 N yes no reached post k v2_L22 forerunners_L22 → W p l e (headSpec (Cond.code yGraph_findForerunners cGraph_findForerunners 5 none :: xW) rmGraph_findForerunners).room s m ([.ref (ad 11), .ref (ad 1)] : List Value).toArray below meth c H locs 0 0 Q (F0 m 22 ls []) := by
    intro k
    induction k with
    | zero => intro v2_L22 forerunners_L22 ls H locs hl hP hD hS hw; exact False.elim hw
    | succ k ih =>
      intro v2_L22 forerunners_L22 ls H locs hl hP hD hS hw
      refine lv_iload_n hx hb dGraph_findForerunners_22 rfl (lv_at hl 2 rfl) ?_
      refine lv_aload_n hx hb dGraph_findForerunners_23 rfl (lv_at hl 0 rfl) ?_
      refine va_get (D := D) (ci := 2) (v := .int (nI N)) (C := "OnceNamed$Graph") (T := TX2) (N := 9) hx hb hts (fun w h => List.mem_cons_of_mem _ (inX2 w h)) hown hK hP 3 rfl rfl 0 (by decide) (hts _ (List.mem_cons_of_mem _ kw_82)) (fun _ h9 => h9) rfl dGraph_findForerunners_24 ?_
      refine lv_icmp_ge (tgt := 97) hx hb dGraph_findForerunners_27 rfl (fun hc => ?_) (fun hc => ?_)
      · have hw := hw.1 hc
        exact hend forerunners_L22 _ _ _ _ dGraph_findForerunners_97 hP hD hS hw
      · have hw := hw.2 hc
        refine lv_aload_n hx hb dGraph_findForerunners_30 rfl (lv_at hl 0 rfl) ?_
        refine va_get (D := D) (ci := 2) (v := .int reached) (C := "OnceNamed$Graph") (T := TX2) (N := 9) hx hb hts (fun w h => List.mem_cons_of_mem _ (inX2 w h)) hown hK hP 3 rfl rfl 8 (by decide) (hts _ (List.mem_cons_of_mem _ kw_90)) (fun _ h9 => h9) rfl dGraph_findForerunners_31 ?_
        refine lv_iload_n hx hb dGraph_findForerunners_34 rfl (lv_at hl 2 rfl) ?_
        refine xci (va_runSN ⟨hx, hb, hml, hown, hts⟩ (ktOn_has l D cA ad N _ reached v2_L22 _ hw) ⟨va_cnB 2 hts (goodB kw_239) rfl rfl rfl hN.1 (hts _ (List.mem_cons_of_mem _ kw_1)) (by decide +kernel) ⟨Nat.le_of_ble_eq_true rfl, Nat.le_of_ble_eq_true rfl⟩, hts _ (List.mem_cons_of_mem _ kw_238), trivial⟩ (xpreS hK hP hD hN [] rfl rfl) rfl rfl hl.1 rfl (lv_room (Nat.le_of_ble_eq_true rfl)) dGraph_findForerunners_35 ⟨Nat.le_of_ble_eq_true rfl, Nat.le_of_ble_eq_true rfl⟩) hP hD hS hA [] [0, 1, 2, 3, 4] rfl rfl rfl rfl [0, 1, 2, 3, 4] rfl (fun _ => rfl) (fun r35 u H locs hw hP hD hS => ?_)
        obtain ⟨r35, rfl, hw⟩ := hw
        have hP : va_P D vwCl (wdGraph_findForerunners cA ad N yes no orderSize reached forerunners_L22) H := hP
        have hD : va_D A (wdGraph_findForerunners cA ad N yes no orderSize reached forerunners_L22) := hD
        obtain ⟨J50, hJ50, hw⟩ := hw
        have hj50 : ∀ (t50_0 : Int32) (ls : Array Slot) (H : Heap) (locs : List Loc), lv_has ls 5 [(0, .ref (ad 11)), (1, .ref (ad 1)), (2, .int v2_L22)] → va_P D vwCl (wdGraph_findForerunners cA ad N yes no orderSize reached forerunners_L22) H → va_D A (wdGraph_findForerunners cA ad N yes no orderSize reached forerunners_L22) → va_S A s.heap H locs → J50 t50_0 → W p l e (headSpec (Cond.code yGraph_findForerunners cGraph_findForerunners 5 none :: xW) rmGraph_findForerunners).room s m ([.ref (ad 11), .ref (ad 1)] : List Value).toArray below meth c H locs 0 0 Q (F0 m 50 ls [.int t50_0]) := by
          intro t50_0 ls H locs hl hP hD hS hw
          have hw := hJ50 t50_0 hw
          refine lv_istore_n (lv' := [(3, .int t50_0), (0, .ref (ad 11)), (1, .ref (ad 1)), (2, .int v2_L22)]) hx hb dGraph_findForerunners_50 rfl hl (by decide) rfl (fun ls hl => ?_)
          refine lv_iconst (v := 0) hx hb dGraph_findForerunners_51 (by decide) ?_
          refine lv_istore (lv' := [(4, .int 0), (3, .int t50_0), (0, .ref (ad 11)), (1, .ref (ad 1)), (2, .int v2_L22)]) hx hb dGraph_findForerunners_52 hl (by decide) rfl (fun ls hl => ?_)
          obtain ⟨k54, hw⟩ := hw
          have hlp54 : ∀ (K91 : Int32 → (Nat → Int32) → Prop), (∀ (v4_x91 : Int32) (forerunners_x91 : Nat → Int32) (ls : Array Slot) (H : Heap) (locs : List Loc), lv_has ls 5 [(0, .ref (ad 11)), (1, .ref (ad 1)), (2, .int v2_L22), (3, .int t50_0), (4, .int v4_x91)] → va_P D vwCl (wdGraph_findForerunners cA ad N yes no orderSize reached forerunners_x91) H → va_D A (wdGraph_findForerunners cA ad N yes no orderSize reached forerunners_x91) → va_S A s.heap H locs → K91 v4_x91 forerunners_x91 → W p l e (headSpec (Cond.code yGraph_findForerunners cGraph_findForerunners 5 none :: xW) rmGraph_findForerunners).room s m ([.ref (ad 11), .ref (ad 1)] : List Value).toArray below meth c H locs 0 0 Q (F0 m 91 ls [])) → ∀ (k : Nat), ∀ (v4_L54 : Int32) (forerunners_L54 : Nat → Int32) (ls : Array Slot) (H : Heap) (locs : List Loc), lv_has ls 5 [(0, .ref (ad 11)), (1, .ref (ad 1)), (2, .int v2_L22), (3, .int t50_0), (4, .int v4_L54)] → va_P D vwCl (wdGraph_findForerunners cA ad N yes no orderSize reached forerunners_L54) H → va_D A (wdGraph_findForerunners cA ad N yes no orderSize reached forerunners_L54) → va_S A s.heap H locs → lpGraph_findForerunners_54 N v2_L22 t50_0 K91 k v4_L54 forerunners_L54 → W p l e (headSpec (Cond.code yGraph_findForerunners cGraph_findForerunners 5 none :: xW) rmGraph_findForerunners).room s m ([.ref (ad 11), .ref (ad 1)] : List Value).toArray below meth c H locs 0 0 Q (F0 m 54 ls []) := by
            intro K91 hK91 k
            induction k with
            | zero => intro v4_L54 forerunners_L54 ls H locs hl hP hD hS hw; exact False.elim hw
            | succ k ih =>
              intro v4_L54 forerunners_L54 ls H locs hl hP hD hS hw
              refine lv_iload hx hb dGraph_findForerunners_54 (lv_at hl 4 rfl) ?_
              refine lv_aload_n hx hb dGraph_findForerunners_56 rfl (lv_at hl 0 rfl) ?_
              refine va_get (D := D) (ci := 2) (v := .int (nI N)) (C := "OnceNamed$Graph") (T := TX2) (N := 9) hx hb hts (fun w h => List.mem_cons_of_mem _ (inX2 w h)) hown hK hP 3 rfl rfl 0 (by decide) (hts _ (List.mem_cons_of_mem _ kw_82)) (fun _ h9 => h9) rfl dGraph_findForerunners_57 ?_
              refine lv_icmp_ge (tgt := 91) hx hb dGraph_findForerunners_60 rfl (fun hc => ?_) (fun hc => ?_)
              · have hw := hw.1 hc
                exact hK91 v4_L54 forerunners_L54 _ _ _ (lv_sub hl [0, 1, 2, 3, 4] rfl) hP hD hS hw
              · have hw := hw.2 hc
                refine lv_iload_n hx hb dGraph_findForerunners_63 rfl (lv_at hl 3 rfl) ?_
                refine lv_iload hx hb dGraph_findForerunners_64 (lv_at hl 4 rfl) ?_
                refine xci (va_runSN ⟨hx, hb, hml, hown, hts⟩ (ktOn_has l D cA ad N _ t50_0 v4_L54 _ hw) ⟨va_cnB 2 hts (goodB kw_239) rfl rfl rfl hN.1 (hts _ (List.mem_cons_of_mem _ kw_1)) (by decide +kernel) ⟨Nat.le_of_ble_eq_true rfl, Nat.le_of_ble_eq_true rfl⟩, hts _ (List.mem_cons_of_mem _ kw_238), trivial⟩ (xpreS hK hP hD hN [] rfl rfl) rfl rfl hl.1 rfl (lv_room (Nat.le_of_ble_eq_true rfl)) dGraph_findForerunners_66 ⟨Nat.le_of_ble_eq_true rfl, Nat.le_of_ble_eq_true rfl⟩) hP hD hS hA [] [0, 1, 2, 3, 4] rfl rfl rfl rfl [0, 1, 2, 3, 4] rfl (fun _ => rfl) (fun r66 u H locs hw hP hD hS => ?_)
                obtain ⟨r66, rfl, hw⟩ := hw
                have hP : va_P D vwCl (wdGraph_findForerunners cA ad N yes no orderSize reached forerunners_L54) H := hP
                have hD : va_D A (wdGraph_findForerunners cA ad N yes no orderSize reached forerunners_L54) := hD
                refine lv_if_eq (tgt := 85) hx hb dGraph_findForerunners_69 rfl (fun hc => ?_) (fun hc => ?_)
                · have hw := hw.1 (bI_0 hc)
                  refine lv_iinc (k := 4) (v := (v4_L54 + 1)) (lv' := [(4, .int (v4_L54 + 1)), (0, .ref (ad 11)), (1, .ref (ad 1)), (2, .int v2_L22), (3, .int t50_0)]) hx hb dGraph_findForerunners_85 hl rfl rfl (by decide) rfl (fun ls hl => ?_)
                  refine lv_goto (tgt := 54) hx hb dGraph_findForerunners_88 rfl ?_
                  exact ih (v4_L54 + 1) forerunners_L54 _ _ _ (lv_sub hl [1, 2, 3, 4, 0] rfl) hP hD hS hw
                · have hw := hw.2 (bI_1 hc)
                  refine lv_aload_n hx hb dGraph_findForerunners_72 rfl (lv_at hl 0 rfl) ?_
                  refine va_get (D := D) (ci := 2) (v := .ref (ad 12)) (C := "OnceNamed$Graph") (T := TX2) (N := 9) hx hb hts (fun w h => List.mem_cons_of_mem _ (inX2 w h)) hown hK hP 3 rfl rfl 1 (by decide) (hts _ (List.mem_cons_of_mem _ kw_83)) (fun _ h9 => h9) rfl dGraph_findForerunners_73 ?_
                  refine lv_iload hx hb dGraph_findForerunners_76 (lv_at hl 4 rfl) ?_
                  refine lv_dup2_11 hx hb dGraph_findForerunners_78 rfl rfl ?_
                  have ho := hw.1
                  have hw := hw.2
                  refine va_iald hx hb hK hP 4 0 rfl rfl ho dGraph_findForerunners_79 ?_
                  refine lv_iconst (v := 1) hx hb dGraph_findForerunners_80 (by decide) ?_
                  refine lv_iload_n hx hb dGraph_findForerunners_81 rfl (lv_at hl 2 rfl) ?_
                  refine lv_ishl hx hb dGraph_findForerunners_82 ?_
                  refine lv_ior hx hb dGraph_findForerunners_83 ?_
                  have ho := hw.1
                  have hw := hw.2
                  refine va_iast hx hb hK hP hD hS 4 0 rfl rfl ho dGraph_findForerunners_84 (fun H locs hP hD hS => ?_)
                  have hP : va_P D vwCl (wdGraph_findForerunners cA ad N yes no orderSize reached (upd forerunners_L54 (Int32.toNatClampNeg v4_L54) ((forerunners_L54 (Int32.toNatClampNeg v4_L54)) ||| ((1 : Int32) <<< (v2_L22 &&& 31))))) H := hP
                  have hD : va_D A (wdGraph_findForerunners cA ad N yes no orderSize reached (upd forerunners_L54 (Int32.toNatClampNeg v4_L54) ((forerunners_L54 (Int32.toNatClampNeg v4_L54)) ||| ((1 : Int32) <<< (v2_L22 &&& 31))))) := hD
                  refine lv_iinc (k := 4) (v := (v4_L54 + 1)) (lv' := [(4, .int (v4_L54 + 1)), (0, .ref (ad 11)), (1, .ref (ad 1)), (2, .int v2_L22), (3, .int t50_0)]) hx hb dGraph_findForerunners_85 hl rfl rfl (by decide) rfl (fun ls hl => ?_)
                  refine lv_goto (tgt := 54) hx hb dGraph_findForerunners_88 rfl ?_
                  exact ih (v4_L54 + 1) (upd forerunners_L54 (Int32.toNatClampNeg v4_L54) ((forerunners_L54 (Int32.toNatClampNeg v4_L54)) ||| ((1 : Int32) <<< (v2_L22 &&& 31)))) _ _ _ (lv_sub hl [1, 2, 3, 4, 0] rfl) hP hD hS hw
          refine hlp54 _ ?_ k54 0 forerunners_L22 _ _ _ (lv_sub hl [2, 3, 4, 1, 0] rfl) hP hD hS hw
          intro v4_x91 forerunners_x91 ls H locs hl hP hD hS hw
          try dsimp only at hw
          refine lv_iinc (k := 2) (v := (v2_L22 + 1)) (lv' := [(2, .int (v2_L22 + 1)), (0, .ref (ad 11)), (1, .ref (ad 1)), (3, .int t50_0), (4, .int v4_x91)]) hx hb dGraph_findForerunners_91 hl rfl rfl (by decide) rfl (fun ls hl => ?_)
          refine lv_goto (tgt := 22) hx hb dGraph_findForerunners_94 rfl ?_
          exact ih (v2_L22 + 1) forerunners_x91 _ _ _ (lv_sub hl [1, 2, 0] rfl) hP hD hS hw
        refine lv_if_eq (tgt := 49) hx hb dGraph_findForerunners_38 rfl (fun hc => ?_) (fun hc => ?_)
        · have hw := hw.1 (bI_0 hc)
          refine lv_iconst (v := 0) hx hb dGraph_findForerunners_49 (by decide) ?_
          exact hj50 0 _ _ _ (lv_sub hl [0, 1, 2] rfl) hP hD hS hw
        · have hw := hw.2 (bI_1 hc)
          refine lv_aload_n hx hb dGraph_findForerunners_41 rfl (lv_at hl 1 rfl) ?_
          refine lv_iload_n hx hb dGraph_findForerunners_42 rfl (lv_at hl 2 rfl) ?_
          refine xci (va_runV ⟨hx, hb, hml, hown, hts⟩ (ktProgram_followers l D cA ad N _ yes no v2_L22 _ hw) (cwV 1 hts (goodV kw_240 kw_241 kw_242 kw_3 kw_243) rfl rfl rfl (by decide +kernel) ⟨Nat.le_of_ble_eq_true rfl, Nat.le_of_ble_eq_true rfl⟩) (xpreV hK hP hD hN [0, 1, 2] rfl rfl 0 rfl rfl) rfl rfl hl.1 rfl (lv_room (Nat.le_of_ble_eq_true rfl)) dGraph_findForerunners_43 ⟨Nat.le_of_ble_eq_true rfl, Nat.le_of_ble_eq_true rfl⟩) hP hD hS hA [0, 1, 2] [3, 4] rfl rfl rfl rfl [2, 3, 4, 0, 1] rfl (fun _ => rfl) (fun r43 u H locs hw hP hD hS => ?_)
          have hP : va_P D vwCl (wdGraph_findForerunners cA ad N yes no orderSize reached forerunners_L22) H := hP
          have hD : va_D A (wdGraph_findForerunners cA ad N yes no orderSize reached forerunners_L22) := hD
          refine lv_goto (tgt := 50) hx hb dGraph_findForerunners_46 rfl ?_
          exact hj50 r43 _ _ _ (lv_sub hl [0, 1, 2] rfl) hP hD hS hw
  refine hlp22 k22 0 (upd forerunners_5 (Int32.toNatClampNeg 0) ((1 : Int32) <<< ((nI N) &&& 31))) _ _ _ (lv_sub hl [1, 2, 0] rfl) hP hD hS hw
abbrev wdGraph_findOrder (cA : ClassId) (ad : Nat → Nat) (N : Nat) (orderSize : Int32) (reached : Int32) (parents : Nat → Int32) (order : Nat → Int32) (waiting : Nat → Int32) : va_W := [((ad 11), .inr (2, [.int (nI N), .ref (ad 12), .ref (ad 13), .ref (ad 14), .ref (ad 15), .ref (ad 16), .ref (ad 17), .int orderSize, .int reached])), ((ad 15), .inl (cA, N, .inl parents)), ((ad 16), .inl (cA, N, .inl order)), ((ad 17), .inl (cA, N, .inl waiting))]
abbrev qcGraph_findOrder (D : va_G) (cA : ClassId) (ad : Nat → Nat) (N : Nat) (orderSize : Int32) (reached : Int32) (parents : Nat → Int32) (order : Nat → Int32) (waiting : Nat → Int32) (post : Int32 → (Nat → Int32) → (Nat → Int32) → Prop) (A : Nat → Prop) : Array Value → State → Outcome → State → Prop := va_Qv (S := (Int32) × (Nat → Int32) × (Nat → Int32)) (fun u => post u.1 u.2.1 u.2.2) (fun u t => xB D [(cA, .int)] A (wdGraph_findOrder cA ad N u.1 reached parents u.2.1 u.2.2) t) A
abbrev rmGraph_findOrder : Room := { frames := 0, cells := 0, slots := 0, locals := 0 }
set_option maxHeartbeats 4000000 in
set_option maxRecDepth 100000 in
theorem ktGraph_findOrder (l : Launch) (D : va_G) (cA : ClassId) (ad : Nat → Nat) (N : Nat) (sz : Nat) (orderSize : Int32) (reached : Int32) (parents : Nat → Int32) (order : Nat → Int32) (waiting : Nat → Int32)  (post : Int32 → (Nat → Int32) → (Nat → Int32) → Prop) (hw : wpGraph_findOrder N parents order waiting post) : Met l yGraph_findOrder (Cond.code yGraph_findOrder cGraph_findOrder 5 none :: xW) rmGraph_findOrder (va_Pc [.ref (ad 11)] (xPc D [(cA, .int)] (wdGraph_findOrder cA ad N orderSize reached parents order waiting) sz)) (qcGraph_findOrder D cA ad N orderSize reached parents order waiting post (va_A (wdGraph_findOrder cA ad N orderSize reached parents order waiting) sz)) 0 0 (va_A (wdGraph_findOrder cA ad N orderSize reached parents order waiting) sz) := by
  refine Met.ofW (cc := cGraph_findOrder) (maxL := 5) (ret := none) (by decide) rfl ?_
  intro p e s m args below meth c s₁ B hml hv
  obtain ⟨rfl, hsz, hP, hK, hD0, hN⟩ := hv
  have hx := B.exec
  have hb := B.bytes
  have hr := B.returns
  have hts := atoms_spec (ws := (Cond.code yGraph_findOrder cGraph_findOrder 5 none :: xW)) B.pre
  have hown : s.vm.findClass "OnceNamed$Graph" = some m.cls := findClass_of_methodNamed B.named
  have hlocks := B.notSynchronized
  subst hsz
  have hD := hD0.self (sz := s.heap.size)
  generalize hAe : va_A (wdGraph_findOrder cA ad N orderSize reached parents order waiting) s.heap.size = A at hD ⊢
  have hA : ∀ q : Nat, s.heap.size ≤ q → A q := fun q h => by rw [← hAe]; exact Or.inr h
  have hS : va_S A s.heap s.heap [] := va_S.rf
  have hend : ∀ (u0 : Int32) (u1 : Nat → Int32) (u2 : Nat → Int32) (H : Heap) (locs : List Loc) (pc : Nat) (ls : Array Slot), decode cGraph_findOrder pc = .ok (.return_, 1) → va_P D vwCl (wdGraph_findOrder cA ad N u0 reached parents u1 u2) H → va_D A (wdGraph_findOrder cA ad N u0 reached parents u1 u2) → va_S A s.heap H locs → post u0 u1 u2 → W p l e (headSpec (Cond.code yGraph_findOrder cGraph_findOrder 5 none :: xW) rmGraph_findOrder).room s m ([.ref (ad 11)] : List Value).toArray below meth c H locs 0 0 (MQ below (qcGraph_findOrder D cA ad N orderSize reached parents order waiting post A) ([.ref (ad 11)] : List Value).toArray s 0 0 A) (F0 m pc ls []) := fun u0 u1 u2 H locs pc ls hd hP hD hS hw => W.vret hx hb hr (fun t ht hW => ⟨⟨(u0, u1, u2), rfl, hw, ⟨by rw [ht]; exact hP, va_K.moved hW.alike hK, hD⟩⟩, hS.F ht⟩) hS.2.2 hd
  generalize hQ : MQ below (qcGraph_findOrder D cA ad N orderSize reached parents order waiting post A) ([.ref (ad 11)] : List Value).toArray s 0 0 A = Q at hend ⊢
  have hl := lv_entry ([.ref (ad 11)]) (n := 5) (Nat.le_of_ble_eq_true rfl)
  rw [lg_entry_eq]
  generalize (lg_sl ([.ref (ad 11)]) ++ List.replicate (5 - (lg_sl ([.ref (ad 11)])).length) Slot.unset).toArray = ls at hl ⊢
  have hl : lv_has ls 5 [(0, .ref (ad 11))] := hl
  unfold wpGraph_findOrder at hw
  refine lv_aload_n hx hb dGraph_findOrder_0 rfl (lv_at hl 0 rfl) ?_
  refine lv_iconst (v := 0) hx hb dGraph_findOrder_1 (by decide) ?_
  refine va_put (D := D) (ci := 2) (v := .int 0) (ty := .int) (C := "OnceNamed$Graph") (T := TX2) (N := 9) hx hb hts (fun w h => List.mem_cons_of_mem _ (inX2 w h)) tyX2 tyX2_ok nmX2 hown hK hP hD hS 0 rfl rfl 7 (by decide) (hts _ (List.mem_cons_of_mem _ kw_89)) (fun _ h9 => h9) rfl (by decide +kernel) rfl rfl (Nat.le_of_ble_eq_true rfl) dGraph_findOrder_2 (fun H locs hP hD hS => ?_)
  have hP : va_P D vwCl (wdGraph_findOrder cA ad N 0 reached parents order waiting) H := hP
  have hD : va_D A (wdGraph_findOrder cA ad N 0 reached parents order waiting) := hD
  refine lv_aload_n hx hb dGraph_findOrder_5 rfl (lv_at hl 0 rfl) ?_
  refine va_get (D := D) (ci := 2) (v := .ref (ad 17)) (C := "OnceNamed$Graph") (T := TX2) (N := 9) hx hb hts (fun w h => List.mem_cons_of_mem _ (inX2 w h)) hown hK hP 0 rfl rfl 6 (by decide) (hts _ (List.mem_cons_of_mem _ kw_88)) (fun _ h9 => h9) rfl dGraph_findOrder_6 ?_
  refine lv_iconst (v := 0) hx hb dGraph_findOrder_9 (by decide) ?_
  refine lv_iconst (v := 0) hx hb dGraph_findOrder_10 (by decide) ?_
  have ho := hw.1
  have hw := hw.2
  refine va_iast hx hb hK hP hD hS 3 0 rfl rfl ho dGraph_findOrder_11 (fun H locs hP hD hS => ?_)
  have hP : va_P D vwCl (wdGraph_findOrder cA ad N 0 reached parents order (upd waiting (Int32.toNatClampNeg 0) 0)) H := hP
  have hD : va_D A (wdGraph_findOrder cA ad N 0 reached parents order (upd waiting (Int32.toNatClampNeg 0) 0)) := hD
  refine lv_iconst (v := 1) hx hb dGraph_findOrder_12 (by decide) ?_
  refine lv_istore_n (lv' := [(1, .int 1), (0, .ref (ad 11))]) hx hb dGraph_findOrder_13 rfl hl (by decide) rfl (fun ls hl => ?_)
  refine lv_iconst (v := 0) hx hb dGraph_findOrder_14 (by decide) ?_
  refine lv_istore_n (lv' := [(2, .int 0), (1, .int 1), (0, .ref (ad 11))]) hx hb dGraph_findOrder_15 rfl hl (by decide) rfl (fun ls hl => ?_)
  obtain ⟨k16, hw⟩ := hw
  have hlp16 : ∀ (k : Nat), ∀ (v1_L16 : Int32) (v2_L16 : Int32) (orderSize_L16 : Int32) (order_L16 : Nat → Int32) (waiting_L16 : Nat → Int32) (ls : Array Slot) (H : Heap) (locs : List Loc), lv_has ls 5 [(0, .ref (ad 11)), (1, .int v1_L16), (2, .int v2_L16)] → va_P D vwCl (wdGraph_findOrder cA ad N orderSize_L16 reached parents order_L16 waiting_L16) H → va_D A (wdGraph_findOrder cA ad N orderSize_L16 reached parents order_L16 waiting_L16) → va_S A s.heap H locs → lpGraph_findOrder_16 N parents post k v1_L16 v2_L16 orderSize_L16 order_L16 waiting_L16 → W p l e (headSpec (Cond.code yGraph_findOrder cGraph_findOrder 5 none :: xW) rmGraph_findOrder).room s m ([.ref (ad 11)] : List Value).toArray below meth c H locs 0 0 Q (F0 m 16 ls []) := by
    intro k
    induction k with
    | zero => intro v1_L16 v2_L16 orderSize_L16 order_L16 waiting_L16 ls H locs hl hP hD hS hw; exact False.elim hw
    | succ k ih =>
      intro v1_L16 v2_L16 orderSize_L16 order_L16 waiting_L16 ls H locs hl hP hD hS hw
      refine lv_iload_n hx hb dGraph_findOrder_16 rfl (lv_at hl 2 rfl) ?_
      refine lv_aload_n hx hb dGraph_findOrder_17 rfl (lv_at hl 0 rfl) ?_
      refine va_get (D := D) (ci := 2) (v := .int (nI N)) (C := "OnceNamed$Graph") (T := TX2) (N := 9) hx hb hts (fun w h => List.mem_cons_of_mem _ (inX2 w h)) hown hK hP 0 rfl rfl 0 (by decide) (hts _ (List.mem_cons_of_mem _ kw_82)) (fun _ h9 => h9) rfl dGraph_findOrder_18 ?_
      refine lv_icmp_ge (tgt := 105) hx hb dGraph_findOrder_21 rfl (fun hc => ?_) (fun hc => ?_)
      · have hw := hw.1 hc
        exact hend orderSize_L16 order_L16 waiting_L16 _ _ _ _ dGraph_findOrder_105 hP hD hS hw
      · have hw := hw.2 hc
        refine lv_iload_n hx hb dGraph_findOrder_24 rfl (lv_at hl 1 rfl) ?_
        refine lv_if_le (tgt := 105) hx hb dGraph_findOrder_25 rfl (fun hc => ?_) (fun hc => ?_)
        · have hw := hw.1 hc
          exact hend orderSize_L16 order_L16 waiting_L16 _ _ _ _ dGraph_findOrder_105 hP hD hS hw
        · have hw := hw.2 hc
          refine lv_iinc (k := 1) (v := (v1_L16 + (-1))) (lv' := [(1, .int (v1_L16 + (-1))), (0, .ref (ad 11)), (2, .int v2_L16)]) hx hb dGraph_findOrder_28 hl rfl rfl (by decide) rfl (fun ls hl => ?_)
          refine lv_aload_n hx hb dGraph_findOrder_31 rfl (lv_at hl 1 rfl) ?_
          refine va_get (D := D) (ci := 2) (v := .ref (ad 17)) (C := "OnceNamed$Graph") (T := TX2) (N := 9) hx hb hts (fun w h => List.mem_cons_of_mem _ (inX2 w h)) hown hK hP 0 rfl rfl 6 (by decide) (hts _ (List.mem_cons_of_mem _ kw_88)) (fun _ h9 => h9) rfl dGraph_findOrder_32 ?_
          refine lv_iload_n hx hb dGraph_findOrder_35 rfl (lv_at hl 0 rfl) ?_
          have ho := hw.1
          have hw := hw.2
          refine va_iald hx hb hK hP 3 0 rfl rfl ho dGraph_findOrder_36 ?_
          refine lv_topi (fun v3_37 e_v3_37 => ?_)
          have hw := hw v3_37 e_v3_37
          refine lv_istore_n (lv' := [(3, .int v3_37), (1, .int (v1_L16 + (-1))), (0, .ref (ad 11)), (2, .int v2_L16)]) hx hb dGraph_findOrder_37 rfl hl (by decide) rfl (fun ls hl => ?_)
          refine lv_aload_n hx hb dGraph_findOrder_38 rfl (lv_at hl 2 rfl) ?_
          refine va_get (D := D) (ci := 2) (v := .ref (ad 16)) (C := "OnceNamed$Graph") (T := TX2) (N := 9) hx hb hts (fun w h => List.mem_cons_of_mem _ (inX2 w h)) hown hK hP 0 rfl rfl 5 (by decide) (hts _ (List.mem_cons_of_mem _ kw_87)) (fun _ h9 => h9) rfl dGraph_findOrder_39 ?_
          refine lv_aload_n hx hb dGraph_findOrder_42 rfl (lv_at hl 2 rfl) ?_
          refine va_get (D := D) (ci := 2) (v := .int orderSize_L16) (C := "OnceNamed$Graph") (T := TX2) (N := 9) hx hb hts (fun w h => List.mem_cons_of_mem _ (inX2 w h)) hown hK hP 0 rfl rfl 7 (by decide) (hts _ (List.mem_cons_of_mem _ kw_89)) (fun _ h9 => h9) rfl dGraph_findOrder_43 ?_
          refine lv_iload_n hx hb dGraph_findOrder_46 rfl (lv_at hl 0 rfl) ?_
          have ho := hw.1
          have hw := hw.2
          refine va_iast hx hb hK hP hD hS 2 0 rfl rfl ho dGraph_findOrder_47 (fun H locs hP hD hS => ?_)
          have hP : va_P D vwCl (wdGraph_findOrder cA ad N orderSize_L16 reached parents (upd order_L16 (Int32.toNatClampNeg orderSize_L16) v3_37) waiting_L16) H := hP
          have hD : va_D A (wdGraph_findOrder cA ad N orderSize_L16 reached parents (upd order_L16 (Int32.toNatClampNeg orderSize_L16) v3_37) waiting_L16) := hD
          refine lv_aload_n hx hb dGraph_findOrder_48 rfl (lv_at hl 2 rfl) ?_
          refine lv_dup hx hb dGraph_findOrder_49 rfl ?_
          refine va_get (D := D) (ci := 2) (v := .int orderSize_L16) (C := "OnceNamed$Graph") (T := TX2) (N := 9) hx hb hts (fun w h => List.mem_cons_of_mem _ (inX2 w h)) hown hK hP 0 rfl rfl 7 (by decide) (hts _ (List.mem_cons_of_mem _ kw_89)) (fun _ h9 => h9) rfl dGraph_findOrder_50 ?_
          refine lv_iconst (v := 1) hx hb dGraph_findOrder_53 (by decide) ?_
          refine lv_iadd hx hb dGraph_findOrder_54 ?_
          refine va_put (D := D) (ci := 2) (v := .int (orderSize_L16 + 1)) (ty := .int) (C := "OnceNamed$Graph") (T := TX2) (N := 9) hx hb hts (fun w h => List.mem_cons_of_mem _ (inX2 w h)) tyX2 tyX2_ok nmX2 hown hK hP hD hS 0 rfl rfl 7 (by decide) (hts _ (List.mem_cons_of_mem _ kw_89)) (fun _ h9 => h9) rfl (by decide +kernel) rfl rfl (Nat.le_of_ble_eq_true rfl) dGraph_findOrder_55 (fun H locs hP hD hS => ?_)
          have hP : va_P D vwCl (wdGraph_findOrder cA ad N (orderSize_L16 + 1) reached parents (upd order_L16 (Int32.toNatClampNeg orderSize_L16) v3_37) waiting_L16) H := hP
          have hD : va_D A (wdGraph_findOrder cA ad N (orderSize_L16 + 1) reached parents (upd order_L16 (Int32.toNatClampNeg orderSize_L16) v3_37) waiting_L16) := hD
          refine lv_aload_n hx hb dGraph_findOrder_58 rfl (lv_at hl 2 rfl) ?_
          refine va_get (D := D) (ci := 2) (v := .int (nI N)) (C := "OnceNamed$Graph") (T := TX2) (N := 9) hx hb hts (fun w h => List.mem_cons_of_mem _ (inX2 w h)) hown hK hP 0 rfl rfl 0 (by decide) (hts _ (List.mem_cons_of_mem _ kw_82)) (fun _ h9 => h9) rfl dGraph_findOrder_59 ?_
          refine lv_iconst (v := 1) hx hb dGraph_findOrder_62 (by decide) ?_
          refine lv_isub hx hb dGraph_findOrder_63 ?_
          refine lv_topi (fun v4_64 e_v4_64 => ?_)
          have hw := hw v4_64 e_v4_64
          refine lv_istore (lv' := [(4, .int v4_64), (3, .int v3_37), (1, .int (v1_L16 + (-1))), (0, .ref (ad 11)), (2, .int v2_L16)]) hx hb dGraph_findOrder_64 hl (by decide) rfl (fun ls hl => ?_)
          obtain ⟨k66, hw⟩ := hw
          have hlp66 : ∀ (K99 : Int32 → Int32 → (Nat → Int32) → Prop), (∀ (v1_x99 : Int32) (v4_x99 : Int32) (waiting_x99 : Nat → Int32) (ls : Array Slot) (H : Heap) (locs : List Loc), lv_has ls 5 [(0, .ref (ad 11)), (1, .int v1_x99), (2, .int v2_L16), (3, .int v3_37), (4, .int v4_x99)] → va_P D vwCl (wdGraph_findOrder cA ad N (orderSize_L16 + 1) reached parents (upd order_L16 (Int32.toNatClampNeg orderSize_L16) v3_37) waiting_x99) H → va_D A (wdGraph_findOrder cA ad N (orderSize_L16 + 1) reached parents (upd order_L16 (Int32.toNatClampNeg orderSize_L16) v3_37) waiting_x99) → va_S A s.heap H locs → K99 v1_x99 v4_x99 waiting_x99 → W p l e (headSpec (Cond.code yGraph_findOrder cGraph_findOrder 5 none :: xW) rmGraph_findOrder).room s m ([.ref (ad 11)] : List Value).toArray below meth c H locs 0 0 Q (F0 m 99 ls [])) → ∀ (k : Nat), ∀ (v1_L66 : Int32) (v4_L66 : Int32) (waiting_L66 : Nat → Int32) (ls : Array Slot) (H : Heap) (locs : List Loc), lv_has ls 5 [(0, .ref (ad 11)), (1, .int v1_L66), (2, .int v2_L16), (3, .int v3_37), (4, .int v4_L66)] → va_P D vwCl (wdGraph_findOrder cA ad N (orderSize_L16 + 1) reached parents (upd order_L16 (Int32.toNatClampNeg orderSize_L16) v3_37) waiting_L66) H → va_D A (wdGraph_findOrder cA ad N (orderSize_L16 + 1) reached parents (upd order_L16 (Int32.toNatClampNeg orderSize_L16) v3_37) waiting_L66) → va_S A s.heap H locs → lpGraph_findOrder_66 N v3_37 parents K99 k v1_L66 v4_L66 waiting_L66 → W p l e (headSpec (Cond.code yGraph_findOrder cGraph_findOrder 5 none :: xW) rmGraph_findOrder).room s m ([.ref (ad 11)] : List Value).toArray below meth c H locs 0 0 Q (F0 m 66 ls []) := by
            intro K99 hK99 k
            induction k with
            | zero => intro v1_L66 v4_L66 waiting_L66 ls H locs hl hP hD hS hw; exact False.elim hw
            | succ k ih =>
              intro v1_L66 v4_L66 waiting_L66 ls H locs hl hP hD hS hw
              refine lv_iload hx hb dGraph_findOrder_66 (lv_at hl 4 rfl) ?_
              refine lv_if_lt (tgt := 99) hx hb dGraph_findOrder_68 rfl (fun hc => ?_) (fun hc => ?_)
              · have hw := hw.1 hc
                exact hK99 v1_L66 v4_L66 waiting_L66 _ _ _ (lv_sub hl [0, 1, 2, 3, 4] rfl) hP hD hS hw
              · have hw := hw.2 hc
                refine lv_aload_n hx hb dGraph_findOrder_71 rfl (lv_at hl 0 rfl) ?_
                refine va_get (D := D) (ci := 2) (v := .ref (ad 15)) (C := "OnceNamed$Graph") (T := TX2) (N := 9) hx hb hts (fun w h => List.mem_cons_of_mem _ (inX2 w h)) hown hK hP 0 rfl rfl 4 (by decide) (hts _ (List.mem_cons_of_mem _ kw_86)) (fun _ h9 => h9) rfl dGraph_findOrder_72 ?_
                refine lv_iload hx hb dGraph_findOrder_75 (lv_at hl 4 rfl) ?_
                have ho := hw.1
                have hw := hw.2
                refine va_iald hx hb hK hP 1 0 rfl rfl ho dGraph_findOrder_77 ?_
                refine lv_iload_n hx hb dGraph_findOrder_78 rfl (lv_at hl 3 rfl) ?_
                refine lv_icmp_ne (tgt := 93) hx hb dGraph_findOrder_79 rfl (fun hc => ?_) (fun hc => ?_)
                · have hw := hw.1 hc
                  refine lv_iinc (k := 4) (v := (v4_L66 + (-1))) (lv' := [(4, .int (v4_L66 + (-1))), (0, .ref (ad 11)), (1, .int v1_L66), (2, .int v2_L16), (3, .int v3_37)]) hx hb dGraph_findOrder_93 hl rfl rfl (by decide) rfl (fun ls hl => ?_)
                  refine lv_goto (tgt := 66) hx hb dGraph_findOrder_96 rfl ?_
                  exact ih v1_L66 (v4_L66 + (-1)) waiting_L66 _ _ _ (lv_sub hl [1, 2, 3, 4, 0] rfl) hP hD hS hw
                · have hw := hw.2 hc
                  refine lv_aload_n hx hb dGraph_findOrder_82 rfl (lv_at hl 0 rfl) ?_
                  refine va_get (D := D) (ci := 2) (v := .ref (ad 17)) (C := "OnceNamed$Graph") (T := TX2) (N := 9) hx hb hts (fun w h => List.mem_cons_of_mem _ (inX2 w h)) hown hK hP 0 rfl rfl 6 (by decide) (hts _ (List.mem_cons_of_mem _ kw_88)) (fun _ h9 => h9) rfl dGraph_findOrder_83 ?_
                  refine lv_iload_n hx hb dGraph_findOrder_86 rfl (lv_at hl 1 rfl) ?_
                  refine lv_iload hx hb dGraph_findOrder_87 (lv_at hl 4 rfl) ?_
                  have ho := hw.1
                  have hw := hw.2
                  refine va_iast hx hb hK hP hD hS 3 0 rfl rfl ho dGraph_findOrder_89 (fun H locs hP hD hS => ?_)
                  have hP : va_P D vwCl (wdGraph_findOrder cA ad N (orderSize_L16 + 1) reached parents (upd order_L16 (Int32.toNatClampNeg orderSize_L16) v3_37) (upd waiting_L66 (Int32.toNatClampNeg v1_L66) v4_L66)) H := hP
                  have hD : va_D A (wdGraph_findOrder cA ad N (orderSize_L16 + 1) reached parents (upd order_L16 (Int32.toNatClampNeg orderSize_L16) v3_37) (upd waiting_L66 (Int32.toNatClampNeg v1_L66) v4_L66)) := hD
                  refine lv_iinc (k := 1) (v := (v1_L66 + 1)) (lv' := [(1, .int (v1_L66 + 1)), (0, .ref (ad 11)), (2, .int v2_L16), (3, .int v3_37), (4, .int v4_L66)]) hx hb dGraph_findOrder_90 hl rfl rfl (by decide) rfl (fun ls hl => ?_)
                  refine lv_iinc (k := 4) (v := (v4_L66 + (-1))) (lv' := [(4, .int (v4_L66 + (-1))), (1, .int (v1_L66 + 1)), (0, .ref (ad 11)), (2, .int v2_L16), (3, .int v3_37)]) hx hb dGraph_findOrder_93 hl rfl rfl (by decide) rfl (fun ls hl => ?_)
                  refine lv_goto (tgt := 66) hx hb dGraph_findOrder_96 rfl ?_
                  exact ih (v1_L66 + 1) (v4_L66 + (-1)) (upd waiting_L66 (Int32.toNatClampNeg v1_L66) v4_L66) _ _ _ (lv_sub hl [2, 1, 3, 4, 0] rfl) hP hD hS hw
          refine hlp66 _ ?_ k66 (v1_L16 + (-1)) v4_64 waiting_L16 _ _ _ (lv_sub hl [3, 2, 4, 1, 0] rfl) hP hD hS hw
          intro v1_x99 v4_x99 waiting_x99 ls H locs hl hP hD hS hw
          try dsimp only at hw
          refine lv_iinc (k := 2) (v := (v2_L16 + 1)) (lv' := [(2, .int (v2_L16 + 1)), (0, .ref (ad 11)), (1, .int v1_x99), (3, .int v3_37), (4, .int v4_x99)]) hx hb dGraph_findOrder_99 hl rfl rfl (by decide) rfl (fun ls hl => ?_)
          refine lv_goto (tgt := 16) hx hb dGraph_findOrder_102 rfl ?_
          exact ih v1_x99 (v2_L16 + 1) (orderSize_L16 + 1) (upd order_L16 (Int32.toNatClampNeg orderSize_L16) v3_37) waiting_x99 _ _ _ (lv_sub hl [1, 2, 0] rfl) hP hD hS hw
  refine hlp16 k16 1 0 0 order (upd waiting (Int32.toNatClampNeg 0) 0) _ _ _ (lv_sub hl [2, 1, 0] rfl) hP hD hS hw
abbrev wdGraph_findFrontier (cA : ClassId) (ad : Nat → Nat) (N : Nat) (orderSize : Int32) (reached : Int32) (forerunners : Nat → Int32) (blw : Nat → Int32) : va_W := [((ad 11), .inr (2, [.int (nI N), .ref (ad 12), .ref (ad 13), .ref (ad 14), .ref (ad 15), .ref (ad 16), .ref (ad 17), .int orderSize, .int reached])), ((ad 12), .inl (cA, N, .inl forerunners)), ((ad 13), .inl (cA, N, .inl blw))]
abbrev qcGraph_findFrontier (D : va_G) (cA : ClassId) (ad : Nat → Nat) (N : Nat) (orderSize : Int32) (reached : Int32) (forerunners : Nat → Int32) (blw : Nat → Int32) (post : Int32 → Prop) (A : Nat → Prop) : Array Value → State → Outcome → State → Prop := va_Qi (S := Unit) (fun r u => post r ) (fun u t => xB D [(cA, .int)] A (wdGraph_findFrontier cA ad N orderSize reached forerunners blw) t) A
abbrev rmGraph_findFrontier : Room := { frames := 1, cells := 0, slots := 0, locals := 21 }
set_option maxHeartbeats 4000000 in
set_option maxRecDepth 100000 in
theorem ktGraph_findFrontier (l : Launch) (D : va_G) (cA : ClassId) (ad : Nat → Nat) (N : Nat) (sz : Nat) (orderSize : Int32) (reached : Int32) (forerunners : Nat → Int32) (blw : Nat → Int32) (v1 : Int32) (post : Int32 → Prop) (hw : wpGraph_findFrontier N forerunners blw v1 post) : Met l yGraph_findFrontier (Cond.code yGraph_findFrontier cGraph_findFrontier 5 (some .int) :: xW) rmGraph_findFrontier (va_Pc [.ref (ad 11), .int v1] (xPc D [(cA, .int)] (wdGraph_findFrontier cA ad N orderSize reached forerunners blw) sz)) (qcGraph_findFrontier D cA ad N orderSize reached forerunners blw post (va_A (wdGraph_findFrontier cA ad N orderSize reached forerunners blw) sz)) 0 0 (va_A (wdGraph_findFrontier cA ad N orderSize reached forerunners blw) sz) := by
  refine Met.ofW (cc := cGraph_findFrontier) (maxL := 5) (ret := (some .int)) (by decide) rfl ?_
  intro p e s m args below meth c s₁ B hml hv
  obtain ⟨rfl, hsz, hP, hK, hD0, hN⟩ := hv
  have hx := B.exec
  have hb := B.bytes
  have hr := B.returns
  have hts := atoms_spec (ws := (Cond.code yGraph_findFrontier cGraph_findFrontier 5 (some .int) :: xW)) B.pre
  have hown : s.vm.findClass "OnceNamed$Graph" = some m.cls := findClass_of_methodNamed B.named
  have hlocks := B.notSynchronized
  subst hsz
  have hD := hD0.self (sz := s.heap.size)
  generalize hAe : va_A (wdGraph_findFrontier cA ad N orderSize reached forerunners blw) s.heap.size = A at hD ⊢
  have hA : ∀ q : Nat, s.heap.size ≤ q → A q := fun q h => by rw [← hAe]; exact Or.inr h
  have hS : va_S A s.heap s.heap [] := va_S.rf
  have hend : ∀ (r : Int32)  (H : Heap) (locs : List Loc) (pc : Nat) (ls : Array Slot), decode cGraph_findFrontier pc = .ok (.ireturn, 1) → va_P D vwCl (wdGraph_findFrontier cA ad N orderSize reached forerunners blw) H → va_D A (wdGraph_findFrontier cA ad N orderSize reached forerunners blw) → va_S A s.heap H locs → post r  → W p l e (headSpec (Cond.code yGraph_findFrontier cGraph_findFrontier 5 (some .int) :: xW) rmGraph_findFrontier).room s m ([.ref (ad 11), .int v1] : List Value).toArray below meth c H locs 0 0 (MQ below (qcGraph_findFrontier D cA ad N orderSize reached forerunners blw post A) ([.ref (ad 11), .int v1] : List Value).toArray s 0 0 A) (F0 m pc ls [.int r]) := fun r  H locs pc ls hd hP hD hS hw => W.iret (v := r) hx hb hr (fun t ht hW => ⟨⟨r, (), rfl, hw, ⟨by rw [ht]; exact hP, va_K.moved hW.alike hK, hD⟩⟩, hS.F ht⟩) hS.2.2 hd
  generalize hQ : MQ below (qcGraph_findFrontier D cA ad N orderSize reached forerunners blw post A) ([.ref (ad 11), .int v1] : List Value).toArray s 0 0 A = Q at hend ⊢
  have hl := lv_entry ([.ref (ad 11), .int v1]) (n := 5) (Nat.le_of_ble_eq_true rfl)
  rw [lg_entry_eq]
  generalize (lg_sl ([.ref (ad 11), .int v1]) ++ List.replicate (5 - (lg_sl ([.ref (ad 11), .int v1])).length) Slot.unset).toArray = ls at hl ⊢
  have hl : lv_has ls 5 [(0, .ref (ad 11)), (1, .int v1)] := hl
  unfold wpGraph_findFrontier at hw
  refine lv_iconst (v := 0) hx hb dGraph_findFrontier_0 (by decide) ?_
  refine lv_istore_n (lv' := [(2, .int 0), (0, .ref (ad 11)), (1, .int v1)]) hx hb dGraph_findFrontier_1 rfl hl (by decide) rfl (fun ls hl => ?_)
  refine lv_aload_n hx hb dGraph_findFrontier_2 rfl (lv_at hl 1 rfl) ?_
  refine va_get (D := D) (ci := 2) (v := .ref (ad 13)) (C := "OnceNamed$Graph") (T := TX2) (N := 9) hx hb hts (fun w h => List.mem_cons_of_mem _ (inX2 w h)) hown hK hP 0 rfl rfl 2 (by decide) (hts _ (List.mem_cons_of_mem _ kw_84)) (fun _ h9 => h9) rfl dGraph_findFrontier_3 ?_
  refine lv_iload_n hx hb dGraph_findFrontier_6 rfl (lv_at hl 2 rfl) ?_
  have ho := hw.1
  have hw := hw.2
  refine va_iald hx hb hK hP 2 0 rfl rfl ho dGraph_findFrontier_7 ?_
  refine lv_iconst (v := 1) hx hb dGraph_findFrontier_8 (by decide) ?_
  refine lv_iload_n hx hb dGraph_findFrontier_9 rfl (lv_at hl 2 rfl) ?_
  refine lv_ishl hx hb dGraph_findFrontier_10 ?_
  refine lv_iconst (v := (-1)) hx hb dGraph_findFrontier_11 (by decide) ?_
  refine lv_ixor hx hb dGraph_findFrontier_12 ?_
  refine lv_iand hx hb dGraph_findFrontier_13 ?_
  refine lv_topi (fun v3_14 e_v3_14 => ?_)
  have hw := hw v3_14 e_v3_14
  refine lv_istore_n (lv' := [(3, .int v3_14), (2, .int 0), (0, .ref (ad 11)), (1, .int v1)]) hx hb dGraph_findFrontier_14 rfl hl (by decide) rfl (fun ls hl => ?_)
  refine lv_iconst (v := 0) hx hb dGraph_findFrontier_15 (by decide) ?_
  refine lv_istore (lv' := [(4, .int 0), (3, .int v3_14), (2, .int 0), (0, .ref (ad 11)), (1, .int v1)]) hx hb dGraph_findFrontier_16 hl (by decide) rfl (fun ls hl => ?_)
  obtain ⟨k18, hw⟩ := hw
  have hlp18 : ∀ (k : Nat), ∀ (v2_L18 : Int32) (v4_L18 : Int32) (ls : Array Slot) (H : Heap) (locs : List Loc), lv_has ls 5 [(0, .ref (ad 11)), (1, .int v1), (2, .int v2_L18), (3, .int v3_14), (4, .int v4_L18)] → va_P D vwCl (wdGraph_findFrontier cA ad N orderSize reached forerunners blw) H → va_D A (wdGraph_findFrontier cA ad N orderSize reached forerunners blw) → va_S A s.heap H locs → lpGraph_findFrontier_18 N v1 v3_14 forerunners blw post k v2_L18 v4_L18 → W p l e (headSpec (Cond.code yGraph_findFrontier cGraph_findFrontier 5 (some .int) :: xW) rmGraph_findFrontier).room s m ([.ref (ad 11), .int v1] : List Value).toArray below meth c H locs 0 0 Q (F0 m 18 ls []) := by
    intro k
    induction k with
    | zero => intro v2_L18 v4_L18 ls H locs hl hP hD hS hw; exact False.elim hw
    | succ k ih =>
      intro v2_L18 v4_L18 ls H locs hl hP hD hS hw
      refine lv_iload hx hb dGraph_findFrontier_18 (lv_at hl 4 rfl) ?_
      refine lv_aload_n hx hb dGraph_findFrontier_20 rfl (lv_at hl 0 rfl) ?_
      refine va_get (D := D) (ci := 2) (v := .int (nI N)) (C := "OnceNamed$Graph") (T := TX2) (N := 9) hx hb hts (fun w h => List.mem_cons_of_mem _ (inX2 w h)) hown hK hP 0 rfl rfl 0 (by decide) (hts _ (List.mem_cons_of_mem _ kw_82)) (fun _ h9 => h9) rfl dGraph_findFrontier_21 ?_
      refine lv_icmp_ge (tgt := 66) hx hb dGraph_findFrontier_24 rfl (fun hc => ?_) (fun hc => ?_)
      · have hw := hw.1 hc
        refine lv_iload_n hx hb dGraph_findFrontier_66 rfl (lv_at hl 2 rfl) ?_
        exact hend v2_L18 _ _ _ _ dGraph_findFrontier_67 hP hD hS hw
      · have hw := hw.2 hc
        refine lv_aload_n hx hb dGraph_findFrontier_27 rfl (lv_at hl 0 rfl) ?_
        refine va_get (D := D) (ci := 2) (v := .ref (ad 13)) (C := "OnceNamed$Graph") (T := TX2) (N := 9) hx hb hts (fun w h => List.mem_cons_of_mem _ (inX2 w h)) hown hK hP 0 rfl rfl 2 (by decide) (hts _ (List.mem_cons_of_mem _ kw_84)) (fun _ h9 => h9) rfl dGraph_findFrontier_28 ?_
        refine lv_iload_n hx hb dGraph_findFrontier_31 rfl (lv_at hl 1 rfl) ?_
        have ho := hw.1
        have hw := hw.2
        refine va_iald hx hb hK hP 2 0 rfl rfl ho dGraph_findFrontier_32 ?_
        refine lv_aload_n hx hb dGraph_findFrontier_33 rfl (lv_at hl 0 rfl) ?_
        refine va_get (D := D) (ci := 2) (v := .ref (ad 12)) (C := "OnceNamed$Graph") (T := TX2) (N := 9) hx hb hts (fun w h => List.mem_cons_of_mem _ (inX2 w h)) hown hK hP 0 rfl rfl 1 (by decide) (hts _ (List.mem_cons_of_mem _ kw_83)) (fun _ h9 => h9) rfl dGraph_findFrontier_34 ?_
        refine lv_iload hx hb dGraph_findFrontier_37 (lv_at hl 4 rfl) ?_
        have ho := hw.1
        have hw := hw.2
        refine va_iald hx hb hK hP 1 0 rfl rfl ho dGraph_findFrontier_39 ?_
        refine lv_iand hx hb dGraph_findFrontier_40 ?_
        refine lv_if_eq (tgt := 60) hx hb dGraph_findFrontier_41 rfl (fun hc => ?_) (fun hc => ?_)
        · have hw := hw.1 hc
          refine lv_iinc (k := 4) (v := (v4_L18 + 1)) (lv' := [(4, .int (v4_L18 + 1)), (0, .ref (ad 11)), (1, .int v1), (2, .int v2_L18), (3, .int v3_14)]) hx hb dGraph_findFrontier_60 hl rfl rfl (by decide) rfl (fun ls hl => ?_)
          refine lv_goto (tgt := 18) hx hb dGraph_findFrontier_63 rfl ?_
          exact ih v2_L18 (v4_L18 + 1) _ _ _ (lv_sub hl [1, 2, 3, 4, 0] rfl) hP hD hS hw
        · have hw := hw.2 hc
          refine lv_iload_n hx hb dGraph_findFrontier_44 rfl (lv_at hl 3 rfl) ?_
          refine lv_iload hx hb dGraph_findFrontier_45 (lv_at hl 4 rfl) ?_
          refine xci (va_runSN ⟨hx, hb, hml, hown, hts⟩ (ktOn_has l D cA ad N _ v3_14 v4_L18 _ hw) ⟨va_cnB 2 hts (goodB kw_239) rfl rfl rfl hN.1 (hts _ (List.mem_cons_of_mem _ kw_1)) (by decide +kernel) ⟨Nat.le_of_ble_eq_true rfl, Nat.le_of_ble_eq_true rfl⟩, hts _ (List.mem_cons_of_mem _ kw_238), trivial⟩ (xpreS hK hP hD hN [] rfl rfl) rfl rfl hl.1 rfl (lv_room (Nat.le_of_ble_eq_true rfl)) dGraph_findFrontier_47 ⟨Nat.le_of_ble_eq_true rfl, Nat.le_of_ble_eq_true rfl⟩) hP hD hS hA [] [0, 1, 2] rfl rfl rfl rfl [0, 1, 2] rfl (fun _ => rfl) (fun r47 u H locs hw hP hD hS => ?_)
          obtain ⟨r47, rfl, hw⟩ := hw
          have hP : va_P D vwCl (wdGraph_findFrontier cA ad N orderSize reached forerunners blw) H := hP
          have hD : va_D A (wdGraph_findFrontier cA ad N orderSize reached forerunners blw) := hD
          refine lv_if_ne (tgt := 60) hx hb dGraph_findFrontier_50 rfl (fun hc => ?_) (fun hc => ?_)
          · have hw := hw.1 (bI_1 hc)
            refine lv_iinc (k := 4) (v := (v4_L18 + 1)) (lv' := [(4, .int (v4_L18 + 1)), (0, .ref (ad 11)), (1, .int v1), (2, .int v2_L18), (3, .int v3_14)]) hx hb dGraph_findFrontier_60 hl rfl rfl (by decide) rfl (fun ls hl => ?_)
            refine lv_goto (tgt := 18) hx hb dGraph_findFrontier_63 rfl ?_
            exact ih v2_L18 (v4_L18 + 1) _ _ _ (lv_sub hl [1, 2, 3, 4, 0] rfl) hP hD hS hw
          · have hw := hw.2 (bI_0 hc)
            refine lv_iload_n hx hb dGraph_findFrontier_53 rfl (lv_at hl 2 rfl) ?_
            refine lv_iconst (v := 1) hx hb dGraph_findFrontier_54 (by decide) ?_
            refine lv_iload hx hb dGraph_findFrontier_55 (lv_at hl 4 rfl) ?_
            refine lv_ishl hx hb dGraph_findFrontier_57 ?_
            refine lv_ior hx hb dGraph_findFrontier_58 ?_
            refine lv_topi (fun v2_59 e_v2_59 => ?_)
            have hw := hw v2_59 e_v2_59
            refine lv_istore_n (lv' := [(2, .int v2_59), (0, .ref (ad 11)), (1, .int v1), (3, .int v3_14), (4, .int v4_L18)]) hx hb dGraph_findFrontier_59 rfl hl (by decide) rfl (fun ls hl => ?_)
            refine lv_iinc (k := 4) (v := (v4_L18 + 1)) (lv' := [(4, .int (v4_L18 + 1)), (2, .int v2_59), (0, .ref (ad 11)), (1, .int v1), (3, .int v3_14)]) hx hb dGraph_findFrontier_60 hl rfl rfl (by decide) rfl (fun ls hl => ?_)
            refine lv_goto (tgt := 18) hx hb dGraph_findFrontier_63 rfl ?_
            exact ih v2_59 (v4_L18 + 1) _ _ _ (lv_sub hl [2, 3, 1, 4, 0] rfl) hP hD hS hw
  refine hlp18 k18 0 0 _ _ _ (lv_sub hl [3, 4, 2, 1, 0] rfl) hP hD hS hw
abbrev wdGraph_nearestAbove (cA : ClassId) (ad : Nat → Nat) (N : Nat) (orderSize : Int32) (reached : Int32) (blw : Nat → Int32) : va_W := [((ad 11), .inr (2, [.int (nI N), .ref (ad 12), .ref (ad 13), .ref (ad 14), .ref (ad 15), .ref (ad 16), .ref (ad 17), .int orderSize, .int reached])), ((ad 13), .inl (cA, N, .inl blw))]
abbrev qcGraph_nearestAbove (D : va_G) (cA : ClassId) (ad : Nat → Nat) (N : Nat) (orderSize : Int32) (reached : Int32) (blw : Nat → Int32) (post : Int32 → Prop) (A : Nat → Prop) : Array Value → State → Outcome → State → Prop := va_Qi (S := Unit) (fun r u => post r ) (fun u t => xB D [(cA, .int)] A (wdGraph_nearestAbove cA ad N orderSize reached blw) t) A
abbrev rmGraph_nearestAbove : Room := { frames := 1, cells := 0, slots := 0, locals := 21 }
set_option maxHeartbeats 4000000 in
set_option maxRecDepth 100000 in
theorem ktGraph_nearestAbove (l : Launch) (D : va_G) (cA : ClassId) (ad : Nat → Nat) (N : Nat) (sz : Nat) (orderSize : Int32) (reached : Int32) (blw : Nat → Int32) (v1 : Int32) (post : Int32 → Prop) (hw : wpGraph_nearestAbove N blw v1 post) : Met l yGraph_nearestAbove (Cond.code yGraph_nearestAbove cGraph_nearestAbove 6 (some .int) :: xW) rmGraph_nearestAbove (va_Pc [.ref (ad 11), .int v1] (xPc D [(cA, .int)] (wdGraph_nearestAbove cA ad N orderSize reached blw) sz)) (qcGraph_nearestAbove D cA ad N orderSize reached blw post (va_A (wdGraph_nearestAbove cA ad N orderSize reached blw) sz)) 0 0 (va_A (wdGraph_nearestAbove cA ad N orderSize reached blw) sz) := by
  refine Met.ofW (cc := cGraph_nearestAbove) (maxL := 6) (ret := (some .int)) (by decide) rfl ?_
  intro p e s m args below meth c s₁ B hml hv
  obtain ⟨rfl, hsz, hP, hK, hD0, hN⟩ := hv
  have hx := B.exec
  have hb := B.bytes
  have hr := B.returns
  have hts := atoms_spec (ws := (Cond.code yGraph_nearestAbove cGraph_nearestAbove 6 (some .int) :: xW)) B.pre
  have hown : s.vm.findClass "OnceNamed$Graph" = some m.cls := findClass_of_methodNamed B.named
  have hlocks := B.notSynchronized
  subst hsz
  have hD := hD0.self (sz := s.heap.size)
  generalize hAe : va_A (wdGraph_nearestAbove cA ad N orderSize reached blw) s.heap.size = A at hD ⊢
  have hA : ∀ q : Nat, s.heap.size ≤ q → A q := fun q h => by rw [← hAe]; exact Or.inr h
  have hS : va_S A s.heap s.heap [] := va_S.rf
  have hend : ∀ (r : Int32)  (H : Heap) (locs : List Loc) (pc : Nat) (ls : Array Slot), decode cGraph_nearestAbove pc = .ok (.ireturn, 1) → va_P D vwCl (wdGraph_nearestAbove cA ad N orderSize reached blw) H → va_D A (wdGraph_nearestAbove cA ad N orderSize reached blw) → va_S A s.heap H locs → post r  → W p l e (headSpec (Cond.code yGraph_nearestAbove cGraph_nearestAbove 6 (some .int) :: xW) rmGraph_nearestAbove).room s m ([.ref (ad 11), .int v1] : List Value).toArray below meth c H locs 0 0 (MQ below (qcGraph_nearestAbove D cA ad N orderSize reached blw post A) ([.ref (ad 11), .int v1] : List Value).toArray s 0 0 A) (F0 m pc ls [.int r]) := fun r  H locs pc ls hd hP hD hS hw => W.iret (v := r) hx hb hr (fun t ht hW => ⟨⟨r, (), rfl, hw, ⟨by rw [ht]; exact hP, va_K.moved hW.alike hK, hD⟩⟩, hS.F ht⟩) hS.2.2 hd
  generalize hQ : MQ below (qcGraph_nearestAbove D cA ad N orderSize reached blw post A) ([.ref (ad 11), .int v1] : List Value).toArray s 0 0 A = Q at hend ⊢
  have hl := lv_entry ([.ref (ad 11), .int v1]) (n := 6) (Nat.le_of_ble_eq_true rfl)
  rw [lg_entry_eq]
  generalize (lg_sl ([.ref (ad 11), .int v1]) ++ List.replicate (6 - (lg_sl ([.ref (ad 11), .int v1])).length) Slot.unset).toArray = ls at hl ⊢
  have hl : lv_has ls 6 [(0, .ref (ad 11)), (1, .int v1)] := hl
  unfold wpGraph_nearestAbove at hw
  refine lv_aload_n hx hb dGraph_nearestAbove_0 rfl (lv_at hl 0 rfl) ?_
  refine va_get (D := D) (ci := 2) (v := .int (nI N)) (C := "OnceNamed$Graph") (T := TX2) (N := 9) hx hb hts (fun w h => List.mem_cons_of_mem _ (inX2 w h)) hown hK hP 0 rfl rfl 0 (by decide) (hts _ (List.mem_cons_of_mem _ kw_82)) (fun _ h9 => h9) rfl dGraph_nearestAbove_1 ?_
  refine lv_topi (fun v2_4 e_v2_4 => ?_)
  have hw := hw v2_4 e_v2_4
  refine lv_istore_n (lv' := [(2, .int v2_4), (0, .ref (ad 11)), (1, .int v1)]) hx hb dGraph_nearestAbove_4 rfl hl (by decide) rfl (fun ls hl => ?_)
  refine lv_aload_n hx hb dGraph_nearestAbove_5 rfl (lv_at hl 1 rfl) ?_
  refine va_get (D := D) (ci := 2) (v := .int (nI N)) (C := "OnceNamed$Graph") (T := TX2) (N := 9) hx hb hts (fun w h => List.mem_cons_of_mem _ (inX2 w h)) hown hK hP 0 rfl rfl 0 (by decide) (hts _ (List.mem_cons_of_mem _ kw_82)) (fun _ h9 => h9) rfl dGraph_nearestAbove_6 ?_
  refine lv_iconst (v := 1) hx hb dGraph_nearestAbove_9 (by decide) ?_
  refine lv_iadd hx hb dGraph_nearestAbove_10 ?_
  refine lv_topi (fun v3_11 e_v3_11 => ?_)
  have hw := hw v3_11 e_v3_11
  refine lv_istore_n (lv' := [(3, .int v3_11), (2, .int v2_4), (0, .ref (ad 11)), (1, .int v1)]) hx hb dGraph_nearestAbove_11 rfl hl (by decide) rfl (fun ls hl => ?_)
  refine lv_iconst (v := 0) hx hb dGraph_nearestAbove_12 (by decide) ?_
  refine lv_istore (lv' := [(4, .int 0), (3, .int v3_11), (2, .int v2_4), (0, .ref (ad 11)), (1, .int v1)]) hx hb dGraph_nearestAbove_13 hl (by decide) rfl (fun ls hl => ?_)
  obtain ⟨k15, hw⟩ := hw
  have hlp15 : ∀ (k : Nat), ∀ (v2_L15 : Int32) (v3_L15 : Int32) (v4_L15 : Int32) (ls : Array Slot) (H : Heap) (locs : List Loc), lv_has ls 6 [(0, .ref (ad 11)), (1, .int v1), (2, .int v2_L15), (3, .int v3_L15), (4, .int v4_L15)] → va_P D vwCl (wdGraph_nearestAbove cA ad N orderSize reached blw) H → va_D A (wdGraph_nearestAbove cA ad N orderSize reached blw) → va_S A s.heap H locs → lpGraph_nearestAbove_15 N v1 blw post k v2_L15 v3_L15 v4_L15 → W p l e (headSpec (Cond.code yGraph_nearestAbove cGraph_nearestAbove 6 (some .int) :: xW) rmGraph_nearestAbove).room s m ([.ref (ad 11), .int v1] : List Value).toArray below meth c H locs 0 0 Q (F0 m 15 ls []) := by
    intro k
    induction k with
    | zero => intro v2_L15 v3_L15 v4_L15 ls H locs hl hP hD hS hw; exact False.elim hw
    | succ k ih =>
      intro v2_L15 v3_L15 v4_L15 ls H locs hl hP hD hS hw
      refine lv_iload hx hb dGraph_nearestAbove_15 (lv_at hl 4 rfl) ?_
      refine lv_aload_n hx hb dGraph_nearestAbove_17 rfl (lv_at hl 0 rfl) ?_
      refine va_get (D := D) (ci := 2) (v := .int (nI N)) (C := "OnceNamed$Graph") (T := TX2) (N := 9) hx hb hts (fun w h => List.mem_cons_of_mem _ (inX2 w h)) hown hK hP 0 rfl rfl 0 (by decide) (hts _ (List.mem_cons_of_mem _ kw_82)) (fun _ h9 => h9) rfl dGraph_nearestAbove_18 ?_
      refine lv_icmp_ge (tgt := 74) hx hb dGraph_nearestAbove_21 rfl (fun hc => ?_) (fun hc => ?_)
      · have hw := hw.1 hc
        refine lv_iload_n hx hb dGraph_nearestAbove_74 rfl (lv_at hl 2 rfl) ?_
        exact hend v2_L15 _ _ _ _ dGraph_nearestAbove_75 hP hD hS hw
      · have hw := hw.2 hc
        refine lv_aload_n hx hb dGraph_nearestAbove_24 rfl (lv_at hl 0 rfl) ?_
        refine va_get (D := D) (ci := 2) (v := .ref (ad 13)) (C := "OnceNamed$Graph") (T := TX2) (N := 9) hx hb hts (fun w h => List.mem_cons_of_mem _ (inX2 w h)) hown hK hP 0 rfl rfl 2 (by decide) (hts _ (List.mem_cons_of_mem _ kw_84)) (fun _ h9 => h9) rfl dGraph_nearestAbove_25 ?_
        refine lv_iload hx hb dGraph_nearestAbove_28 (lv_at hl 4 rfl) ?_
        have ho := hw.1
        have hw := hw.2
        refine va_iald hx hb hK hP 1 0 rfl rfl ho dGraph_nearestAbove_30 ?_
        refine xci (va_runS ⟨hx, hb, hml, hown, hts⟩ (ktInteger_bitCount l D cA ad N _ (blw (Int32.toNatClampNeg v4_L15)) _ hw) (va_cwS 1 hts (goodS kw_253 kw_254 kw_10 kw_255) rfl rfl rfl (by decide +kernel) ⟨Nat.le_of_ble_eq_true rfl, Nat.le_of_ble_eq_true rfl⟩) (xpreS hK hP hD hN [] rfl rfl) rfl rfl hl.1 rfl (lv_room (Nat.le_of_ble_eq_true rfl)) dGraph_nearestAbove_31 ⟨Nat.le_of_ble_eq_true rfl, Nat.le_of_ble_eq_true rfl⟩) hP hD hS hA [] [0, 1] rfl rfl rfl rfl [0, 1] rfl (fun _ => rfl) (fun r31 u H locs hw hP hD hS => ?_)
        have hP : va_P D vwCl (wdGraph_nearestAbove cA ad N orderSize reached blw) H := hP
        have hD : va_D A (wdGraph_nearestAbove cA ad N orderSize reached blw) := hD
        refine lv_istore (lv' := [(5, .int r31), (0, .ref (ad 11)), (1, .int v1), (2, .int v2_L15), (3, .int v3_L15), (4, .int v4_L15)]) hx hb dGraph_nearestAbove_34 hl (by decide) rfl (fun ls hl => ?_)
        refine lv_iload hx hb dGraph_nearestAbove_36 (lv_at hl 5 rfl) ?_
        refine lv_iload_n hx hb dGraph_nearestAbove_38 rfl (lv_at hl 2 rfl) ?_
        refine lv_icmp_eq (tgt := 68) hx hb dGraph_nearestAbove_39 rfl (fun hc => ?_) (fun hc => ?_)
        · have hw := hw.1 hc
          refine lv_iinc (k := 5) (v := (v4_L15 + 1)) (lv' := [(4, .int (v4_L15 + 1)), (5, .int r31), (0, .ref (ad 11)), (1, .int v1), (2, .int v2_L15), (3, .int v3_L15)]) hx hb dGraph_nearestAbove_68 hl rfl rfl (by decide) rfl (fun ls hl => ?_)
          refine lv_goto (tgt := 15) hx hb dGraph_nearestAbove_71 rfl ?_
          exact ih v2_L15 v3_L15 (v4_L15 + 1) _ _ _ (lv_sub hl [2, 3, 4, 5, 0] rfl) hP hD hS hw
        · have hw := hw.2 hc
          refine lv_aload_n hx hb dGraph_nearestAbove_42 rfl (lv_at hl 1 rfl) ?_
          refine va_get (D := D) (ci := 2) (v := .ref (ad 13)) (C := "OnceNamed$Graph") (T := TX2) (N := 9) hx hb hts (fun w h => List.mem_cons_of_mem _ (inX2 w h)) hown hK hP 0 rfl rfl 2 (by decide) (hts _ (List.mem_cons_of_mem _ kw_84)) (fun _ h9 => h9) rfl dGraph_nearestAbove_43 ?_
          refine lv_iload hx hb dGraph_nearestAbove_46 (lv_at hl 5 rfl) ?_
          have ho := hw.1
          have hw := hw.2
          refine va_iald hx hb hK hP 1 0 rfl rfl ho dGraph_nearestAbove_48 ?_
          refine lv_iload_n hx hb dGraph_nearestAbove_49 rfl (lv_at hl 2 rfl) ?_
          refine xci (va_runSN ⟨hx, hb, hml, hown, hts⟩ (ktOn_has l D cA ad N _ (blw (Int32.toNatClampNeg v4_L15)) v1 _ hw) ⟨va_cnB 2 hts (goodB kw_239) rfl rfl rfl hN.1 (hts _ (List.mem_cons_of_mem _ kw_1)) (by decide +kernel) ⟨Nat.le_of_ble_eq_true rfl, Nat.le_of_ble_eq_true rfl⟩, hts _ (List.mem_cons_of_mem _ kw_238), trivial⟩ (xpreS hK hP hD hN [] rfl rfl) rfl rfl hl.1 rfl (lv_room (Nat.le_of_ble_eq_true rfl)) dGraph_nearestAbove_50 ⟨Nat.le_of_ble_eq_true rfl, Nat.le_of_ble_eq_true rfl⟩) hP hD hS hA [] [0, 1] rfl rfl rfl rfl [0, 1] rfl (fun _ => rfl) (fun r50 u H locs hw hP hD hS => ?_)
          obtain ⟨r50, rfl, hw⟩ := hw
          have hP : va_P D vwCl (wdGraph_nearestAbove cA ad N orderSize reached blw) H := hP
          have hD : va_D A (wdGraph_nearestAbove cA ad N orderSize reached blw) := hD
          refine lv_if_eq (tgt := 68) hx hb dGraph_nearestAbove_53 rfl (fun hc => ?_) (fun hc => ?_)
          · have hw := hw.1 (bI_0 hc)
            refine lv_iinc (k := 5) (v := (v4_L15 + 1)) (lv' := [(4, .int (v4_L15 + 1)), (5, .int r31), (0, .ref (ad 11)), (1, .int v1), (2, .int v2_L15), (3, .int v3_L15)]) hx hb dGraph_nearestAbove_68 hl rfl rfl (by decide) rfl (fun ls hl => ?_)
            refine lv_goto (tgt := 15) hx hb dGraph_nearestAbove_71 rfl ?_
            exact ih v2_L15 v3_L15 (v4_L15 + 1) _ _ _ (lv_sub hl [2, 3, 4, 5, 0] rfl) hP hD hS hw
          · have hw := hw.2 (bI_1 hc)
            refine lv_iload hx hb dGraph_nearestAbove_56 (lv_at hl 0 rfl) ?_
            refine lv_iload_n hx hb dGraph_nearestAbove_58 rfl (lv_at hl 4 rfl) ?_
            refine lv_icmp_ge (tgt := 68) hx hb dGraph_nearestAbove_59 rfl (fun hc => ?_) (fun hc => ?_)
            · have hw := hw.1 hc
              refine lv_iinc (k := 5) (v := (v4_L15 + 1)) (lv' := [(4, .int (v4_L15 + 1)), (5, .int r31), (0, .ref (ad 11)), (1, .int v1), (2, .int v2_L15), (3, .int v3_L15)]) hx hb dGraph_nearestAbove_68 hl rfl rfl (by decide) rfl (fun ls hl => ?_)
              refine lv_goto (tgt := 15) hx hb dGraph_nearestAbove_71 rfl ?_
              exact ih v2_L15 v3_L15 (v4_L15 + 1) _ _ _ (lv_sub hl [2, 3, 4, 5, 0] rfl) hP hD hS hw
            · have hw := hw.2 hc
              refine lv_iload hx hb dGraph_nearestAbove_62 (lv_at hl 5 rfl) ?_
              refine lv_istore_n (lv' := [(2, .int v4_L15), (5, .int r31), (0, .ref (ad 11)), (1, .int v1), (3, .int v3_L15), (4, .int v4_L15)]) hx hb dGraph_nearestAbove_64 rfl hl (by decide) rfl (fun ls hl => ?_)
              refine lv_iload hx hb dGraph_nearestAbove_65 (lv_at hl 1 rfl) ?_
              refine lv_istore_n (lv' := [(3, .int r31), (2, .int v4_L15), (5, .int r31), (0, .ref (ad 11)), (1, .int v1), (4, .int v4_L15)]) hx hb dGraph_nearestAbove_67 rfl hl (by decide) rfl (fun ls hl => ?_)
              refine lv_iinc (k := 5) (v := (v4_L15 + 1)) (lv' := [(4, .int (v4_L15 + 1)), (3, .int r31), (2, .int v4_L15), (5, .int r31), (0, .ref (ad 11)), (1, .int v1)]) hx hb dGraph_nearestAbove_68 hl rfl rfl (by decide) rfl (fun ls hl => ?_)
              refine lv_goto (tgt := 15) hx hb dGraph_nearestAbove_71 rfl ?_
              exact ih v4_L15 r31 (v4_L15 + 1) _ _ _ (lv_sub hl [4, 5, 2, 1, 0] rfl) hP hD hS hw
  refine hlp15 k15 v2_4 v3_11 0 _ _ _ (lv_sub hl [3, 4, 2, 1, 0] rfl) hP hD hS hw
abbrev wdGraph_survey (cA : ClassId) (ad : Nat → Nat) (N : Nat) (yes : Nat → Int32) (no : Nat → Int32) (orderSize : Int32) (reached : Int32) (forerunners : Nat → Int32) (blw : Nat → Int32) (frontiers : Nat → Int32) (parents : Nat → Int32) (order : Nat → Int32) (waiting : Nat → Int32) : va_W := [((ad 1), .inr (1, [.int (nI N), .ref (ad 2), .ref (ad 3), .ref (ad 4), .ref (ad 5), .ref (ad 6), .ref (ad 7), .ref (ad 8), .ref (ad 9), .ref (ad 10)])), ((ad 8), .inl (cA, N, .inl yes)), ((ad 9), .inl (cA, N, .inl no)), ((ad 11), .inr (2, [.int (nI N), .ref (ad 12), .ref (ad 13), .ref (ad 14), .ref (ad 15), .ref (ad 16), .ref (ad 17), .int orderSize, .int reached])), ((ad 12), .inl (cA, N, .inl forerunners)), ((ad 13), .inl (cA, N, .inl blw)), ((ad 14), .inl (cA, N, .inl frontiers)), ((ad 15), .inl (cA, N, .inl parents)), ((ad 16), .inl (cA, N, .inl order)), ((ad 17), .inl (cA, N, .inl waiting))]
abbrev qcGraph_survey (D : va_G) (cA : ClassId) (ad : Nat → Nat) (N : Nat) (yes : Nat → Int32) (no : Nat → Int32) (orderSize : Int32) (reached : Int32) (forerunners : Nat → Int32) (blw : Nat → Int32) (frontiers : Nat → Int32) (parents : Nat → Int32) (order : Nat → Int32) (waiting : Nat → Int32) (post : Int32 → Int32 → (Nat → Int32) → (Nat → Int32) → (Nat → Int32) → (Nat → Int32) → (Nat → Int32) → (Nat → Int32) → Prop) (A : Nat → Prop) : Array Value → State → Outcome → State → Prop := va_Qv (S := (Int32) × (Int32) × (Nat → Int32) × (Nat → Int32) × (Nat → Int32) × (Nat → Int32) × (Nat → Int32) × (Nat → Int32)) (fun u => post u.1 u.2.1 u.2.2.1 u.2.2.2.1 u.2.2.2.2.1 u.2.2.2.2.2.1 u.2.2.2.2.2.2.1 u.2.2.2.2.2.2.2) (fun u t => xB D [(cA, .int)] A (wdGraph_survey cA ad N yes no u.1 u.2.1 u.2.2.1 u.2.2.2.1 u.2.2.2.2.1 u.2.2.2.2.2.1 u.2.2.2.2.2.2.1 u.2.2.2.2.2.2.2) t) A
abbrev rmGraph_survey : Room := { frames := 2, cells := 0, slots := 0, locals := 48 }
set_option maxHeartbeats 4000000 in
set_option maxRecDepth 100000 in
theorem ktGraph_survey (l : Launch) (D : va_G) (cA : ClassId) (ad : Nat → Nat) (N : Nat) (sz : Nat) (yes : Nat → Int32) (no : Nat → Int32) (orderSize : Int32) (reached : Int32) (forerunners : Nat → Int32) (blw : Nat → Int32) (frontiers : Nat → Int32) (parents : Nat → Int32) (order : Nat → Int32) (waiting : Nat → Int32)  (post : Int32 → Int32 → (Nat → Int32) → (Nat → Int32) → (Nat → Int32) → (Nat → Int32) → (Nat → Int32) → (Nat → Int32) → Prop) (hw : wpGraph_survey N yes no forerunners blw frontiers parents order waiting post) : Met l yGraph_survey (Cond.code yGraph_survey cGraph_survey 3 none :: xW) rmGraph_survey (va_Pc [.ref (ad 11), .ref (ad 1)] (xPc D [(cA, .int)] (wdGraph_survey cA ad N yes no orderSize reached forerunners blw frontiers parents order waiting) sz)) (qcGraph_survey D cA ad N yes no orderSize reached forerunners blw frontiers parents order waiting post (va_A (wdGraph_survey cA ad N yes no orderSize reached forerunners blw frontiers parents order waiting) sz)) 0 0 (va_A (wdGraph_survey cA ad N yes no orderSize reached forerunners blw frontiers parents order waiting) sz) := by
  refine Met.ofW (cc := cGraph_survey) (maxL := 3) (ret := none) (by decide) rfl ?_
  intro p e s m args below meth c s₁ B hml hv
  obtain ⟨rfl, hsz, hP, hK, hD0, hN⟩ := hv
  have hx := B.exec
  have hb := B.bytes
  have hr := B.returns
  have hts := atoms_spec (ws := (Cond.code yGraph_survey cGraph_survey 3 none :: xW)) B.pre
  have hown : s.vm.findClass "OnceNamed$Graph" = some m.cls := findClass_of_methodNamed B.named
  have hlocks := B.notSynchronized
  subst hsz
  have hD := hD0.self (sz := s.heap.size)
  generalize hAe : va_A (wdGraph_survey cA ad N yes no orderSize reached forerunners blw frontiers parents order waiting) s.heap.size = A at hD ⊢
  have hA : ∀ q : Nat, s.heap.size ≤ q → A q := fun q h => by rw [← hAe]; exact Or.inr h
  have hS : va_S A s.heap s.heap [] := va_S.rf
  have hend : ∀ (u0 : Int32) (u1 : Int32) (u2 : Nat → Int32) (u3 : Nat → Int32) (u4 : Nat → Int32) (u5 : Nat → Int32) (u6 : Nat → Int32) (u7 : Nat → Int32) (H : Heap) (locs : List Loc) (pc : Nat) (ls : Array Slot), decode cGraph_survey pc = .ok (.return_, 1) → va_P D vwCl (wdGraph_survey cA ad N yes no u0 u1 u2 u3 u4 u5 u6 u7) H → va_D A (wdGraph_survey cA ad N yes no u0 u1 u2 u3 u4 u5 u6 u7) → va_S A s.heap H locs → post u0 u1 u2 u3 u4 u5 u6 u7 → W p l e (headSpec (Cond.code yGraph_survey cGraph_survey 3 none :: xW) rmGraph_survey).room s m ([.ref (ad 11), .ref (ad 1)] : List Value).toArray below meth c H locs 0 0 (MQ below (qcGraph_survey D cA ad N yes no orderSize reached forerunners blw frontiers parents order waiting post A) ([.ref (ad 11), .ref (ad 1)] : List Value).toArray s 0 0 A) (F0 m pc ls []) := fun u0 u1 u2 u3 u4 u5 u6 u7 H locs pc ls hd hP hD hS hw => W.vret hx hb hr (fun t ht hW => ⟨⟨(u0, u1, u2, u3, u4, u5, u6, u7), rfl, hw, ⟨by rw [ht]; exact hP, va_K.moved hW.alike hK, hD⟩⟩, hS.F ht⟩) hS.2.2 hd
  generalize hQ : MQ below (qcGraph_survey D cA ad N yes no orderSize reached forerunners blw frontiers parents order waiting post A) ([.ref (ad 11), .ref (ad 1)] : List Value).toArray s 0 0 A = Q at hend ⊢
  have hl := lv_entry ([.ref (ad 11), .ref (ad 1)]) (n := 3) (Nat.le_of_ble_eq_true rfl)
  rw [lg_entry_eq]
  generalize (lg_sl ([.ref (ad 11), .ref (ad 1)]) ++ List.replicate (3 - (lg_sl ([.ref (ad 11), .ref (ad 1)])).length) Slot.unset).toArray = ls at hl ⊢
  have hl : lv_has ls 3 [(0, .ref (ad 11)), (1, .ref (ad 1))] := hl
  unfold wpGraph_survey at hw
  refine lv_aload_n hx hb dGraph_survey_0 rfl (lv_at hl 0 rfl) ?_
  refine lv_aload_n hx hb dGraph_survey_1 rfl (lv_at hl 0 rfl) ?_
  refine lv_aload_n hx hb dGraph_survey_2 rfl (lv_at hl 1 rfl) ?_
  refine lv_iconst (v := (-1)) hx hb dGraph_survey_3 (by decide) ?_
  refine xci (va_runV ⟨hx, hb, hml, hown, hts⟩ (ktGraph_reachedWithout l D cA ad N _ yes no orderSize reached (-1) _ hw) (cwV 2 hts (goodV kw_233 kw_235 ks_1_0 kw_5 kw_236) rfl rfl rfl (by decide +kernel) ⟨Nat.le_of_ble_eq_true rfl, Nat.le_of_ble_eq_true rfl⟩) (xpreV hK hP hD hN [0, 1, 2, 3] rfl rfl 3 rfl rfl) rfl rfl hl.1 rfl (lv_room (Nat.le_of_ble_eq_true rfl)) dGraph_survey_4 ⟨Nat.le_of_ble_eq_true rfl, Nat.le_of_ble_eq_true rfl⟩) hP hD hS hA [0, 1, 2, 3] [4, 5, 6, 7, 8, 9] rfl rfl rfl rfl [6, 7, 8, 9, 0, 1, 2, 3, 4, 5] rfl (fun _ => rfl) (fun r4 u H locs hw hP hD hS => ?_)
  have hP : va_P D vwCl (wdGraph_survey cA ad N yes no orderSize reached forerunners blw frontiers parents order waiting) H := hP
  have hD : va_D A (wdGraph_survey cA ad N yes no orderSize reached forerunners blw frontiers parents order waiting) := hD
  refine va_put (D := D) (ci := 2) (v := .int r4) (ty := .int) (C := "OnceNamed$Graph") (T := TX2) (N := 9) hx hb hts (fun w h => List.mem_cons_of_mem _ (inX2 w h)) tyX2 tyX2_ok nmX2 hown hK hP hD hS 3 rfl rfl 8 (by decide) (hts _ (List.mem_cons_of_mem _ kw_90)) (fun _ h9 => h9) rfl (by decide +kernel) rfl rfl (Nat.le_of_ble_eq_true rfl) dGraph_survey_7 (fun H locs hP hD hS => ?_)
  have hP : va_P D vwCl (wdGraph_survey cA ad N yes no orderSize r4 forerunners blw frontiers parents order waiting) H := hP
  have hD : va_D A (wdGraph_survey cA ad N yes no orderSize r4 forerunners blw frontiers parents order waiting) := hD
  refine lv_aload_n hx hb dGraph_survey_10 rfl (lv_at hl 0 rfl) ?_
  refine lv_aload_n hx hb dGraph_survey_11 rfl (lv_at hl 1 rfl) ?_
  refine xcv (va_runV ⟨hx, hb, hml, hown, hts⟩ (ktGraph_findForerunners l D cA ad N _ yes no orderSize r4 forerunners _ hw) (cwV 1 hts (goodV kw_244 kw_246 ks_1_1 kw_5 kw_247) rfl rfl rfl (by decide +kernel) ⟨Nat.le_of_ble_eq_true rfl, Nat.le_of_ble_eq_true rfl⟩) (xpreV hK hP hD hN [0, 1, 2, 3, 4] rfl rfl 3 rfl rfl) rfl rfl hl.1 rfl (lv_room (Nat.le_of_ble_eq_true rfl)) dGraph_survey_12 ⟨Nat.le_of_ble_eq_true rfl, Nat.le_of_ble_eq_true rfl⟩) hP hD hS hA [0, 1, 2, 3, 4] [5, 6, 7, 8, 9] rfl rfl rfl rfl [5, 6, 7, 8, 9, 0, 1, 2, 3, 4] rfl (fun _ => rfl) (fun forerunners_12 H locs hw hP hD hS => ?_)
  try dsimp only at hw
  have hP : va_P D vwCl (wdGraph_survey cA ad N yes no orderSize r4 forerunners_12 blw frontiers parents order waiting) H := hP
  have hD : va_D A (wdGraph_survey cA ad N yes no orderSize r4 forerunners_12 blw frontiers parents order waiting) := hD
  refine lv_iconst (v := 0) hx hb dGraph_survey_15 (by decide) ?_
  refine lv_istore_n (lv' := [(2, .int 0), (0, .ref (ad 11)), (1, .ref (ad 1))]) hx hb dGraph_survey_16 rfl hl (by decide) rfl (fun ls hl => ?_)
  obtain ⟨k17, hw⟩ := hw
  have hlp17 : ∀ (K50 : Int32 → (Nat → Int32) → Prop), (∀ (v2_x50 : Int32) (blw_x50 : Nat → Int32) (ls : Array Slot) (H : Heap) (locs : List Loc), lv_has ls 3 [(0, .ref (ad 11)), (1, .ref (ad 1)), (2, .int v2_x50)] → va_P D vwCl (wdGraph_survey cA ad N yes no orderSize r4 forerunners_12 blw_x50 frontiers parents order waiting) H → va_D A (wdGraph_survey cA ad N yes no orderSize r4 forerunners_12 blw_x50 frontiers parents order waiting) → va_S A s.heap H locs → K50 v2_x50 blw_x50 → W p l e (headSpec (Cond.code yGraph_survey cGraph_survey 3 none :: xW) rmGraph_survey).room s m ([.ref (ad 11), .ref (ad 1)] : List Value).toArray below meth c H locs 0 0 Q (F0 m 50 ls [])) → ∀ (k : Nat), ∀ (v2_L17 : Int32) (blw_L17 : Nat → Int32) (ls : Array Slot) (H : Heap) (locs : List Loc), lv_has ls 3 [(0, .ref (ad 11)), (1, .ref (ad 1)), (2, .int v2_L17)] → va_P D vwCl (wdGraph_survey cA ad N yes no orderSize r4 forerunners_12 blw_L17 frontiers parents order waiting) H → va_D A (wdGraph_survey cA ad N yes no orderSize r4 forerunners_12 blw_L17 frontiers parents order waiting) → va_S A s.heap H locs → lpGraph_survey_17 N yes no r4 K50 k v2_L17 blw_L17 → W p l e (headSpec (Cond.code yGraph_survey cGraph_survey 3 none :: xW) rmGraph_survey).room s m ([.ref (ad 11), .ref (ad 1)] : List Value).toArray below meth c H locs 0 0 Q (F0 m 17 ls []) := by
    intro K50 hK50 k
    induction k with
    | zero => intro v2_L17 blw_L17 ls H locs hl hP hD hS hw; exact False.elim hw
    | succ k ih =>
      intro v2_L17 blw_L17 ls H locs hl hP hD hS hw
      refine lv_iload_n hx hb dGraph_survey_17 rfl (lv_at hl 2 rfl) ?_
      refine lv_aload_n hx hb dGraph_survey_18 rfl (lv_at hl 0 rfl) ?_
      refine va_get (D := D) (ci := 2) (v := .int (nI N)) (C := "OnceNamed$Graph") (T := TX2) (N := 9) hx hb hts (fun w h => List.mem_cons_of_mem _ (inX2 w h)) hown hK hP 3 rfl rfl 0 (by decide) (hts _ (List.mem_cons_of_mem _ kw_82)) (fun _ h9 => h9) rfl dGraph_survey_19 ?_
      refine lv_icmp_ge (tgt := 50) hx hb dGraph_survey_22 rfl (fun hc => ?_) (fun hc => ?_)
      · have hw := hw.1 hc
        exact hK50 v2_L17 blw_L17 _ _ _ (lv_sub hl [0, 1, 2] rfl) hP hD hS hw
      · have hw := hw.2 hc
        refine lv_aload_n hx hb dGraph_survey_25 rfl (lv_at hl 0 rfl) ?_
        refine va_get (D := D) (ci := 2) (v := .ref (ad 13)) (C := "OnceNamed$Graph") (T := TX2) (N := 9) hx hb hts (fun w h => List.mem_cons_of_mem _ (inX2 w h)) hown hK hP 3 rfl rfl 2 (by decide) (hts _ (List.mem_cons_of_mem _ kw_84)) (fun _ h9 => h9) rfl dGraph_survey_26 ?_
        refine lv_iload_n hx hb dGraph_survey_29 rfl (lv_at hl 2 rfl) ?_
        refine lv_aload_n hx hb dGraph_survey_30 rfl (lv_at hl 0 rfl) ?_
        refine va_get (D := D) (ci := 2) (v := .int r4) (C := "OnceNamed$Graph") (T := TX2) (N := 9) hx hb hts (fun w h => List.mem_cons_of_mem _ (inX2 w h)) hown hK hP 3 rfl rfl 8 (by decide) (hts _ (List.mem_cons_of_mem _ kw_90)) (fun _ h9 => h9) rfl dGraph_survey_31 ?_
        refine lv_aload_n hx hb dGraph_survey_34 rfl (lv_at hl 0 rfl) ?_
        refine lv_aload_n hx hb dGraph_survey_35 rfl (lv_at hl 1 rfl) ?_
        refine lv_iload_n hx hb dGraph_survey_36 rfl (lv_at hl 2 rfl) ?_
        refine xci (va_runV ⟨hx, hb, hml, hown, hts⟩ (ktGraph_reachedWithout l D cA ad N _ yes no orderSize r4 v2_L17 _ hw) (cwV 2 hts (goodV kw_233 kw_235 ks_1_0 kw_5 kw_236) rfl rfl rfl (by decide +kernel) ⟨Nat.le_of_ble_eq_true rfl, Nat.le_of_ble_eq_true rfl⟩) (xpreV hK hP hD hN [0, 1, 2, 3] rfl rfl 3 rfl rfl) rfl rfl hl.1 rfl (lv_room (Nat.le_of_ble_eq_true rfl)) dGraph_survey_37 ⟨Nat.le_of_ble_eq_true rfl, Nat.le_of_ble_eq_true rfl⟩) hP hD hS hA [0, 1, 2, 3] [4, 5, 6, 7, 8, 9] rfl rfl rfl rfl [6, 7, 8, 9, 0, 1, 2, 3, 4, 5] rfl (fun _ => rfl) (fun r37 u H locs hw hP hD hS => ?_)
        have hP : va_P D vwCl (wdGraph_survey cA ad N yes no orderSize r4 forerunners_12 blw_L17 frontiers parents order waiting) H := hP
        have hD : va_D A (wdGraph_survey cA ad N yes no orderSize r4 forerunners_12 blw_L17 frontiers parents order waiting) := hD
        refine lv_iconst (v := (-1)) hx hb dGraph_survey_40 (by decide) ?_
        refine lv_ixor hx hb dGraph_survey_41 ?_
        refine lv_iand hx hb dGraph_survey_42 ?_
        have ho := hw.1
        have hw := hw.2
        refine va_iast hx hb hK hP hD hS 5 0 rfl rfl ho dGraph_survey_43 (fun H locs hP hD hS => ?_)
        have hP : va_P D vwCl (wdGraph_survey cA ad N yes no orderSize r4 forerunners_12 (upd blw_L17 (Int32.toNatClampNeg v2_L17) (r4 &&& (r37 ^^^ (-1)))) frontiers parents order waiting) H := hP
        have hD : va_D A (wdGraph_survey cA ad N yes no orderSize r4 forerunners_12 (upd blw_L17 (Int32.toNatClampNeg v2_L17) (r4 &&& (r37 ^^^ (-1)))) frontiers parents order waiting) := hD
        refine lv_iinc (k := 2) (v := (v2_L17 + 1)) (lv' := [(2, .int (v2_L17 + 1)), (0, .ref (ad 11)), (1, .ref (ad 1))]) hx hb dGraph_survey_44 hl rfl rfl (by decide) rfl (fun ls hl => ?_)
        refine lv_goto (tgt := 17) hx hb dGraph_survey_47 rfl ?_
        exact ih (v2_L17 + 1) (upd blw_L17 (Int32.toNatClampNeg v2_L17) (r4 &&& (r37 ^^^ (-1)))) _ _ _ (lv_sub hl [1, 2, 0] rfl) hP hD hS hw
  refine hlp17 _ ?_ k17 0 blw _ _ _ (lv_sub hl [1, 2, 0] rfl) hP hD hS hw
  intro v2_x50 blw_x50 ls H locs hl hP hD hS hw
  try dsimp only at hw
  refine lv_iconst (v := 0) hx hb dGraph_survey_50 (by decide) ?_
  refine lv_istore_n (lv' := [(2, .int 0), (0, .ref (ad 11)), (1, .ref (ad 1))]) hx hb dGraph_survey_51 rfl hl (by decide) rfl (fun ls hl => ?_)
  obtain ⟨k52, hw⟩ := hw
  have hlp52 : ∀ (K103 : Int32 → (Nat → Int32) → (Nat → Int32) → Prop), (∀ (v2_x103 : Int32) (frontiers_x103 : Nat → Int32) (parents_x103 : Nat → Int32) (ls : Array Slot) (H : Heap) (locs : List Loc), lv_has ls 3 [(0, .ref (ad 11)), (1, .ref (ad 1)), (2, .int v2_x103)] → va_P D vwCl (wdGraph_survey cA ad N yes no orderSize r4 forerunners_12 blw_x50 frontiers_x103 parents_x103 order waiting) H → va_D A (wdGraph_survey cA ad N yes no orderSize r4 forerunners_12 blw_x50 frontiers_x103 parents_x103 order waiting) → va_S A s.heap H locs → K103 v2_x103 frontiers_x103 parents_x103 → W p l e (headSpec (Cond.code yGraph_survey cGraph_survey 3 none :: xW) rmGraph_survey).room s m ([.ref (ad 11), .ref (ad 1)] : List Value).toArray below meth c H locs 0 0 Q (F0 m 103 ls [])) → ∀ (k : Nat), ∀ (v2_L52 : Int32) (frontiers_L52 : Nat → Int32) (parents_L52 : Nat → Int32) (ls : Array Slot) (H : Heap) (locs : List Loc), lv_has ls 3 [(0, .ref (ad 11)), (1, .ref (ad 1)), (2, .int v2_L52)] → va_P D vwCl (wdGraph_survey cA ad N yes no orderSize r4 forerunners_12 blw_x50 frontiers_L52 parents_L52 order waiting) H → va_D A (wdGraph_survey cA ad N yes no orderSize r4 forerunners_12 blw_x50 frontiers_L52 parents_L52 order waiting) → va_S A s.heap H locs → lpGraph_survey_52 N r4 forerunners_12 blw_x50 K103 k v2_L52 frontiers_L52 parents_L52 → W p l e (headSpec (Cond.code yGraph_survey cGraph_survey 3 none :: xW) rmGraph_survey).room s m ([.ref (ad 11), .ref (ad 1)] : List Value).toArray below meth c H locs 0 0 Q (F0 m 52 ls []) := by
    intro K103 hK103 k
    induction k with
    | zero => intro v2_L52 frontiers_L52 parents_L52 ls H locs hl hP hD hS hw; exact False.elim hw
    | succ k ih =>
      intro v2_L52 frontiers_L52 parents_L52 ls H locs hl hP hD hS hw
      refine lv_iload_n hx hb dGraph_survey_52 rfl (lv_at hl 2 rfl) ?_
      refine lv_aload_n hx hb dGraph_survey_53 rfl (lv_at hl 0 rfl) ?_
      refine va_get (D := D) (ci := 2) (v := .int (nI N)) (C := "OnceNamed$Graph") (T := TX2) (N := 9) hx hb hts (fun w h => List.mem_cons_of_mem _ (inX2 w h)) hown hK hP 3 rfl rfl 0 (by decide) (hts _ (List.mem_cons_of_mem _ kw_82)) (fun _ h9 => h9) rfl dGraph_survey_54 ?_
      refine lv_icmp_ge (tgt := 103) hx hb dGraph_survey_57 rfl (fun hc => ?_) (fun hc => ?_)
      · have hw := hw.1 hc
        exact hK103 v2_L52 frontiers_L52 parents_L52 _ _ _ (lv_sub hl [0, 1, 2] rfl) hP hD hS hw
      · have hw := hw.2 hc
        refine lv_aload_n hx hb dGraph_survey_60 rfl (lv_at hl 0 rfl) ?_
        refine va_get (D := D) (ci := 2) (v := .ref (ad 15)) (C := "OnceNamed$Graph") (T := TX2) (N := 9) hx hb hts (fun w h => List.mem_cons_of_mem _ (inX2 w h)) hown hK hP 3 rfl rfl 4 (by decide) (hts _ (List.mem_cons_of_mem _ kw_86)) (fun _ h9 => h9) rfl dGraph_survey_61 ?_
        refine lv_iload_n hx hb dGraph_survey_64 rfl (lv_at hl 2 rfl) ?_
        refine lv_aload_n hx hb dGraph_survey_65 rfl (lv_at hl 0 rfl) ?_
        refine va_get (D := D) (ci := 2) (v := .int r4) (C := "OnceNamed$Graph") (T := TX2) (N := 9) hx hb hts (fun w h => List.mem_cons_of_mem _ (inX2 w h)) hown hK hP 3 rfl rfl 8 (by decide) (hts _ (List.mem_cons_of_mem _ kw_90)) (fun _ h9 => h9) rfl dGraph_survey_66 ?_
        refine lv_iload_n hx hb dGraph_survey_69 rfl (lv_at hl 2 rfl) ?_
        refine xci (va_runSN ⟨hx, hb, hml, hown, hts⟩ (ktOn_has l D cA ad N _ r4 v2_L52 _ hw) ⟨va_cnB 2 hts (goodB kw_239) rfl rfl rfl hN.1 (hts _ (List.mem_cons_of_mem _ kw_1)) (by decide +kernel) ⟨Nat.le_of_ble_eq_true rfl, Nat.le_of_ble_eq_true rfl⟩, hts _ (List.mem_cons_of_mem _ kw_238), trivial⟩ (xpreS hK hP hD hN [] rfl rfl) rfl rfl hl.1 rfl (lv_room (Nat.le_of_ble_eq_true rfl)) dGraph_survey_70 ⟨Nat.le_of_ble_eq_true rfl, Nat.le_of_ble_eq_true rfl⟩) hP hD hS hA [] [0, 1, 2, 3, 4, 5, 6, 7, 8, 9] rfl rfl rfl rfl [0, 1, 2, 3, 4, 5, 6, 7, 8, 9] rfl (fun _ => rfl) (fun r70 u H locs hw hP hD hS => ?_)
        obtain ⟨r70, rfl, hw⟩ := hw
        have hP : va_P D vwCl (wdGraph_survey cA ad N yes no orderSize r4 forerunners_12 blw_x50 frontiers_L52 parents_L52 order waiting) H := hP
        have hD : va_D A (wdGraph_survey cA ad N yes no orderSize r4 forerunners_12 blw_x50 frontiers_L52 parents_L52 order waiting) := hD
        obtain ⟨J85, hJ85, hw⟩ := hw
        have hj85 : ∀ (t85_0 : Int32) (ls : Array Slot) (H : Heap) (locs : List Loc), lv_has ls 3 [(0, .ref (ad 11)), (1, .ref (ad 1)), (2, .int v2_L52)] → va_P D vwCl (wdGraph_survey cA ad N yes no orderSize r4 forerunners_12 blw_x50 frontiers_L52 parents_L52 order waiting) H → va_D A (wdGraph_survey cA ad N yes no orderSize r4 forerunners_12 blw_x50 frontiers_L52 parents_L52 order waiting) → va_S A s.heap H locs → J85 t85_0 → W p l e (headSpec (Cond.code yGraph_survey cGraph_survey 3 none :: xW) rmGraph_survey).room s m ([.ref (ad 11), .ref (ad 1)] : List Value).toArray below meth c H locs 0 0 Q (F0 m 85 ls [.int t85_0, .int v2_L52, .ref (ad 15)]) := by
          intro t85_0 ls H locs hl hP hD hS hw
          have hw := hJ85 t85_0 hw
          have ho := hw.1
          have hw := hw.2
          refine va_iast hx hb hK hP hD hS 7 0 rfl rfl ho dGraph_survey_85 (fun H locs hP hD hS => ?_)
          have hP : va_P D vwCl (wdGraph_survey cA ad N yes no orderSize r4 forerunners_12 blw_x50 frontiers_L52 (upd parents_L52 (Int32.toNatClampNeg v2_L52) t85_0) order waiting) H := hP
          have hD : va_D A (wdGraph_survey cA ad N yes no orderSize r4 forerunners_12 blw_x50 frontiers_L52 (upd parents_L52 (Int32.toNatClampNeg v2_L52) t85_0) order waiting) := hD
          refine lv_aload_n hx hb dGraph_survey_86 rfl (lv_at hl 0 rfl) ?_
          refine va_get (D := D) (ci := 2) (v := .ref (ad 14)) (C := "OnceNamed$Graph") (T := TX2) (N := 9) hx hb hts (fun w h => List.mem_cons_of_mem _ (inX2 w h)) hown hK hP 3 rfl rfl 3 (by decide) (hts _ (List.mem_cons_of_mem _ kw_85)) (fun _ h9 => h9) rfl dGraph_survey_87 ?_
          refine lv_iload_n hx hb dGraph_survey_90 rfl (lv_at hl 2 rfl) ?_
          refine lv_aload_n hx hb dGraph_survey_91 rfl (lv_at hl 0 rfl) ?_
          refine lv_iload_n hx hb dGraph_survey_92 rfl (lv_at hl 2 rfl) ?_
          refine xci (va_runV ⟨hx, hb, hml, hown, hts⟩ (ktGraph_findFrontier l D cA ad N _ orderSize r4 forerunners_12 blw_x50 v2_L52 _ hw) (cwV 1 hts (goodV kw_259 kw_261 ks_1_3 kw_5 kw_262) rfl rfl rfl (by decide +kernel) ⟨Nat.le_of_ble_eq_true rfl, Nat.le_of_ble_eq_true rfl⟩) (xpreV hK hP hD hN [3, 4, 5] rfl rfl 3 rfl rfl) rfl rfl hl.1 rfl (lv_room (Nat.le_of_ble_eq_true rfl)) dGraph_survey_93 ⟨Nat.le_of_ble_eq_true rfl, Nat.le_of_ble_eq_true rfl⟩) hP hD hS hA [3, 4, 5] [0, 1, 2, 6, 7, 8, 9] rfl rfl rfl rfl [0, 1, 2, 7, 8, 9, 3, 4, 5, 6] rfl (fun _ => rfl) (fun r93 u H locs hw hP hD hS => ?_)
          have hP : va_P D vwCl (wdGraph_survey cA ad N yes no orderSize r4 forerunners_12 blw_x50 frontiers_L52 (upd parents_L52 (Int32.toNatClampNeg v2_L52) t85_0) order waiting) H := hP
          have hD : va_D A (wdGraph_survey cA ad N yes no orderSize r4 forerunners_12 blw_x50 frontiers_L52 (upd parents_L52 (Int32.toNatClampNeg v2_L52) t85_0) order waiting) := hD
          have ho := hw.1
          have hw := hw.2
          refine va_iast hx hb hK hP hD hS 6 0 rfl rfl ho dGraph_survey_96 (fun H locs hP hD hS => ?_)
          have hP : va_P D vwCl (wdGraph_survey cA ad N yes no orderSize r4 forerunners_12 blw_x50 (upd frontiers_L52 (Int32.toNatClampNeg v2_L52) r93) (upd parents_L52 (Int32.toNatClampNeg v2_L52) t85_0) order waiting) H := hP
          have hD : va_D A (wdGraph_survey cA ad N yes no orderSize r4 forerunners_12 blw_x50 (upd frontiers_L52 (Int32.toNatClampNeg v2_L52) r93) (upd parents_L52 (Int32.toNatClampNeg v2_L52) t85_0) order waiting) := hD
          refine lv_iinc (k := 2) (v := (v2_L52 + 1)) (lv' := [(2, .int (v2_L52 + 1)), (0, .ref (ad 11)), (1, .ref (ad 1))]) hx hb dGraph_survey_97 hl rfl rfl (by decide) rfl (fun ls hl => ?_)
          refine lv_goto (tgt := 52) hx hb dGraph_survey_100 rfl ?_
          exact ih (v2_L52 + 1) (upd frontiers_L52 (Int32.toNatClampNeg v2_L52) r93) (upd parents_L52 (Int32.toNatClampNeg v2_L52) t85_0) _ _ _ (lv_sub hl [1, 2, 0] rfl) hP hD hS hw
        refine lv_if_eq (tgt := 84) hx hb dGraph_survey_73 rfl (fun hc => ?_) (fun hc => ?_)
        · have hw := hw.1 (bI_0 hc)
          refine lv_iconst (v := (-1)) hx hb dGraph_survey_84 (by decide) ?_
          exact hj85 (-1) _ _ _ (lv_sub hl [0, 1, 2] rfl) hP hD hS hw
        · have hw := hw.2 (bI_1 hc)
          refine lv_aload_n hx hb dGraph_survey_76 rfl (lv_at hl 0 rfl) ?_
          refine lv_iload_n hx hb dGraph_survey_77 rfl (lv_at hl 2 rfl) ?_
          refine xci (va_runV ⟨hx, hb, hml, hown, hts⟩ (ktGraph_nearestAbove l D cA ad N _ orderSize r4 blw_x50 v2_L52 _ hw) (cwV 1 hts (goodV kw_249 kw_251 ks_1_2 kw_5 kw_252) rfl rfl rfl (by decide +kernel) ⟨Nat.le_of_ble_eq_true rfl, Nat.le_of_ble_eq_true rfl⟩) (xpreV hK hP hD hN [3, 5] rfl rfl 3 rfl rfl) rfl rfl hl.1 rfl (lv_room (Nat.le_of_ble_eq_true rfl)) dGraph_survey_78 ⟨Nat.le_of_ble_eq_true rfl, Nat.le_of_ble_eq_true rfl⟩) hP hD hS hA [3, 5] [0, 1, 2, 4, 6, 7, 8, 9] rfl rfl rfl rfl [0, 1, 2, 8, 3, 9, 4, 5, 6, 7] rfl (fun _ => rfl) (fun r78 u H locs hw hP hD hS => ?_)
          have hP : va_P D vwCl (wdGraph_survey cA ad N yes no orderSize r4 forerunners_12 blw_x50 frontiers_L52 parents_L52 order waiting) H := hP
          have hD : va_D A (wdGraph_survey cA ad N yes no orderSize r4 forerunners_12 blw_x50 frontiers_L52 parents_L52 order waiting) := hD
          refine lv_goto (tgt := 85) hx hb dGraph_survey_81 rfl ?_
          exact hj85 r78 _ _ _ (lv_sub hl [0, 1, 2] rfl) hP hD hS hw
  refine hlp52 _ ?_ k52 0 frontiers parents _ _ _ (lv_sub hl [1, 2, 0] rfl) hP hD hS hw
  intro v2_x103 frontiers_x103 parents_x103 ls H locs hl hP hD hS hw
  try dsimp only at hw
  refine lv_aload_n hx hb dGraph_survey_103 rfl (lv_at hl 0 rfl) ?_
  refine xcv (va_runV ⟨hx, hb, hml, hown, hts⟩ (ktGraph_findOrder l D cA ad N _ orderSize r4 parents_x103 order waiting _ hw) (cwV 0 hts (goodV kw_263 kw_265 ks_1_4 kw_5 kw_266) rfl rfl rfl (by decide +kernel) ⟨Nat.le_of_ble_eq_true rfl, Nat.le_of_ble_eq_true rfl⟩) (xpreV hK hP hD hN [3, 7, 8, 9] rfl rfl 3 rfl rfl) rfl rfl hl.1 rfl (lv_room (Nat.le_of_ble_eq_true rfl)) dGraph_survey_104 ⟨Nat.le_of_ble_eq_true rfl, Nat.le_of_ble_eq_true rfl⟩) hP hD hS hA [3, 7, 8, 9] [0, 1, 2, 4, 5, 6] rfl rfl rfl rfl [0, 1, 2, 6, 3, 4, 5, 7, 8, 9] rfl (fun _ => rfl) (fun u H locs hw hP hD hS => ?_)
  obtain ⟨orderSize_104, order_104, waiting_104⟩ := u
  try dsimp only at hw
  have hP : va_P D vwCl (wdGraph_survey cA ad N yes no orderSize_104 r4 forerunners_12 blw_x50 frontiers_x103 parents_x103 order_104 waiting_104) H := hP
  have hD : va_D A (wdGraph_survey cA ad N yes no orderSize_104 r4 forerunners_12 blw_x50 frontiers_x103 parents_x103 order_104 waiting_104) := hD
  exact hend orderSize_104 r4 forerunners_12 blw_x50 frontiers_x103 parents_x103 order_104 waiting_104 _ _ _ _ dGraph_survey_107 hP hD hS hw
