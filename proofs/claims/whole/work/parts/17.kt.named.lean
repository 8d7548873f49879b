abbrev wdNamedForm_markMeetings (cA : ClassId) (ad : Nat → Nat) (N : Nat) (stepCount : Nat → Int32) (kind : Nat → Int32) (target : Nat → Int32) (orderSize : Int32) (reached : Int32) (frontiers : Nat → Int32) (order : Nat → Int32) (meetingNames : Nat → Int32) : va_W := [((ad 1), .inr (1, [.int (nI N), .ref (ad 2), .ref (ad 3), .ref (ad 4), .ref (ad 5), .ref (ad 6), .ref (ad 7), .ref (ad 8), .ref (ad 9), .ref (ad 10)])), ((ad 2), .inl (cA, N, .inl stepCount)), ((ad 3), .inl (cA, N * 6, .inl kind)), ((ad 4), .inl (cA, N * 6, .inl target)), ((ad 11), .inr (2, [.int (nI N), .ref (ad 12), .ref (ad 13), .ref (ad 14), .ref (ad 15), .ref (ad 16), .ref (ad 17), .int orderSize, .int reached])), ((ad 14), .inl (cA, N, .inl frontiers)), ((ad 16), .inl (cA, N, .inl order)), ((ad 18), .inr (3, [.ref (ad 1), .ref (ad 11), .int (nI N), .ref (ad 19), .ref (ad 20), .ref (ad 21), .ref (ad 22), .ref (ad 23), .ref (ad 24), .ref (ad 25), .ref (ad 26), .ref (ad 27), .ref (ad 28), .ref (ad 29)])), ((ad 19), .inl (cA, N * 6, .inl meetingNames))]
abbrev qcNamedForm_markMeetings (D : va_G) (cA : ClassId) (ad : Nat → Nat) (N : Nat) (stepCount : Nat → Int32) (kind : Nat → Int32) (target : Nat → Int32) (orderSize : Int32) (reached : Int32) (frontiers : Nat → Int32) (order : Nat → Int32) (meetingNames : Nat → Int32) (post : (Nat → Int32) → Prop) (A : Nat → Prop) : Array Value → State → Outcome → State → Prop := va_Qv (S := (Nat → Int32)) (fun u => post u) (fun u t => xB D cA A (wdNamedForm_markMeetings cA ad N stepCount kind target orderSize reached frontiers order u) t) A
abbrev rmNamedForm_markMeetings : Room := { frames := 3, cells := 0, slots := 0, locals := 66 }
set_option maxHeartbeats 4000000 in
set_option maxRecDepth 100000 in
theorem ktNamedForm_markMeetings (l : Launch) (D : va_G) (cA : ClassId) (ad : Nat → Nat) (N : Nat) (sz : Nat) (stepCount : Nat → Int32) (kind : Nat → Int32) (target : Nat → Int32) (orderSize : Int32) (reached : Int32) (frontiers : Nat → Int32) (order : Nat → Int32) (meetingNames : Nat → Int32) (v1 : Int32) (post : (Nat → Int32) → Prop) (hw : wpNamedForm_markMeetings N stepCount kind target orderSize frontiers order meetingNames v1 post) : Met l yNamedForm_markMeetings (Cond.code yNamedForm_markMeetings cNamedForm_markMeetings 5 none :: xW) rmNamedForm_markMeetings (va_Pc [.ref (ad 18), .int v1] (xPc D cA (wdNamedForm_markMeetings cA ad N stepCount kind target orderSize reached frontiers order meetingNames) sz)) (qcNamedForm_markMeetings D cA ad N stepCount kind target orderSize reached frontiers order meetingNames post (va_A (wdNamedForm_markMeetings cA ad N stepCount kind target orderSize reached frontiers order meetingNames) sz)) 0 0 (va_A (wdNamedForm_markMeetings cA ad N stepCount kind target orderSize reached frontiers order meetingNames) sz) := by
  refine Met.ofW (cc := cNamedForm_markMeetings) (maxL := 5) (ret := none) (by decide) rfl ?_
  intro p e s m args below meth c s₁ B hml hv
  obtain ⟨rfl, hsz, hP, hK, hD0, hN⟩ := hv
  have hx := B.exec
  have hb := B.bytes
  have hr := B.returns
  have hts := atoms_spec (ws := (Cond.code yNamedForm_markMeetings cNamedForm_markMeetings 5 none :: xW)) B.pre
  have hown : s.vm.findClass "OnceNamed$NamedForm" = some m.cls := findClass_of_methodNamed B.named
  have hlocks := B.notSynchronized
  subst hsz
  have hD := hD0.self (sz := s.heap.size)
  generalize hAe : va_A (wdNamedForm_markMeetings cA ad N stepCount kind target orderSize reached frontiers order meetingNames) s.heap.size = A at hD ⊢
  have hA : ∀ q : Nat, s.heap.size ≤ q → A q := fun q h => by rw [← hAe]; exact Or.inr h
  have hS : va_S A s.heap s.heap [] := va_S.rf
  have hend : ∀ (u0 : Nat → Int32) (H : Heap) (locs : List Loc) (pc : Nat) (ls : Array Slot), decode cNamedForm_markMeetings pc = .ok (.return_, 1) → va_P D vwCl (wdNamedForm_markMeetings cA ad N stepCount kind target orderSize reached frontiers order u0) H → va_D A (wdNamedForm_markMeetings cA ad N stepCount kind target orderSize reached frontiers order u0) → va_S A s.heap H locs → post u0 → W p l e (headSpec (Cond.code yNamedForm_markMeetings cNamedForm_markMeetings 5 none :: xW) rmNamedForm_markMeetings).room s m ([.ref (ad 18), .int v1] : List Value).toArray below meth c H locs 0 0 (MQ below (qcNamedForm_markMeetings D cA ad N stepCount kind target orderSize reached frontiers order meetingNames post A) ([.ref (ad 18), .int v1] : List Value).toArray s 0 0 A) (F0 m pc ls []) := fun u0 H locs pc ls hd hP hD hS hw => W.vret hx hb hr (fun t ht hW => ⟨⟨u0, rfl, hw, ⟨by rw [ht]; exact hP, va_K.moved hW.alike hK, hD⟩⟩, hS.F ht⟩) hS.2.2 hd
  generalize hQ : MQ below (qcNamedForm_markMeetings D cA ad N stepCount kind target orderSize reached frontiers order meetingNames post A) ([.ref (ad 18), .int v1] : List Value).toArray s 0 0 A = Q at hend ⊢
  have hl := lv_entry ([.ref (ad 18), .int v1]) (n := 5) (Nat.le_of_ble_eq_true rfl)
  rw [lg_entry_eq]
  generalize (lg_sl ([.ref (ad 18), .int v1]) ++ List.replicate (5 - (lg_sl ([.ref (ad 18), .int v1])).length) Slot.unset).toArray = ls at hl ⊢
  have hl : lv_has ls 5 [(0, .ref (ad 18)), (1, .int v1)] := hl
  unfold wpNamedForm_markMeetings at hw
  refine lv_iconst (v := 0) hx hb dNamedForm_markMeetings_0 (by decide) ?_
  refine lv_istore_n (lv' := [(2, .int 0), (0, .ref (ad 18)), (1, .int v1)]) hx hb dNamedForm_markMeetings_1 rfl hl (by decide) rfl (fun ls hl => ?_)
  refine lv_iconst (v := 0) hx hb dNamedForm_markMeetings_2 (by decide) ?_
  refine lv_istore_n (lv' := [(3, .int 0), (2, .int 0), (0, .ref (ad 18)), (1, .int v1)]) hx hb dNamedForm_markMeetings_3 rfl hl (by decide) rfl (fun ls hl => ?_)
  obtain ⟨k4, hw⟩ := hw
  have hlp4 : ∀ (K51 : Int32 → Int32 → Prop), (∀ (v2_x51 : Int32) (v3_x51 : Int32) (ls : Array Slot) (H : Heap) (locs : List Loc), lv_has ls 5 [(0, .ref (ad 18)), (1, .int v1), (2, .int v2_x51), (3, .int v3_x51)] → va_P D vwCl (wdNamedForm_markMeetings cA ad N stepCount kind target orderSize reached frontiers order meetingNames) H → va_D A (wdNamedForm_markMeetings cA ad N stepCount kind target orderSize reached frontiers order meetingNames) → va_S A s.heap H locs → K51 v2_x51 v3_x51 → W p l e (headSpec (Cond.code yNamedForm_markMeetings cNamedForm_markMeetings 5 none :: xW) rmNamedForm_markMeetings).room s m ([.ref (ad 18), .int v1] : List Value).toArray below meth c H locs 0 0 Q (F0 m 51 ls [])) → ∀ (k : Nat), ∀ (v2_L4 : Int32) (v3_L4 : Int32) (ls : Array Slot) (H : Heap) (locs : List Loc), lv_has ls 5 [(0, .ref (ad 18)), (1, .int v1), (2, .int v2_L4), (3, .int v3_L4)] → va_P D vwCl (wdNamedForm_markMeetings cA ad N stepCount kind target orderSize reached frontiers order meetingNames) H → va_D A (wdNamedForm_markMeetings cA ad N stepCount kind target orderSize reached frontiers order meetingNames) → va_S A s.heap H locs → lpNamedForm_markMeetings_4 N v1 stepCount kind target orderSize order K51 k v2_L4 v3_L4 → W p l e (headSpec (Cond.code yNamedForm_markMeetings cNamedForm_markMeetings 5 none :: xW) rmNamedForm_markMeetings).room s m ([.ref (ad 18), .int v1] : List Value).toArray below meth c H locs 0 0 Q (F0 m 4 ls []) := by
    intro K51 hK51 k
    induction k with
    | zero => intro v2_L4 v3_L4 ls H locs hl hP hD hS hw; exact False.elim hw
    | succ k ih =>
      intro v2_L4 v3_L4 ls H locs hl hP hD hS hw
      refine lv_iload_n hx hb dNamedForm_markMeetings_4 rfl (lv_at hl 3 rfl) ?_
      refine lv_aload_n hx hb dNamedForm_markMeetings_5 rfl (lv_at hl 0 rfl) ?_
      refine va_get (D := D) (ci := 3) (v := .ref (ad 11)) (C := "OnceNamed$NamedForm") (T := TX3) (N := 14) hx hb hts (fun w h => List.mem_cons_of_mem _ (inX3 w h)) hown hK hP 7 rfl rfl 1 (by decide) (hts _ (List.mem_cons_of_mem _ kw_121)) (fun _ h9 => h9) rfl dNamedForm_markMeetings_6 ?_
      dsimp only [lpNamedForm_markMeetings_4] at hw
      refine xci (va_runV ⟨hx, hb, hml, hown, hts⟩ (ktGraph_reachedCount l D cA ad N _ orderSize reached _ hw) (cwV 0 hts (goodV kw_315 kw_316 kw_317 kw_5 kw_318) rfl rfl rfl (by decide +kernel) ⟨Nat.le_of_ble_eq_true rfl, Nat.le_of_ble_eq_true rfl⟩) (xpreV hK hP hD hN [4] rfl rfl 4 rfl rfl) rfl rfl hl.1 rfl (lv_room (Nat.le_of_ble_eq_true rfl)) dNamedForm_markMeetings_9 ⟨Nat.le_of_ble_eq_true rfl, Nat.le_of_ble_eq_true rfl⟩) hP hD hS hA [4] [0, 1, 2, 3, 5, 6, 7, 8] rfl rfl rfl rfl [0, 1, 2, 3, 8, 4, 5, 6, 7] rfl (fun _ => rfl) (fun r9 u H locs hw hP hD hS => ?_)
      have hP : va_P D vwCl (wdNamedForm_markMeetings cA ad N stepCount kind target orderSize reached frontiers order meetingNames) H := hP
      have hD : va_D A (wdNamedForm_markMeetings cA ad N stepCount kind target orderSize reached frontiers order meetingNames) := hD
      refine lv_icmp_ge (tgt := 51) hx hb dNamedForm_markMeetings_12 rfl (fun hc => ?_) (fun hc => ?_)
      · have hw := hw.1 hc
        exact hK51 v2_L4 v3_L4 _ _ _ (lv_sub hl [0, 1, 2, 3] rfl) hP hD hS hw
      · have hw := hw.2 hc
        refine lv_aload_n hx hb dNamedForm_markMeetings_15 rfl (lv_at hl 0 rfl) ?_
        refine va_get (D := D) (ci := 3) (v := .ref (ad 11)) (C := "OnceNamed$NamedForm") (T := TX3) (N := 14) hx hb hts (fun w h => List.mem_cons_of_mem _ (inX3 w h)) hown hK hP 7 rfl rfl 1 (by decide) (hts _ (List.mem_cons_of_mem _ kw_121)) (fun _ h9 => h9) rfl dNamedForm_markMeetings_16 ?_
        refine lv_iload_n hx hb dNamedForm_markMeetings_19 rfl (lv_at hl 3 rfl) ?_
        refine xci (va_runV ⟨hx, hb, hml, hown, hts⟩ (ktGraph_inOrder l D cA ad N _ orderSize reached order v3_L4 _ hw) (cwV 1 hts (goodV kw_319 kw_320 kw_321 kw_5 kw_322) rfl rfl rfl (by decide +kernel) ⟨Nat.le_of_ble_eq_true rfl, Nat.le_of_ble_eq_true rfl⟩) (xpreV hK hP hD hN [4, 6] rfl rfl 4 rfl rfl) rfl rfl hl.1 rfl (lv_room (Nat.le_of_ble_eq_true rfl)) dNamedForm_markMeetings_20 ⟨Nat.le_of_ble_eq_true rfl, Nat.le_of_ble_eq_true rfl⟩) hP hD hS hA [4, 6] [0, 1, 2, 3, 5, 7, 8] rfl rfl rfl rfl [0, 1, 2, 3, 7, 4, 8, 5, 6] rfl (fun _ => rfl) (fun r20 u H locs hw hP hD hS => ?_)
        have hP : va_P D vwCl (wdNamedForm_markMeetings cA ad N stepCount kind target orderSize reached frontiers order meetingNames) H := hP
        have hD : va_D A (wdNamedForm_markMeetings cA ad N stepCount kind target orderSize reached frontiers order meetingNames) := hD
        refine lv_istore (lv' := [(4, .int r20), (0, .ref (ad 18)), (1, .int v1), (2, .int v2_L4), (3, .int v3_L4)]) hx hb dNamedForm_markMeetings_23 hl (by decide) rfl (fun ls hl => ?_)
        refine lv_aload_n hx hb dNamedForm_markMeetings_25 rfl (lv_at hl 1 rfl) ?_
        refine va_get (D := D) (ci := 3) (v := .ref (ad 1)) (C := "OnceNamed$NamedForm") (T := TX3) (N := 14) hx hb hts (fun w h => List.mem_cons_of_mem _ (inX3 w h)) hown hK hP 7 rfl rfl 0 (by decide) (hts _ (List.mem_cons_of_mem _ kw_120)) (fun _ h9 => h9) rfl dNamedForm_markMeetings_26 ?_
        refine lv_iload hx hb dNamedForm_markMeetings_29 (lv_at hl 0 rfl) ?_
        refine lv_iload_n hx hb dNamedForm_markMeetings_31 rfl (lv_at hl 2 rfl) ?_
        refine xci (va_runV ⟨hx, hb, hml, hown, hts⟩ (ktProgram_setsInBlock l D cA ad N _ stepCount kind target r20 v1 _ hw) (cwV 2 hts (goodV kw_323 kw_324 kw_325 kw_3 kw_326) rfl rfl rfl (by decide +kernel) ⟨Nat.le_of_ble_eq_true rfl, Nat.le_of_ble_eq_true rfl⟩) (xpreV hK hP hD hN [0, 1, 2, 3] rfl rfl 0 rfl rfl) rfl rfl hl.1 rfl (lv_room (Nat.le_of_ble_eq_true rfl)) dNamedForm_markMeetings_32 ⟨Nat.le_of_ble_eq_true rfl, Nat.le_of_ble_eq_true rfl⟩) hP hD hS hA [0, 1, 2, 3] [4, 5, 6, 7, 8] rfl rfl rfl rfl [5, 6, 7, 8, 0, 1, 2, 3, 4] rfl (fun _ => rfl) (fun r32 u H locs hw hP hD hS => ?_)
        obtain ⟨r32, rfl, hw⟩ := hw
        have hP : va_P D vwCl (wdNamedForm_markMeetings cA ad N stepCount kind target orderSize reached frontiers order meetingNames) H := hP
        have hD : va_D A (wdNamedForm_markMeetings cA ad N stepCount kind target orderSize reached frontiers order meetingNames) := hD
        refine lv_if_eq (tgt := 45) hx hb dNamedForm_markMeetings_35 rfl (fun hc => ?_) (fun hc => ?_)
        · have hw := hw.1 (bI_0 hc)
          refine lv_iinc (k := 4) (v := (v3_L4 + 1)) (lv' := [(3, .int (v3_L4 + 1)), (4, .int r20), (0, .ref (ad 18)), (1, .int v1), (2, .int v2_L4)]) hx hb dNamedForm_markMeetings_45 hl rfl rfl (by decide) rfl (fun ls hl => ?_)
          refine lv_goto (tgt := 4) hx hb dNamedForm_markMeetings_48 rfl ?_
          exact ih v2_L4 (v3_L4 + 1) _ _ _ (lv_sub hl [2, 3, 4, 0] rfl) hP hD hS hw
        · have hw := hw.2 (bI_1 hc)
          refine lv_iload_n hx hb dNamedForm_markMeetings_38 rfl (lv_at hl 3 rfl) ?_
          refine lv_iconst (v := 1) hx hb dNamedForm_markMeetings_39 (by decide) ?_
          refine lv_iload hx hb dNamedForm_markMeetings_40 (lv_at hl 0 rfl) ?_
          refine lv_ishl hx hb dNamedForm_markMeetings_42 ?_
          refine lv_ior hx hb dNamedForm_markMeetings_43 ?_
          refine lv_topi (fun v2_44 e_v2_44 => ?_)
          have hw := hw v2_44 e_v2_44
          refine lv_istore_n (lv' := [(2, .int v2_44), (4, .int r20), (0, .ref (ad 18)), (1, .int v1), (3, .int v3_L4)]) hx hb dNamedForm_markMeetings_44 rfl hl (by decide) rfl (fun ls hl => ?_)
          refine lv_iinc (k := 4) (v := (v3_L4 + 1)) (lv' := [(3, .int (v3_L4 + 1)), (2, .int v2_44), (4, .int r20), (0, .ref (ad 18)), (1, .int v1)]) hx hb dNamedForm_markMeetings_45 hl rfl rfl (by decide) rfl (fun ls hl => ?_)
          refine lv_goto (tgt := 4) hx hb dNamedForm_markMeetings_48 rfl ?_
          exact ih v2_44 (v3_L4 + 1) _ _ _ (lv_sub hl [3, 4, 1, 0] rfl) hP hD hS hw
  refine hlp4 _ ?_ k4 0 0 _ _ _ (lv_sub hl [2, 3, 1, 0] rfl) hP hD hS hw
  intro v2_x51 v3_x51 ls H locs hl hP hD hS hw
  try dsimp only at hw
  refine lv_iconst (v := 0) hx hb dNamedForm_markMeetings_51 (by decide) ?_
  refine lv_istore_n (lv' := [(3, .int 0), (0, .ref (ad 18)), (1, .int v1), (2, .int v2_x51)]) hx hb dNamedForm_markMeetings_52 rfl hl (by decide) rfl (fun ls hl => ?_)
  refine lv_iconst (v := 0) hx hb dNamedForm_markMeetings_53 (by decide) ?_
  refine lv_istore (lv' := [(4, .int 0), (3, .int 0), (0, .ref (ad 18)), (1, .int v1), (2, .int v2_x51)]) hx hb dNamedForm_markMeetings_54 hl (by decide) rfl (fun ls hl => ?_)
  obtain ⟨k56, hw⟩ := hw
  have hlp56 : ∀ (K82 : Int32 → Int32 → Prop), (∀ (v3_x82 : Int32) (v4_x82 : Int32) (ls : Array Slot) (H : Heap) (locs : List Loc), lv_has ls 5 [(0, .ref (ad 18)), (1, .int v1), (2, .int v2_x51), (3, .int v3_x82), (4, .int v4_x82)] → va_P D vwCl (wdNamedForm_markMeetings cA ad N stepCount kind target orderSize reached frontiers order meetingNames) H → va_D A (wdNamedForm_markMeetings cA ad N stepCount kind target orderSize reached frontiers order meetingNames) → va_S A s.heap H locs → K82 v3_x82 v4_x82 → W p l e (headSpec (Cond.code yNamedForm_markMeetings cNamedForm_markMeetings 5 none :: xW) rmNamedForm_markMeetings).room s m ([.ref (ad 18), .int v1] : List Value).toArray below meth c H locs 0 0 Q (F0 m 82 ls [])) → ∀ (k : Nat), ∀ (v3_L56 : Int32) (v4_L56 : Int32) (ls : Array Slot) (H : Heap) (locs : List Loc), lv_has ls 5 [(0, .ref (ad 18)), (1, .int v1), (2, .int v2_x51), (3, .int v3_L56), (4, .int v4_L56)] → va_P D vwCl (wdNamedForm_markMeetings cA ad N stepCount kind target orderSize reached frontiers order meetingNames) H → va_D A (wdNamedForm_markMeetings cA ad N stepCount kind target orderSize reached frontiers order meetingNames) → va_S A s.heap H locs → lpNamedForm_markMeetings_56 N v2_x51 frontiers K82 k v3_L56 v4_L56 → W p l e (headSpec (Cond.code yNamedForm_markMeetings cNamedForm_markMeetings 5 none :: xW) rmNamedForm_markMeetings).room s m ([.ref (ad 18), .int v1] : List Value).toArray below meth c H locs 0 0 Q (F0 m 56 ls []) := by
    intro K82 hK82 k
    induction k with
    | zero => intro v3_L56 v4_L56 ls H locs hl hP hD hS hw; exact False.elim hw
    | succ k ih =>
      intro v3_L56 v4_L56 ls H locs hl hP hD hS hw
      refine lv_iload hx hb dNamedForm_markMeetings_56 (lv_at hl 4 rfl) ?_
      refine lv_aload_n hx hb dNamedForm_markMeetings_58 rfl (lv_at hl 0 rfl) ?_
      refine va_get (D := D) (ci := 3) (v := .int (nI N)) (C := "OnceNamed$NamedForm") (T := TX3) (N := 14) hx hb hts (fun w h => List.mem_cons_of_mem _ (inX3 w h)) hown hK hP 7 rfl rfl 2 (by decide) (hts _ (List.mem_cons_of_mem _ kw_122)) (fun _ h9 => h9) rfl dNamedForm_markMeetings_59 ?_
      refine lv_icmp_ge (tgt := 82) hx hb dNamedForm_markMeetings_62 rfl (fun hc => ?_) (fun hc => ?_)
      · have hw := hw.1 hc
        exact hK82 v3_L56 v4_L56 _ _ _ (lv_sub hl [0, 1, 2, 3, 4] rfl) hP hD hS hw
      · have hw := hw.2 hc
        refine lv_aload_n hx hb dNamedForm_markMeetings_65 rfl (lv_at hl 0 rfl) ?_
        refine va_get (D := D) (ci := 3) (v := .ref (ad 11)) (C := "OnceNamed$NamedForm") (T := TX3) (N := 14) hx hb hts (fun w h => List.mem_cons_of_mem _ (inX3 w h)) hown hK hP 7 rfl rfl 1 (by decide) (hts _ (List.mem_cons_of_mem _ kw_121)) (fun _ h9 => h9) rfl dNamedForm_markMeetings_66 ?_
        refine lv_iload_n hx hb dNamedForm_markMeetings_69 rfl (lv_at hl 2 rfl) ?_
        refine lv_iload_n hx hb dNamedForm_markMeetings_70 rfl (lv_at hl 3 rfl) ?_
        refine lv_ior hx hb dNamedForm_markMeetings_71 ?_
        refine xci (va_runV ⟨hx, hb, hml, hown, hts⟩ (ktGraph_frontierOfAll l D cA ad N _ orderSize reached frontiers (v2_x51 ||| v3_L56) _ hw) (cwV 1 hts (goodV kw_334 kw_335 kw_336 kw_5 kw_337) rfl rfl rfl (by decide +kernel) ⟨Nat.le_of_ble_eq_true rfl, Nat.le_of_ble_eq_true rfl⟩) (xpreV hK hP hD hN [4, 5] rfl rfl 4 rfl rfl) rfl rfl hl.1 rfl (lv_room (Nat.le_of_ble_eq_true rfl)) dNamedForm_markMeetings_72 ⟨Nat.le_of_ble_eq_true rfl, Nat.le_of_ble_eq_true rfl⟩) hP hD hS hA [4, 5] [0, 1, 2, 3, 6, 7, 8] rfl rfl rfl rfl [0, 1, 2, 3, 7, 8, 4, 5, 6] rfl (fun _ => rfl) (fun r72 u H locs hw hP hD hS => ?_)
        have hP : va_P D vwCl (wdNamedForm_markMeetings cA ad N stepCount kind target orderSize reached frontiers order meetingNames) H := hP
        have hD : va_D A (wdNamedForm_markMeetings cA ad N stepCount kind target orderSize reached frontiers order meetingNames) := hD
        refine lv_istore_n (lv' := [(3, .int r72), (0, .ref (ad 18)), (1, .int v1), (2, .int v2_x51), (4, .int v4_L56)]) hx hb dNamedForm_markMeetings_75 rfl hl (by decide) rfl (fun ls hl => ?_)
        refine lv_iinc (k := 4) (v := (v4_L56 + 1)) (lv' := [(4, .int (v4_L56 + 1)), (3, .int r72), (0, .ref (ad 18)), (1, .int v1), (2, .int v2_x51)]) hx hb dNamedForm_markMeetings_76 hl rfl rfl (by decide) rfl (fun ls hl => ?_)
        refine lv_goto (tgt := 56) hx hb dNamedForm_markMeetings_79 rfl ?_
        exact ih r72 (v4_L56 + 1) _ _ _ (lv_sub hl [2, 3, 4, 1, 0] rfl) hP hD hS hw
  refine hlp56 _ ?_ k56 0 0 _ _ _ (lv_sub hl [2, 3, 4, 1, 0] rfl) hP hD hS hw
  intro v3_x82 v4_x82 ls H locs hl hP hD hS hw
  try dsimp only at hw
  refine lv_iconst (v := 0) hx hb dNamedForm_markMeetings_82 (by decide) ?_
  refine lv_istore (lv' := [(4, .int 0), (0, .ref (ad 18)), (1, .int v1), (2, .int v2_x51), (3, .int v3_x82)]) hx hb dNamedForm_markMeetings_83 hl (by decide) rfl (fun ls hl => ?_)
  obtain ⟨k85, hw⟩ := hw
  have hlp85 : ∀ (k : Nat), ∀ (v4_L85 : Int32) (meetingNames_L85 : Nat → Int32) (ls : Array Slot) (H : Heap) (locs : List Loc), lv_has ls 5 [(0, .ref (ad 18)), (1, .int v1), (2, .int v2_x51), (3, .int v3_x82), (4, .int v4_L85)] → va_P D vwCl (wdNamedForm_markMeetings cA ad N stepCount kind target orderSize reached frontiers order meetingNames_L85) H → va_D A (wdNamedForm_markMeetings cA ad N stepCount kind target orderSize reached frontiers order meetingNames_L85) → va_S A s.heap H locs → lpNamedForm_markMeetings_85 N v1 v3_x82 post k v4_L85 meetingNames_L85 → W p l e (headSpec (Cond.code yNamedForm_markMeetings cNamedForm_markMeetings 5 none :: xW) rmNamedForm_markMeetings).room s m ([.ref (ad 18), .int v1] : List Value).toArray below meth c H locs 0 0 Q (F0 m 85 ls []) := by
    intro k
    induction k with
    | zero => intro v4_L85 meetingNames_L85 ls H locs hl hP hD hS hw; exact False.elim hw
    | succ k ih =>
      intro v4_L85 meetingNames_L85 ls H locs hl hP hD hS hw
      refine lv_iload hx hb dNamedForm_markMeetings_85 (lv_at hl 4 rfl) ?_
      refine lv_aload_n hx hb dNamedForm_markMeetings_87 rfl (lv_at hl 0 rfl) ?_
      refine va_get (D := D) (ci := 3) (v := .int (nI N)) (C := "OnceNamed$NamedForm") (T := TX3) (N := 14) hx hb hts (fun w h => List.mem_cons_of_mem _ (inX3 w h)) hown hK hP 7 rfl rfl 2 (by decide) (hts _ (List.mem_cons_of_mem _ kw_122)) (fun _ h9 => h9) rfl dNamedForm_markMeetings_88 ?_
      refine lv_icmp_ge (tgt := 122) hx hb dNamedForm_markMeetings_91 rfl (fun hc => ?_) (fun hc => ?_)
      · have hw := hw.1 hc
        exact hend meetingNames_L85 _ _ _ _ dNamedForm_markMeetings_122 hP hD hS hw
      · have hw := hw.2 hc
        refine lv_iload_n hx hb dNamedForm_markMeetings_94 rfl (lv_at hl 3 rfl) ?_
        refine lv_iload hx hb dNamedForm_markMeetings_95 (lv_at hl 4 rfl) ?_
        refine xci (va_runSN ⟨hx, hb, hml, hown, hts⟩ (ktOn_has l D cA ad N _ v3_x82 v4_L85 _ hw) ⟨va_cnB 2 hts (goodB kw_239) rfl rfl rfl hN.2 (hts _ (List.mem_cons_of_mem _ kw_1)) (by decide +kernel) ⟨Nat.le_of_ble_eq_true rfl, Nat.le_of_ble_eq_true rfl⟩, hts _ (List.mem_cons_of_mem _ kw_238), trivial⟩ (xpreS hK hP hD hN [] rfl rfl) rfl rfl hl.1 rfl (lv_room (Nat.le_of_ble_eq_true rfl)) dNamedForm_markMeetings_97 ⟨Nat.le_of_ble_eq_true rfl, Nat.le_of_ble_eq_true rfl⟩) hP hD hS hA [] [0, 1, 2, 3, 4, 5, 6, 7, 8] rfl rfl rfl rfl [0, 1, 2, 3, 4, 5, 6, 7, 8] rfl (fun _ => rfl) (fun r97 u H locs hw hP hD hS => ?_)
        obtain ⟨r97, rfl, hw⟩ := hw
        have hP : va_P D vwCl (wdNamedForm_markMeetings cA ad N stepCount kind target orderSize reached frontiers order meetingNames_L85) H := hP
        have hD : va_D A (wdNamedForm_markMeetings cA ad N stepCount kind target orderSize reached frontiers order meetingNames_L85) := hD
        refine lv_if_eq (tgt := 116) hx hb dNamedForm_markMeetings_100 rfl (fun hc => ?_) (fun hc => ?_)
        · have hw := hw.1 (bI_0 hc)
          refine lv_iinc (k := 4) (v := (v4_L85 + 1)) (lv' := [(4, .int (v4_L85 + 1)), (0, .ref (ad 18)), (1, .int v1), (2, .int v2_x51), (3, .int v3_x82)]) hx hb dNamedForm_markMeetings_116 hl rfl rfl (by decide) rfl (fun ls hl => ?_)
          refine lv_goto (tgt := 85) hx hb dNamedForm_markMeetings_119 rfl ?_
          exact ih (v4_L85 + 1) meetingNames_L85 _ _ _ (lv_sub hl [1, 2, 3, 4, 0] rfl) hP hD hS hw
        · have hw := hw.2 (bI_1 hc)
          refine lv_aload_n hx hb dNamedForm_markMeetings_103 rfl (lv_at hl 0 rfl) ?_
          refine va_get (D := D) (ci := 3) (v := .ref (ad 19)) (C := "OnceNamed$NamedForm") (T := TX3) (N := 14) hx hb hts (fun w h => List.mem_cons_of_mem _ (inX3 w h)) hown hK hP 7 rfl rfl 3 (by decide) (hts _ (List.mem_cons_of_mem _ kw_123)) (fun _ h9 => h9) rfl dNamedForm_markMeetings_104 ?_
          refine lv_iload hx hb dNamedForm_markMeetings_107 (lv_at hl 4 rfl) ?_
          refine lv_bipush (v := 6) hx hb dNamedForm_markMeetings_109 (by decide) ?_
          refine lv_imul hx hb dNamedForm_markMeetings_111 ?_
          refine lv_iload_n hx hb dNamedForm_markMeetings_112 rfl (lv_at hl 1 rfl) ?_
          refine lv_iadd hx hb dNamedForm_markMeetings_113 ?_
          refine lv_iconst (v := 0) hx hb dNamedForm_markMeetings_114 (by decide) ?_
          have ho := hw.1
          have hw := hw.2
          refine va_iast hx hb hK hP hD hS 8 0 rfl rfl ho dNamedForm_markMeetings_115 (fun H locs hP hD hS => ?_)
          have hP : va_P D vwCl (wdNamedForm_markMeetings cA ad N stepCount kind target orderSize reached frontiers order (upd meetingNames_L85 (Int32.toNatClampNeg ((v4_L85 * 6) + v1)) 0)) H := hP
          have hD : va_D A (wdNamedForm_markMeetings cA ad N stepCount kind target orderSize reached frontiers order (upd meetingNames_L85 (Int32.toNatClampNeg ((v4_L85 * 6) + v1)) 0)) := hD
          refine lv_iinc (k := 4) (v := (v4_L85 + 1)) (lv' := [(4, .int (v4_L85 + 1)), (0, .ref (ad 18)), (1, .int v1), (2, .int v2_x51), (3, .int v3_x82)]) hx hb dNamedForm_markMeetings_116 hl rfl rfl (by decide) rfl (fun ls hl => ?_)
          refine lv_goto (tgt := 85) hx hb dNamedForm_markMeetings_119 rfl ?_
          exact ih (v4_L85 + 1) (upd meetingNames_L85 (Int32.toNatClampNeg ((v4_L85 * 6) + v1)) 0) _ _ _ (lv_sub hl [1, 2, 3, 4, 0] rfl) hP hD hS hw
  refine hlp85 k85 0 meetingNames _ _ _ (lv_sub hl [1, 2, 3, 4, 0] rfl) hP hD hS hw
abbrev wdNamedForm_forgetAll (cA : ClassId) (ad : Nat → Nat) (N : Nat) (stepCount : Nat → Int32) (kind : Nat → Int32) (target : Nat → Int32) (orderSize : Int32) (reached : Int32) (frontiers : Nat → Int32) (order : Nat → Int32) (meetingNames : Nat → Int32) (meetingUses : Nat → Int32) (stepNames : Nat → Int32) (firstUses : Nat → Int32) (secondUses : Nat → Int32) (endUses : Nat → Int32) (namesOf : Nat → Int32) (homeBlock : Nat → Int32) : va_W := [((ad 1), .inr (1, [.int (nI N), .ref (ad 2), .ref (ad 3), .ref (ad 4), .ref (ad 5), .ref (ad 6), .ref (ad 7), .ref (ad 8), .ref (ad 9), .ref (ad 10)])), ((ad 2), .inl (cA, N, .inl stepCount)), ((ad 3), .inl (cA, N * 6, .inl kind)), ((ad 4), .inl (cA, N * 6, .inl target)), ((ad 11), .inr (2, [.int (nI N), .ref (ad 12), .ref (ad 13), .ref (ad 14), .ref (ad 15), .ref (ad 16), .ref (ad 17), .int orderSize, .int reached])), ((ad 14), .inl (cA, N, .inl frontiers)), ((ad 16), .inl (cA, N, .inl order)), ((ad 18), .inr (3, [.ref (ad 1), .ref (ad 11), .int (nI N), .ref (ad 19), .ref (ad 20), .ref (ad 21), .ref (ad 22), .ref (ad 23), .ref (ad 24), .ref (ad 25), .ref (ad 26), .ref (ad 27), .ref (ad 28), .ref (ad 29)])), ((ad 19), .inl (cA, N * 6, .inl meetingNames)), ((ad 20), .inl (cA, N * 6 * (N + 1), .inl meetingUses)), ((ad 21), .inl (cA, N * 6, .inl stepNames)), ((ad 22), .inl (cA, N * 6, .inl firstUses)), ((ad 23), .inl (cA, N * 6, .inl secondUses)), ((ad 24), .inl (cA, N, .inl endUses)), ((ad 26), .inl (cA, 6, .inl namesOf)), ((ad 27), .inl (cA, 600, .inl homeBlock))]
abbrev qcNamedForm_forgetAll (D : va_G) (cA : ClassId) (ad : Nat → Nat) (N : Nat) (stepCount : Nat → Int32) (kind : Nat → Int32) (target : Nat → Int32) (orderSize : Int32) (reached : Int32) (frontiers : Nat → Int32) (order : Nat → Int32) (meetingNames : Nat → Int32) (meetingUses : Nat → Int32) (stepNames : Nat → Int32) (firstUses : Nat → Int32) (secondUses : Nat → Int32) (endUses : Nat → Int32) (namesOf : Nat → Int32) (homeBlock : Nat → Int32) (post : (Nat → Int32) → (Nat → Int32) → (Nat → Int32) → (Nat → Int32) → (Nat → Int32) → (Nat → Int32) → (Nat → Int32) → (Nat → Int32) → Prop) (A : Nat → Prop) : Array Value → State → Outcome → State → Prop := va_Qv (S := (Nat → Int32) × (Nat → Int32) × (Nat → Int32) × (Nat → Int32) × (Nat → Int32) × (Nat → Int32) × (Nat → Int32) × (Nat → Int32)) (fun u => post u.1 u.2.1 u.2.2.1 u.2.2.2.1 u.2.2.2.2.1 u.2.2.2.2.2.1 u.2.2.2.2.2.2.1 u.2.2.2.2.2.2.2) (fun u t => xB D cA A (wdNamedForm_forgetAll cA ad N stepCount kind target orderSize reached frontiers order u.1 u.2.1 u.2.2.1 u.2.2.2.1 u.2.2.2.2.1 u.2.2.2.2.2.1 u.2.2.2.2.2.2.1 u.2.2.2.2.2.2.2) t) A
abbrev rmNamedForm_forgetAll : Room := { frames := 4, cells := 0, slots := 0, locals := 90 }
set_option maxHeartbeats 4000000 in
set_option maxRecDepth 100000 in
theorem ktNamedForm_forgetAll (l : Launch) (D : va_G) (cA : ClassId) (ad : Nat → Nat) (N : Nat) (sz : Nat) (stepCount : Nat → Int32) (kind : Nat → Int32) (target : Nat → Int32) (orderSize : Int32) (reached : Int32) (frontiers : Nat → Int32) (order : Nat → Int32) (meetingNames : Nat → Int32) (meetingUses : Nat → Int32) (stepNames : Nat → Int32) (firstUses : Nat → Int32) (secondUses : Nat → Int32) (endUses : Nat → Int32) (namesOf : Nat → Int32) (homeBlock : Nat → Int32)  (post : (Nat → Int32) → (Nat → Int32) → (Nat → Int32) → (Nat → Int32) → (Nat → Int32) → (Nat → Int32) → (Nat → Int32) → (Nat → Int32) → Prop) (hw : wpNamedForm_forgetAll N stepCount kind target orderSize frontiers order meetingNames meetingUses stepNames firstUses secondUses endUses namesOf homeBlock post) : Met l yNamedForm_forgetAll (Cond.code yNamedForm_forgetAll cNamedForm_forgetAll 2 none :: xW) rmNamedForm_forgetAll (va_Pc [.ref (ad 18)] (xPc D cA (wdNamedForm_forgetAll cA ad N stepCount kind target orderSize reached frontiers order meetingNames meetingUses stepNames firstUses secondUses endUses namesOf homeBlock) sz)) (qcNamedForm_forgetAll D cA ad N stepCount kind target orderSize reached frontiers order meetingNames meetingUses stepNames firstUses secondUses endUses namesOf homeBlock post (va_A (wdNamedForm_forgetAll cA ad N stepCount kind target orderSize reached frontiers order meetingNames meetingUses stepNames firstUses secondUses endUses namesOf homeBlock) sz)) 0 0 (va_A (wdNamedForm_forgetAll cA ad N stepCount kind target orderSize reached frontiers order meetingNames meetingUses stepNames firstUses secondUses endUses namesOf homeBlock) sz) := by
  refine Met.ofW (cc := cNamedForm_forgetAll) (maxL := 2) (ret := none) (by decide) rfl ?_
  intro p e s m args below meth c s₁ B hml hv
  obtain ⟨rfl, hsz, hP, hK, hD0, hN⟩ := hv
  have hx := B.exec
  have hb := B.bytes
  have hr := B.returns
  have hts := atoms_spec (ws := (Cond.code yNamedForm_forgetAll cNamedForm_forgetAll 2 none :: xW)) B.pre
  have hown : s.vm.findClass "OnceNamed$NamedForm" = some m.cls := findClass_of_methodNamed B.named
  have hlocks := B.notSynchronized
  subst hsz
  have hD := hD0.self (sz := s.heap.size)
  generalize hAe : va_A (wdNamedForm_forgetAll cA ad N stepCount kind target orderSize reached frontiers order meetingNames meetingUses stepNames firstUses secondUses endUses namesOf homeBlock) s.heap.size = A at hD ⊢
  have hA : ∀ q : Nat, s.heap.size ≤ q → A q := fun q h => by rw [← hAe]; exact Or.inr h
  have hS : va_S A s.heap s.heap [] := va_S.rf
  have hend : ∀ (u0 : Nat → Int32) (u1 : Nat → Int32) (u2 : Nat → Int32) (u3 : Nat → Int32) (u4 : Nat → Int32) (u5 : Nat → Int32) (u6 : Nat → Int32) (u7 : Nat → Int32) (H : Heap) (locs : List Loc) (pc : Nat) (ls : Array Slot), decode cNamedForm_forgetAll pc = .ok (.return_, 1) → va_P D vwCl (wdNamedForm_forgetAll cA ad N stepCount kind target orderSize reached frontiers order u0 u1 u2 u3 u4 u5 u6 u7) H → va_D A (wdNamedForm_forgetAll cA ad N stepCount kind target orderSize reached frontiers order u0 u1 u2 u3 u4 u5 u6 u7) → va_S A s.heap H locs → post u0 u1 u2 u3 u4 u5 u6 u7 → W p l e (headSpec (Cond.code yNamedForm_forgetAll cNamedForm_forgetAll 2 none :: xW) rmNamedForm_forgetAll).room s m ([.ref (ad 18)] : List Value).toArray below meth c H locs 0 0 (MQ below (qcNamedForm_forgetAll D cA ad N stepCount kind target orderSize reached frontiers order meetingNames meetingUses stepNames firstUses secondUses endUses namesOf homeBlock post A) ([.ref (ad 18)] : List Value).toArray s 0 0 A) (F0 m pc ls []) := fun u0 u1 u2 u3 u4 u5 u6 u7 H locs pc ls hd hP hD hS hw => W.vret hx hb hr (fun t ht hW => ⟨⟨(u0, u1, u2, u3, u4, u5, u6, u7), rfl, hw, ⟨by rw [ht]; exact hP, va_K.moved hW.alike hK, hD⟩⟩, hS.F ht⟩) hS.2.2 hd
  generalize hQ : MQ below (qcNamedForm_forgetAll D cA ad N stepCount kind target orderSize reached frontiers order meetingNames meetingUses stepNames firstUses secondUses endUses namesOf homeBlock post A) ([.ref (ad 18)] : List Value).toArray s 0 0 A = Q at hend ⊢
  have hl := lv_entry ([.ref (ad 18)]) (n := 2) (Nat.le_of_ble_eq_true rfl)
  rw [lg_entry_eq]
  generalize (lg_sl ([.ref (ad 18)]) ++ List.replicate (2 - (lg_sl ([.ref (ad 18)])).length) Slot.unset).toArray = ls at hl ⊢
  have hl : lv_has ls 2 [(0, .ref (ad 18))] := hl
  unfold wpNamedForm_forgetAll at hw
  refine lv_aload_n hx hb dNamedForm_forgetAll_0 rfl (lv_at hl 0 rfl) ?_
  refine va_get (D := D) (ci := 3) (v := .ref (ad 19)) (C := "OnceNamed$NamedForm") (T := TX3) (N := 14) hx hb hts (fun w h => List.mem_cons_of_mem _ (inX3 w h)) hown hK hP 7 rfl rfl 3 (by decide) (hts _ (List.mem_cons_of_mem _ kw_123)) (fun _ h9 => h9) rfl dNamedForm_forgetAll_1 ?_
  refine lv_iconst (v := (-1)) hx hb dNamedForm_forgetAll_4 (by decide) ?_
  refine xcv (va_runS ⟨hx, hb, hml, hown, hts⟩ (ktArrays_fill l D cA ad N (ad 19) (N * 6) _ meetingNames (-1) _ hw) (va_cwS 2 hts (goodS kw_310 kw_42 kw_4 kw_43) rfl rfl rfl (by decide +kernel) ⟨Nat.le_of_ble_eq_true rfl, Nat.le_of_ble_eq_true rfl⟩) (xpreS hK hP hD hN [8] rfl rfl) rfl rfl hl.1 rfl (lv_room (Nat.le_of_ble_eq_true rfl)) dNamedForm_forgetAll_5 ⟨Nat.le_of_ble_eq_true rfl, Nat.le_of_ble_eq_true rfl⟩) hP hD hS hA [8] [0, 1, 2, 3, 4, 5, 6, 7, 9, 10, 11, 12, 13, 14, 15] rfl rfl rfl rfl [0, 1, 2, 3, 4, 5, 6, 7, 15, 8, 9, 10, 11, 12, 13, 14] rfl (fun _ => rfl) (fun meetingNames_5 H locs hw hP hD hS => ?_)
  try dsimp only at hw
  have hP : va_P D vwCl (wdNamedForm_forgetAll cA ad N stepCount kind target orderSize reached frontiers order meetingNames_5 meetingUses stepNames firstUses secondUses endUses namesOf homeBlock) H := hP
  have hD : va_D A (wdNamedForm_forgetAll cA ad N stepCount kind target orderSize reached frontiers order meetingNames_5 meetingUses stepNames firstUses secondUses endUses namesOf homeBlock) := hD
  refine lv_aload_n hx hb dNamedForm_forgetAll_8 rfl (lv_at hl 0 rfl) ?_
  refine va_get (D := D) (ci := 3) (v := .ref (ad 20)) (C := "OnceNamed$NamedForm") (T := TX3) (N := 14) hx hb hts (fun w h => List.mem_cons_of_mem _ (inX3 w h)) hown hK hP 7 rfl rfl 4 (by decide) (hts _ (List.mem_cons_of_mem _ kw_124)) (fun _ h9 => h9) rfl dNamedForm_forgetAll_9 ?_
  refine lv_iconst (v := (-1)) hx hb dNamedForm_forgetAll_12 (by decide) ?_
  refine xcv (va_runS ⟨hx, hb, hml, hown, hts⟩ (ktArrays_fill l D cA ad N (ad 20) (N * 6 * (N + 1)) _ meetingUses (-1) _ hw) (va_cwS 2 hts (goodS kw_310 kw_42 kw_4 kw_43) rfl rfl rfl (by decide +kernel) ⟨Nat.le_of_ble_eq_true rfl, Nat.le_of_ble_eq_true rfl⟩) (xpreS hK hP hD hN [9] rfl rfl) rfl rfl hl.1 rfl (lv_room (Nat.le_of_ble_eq_true rfl)) dNamedForm_forgetAll_13 ⟨Nat.le_of_ble_eq_true rfl, Nat.le_of_ble_eq_true rfl⟩) hP hD hS hA [9] [0, 1, 2, 3, 4, 5, 6, 7, 8, 10, 11, 12, 13, 14, 15] rfl rfl rfl rfl [0, 1, 2, 3, 4, 5, 6, 7, 8, 15, 9, 10, 11, 12, 13, 14] rfl (fun _ => rfl) (fun meetingUses_13 H locs hw hP hD hS => ?_)
  try dsimp only at hw
  have hP : va_P D vwCl (wdNamedForm_forgetAll cA ad N stepCount kind target orderSize reached frontiers order meetingNames_5 meetingUses_13 stepNames firstUses secondUses endUses namesOf homeBlock) H := hP
  have hD : va_D A (wdNamedForm_forgetAll cA ad N stepCount kind target orderSize reached frontiers order meetingNames_5 meetingUses_13 stepNames firstUses secondUses endUses namesOf homeBlock) := hD
  refine lv_aload_n hx hb dNamedForm_forgetAll_16 rfl (lv_at hl 0 rfl) ?_
  refine va_get (D := D) (ci := 3) (v := .ref (ad 21)) (C := "OnceNamed$NamedForm") (T := TX3) (N := 14) hx hb hts (fun w h => List.mem_cons_of_mem _ (inX3 w h)) hown hK hP 7 rfl rfl 5 (by decide) (hts _ (List.mem_cons_of_mem _ kw_125)) (fun _ h9 => h9) rfl dNamedForm_forgetAll_17 ?_
  refine lv_iconst (v := (-1)) hx hb dNamedForm_forgetAll_20 (by decide) ?_
  refine xcv (va_runS ⟨hx, hb, hml, hown, hts⟩ (ktArrays_fill l D cA ad N (ad 21) (N * 6) _ stepNames (-1) _ hw) (va_cwS 2 hts (goodS kw_310 kw_42 kw_4 kw_43) rfl rfl rfl (by decide +kernel) ⟨Nat.le_of_ble_eq_true rfl, Nat.le_of_ble_eq_true rfl⟩) (xpreS hK hP hD hN [10] rfl rfl) rfl rfl hl.1 rfl (lv_room (Nat.le_of_ble_eq_true rfl)) dNamedForm_forgetAll_21 ⟨Nat.le_of_ble_eq_true rfl, Nat.le_of_ble_eq_true rfl⟩) hP hD hS hA [10] [0, 1, 2, 3, 4, 5, 6, 7, 8, 9, 11, 12, 13, 14, 15] rfl rfl rfl rfl [0, 1, 2, 3, 4, 5, 6, 7, 8, 9, 15, 10, 11, 12, 13, 14] rfl (fun _ => rfl) (fun stepNames_21 H locs hw hP hD hS => ?_)
  try dsimp only at hw
  have hP : va_P D vwCl (wdNamedForm_forgetAll cA ad N stepCount kind target orderSize reached frontiers order meetingNames_5 meetingUses_13 stepNames_21 firstUses secondUses endUses namesOf homeBlock) H := hP
  have hD : va_D A (wdNamedForm_forgetAll cA ad N stepCount kind target orderSize reached frontiers order meetingNames_5 meetingUses_13 stepNames_21 firstUses secondUses endUses namesOf homeBlock) := hD
  refine lv_aload_n hx hb dNamedForm_forgetAll_24 rfl (lv_at hl 0 rfl) ?_
  refine va_get (D := D) (ci := 3) (v := .ref (ad 22)) (C := "OnceNamed$NamedForm") (T := TX3) (N := 14) hx hb hts (fun w h => List.mem_cons_of_mem _ (inX3 w h)) hown hK hP 7 rfl rfl 6 (by decide) (hts _ (List.mem_cons_of_mem _ kw_126)) (fun _ h9 => h9) rfl dNamedForm_forgetAll_25 ?_
  refine lv_iconst (v := (-1)) hx hb dNamedForm_forgetAll_28 (by decide) ?_
  refine xcv (va_runS ⟨hx, hb, hml, hown, hts⟩ (ktArrays_fill l D cA ad N (ad 22) (N * 6) _ firstUses (-1) _ hw) (va_cwS 2 hts (goodS kw_310 kw_42 kw_4 kw_43) rfl rfl rfl (by decide +kernel) ⟨Nat.le_of_ble_eq_true rfl, Nat.le_of_ble_eq_true rfl⟩) (xpreS hK hP hD hN [11] rfl rfl) rfl rfl hl.1 rfl (lv_room (Nat.le_of_ble_eq_true rfl)) dNamedForm_forgetAll_29 ⟨Nat.le_of_ble_eq_true rfl, Nat.le_of_ble_eq_true rfl⟩) hP hD hS hA [11] [0, 1, 2, 3, 4, 5, 6, 7, 8, 9, 10, 12, 13, 14, 15] rfl rfl rfl rfl [0, 1, 2, 3, 4, 5, 6, 7, 8, 9, 10, 15, 11, 12, 13, 14] rfl (fun _ => rfl) (fun firstUses_29 H locs hw hP hD hS => ?_)
  try dsimp only at hw
  have hP : va_P D vwCl (wdNamedForm_forgetAll cA ad N stepCount kind target orderSize reached frontiers order meetingNames_5 meetingUses_13 stepNames_21 firstUses_29 secondUses endUses namesOf homeBlock) H := hP
  have hD : va_D A (wdNamedForm_forgetAll cA ad N stepCount kind target orderSize reached frontiers order meetingNames_5 meetingUses_13 stepNames_21 firstUses_29 secondUses endUses namesOf homeBlock) := hD
  refine lv_aload_n hx hb dNamedForm_forgetAll_32 rfl (lv_at hl 0 rfl) ?_
  refine va_get (D := D) (ci := 3) (v := .ref (ad 23)) (C := "OnceNamed$NamedForm") (T := TX3) (N := 14) hx hb hts (fun w h => List.mem_cons_of_mem _ (inX3 w h)) hown hK hP 7 rfl rfl 7 (by decide) (hts _ (List.mem_cons_of_mem _ kw_127)) (fun _ h9 => h9) rfl dNamedForm_forgetAll_33 ?_
  refine lv_iconst (v := (-1)) hx hb dNamedForm_forgetAll_36 (by decide) ?_
  refine xcv (va_runS ⟨hx, hb, hml, hown, hts⟩ (ktArrays_fill l D cA ad N (ad 23) (N * 6) _ secondUses (-1) _ hw) (va_cwS 2 hts (goodS kw_310 kw_42 kw_4 kw_43) rfl rfl rfl (by decide +kernel) ⟨Nat.le_of_ble_eq_true rfl, Nat.le_of_ble_eq_true rfl⟩) (xpreS hK hP hD hN [12] rfl rfl) rfl rfl hl.1 rfl (lv_room (Nat.le_of_ble_eq_true rfl)) dNamedForm_forgetAll_37 ⟨Nat.le_of_ble_eq_true rfl, Nat.le_of_ble_eq_true rfl⟩) hP hD hS hA [12] [0, 1, 2, 3, 4, 5, 6, 7, 8, 9, 10, 11, 13, 14, 15] rfl rfl rfl rfl [0, 1, 2, 3, 4, 5, 6, 7, 8, 9, 10, 11, 15, 12, 13, 14] rfl (fun _ => rfl) (fun secondUses_37 H locs hw hP hD hS => ?_)
  try dsimp only at hw
  have hP : va_P D vwCl (wdNamedForm_forgetAll cA ad N stepCount kind target orderSize reached frontiers order meetingNames_5 meetingUses_13 stepNames_21 firstUses_29 secondUses_37 endUses namesOf homeBlock) H := hP
  have hD : va_D A (wdNamedForm_forgetAll cA ad N stepCount kind target orderSize reached frontiers order meetingNames_5 meetingUses_13 stepNames_21 firstUses_29 secondUses_37 endUses namesOf homeBlock) := hD
  refine lv_aload_n hx hb dNamedForm_forgetAll_40 rfl (lv_at hl 0 rfl) ?_
  refine va_get (D := D) (ci := 3) (v := .ref (ad 24)) (C := "OnceNamed$NamedForm") (T := TX3) (N := 14) hx hb hts (fun w h => List.mem_cons_of_mem _ (inX3 w h)) hown hK hP 7 rfl rfl 8 (by decide) (hts _ (List.mem_cons_of_mem _ kw_128)) (fun _ h9 => h9) rfl dNamedForm_forgetAll_41 ?_
  refine lv_iconst (v := (-1)) hx hb dNamedForm_forgetAll_44 (by decide) ?_
  refine xcv (va_runS ⟨hx, hb, hml, hown, hts⟩ (ktArrays_fill l D cA ad N (ad 24) N _ endUses (-1) _ hw) (va_cwS 2 hts (goodS kw_310 kw_42 kw_4 kw_43) rfl rfl rfl (by decide +kernel) ⟨Nat.le_of_ble_eq_true rfl, Nat.le_of_ble_eq_true rfl⟩) (xpreS hK hP hD hN [13] rfl rfl) rfl rfl hl.1 rfl (lv_room (Nat.le_of_ble_eq_true rfl)) dNamedForm_forgetAll_45 ⟨Nat.le_of_ble_eq_true rfl, Nat.le_of_ble_eq_true rfl⟩) hP hD hS hA [13] [0, 1, 2, 3, 4, 5, 6, 7, 8, 9, 10, 11, 12, 14, 15] rfl rfl rfl rfl [0, 1, 2, 3, 4, 5, 6, 7, 8, 9, 10, 11, 12, 15, 13, 14] rfl (fun _ => rfl) (fun endUses_45 H locs hw hP hD hS => ?_)
  try dsimp only at hw
  have hP : va_P D vwCl (wdNamedForm_forgetAll cA ad N stepCount kind target orderSize reached frontiers order meetingNames_5 meetingUses_13 stepNames_21 firstUses_29 secondUses_37 endUses_45 namesOf homeBlock) H := hP
  have hD : va_D A (wdNamedForm_forgetAll cA ad N stepCount kind target orderSize reached frontiers order meetingNames_5 meetingUses_13 stepNames_21 firstUses_29 secondUses_37 endUses_45 namesOf homeBlock) := hD
  refine lv_aload_n hx hb dNamedForm_forgetAll_48 rfl (lv_at hl 0 rfl) ?_
  refine va_get (D := D) (ci := 3) (v := .ref (ad 26)) (C := "OnceNamed$NamedForm") (T := TX3) (N := 14) hx hb hts (fun w h => List.mem_cons_of_mem _ (inX3 w h)) hown hK hP 7 rfl rfl 10 (by decide) (hts _ (List.mem_cons_of_mem _ kw_130)) (fun _ h9 => h9) rfl dNamedForm_forgetAll_49 ?_
  refine lv_iconst (v := 0) hx hb dNamedForm_forgetAll_52 (by decide) ?_
  refine xcv (va_runS ⟨hx, hb, hml, hown, hts⟩ (ktArrays_fill l D cA ad N (ad 26) 6 _ namesOf 0 _ hw) (va_cwS 2 hts (goodS kw_310 kw_42 kw_4 kw_43) rfl rfl rfl (by decide +kernel) ⟨Nat.le_of_ble_eq_true rfl, Nat.le_of_ble_eq_true rfl⟩) (xpreS hK hP hD hN [14] rfl rfl) rfl rfl hl.1 rfl (lv_room (Nat.le_of_ble_eq_true rfl)) dNamedForm_forgetAll_53 ⟨Nat.le_of_ble_eq_true rfl, Nat.le_of_ble_eq_true rfl⟩) hP hD hS hA [14] [0, 1, 2, 3, 4, 5, 6, 7, 8, 9, 10, 11, 12, 13, 15] rfl rfl rfl rfl [0, 1, 2, 3, 4, 5, 6, 7, 8, 9, 10, 11, 12, 13, 15, 14] rfl (fun _ => rfl) (fun namesOf_53 H locs hw hP hD hS => ?_)
  try dsimp only at hw
  have hP : va_P D vwCl (wdNamedForm_forgetAll cA ad N stepCount kind target orderSize reached frontiers order meetingNames_5 meetingUses_13 stepNames_21 firstUses_29 secondUses_37 endUses_45 namesOf_53 homeBlock) H := hP
  have hD : va_D A (wdNamedForm_forgetAll cA ad N stepCount kind target orderSize reached frontiers order meetingNames_5 meetingUses_13 stepNames_21 firstUses_29 secondUses_37 endUses_45 namesOf_53 homeBlock) := hD
  refine lv_aload_n hx hb dNamedForm_forgetAll_56 rfl (lv_at hl 0 rfl) ?_
  refine va_get (D := D) (ci := 3) (v := .ref (ad 27)) (C := "OnceNamed$NamedForm") (T := TX3) (N := 14) hx hb hts (fun w h => List.mem_cons_of_mem _ (inX3 w h)) hown hK hP 7 rfl rfl 11 (by decide) (hts _ (List.mem_cons_of_mem _ kw_131)) (fun _ h9 => h9) rfl dNamedForm_forgetAll_57 ?_
  refine lv_iconst (v := (-1)) hx hb dNamedForm_forgetAll_60 (by decide) ?_
  refine xcv (va_runS ⟨hx, hb, hml, hown, hts⟩ (ktArrays_fill l D cA ad N (ad 27) 600 _ homeBlock (-1) _ hw) (va_cwS 2 hts (goodS kw_310 kw_42 kw_4 kw_43) rfl rfl rfl (by decide +kernel) ⟨Nat.le_of_ble_eq_true rfl, Nat.le_of_ble_eq_true rfl⟩) (xpreS hK hP hD hN [15] rfl rfl) rfl rfl hl.1 rfl (lv_room (Nat.le_of_ble_eq_true rfl)) dNamedForm_forgetAll_61 ⟨Nat.le_of_ble_eq_true rfl, Nat.le_of_ble_eq_true rfl⟩) hP hD hS hA [15] [0, 1, 2, 3, 4, 5, 6, 7, 8, 9, 10, 11, 12, 13, 14] rfl rfl rfl rfl [0, 1, 2, 3, 4, 5, 6, 7, 8, 9, 10, 11, 12, 13, 14, 15] rfl (fun _ => rfl) (fun homeBlock_61 H locs hw hP hD hS => ?_)
  try dsimp only at hw
  have hP : va_P D vwCl (wdNamedForm_forgetAll cA ad N stepCount kind target orderSize reached frontiers order meetingNames_5 meetingUses_13 stepNames_21 firstUses_29 secondUses_37 endUses_45 namesOf_53 homeBlock_61) H := hP
  have hD : va_D A (wdNamedForm_forgetAll cA ad N stepCount kind target orderSize reached frontiers order meetingNames_5 meetingUses_13 stepNames_21 firstUses_29 secondUses_37 endUses_45 namesOf_53 homeBlock_61) := hD
  refine lv_iconst (v := 0) hx hb dNamedForm_forgetAll_64 (by decide) ?_
  refine lv_istore_n (lv' := [(1, .int 0), (0, .ref (ad 18))]) hx hb dNamedForm_forgetAll_65 rfl hl (by decide) rfl (fun ls hl => ?_)
  obtain ⟨k66, hw⟩ := hw
  have hlp66 : ∀ (k : Nat), ∀ (v1_L66 : Int32) (meetingNames_L66 : Nat → Int32) (ls : Array Slot) (H : Heap) (locs : List Loc), lv_has ls 2 [(0, .ref (ad 18)), (1, .int v1_L66)] → va_P D vwCl (wdNamedForm_forgetAll cA ad N stepCount kind target orderSize reached frontiers order meetingNames_L66 meetingUses_13 stepNames_21 firstUses_29 secondUses_37 endUses_45 namesOf_53 homeBlock_61) H → va_D A (wdNamedForm_forgetAll cA ad N stepCount kind target orderSize reached frontiers order meetingNames_L66 meetingUses_13 stepNames_21 firstUses_29 secondUses_37 endUses_45 namesOf_53 homeBlock_61) → va_S A s.heap H locs → lpNamedForm_forgetAll_66 N stepCount kind target orderSize frontiers order meetingUses_13 stepNames_21 firstUses_29 secondUses_37 endUses_45 namesOf_53 homeBlock_61 post k v1_L66 meetingNames_L66 → W p l e (headSpec (Cond.code yNamedForm_forgetAll cNamedForm_forgetAll 2 none :: xW) rmNamedForm_forgetAll).room s m ([.ref (ad 18)] : List Value).toArray below meth c H locs 0 0 Q (F0 m 66 ls []) := by
    intro k
    induction k with
    | zero => intro v1_L66 meetingNames_L66 ls H locs hl hP hD hS hw; exact False.elim hw
    | succ k ih =>
      intro v1_L66 meetingNames_L66 ls H locs hl hP hD hS hw
      refine lv_iload_n hx hb dNamedForm_forgetAll_66 rfl (lv_at hl 1 rfl) ?_
      refine lv_bipush (v := 6) hx hb dNamedForm_forgetAll_67 (by decide) ?_
      refine lv_icmp_ge (tgt := 83) hx hb dNamedForm_forgetAll_69 rfl (fun hc => ?_) (fun hc => ?_)
      · have hw := hw.1 hc
        exact hend meetingNames_L66 meetingUses_13 stepNames_21 firstUses_29 secondUses_37 endUses_45 namesOf_53 homeBlock_61 _ _ _ _ dNamedForm_forgetAll_83 hP hD hS hw
      · have hw := hw.2 hc
        refine lv_aload_n hx hb dNamedForm_forgetAll_72 rfl (lv_at hl 0 rfl) ?_
        refine lv_iload_n hx hb dNamedForm_forgetAll_73 rfl (lv_at hl 1 rfl) ?_
        refine xcv (va_runV ⟨hx, hb, hml, hown, hts⟩ (ktNamedForm_markMeetings l D cA ad N _ stepCount kind target orderSize reached frontiers order meetingNames_L66 v1_L66 _ hw) (cwV 1 hts (goodV kw_311 kw_313 ks_1_6 kw_6 kw_314) rfl rfl rfl (by decide +kernel) ⟨Nat.le_of_ble_eq_true rfl, Nat.le_of_ble_eq_true rfl⟩) (xpreV hK hP hD hN [0, 1, 2, 3, 4, 5, 6, 7, 8] rfl rfl 7 rfl rfl) rfl rfl hl.1 rfl (lv_room (Nat.le_of_ble_eq_true rfl)) dNamedForm_forgetAll_74 ⟨Nat.le_of_ble_eq_true rfl, Nat.le_of_ble_eq_true rfl⟩) hP hD hS hA [0, 1, 2, 3, 4, 5, 6, 7, 8] [9, 10, 11, 12, 13, 14, 15] rfl rfl rfl rfl [7, 8, 9, 10, 11, 12, 13, 14, 15, 0, 1, 2, 3, 4, 5, 6] rfl (fun _ => rfl) (fun meetingNames_74 H locs hw hP hD hS => ?_)
        try dsimp only at hw
        have hP : va_P D vwCl (wdNamedForm_forgetAll cA ad N stepCount kind target orderSize reached frontiers order meetingNames_74 meetingUses_13 stepNames_21 firstUses_29 secondUses_37 endUses_45 namesOf_53 homeBlock_61) H := hP
        have hD : va_D A (wdNamedForm_forgetAll cA ad N stepCount kind target orderSize reached frontiers order meetingNames_74 meetingUses_13 stepNames_21 firstUses_29 secondUses_37 endUses_45 namesOf_53 homeBlock_61) := hD
        refine lv_iinc (k := 1) (v := (v1_L66 + 1)) (lv' := [(1, .int (v1_L66 + 1)), (0, .ref (ad 18))]) hx hb dNamedForm_forgetAll_77 hl rfl rfl (by decide) rfl (fun ls hl => ?_)
        refine lv_goto (tgt := 66) hx hb dNamedForm_forgetAll_80 rfl ?_
        exact ih (v1_L66 + 1) meetingNames_74 _ _ _ (lv_sub hl [1, 0] rfl) hP hD hS hw
  refine hlp66 k66 0 meetingNames_5 _ _ _ (lv_sub hl [1, 0] rfl) hP hD hS hw
abbrev wdNamedForm_useOfMeeting (cA : ClassId) (ad : Nat → Nat) (N : Nat)  : va_W := [((ad 18), .inr (3, [.ref (ad 1), .ref (ad 11), .int (nI N), .ref (ad 19), .ref (ad 20), .ref (ad 21), .ref (ad 22), .ref (ad 23), .ref (ad 24), .ref (ad 25), .ref (ad 26), .ref (ad 27), .ref (ad 28), .ref (ad 29)]))]
abbrev qcNamedForm_useOfMeeting (D : va_G) (cA : ClassId) (ad : Nat → Nat) (N : Nat)  (post : Int32 → Prop) (A : Nat → Prop) : Array Value → State → Outcome → State → Prop := va_Qi (S := Unit) (fun r u => post r ) (fun u t => xB D cA A (wdNamedForm_useOfMeeting cA ad N) t) A
abbrev rmNamedForm_useOfMeeting : Room := { frames := 0, cells := 0, slots := 0, locals := 0 }
set_option maxHeartbeats 4000000 in
set_option maxRecDepth 100000 in
theorem ktNamedForm_useOfMeeting (l : Launch) (D : va_G) (cA : ClassId) (ad : Nat → Nat) (N : Nat) (sz : Nat)  (v1 : Int32) (v2 : Int32) (v3 : Int32) (post : Int32 → Prop) (hw : wpNamedForm_useOfMeeting N v1 v2 v3 post) : Met l yNamedForm_useOfMeeting (Cond.code yNamedForm_useOfMeeting cNamedForm_useOfMeeting 4 (some .int) :: xW) rmNamedForm_useOfMeeting (va_Pc [.ref (ad 18), .int v1, .int v2, .int v3] (xPc D cA (wdNamedForm_useOfMeeting cA ad N) sz)) (qcNamedForm_useOfMeeting D cA ad N  post (va_A (wdNamedForm_useOfMeeting cA ad N) sz)) 0 0 (va_A (wdNamedForm_useOfMeeting cA ad N) sz) := by
  refine Met.ofW (cc := cNamedForm_useOfMeeting) (maxL := 4) (ret := (some .int)) (by decide) rfl ?_
  intro p e s m args below meth c s₁ B hml hv
  obtain ⟨rfl, hsz, hP, hK, hD0, hN⟩ := hv
  have hx := B.exec
  have hb := B.bytes
  have hr := B.returns
  have hts := atoms_spec (ws := (Cond.code yNamedForm_useOfMeeting cNamedForm_useOfMeeting 4 (some .int) :: xW)) B.pre
  have hown : s.vm.findClass "OnceNamed$NamedForm" = some m.cls := findClass_of_methodNamed B.named
  have hlocks := B.notSynchronized
  subst hsz
  have hD := hD0.self (sz := s.heap.size)
  generalize hAe : va_A (wdNamedForm_useOfMeeting cA ad N) s.heap.size = A at hD ⊢
  have hA : ∀ q : Nat, s.heap.size ≤ q → A q := fun q h => by rw [← hAe]; exact Or.inr h
  have hS : va_S A s.heap s.heap [] := va_S.rf
  have hend : ∀ (r : Int32)  (H : Heap) (locs : List Loc) (pc : Nat) (ls : Array Slot), decode cNamedForm_useOfMeeting pc = .ok (.ireturn, 1) → va_P D vwCl (wdNamedForm_useOfMeeting cA ad N) H → va_D A (wdNamedForm_useOfMeeting cA ad N) → va_S A s.heap H locs → post r  → W p l e (headSpec (Cond.code yNamedForm_useOfMeeting cNamedForm_useOfMeeting 4 (some .int) :: xW) rmNamedForm_useOfMeeting).room s m ([.ref (ad 18), .int v1, .int v2, .int v3] : List Value).toArray below meth c H locs 0 0 (MQ below (qcNamedForm_useOfMeeting D cA ad N  post A) ([.ref (ad 18), .int v1, .int v2, .int v3] : List Value).toArray s 0 0 A) (F0 m pc ls [.int r]) := fun r  H locs pc ls hd hP hD hS hw => W.iret (v := r) hx hb hr (fun t ht hW => ⟨⟨r, (), rfl, hw, ⟨by rw [ht]; exact hP, va_K.moved hW.alike hK, hD⟩⟩, hS.F ht⟩) hS.2.2 hd
  generalize hQ : MQ below (qcNamedForm_useOfMeeting D cA ad N  post A) ([.ref (ad 18), .int v1, .int v2, .int v3] : List Value).toArray s 0 0 A = Q at hend ⊢
  have hl := lv_entry ([.ref (ad 18), .int v1, .int v2, .int v3]) (n := 4) (Nat.le_of_ble_eq_true rfl)
  rw [lg_entry_eq]
  generalize (lg_sl ([.ref (ad 18), .int v1, .int v2, .int v3]) ++ List.replicate (4 - (lg_sl ([.ref (ad 18), .int v1, .int v2, .int v3])).length) Slot.unset).toArray = ls at hl ⊢
  have hl : lv_has ls 4 [(0, .ref (ad 18)), (1, .int v1), (2, .int v2), (3, .int v3)] := hl
  unfold wpNamedForm_useOfMeeting at hw
  refine lv_iload_n hx hb dNamedForm_useOfMeeting_0 rfl (lv_at hl 1 rfl) ?_
  refine lv_bipush (v := 6) hx hb dNamedForm_useOfMeeting_1 (by decide) ?_
  refine lv_imul hx hb dNamedForm_useOfMeeting_3 ?_
  refine lv_iload_n hx hb dNamedForm_useOfMeeting_4 rfl (lv_at hl 2 rfl) ?_
  refine lv_iadd hx hb dNamedForm_useOfMeeting_5 ?_
  refine lv_aload_n hx hb dNamedForm_useOfMeeting_6 rfl (lv_at hl 0 rfl) ?_
  refine va_get (D := D) (ci := 3) (v := .int (nI N)) (C := "OnceNamed$NamedForm") (T := TX3) (N := 14) hx hb hts (fun w h => List.mem_cons_of_mem _ (inX3 w h)) hown hK hP 0 rfl rfl 2 (by decide) (hts _ (List.mem_cons_of_mem _ kw_122)) (fun _ h9 => h9) rfl dNamedForm_useOfMeeting_7 ?_
  refine lv_iconst (v := 1) hx hb dNamedForm_useOfMeeting_10 (by decide) ?_
  refine lv_iadd hx hb dNamedForm_useOfMeeting_11 ?_
  refine lv_imul hx hb dNamedForm_useOfMeeting_12 ?_
  refine lv_iload_n hx hb dNamedForm_useOfMeeting_13 rfl (lv_at hl 3 rfl) ?_
  refine lv_iadd hx hb dNamedForm_useOfMeeting_14 ?_
  exact hend ((((v1 * 6) + v2) * ((nI N) + 1)) + v3) _ _ _ _ dNamedForm_useOfMeeting_15 hP hD hS hw
abbrev wdNamedForm_lastName (cA : ClassId) (ad : Nat → Nat) (N : Nat) (lastNames : Nat → Int32) : va_W := [((ad 18), .inr (3, [.ref (ad 1), .ref (ad 11), .int (nI N), .ref (ad 19), .ref (ad 20), .ref (ad 21), .ref (ad 22), .ref (ad 23), .ref (ad 24), .ref (ad 25), .ref (ad 26), .ref (ad 27), .ref (ad 28), .ref (ad 29)])), ((ad 25), .inl (cA, (N + 1) * 6, .inl lastNames))]
abbrev qcNamedForm_lastName (D : va_G) (cA : ClassId) (ad : Nat → Nat) (N : Nat) (lastNames : Nat → Int32) (post : Int32 → Prop) (A : Nat → Prop) : Array Value → State → Outcome → State → Prop := va_Qi (S := Unit) (fun r u => post r ) (fun u t => xB D cA A (wdNamedForm_lastName cA ad N lastNames) t) A
abbrev rmNamedForm_lastName : Room := { frames := 0, cells := 0, slots := 0, locals := 0 }
set_option maxHeartbeats 4000000 in
set_option maxRecDepth 100000 in
theorem ktNamedForm_lastName (l : Launch) (D : va_G) (cA : ClassId) (ad : Nat → Nat) (N : Nat) (sz : Nat) (lastNames : Nat → Int32) (v1 : Int32) (v2 : Int32) (post : Int32 → Prop) (hw : wpNamedForm_lastName N lastNames v1 v2 post) : Met l yNamedForm_lastName (Cond.code yNamedForm_lastName cNamedForm_lastName 3 (some .int) :: xW) rmNamedForm_lastName (va_Pc [.ref (ad 18), .int v1, .int v2] (xPc D cA (wdNamedForm_lastName cA ad N lastNames) sz)) (qcNamedForm_lastName D cA ad N lastNames post (va_A (wdNamedForm_lastName cA ad N lastNames) sz)) 0 0 (va_A (wdNamedForm_lastName cA ad N lastNames) sz) := by
  refine Met.ofW (cc := cNamedForm_lastName) (maxL := 3) (ret := (some .int)) (by decide) rfl ?_
  intro p e s m args below meth c s₁ B hml hv
  obtain ⟨rfl, hsz, hP, hK, hD0, hN⟩ := hv
  have hx := B.exec
  have hb := B.bytes
  have hr := B.returns
  have hts := atoms_spec (ws := (Cond.code yNamedForm_lastName cNamedForm_lastName 3 (some .int) :: xW)) B.pre
  have hown : s.vm.findClass "OnceNamed$NamedForm" = some m.cls := findClass_of_methodNamed B.named
  have hlocks := B.notSynchronized
  subst hsz
  have hD := hD0.self (sz := s.heap.size)
  generalize hAe : va_A (wdNamedForm_lastName cA ad N lastNames) s.heap.size = A at hD ⊢
  have hA : ∀ q : Nat, s.heap.size ≤ q → A q := fun q h => by rw [← hAe]; exact Or.inr h
  have hS : va_S A s.heap s.heap [] := va_S.rf
  have hend : ∀ (r : Int32)  (H : Heap) (locs : List Loc) (pc : Nat) (ls : Array Slot), decode cNamedForm_lastName pc = .ok (.ireturn, 1) → va_P D vwCl (wdNamedForm_lastName cA ad N lastNames) H → va_D A (wdNamedForm_lastName cA ad N lastNames) → va_S A s.heap H locs → post r  → W p l e (headSpec (Cond.code yNamedForm_lastName cNamedForm_lastName 3 (some .int) :: xW) rmNamedForm_lastName).room s m ([.ref (ad 18), .int v1, .int v2] : List Value).toArray below meth c H locs 0 0 (MQ below (qcNamedForm_lastName D cA ad N lastNames post A) ([.ref (ad 18), .int v1, .int v2] : List Value).toArray s 0 0 A) (F0 m pc ls [.int r]) := fun r  H locs pc ls hd hP hD hS hw => W.iret (v := r) hx hb hr (fun t ht hW => ⟨⟨r, (), rfl, hw, ⟨by rw [ht]; exact hP, va_K.moved hW.alike hK, hD⟩⟩, hS.F ht⟩) hS.2.2 hd
  generalize hQ : MQ below (qcNamedForm_lastName D cA ad N lastNames post A) ([.ref (ad 18), .int v1, .int v2] : List Value).toArray s 0 0 A = Q at hend ⊢
  have hl := lv_entry ([.ref (ad 18), .int v1, .int v2]) (n := 3) (Nat.le_of_ble_eq_true rfl)
  rw [lg_entry_eq]
  generalize (lg_sl ([.ref (ad 18), .int v1, .int v2]) ++ List.replicate (3 - (lg_sl ([.ref (ad 18), .int v1, .int v2])).length) Slot.unset).toArray = ls at hl ⊢
  have hl : lv_has ls 3 [(0, .ref (ad 18)), (1, .int v1), (2, .int v2)] := hl
  unfold wpNamedForm_lastName at hw
  refine lv_iload_n hx hb dNamedForm_lastName_0 rfl (lv_at hl 2 rfl) ?_
  refine lv_iconst (v := (-1)) hx hb dNamedForm_lastName_1 (by decide) ?_
  refine lv_icmp_ne (tgt := 9) hx hb dNamedForm_lastName_2 rfl (fun hc => ?_) (fun hc => ?_)
  · have hw := hw.1 hc
    refine lv_aload_n hx hb dNamedForm_lastName_9 rfl (lv_at hl 0 rfl) ?_
    refine va_get (D := D) (ci := 3) (v := .ref (ad 25)) (C := "OnceNamed$NamedForm") (T := TX3) (N := 14) hx hb hts (fun w h => List.mem_cons_of_mem _ (inX3 w h)) hown hK hP 0 rfl rfl 9 (by decide) (hts _ (List.mem_cons_of_mem _ kw_129)) (fun _ h9 => h9) rfl dNamedForm_lastName_10 ?_
    refine lv_iload_n hx hb dNamedForm_lastName_13 rfl (lv_at hl 1 rfl) ?_
    refine lv_bipush (v := 6) hx hb dNamedForm_lastName_14 (by decide) ?_
    refine lv_imul hx hb dNamedForm_lastName_16 ?_
    refine lv_iload_n hx hb dNamedForm_lastName_17 rfl (lv_at hl 2 rfl) ?_
    refine lv_iadd hx hb dNamedForm_lastName_18 ?_
    have ho := hw.1
    have hw := hw.2
    refine va_iald hx hb hK hP 1 0 rfl rfl ho dNamedForm_lastName_19 ?_
    exact hend (lastNames (Int32.toNatClampNeg ((v1 * 6) + v2))) _ _ _ _ dNamedForm_lastName_20 hP hD hS hw
  · have hw := hw.2 hc
    refine lv_iconst (v := (-1)) hx hb dNamedForm_lastName_5 (by decide) ?_
    refine lv_goto (tgt := 20) hx hb dNamedForm_lastName_6 rfl ?_
    exact hend (-1) _ _ _ _ dNamedForm_lastName_20 hP hD hS hw
abbrev wdNamedForm_findUsesOfMeeting (cA : ClassId) (ad : Nat → Nat) (N : Nat) (orderSize : Int32) (reached : Int32) (forerunners : Nat → Int32) (meetingUses : Nat → Int32) (lastNames : Nat → Int32) : va_W := [((ad 11), .inr (2, [.int (nI N), .ref (ad 12), .ref (ad 13), .ref (ad 14), .ref (ad 15), .ref (ad 16), .ref (ad 17), .int orderSize, .int reached])), ((ad 12), .inl (cA, N, .inl forerunners)), ((ad 18), .inr (3, [.ref (ad 1), .ref (ad 11), .int (nI N), .ref (ad 19), .ref (ad 20), .ref (ad 21), .ref (ad 22), .ref (ad 23), .ref (ad 24), .ref (ad 25), .ref (ad 26), .ref (ad 27), .ref (ad 28), .ref (ad 29)])), ((ad 20), .inl (cA, N * 6 * (N + 1), .inl meetingUses)), ((ad 25), .inl (cA, (N + 1) * 6, .inl lastNames))]
abbrev qcNamedForm_findUsesOfMeeting (D : va_G) (cA : ClassId) (ad : Nat → Nat) (N : Nat) (orderSize : Int32) (reached : Int32) (forerunners : Nat → Int32) (meetingUses : Nat → Int32) (lastNames : Nat → Int32) (post : (Nat → Int32) → Prop) (A : Nat → Prop) : Array Value → State → Outcome → State → Prop := va_Qv (S := (Nat → Int32)) (fun u => post u) (fun u t => xB D cA A (wdNamedForm_findUsesOfMeeting cA ad N orderSize reached forerunners u lastNames) t) A
abbrev rmNamedForm_findUsesOfMeeting : Room := { frames := 2, cells := 0, slots := 0, locals := 43 }
set_option maxHeartbeats 4000000 in
set_option maxRecDepth 100000 in
theorem ktNamedForm_findUsesOfMeeting (l : Launch) (D : va_G) (cA : ClassId) (ad : Nat → Nat) (N : Nat) (sz : Nat) (orderSize : Int32) (reached : Int32) (forerunners : Nat → Int32) (meetingUses : Nat → Int32) (lastNames : Nat → Int32) (v1 : Int32) (v2 : Int32) (post : (Nat → Int32) → Prop) (hw : wpNamedForm_findUsesOfMeeting N forerunners meetingUses lastNames v1 v2 post) : Met l yNamedForm_findUsesOfMeeting (Cond.code yNamedForm_findUsesOfMeeting cNamedForm_findUsesOfMeeting 4 none :: xW) rmNamedForm_findUsesOfMeeting (va_Pc [.ref (ad 18), .int v1, .int v2] (xPc D cA (wdNamedForm_findUsesOfMeeting cA ad N orderSize reached forerunners meetingUses lastNames) sz)) (qcNamedForm_findUsesOfMeeting D cA ad N orderSize reached forerunners meetingUses lastNames post (va_A (wdNamedForm_findUsesOfMeeting cA ad N orderSize reached forerunners meetingUses lastNames) sz)) 0 0 (va_A (wdNamedForm_findUsesOfMeeting cA ad N orderSize reached forerunners meetingUses lastNames) sz) := by
  refine Met.ofW (cc := cNamedForm_findUsesOfMeeting) (maxL := 4) (ret := none) (by decide) rfl ?_
  intro p e s m args below meth c s₁ B hml hv
  obtain ⟨rfl, hsz, hP, hK, hD0, hN⟩ := hv
  have hx := B.exec
  have hb := B.bytes
  have hr := B.returns
  have hts := atoms_spec (ws := (Cond.code yNamedForm_findUsesOfMeeting cNamedForm_findUsesOfMeeting 4 none :: xW)) B.pre
  have hown : s.vm.findClass "OnceNamed$NamedForm" = some m.cls := findClass_of_methodNamed B.named
  have hlocks := B.notSynchronized
  subst hsz
  have hD := hD0.self (sz := s.heap.size)
  generalize hAe : va_A (wdNamedForm_findUsesOfMeeting cA ad N orderSize reached forerunners meetingUses lastNames) s.heap.size = A at hD ⊢
  have hA : ∀ q : Nat, s.heap.size ≤ q → A q := fun q h => by rw [← hAe]; exact Or.inr h
  have hS : va_S A s.heap s.heap [] := va_S.rf
  have hend : ∀ (u0 : Nat → Int32) (H : Heap) (locs : List Loc) (pc : Nat) (ls : Array Slot), decode cNamedForm_findUsesOfMeeting pc = .ok (.return_, 1) → va_P D vwCl (wdNamedForm_findUsesOfMeeting cA ad N orderSize reached forerunners u0 lastNames) H → va_D A (wdNamedForm_findUsesOfMeeting cA ad N orderSize reached forerunners u0 lastNames) → va_S A s.heap H locs → post u0 → W p l e (headSpec (Cond.code yNamedForm_findUsesOfMeeting cNamedForm_findUsesOfMeeting 4 none :: xW) rmNamedForm_findUsesOfMeeting).room s m ([.ref (ad 18), .int v1, .int v2] : List Value).toArray below meth c H locs 0 0 (MQ below (qcNamedForm_findUsesOfMeeting D cA ad N orderSize reached forerunners meetingUses lastNames post A) ([.ref (ad 18), .int v1, .int v2] : List Value).toArray s 0 0 A) (F0 m pc ls []) := fun u0 H locs pc ls hd hP hD hS hw => W.vret hx hb hr (fun t ht hW => ⟨⟨u0, rfl, hw, ⟨by rw [ht]; exact hP, va_K.moved hW.alike hK, hD⟩⟩, hS.F ht⟩) hS.2.2 hd
  generalize hQ : MQ below (qcNamedForm_findUsesOfMeeting D cA ad N orderSize reached forerunners meetingUses lastNames post A) ([.ref (ad 18), .int v1, .int v2] : List Value).toArray s 0 0 A = Q at hend ⊢
  have hl := lv_entry ([.ref (ad 18), .int v1, .int v2]) (n := 4) (Nat.le_of_ble_eq_true rfl)
  rw [lg_entry_eq]
  generalize (lg_sl ([.ref (ad 18), .int v1, .int v2]) ++ List.replicate (4 - (lg_sl ([.ref (ad 18), .int v1, .int v2])).length) Slot.unset).toArray = ls at hl ⊢
  have hl : lv_has ls 4 [(0, .ref (ad 18)), (1, .int v1), (2, .int v2)] := hl
  unfold wpNamedForm_findUsesOfMeeting at hw
  refine lv_iconst (v := 0) hx hb dNamedForm_findUsesOfMeeting_0 (by decide) ?_
  refine lv_istore_n (lv' := [(3, .int 0), (0, .ref (ad 18)), (1, .int v1), (2, .int v2)]) hx hb dNamedForm_findUsesOfMeeting_1 rfl hl (by decide) rfl (fun ls hl => ?_)
  obtain ⟨k2, hw⟩ := hw
  have hlp2 : ∀ (k : Nat), ∀ (v3_L2 : Int32) (meetingUses_L2 : Nat → Int32) (ls : Array Slot) (H : Heap) (locs : List Loc), lv_has ls 4 [(0, .ref (ad 18)), (1, .int v1), (2, .int v2), (3, .int v3_L2)] → va_P D vwCl (wdNamedForm_findUsesOfMeeting cA ad N orderSize reached forerunners meetingUses_L2 lastNames) H → va_D A (wdNamedForm_findUsesOfMeeting cA ad N orderSize reached forerunners meetingUses_L2 lastNames) → va_S A s.heap H locs → lpNamedForm_findUsesOfMeeting_2 N v1 v2 forerunners lastNames post k v3_L2 meetingUses_L2 → W p l e (headSpec (Cond.code yNamedForm_findUsesOfMeeting cNamedForm_findUsesOfMeeting 4 none :: xW) rmNamedForm_findUsesOfMeeting).room s m ([.ref (ad 18), .int v1, .int v2] : List Value).toArray below meth c H locs 0 0 Q (F0 m 2 ls []) := by
    intro k
    induction k with
    | zero => intro v3_L2 meetingUses_L2 ls H locs hl hP hD hS hw; exact False.elim hw
    | succ k ih =>
      intro v3_L2 meetingUses_L2 ls H locs hl hP hD hS hw
      refine lv_iload_n hx hb dNamedForm_findUsesOfMeeting_2 rfl (lv_at hl 3 rfl) ?_
      refine lv_aload_n hx hb dNamedForm_findUsesOfMeeting_3 rfl (lv_at hl 0 rfl) ?_
      refine va_get (D := D) (ci := 3) (v := .int (nI N)) (C := "OnceNamed$NamedForm") (T := TX3) (N := 14) hx hb hts (fun w h => List.mem_cons_of_mem _ (inX3 w h)) hown hK hP 2 rfl rfl 2 (by decide) (hts _ (List.mem_cons_of_mem _ kw_122)) (fun _ h9 => h9) rfl dNamedForm_findUsesOfMeeting_4 ?_
      refine lv_icmp_gt (tgt := 46) hx hb dNamedForm_findUsesOfMeeting_7 rfl (fun hc => ?_) (fun hc => ?_)
      · have hw := hw.1 hc
        exact hend meetingUses_L2 _ _ _ _ dNamedForm_findUsesOfMeeting_46 hP hD hS hw
      · have hw := hw.2 hc
        refine lv_aload_n hx hb dNamedForm_findUsesOfMeeting_10 rfl (lv_at hl 0 rfl) ?_
        refine va_get (D := D) (ci := 3) (v := .ref (ad 11)) (C := "OnceNamed$NamedForm") (T := TX3) (N := 14) hx hb hts (fun w h => List.mem_cons_of_mem _ (inX3 w h)) hown hK hP 2 rfl rfl 1 (by decide) (hts _ (List.mem_cons_of_mem _ kw_121)) (fun _ h9 => h9) rfl dNamedForm_findUsesOfMeeting_11 ?_
        refine lv_iload_n hx hb dNamedForm_findUsesOfMeeting_14 rfl (lv_at hl 3 rfl) ?_
        refine lv_iload_n hx hb dNamedForm_findUsesOfMeeting_15 rfl (lv_at hl 1 rfl) ?_
        refine xci (va_runV ⟨hx, hb, hml, hown, hts⟩ (ktGraph_leadsTo l D cA ad N _ orderSize reached forerunners v3_L2 v1 _ hw) (cwV 2 hts (goodV kw_393 kw_394 kw_395 kw_5 kw_396) rfl rfl rfl (by decide +kernel) ⟨Nat.le_of_ble_eq_true rfl, Nat.le_of_ble_eq_true rfl⟩) (xpreV hK hP hD hN [0, 1] rfl rfl 0 rfl rfl) rfl rfl hl.1 rfl (lv_room (Nat.le_of_ble_eq_true rfl)) dNamedForm_findUsesOfMeeting_16 ⟨Nat.le_of_ble_eq_true rfl, Nat.le_of_ble_eq_true rfl⟩) hP hD hS hA [0, 1] [2, 3, 4] rfl rfl rfl rfl [3, 4, 0, 1, 2] rfl (fun _ => rfl) (fun r16 u H locs hw hP hD hS => ?_)
        obtain ⟨r16, rfl, hw⟩ := hw
        have hP : va_P D vwCl (wdNamedForm_findUsesOfMeeting cA ad N orderSize reached forerunners meetingUses_L2 lastNames) H := hP
        have hD : va_D A (wdNamedForm_findUsesOfMeeting cA ad N orderSize reached forerunners meetingUses_L2 lastNames) := hD
        refine lv_if_eq (tgt := 40) hx hb dNamedForm_findUsesOfMeeting_19 rfl (fun hc => ?_) (fun hc => ?_)
        · have hw := hw.1 (bI_0 hc)
          refine lv_iinc (k := 3) (v := (v3_L2 + 1)) (lv' := [(3, .int (v3_L2 + 1)), (0, .ref (ad 18)), (1, .int v1), (2, .int v2)]) hx hb dNamedForm_findUsesOfMeeting_40 hl rfl rfl (by decide) rfl (fun ls hl => ?_)
          refine lv_goto (tgt := 2) hx hb dNamedForm_findUsesOfMeeting_43 rfl ?_
          exact ih (v3_L2 + 1) meetingUses_L2 _ _ _ (lv_sub hl [1, 2, 3, 0] rfl) hP hD hS hw
        · have hw := hw.2 (bI_1 hc)
          refine lv_aload_n hx hb dNamedForm_findUsesOfMeeting_22 rfl (lv_at hl 0 rfl) ?_
          refine va_get (D := D) (ci := 3) (v := .ref (ad 20)) (C := "OnceNamed$NamedForm") (T := TX3) (N := 14) hx hb hts (fun w h => List.mem_cons_of_mem _ (inX3 w h)) hown hK hP 2 rfl rfl 4 (by decide) (hts _ (List.mem_cons_of_mem _ kw_124)) (fun _ h9 => h9) rfl dNamedForm_findUsesOfMeeting_23 ?_
          refine lv_aload_n hx hb dNamedForm_findUsesOfMeeting_26 rfl (lv_at hl 0 rfl) ?_
          refine lv_iload_n hx hb dNamedForm_findUsesOfMeeting_27 rfl (lv_at hl 1 rfl) ?_
          refine lv_iload_n hx hb dNamedForm_findUsesOfMeeting_28 rfl (lv_at hl 2 rfl) ?_
          refine lv_iload_n hx hb dNamedForm_findUsesOfMeeting_29 rfl (lv_at hl 3 rfl) ?_
          refine xci (va_runV ⟨hx, hb, hml, hown, hts⟩ (ktNamedForm_useOfMeeting l D cA ad N _ v1 v2 v3_L2 _ hw) (cwV 3 hts (goodV kw_397 kw_399 ks_1_13 kw_6 kw_400) rfl rfl rfl (by decide +kernel) ⟨Nat.le_of_ble_eq_true rfl, Nat.le_of_ble_eq_true rfl⟩) (xpreV hK hP hD hN [2] rfl rfl 2 rfl rfl) rfl rfl hl.1 rfl (lv_room (Nat.le_of_ble_eq_true rfl)) dNamedForm_findUsesOfMeeting_30 ⟨Nat.le_of_ble_eq_true rfl, Nat.le_of_ble_eq_true rfl⟩) hP hD hS hA [2] [0, 1, 3, 4] rfl rfl rfl rfl [0, 1, 4, 2, 3] rfl (fun _ => rfl) (fun r30 u H locs hw hP hD hS => ?_)
          have hP : va_P D vwCl (wdNamedForm_findUsesOfMeeting cA ad N orderSize reached forerunners meetingUses_L2 lastNames) H := hP
          have hD : va_D A (wdNamedForm_findUsesOfMeeting cA ad N orderSize reached forerunners meetingUses_L2 lastNames) := hD
          refine lv_aload_n hx hb dNamedForm_findUsesOfMeeting_33 rfl (lv_at hl 0 rfl) ?_
          refine lv_iload_n hx hb dNamedForm_findUsesOfMeeting_34 rfl (lv_at hl 3 rfl) ?_
          refine lv_iload_n hx hb dNamedForm_findUsesOfMeeting_35 rfl (lv_at hl 2 rfl) ?_
          refine xci (va_runV ⟨hx, hb, hml, hown, hts⟩ (ktNamedForm_lastName l D cA ad N _ lastNames v3_L2 v2 _ hw) (cwV 2 hts (goodV kw_369 kw_371 ks_1_10 kw_6 kw_372) rfl rfl rfl (by decide +kernel) ⟨Nat.le_of_ble_eq_true rfl, Nat.le_of_ble_eq_true rfl⟩) (xpreV hK hP hD hN [2, 4] rfl rfl 2 rfl rfl) rfl rfl hl.1 rfl (lv_room (Nat.le_of_ble_eq_true rfl)) dNamedForm_findUsesOfMeeting_36 ⟨Nat.le_of_ble_eq_true rfl, Nat.le_of_ble_eq_true rfl⟩) hP hD hS hA [2, 4] [0, 1, 3] rfl rfl rfl rfl [0, 1, 3, 2, 4] rfl (fun _ => rfl) (fun r36 u H locs hw hP hD hS => ?_)
          have hP : va_P D vwCl (wdNamedForm_findUsesOfMeeting cA ad N orderSize reached forerunners meetingUses_L2 lastNames) H := hP
          have hD : va_D A (wdNamedForm_findUsesOfMeeting cA ad N orderSize reached forerunners meetingUses_L2 lastNames) := hD
          have ho := hw.1
          have hw := hw.2
          refine va_iast hx hb hK hP hD hS 3 0 rfl rfl ho dNamedForm_findUsesOfMeeting_39 (fun H locs hP hD hS => ?_)
          have hP : va_P D vwCl (wdNamedForm_findUsesOfMeeting cA ad N orderSize reached forerunners (upd meetingUses_L2 (Int32.toNatClampNeg r30) r36) lastNames) H := hP
          have hD : va_D A (wdNamedForm_findUsesOfMeeting cA ad N orderSize reached forerunners (upd meetingUses_L2 (Int32.toNatClampNeg r30) r36) lastNames) := hD
          refine lv_iinc (k := 3) (v := (v3_L2 + 1)) (lv' := [(3, .int (v3_L2 + 1)), (0, .ref (ad 18)), (1, .int v1), (2, .int v2)]) hx hb dNamedForm_findUsesOfMeeting_40 hl rfl rfl (by decide) rfl (fun ls hl => ?_)
          refine lv_goto (tgt := 2) hx hb dNamedForm_findUsesOfMeeting_43 rfl ?_
          exact ih (v3_L2 + 1) (upd meetingUses_L2 (Int32.toNatClampNeg r30) r36) _ _ _ (lv_sub hl [1, 2, 3, 0] rfl) hP hD hS hw
  refine hlp2 k2 0 meetingUses _ _ _ (lv_sub hl [1, 2, 3, 0] rfl) hP hD hS hw
abbrev wdNamedForm_findMeetingUses (cA : ClassId) (ad : Nat → Nat) (N : Nat) (orderSize : Int32) (reached : Int32) (forerunners : Nat → Int32) (meetingNames : Nat → Int32) (meetingUses : Nat → Int32) (lastNames : Nat → Int32) : va_W := [((ad 11), .inr (2, [.int (nI N), .ref (ad 12), .ref (ad 13), .ref (ad 14), .ref (ad 15), .ref (ad 16), .ref (ad 17), .int orderSize, .int reached])), ((ad 12), .inl (cA, N, .inl forerunners)), ((ad 18), .inr (3, [.ref (ad 1), .ref (ad 11), .int (nI N), .ref (ad 19), .ref (ad 20), .ref (ad 21), .ref (ad 22), .ref (ad 23), .ref (ad 24), .ref (ad 25), .ref (ad 26), .ref (ad 27), .ref (ad 28), .ref (ad 29)])), ((ad 19), .inl (cA, N * 6, .inl meetingNames)), ((ad 20), .inl (cA, N * 6 * (N + 1), .inl meetingUses)), ((ad 25), .inl (cA, (N + 1) * 6, .inl lastNames))]
abbrev qcNamedForm_findMeetingUses (D : va_G) (cA : ClassId) (ad : Nat → Nat) (N : Nat) (orderSize : Int32) (reached : Int32) (forerunners : Nat → Int32) (meetingNames : Nat → Int32) (meetingUses : Nat → Int32) (lastNames : Nat → Int32) (post : (Nat → Int32) → Prop) (A : Nat → Prop) : Array Value → State → Outcome → State → Prop := va_Qv (S := (Nat → Int32)) (fun u => post u) (fun u t => xB D cA A (wdNamedForm_findMeetingUses cA ad N orderSize reached forerunners meetingNames u lastNames) t) A
abbrev rmNamedForm_findMeetingUses : Room := { frames := 3, cells := 0, slots := 0, locals := 66 }
set_option maxHeartbeats 4000000 in
set_option maxRecDepth 100000 in
theorem ktNamedForm_findMeetingUses (l : Launch) (D : va_G) (cA : ClassId) (ad : Nat → Nat) (N : Nat) (sz : Nat) (orderSize : Int32) (reached : Int32) (forerunners : Nat → Int32) (meetingNames : Nat → Int32) (meetingUses : Nat → Int32) (lastNames : Nat → Int32)  (post : (Nat → Int32) → Prop) (hw : wpNamedForm_findMeetingUses N forerunners meetingNames meetingUses lastNames post) : Met l yNamedForm_findMeetingUses (Cond.code yNamedForm_findMeetingUses cNamedForm_findMeetingUses 3 none :: xW) rmNamedForm_findMeetingUses (va_Pc [.ref (ad 18)] (xPc D cA (wdNamedForm_findMeetingUses cA ad N orderSize reached forerunners meetingNames meetingUses lastNames) sz)) (qcNamedForm_findMeetingUses D cA ad N orderSize reached forerunners meetingNames meetingUses lastNames post (va_A (wdNamedForm_findMeetingUses cA ad N orderSize reached forerunners meetingNames meetingUses lastNames) sz)) 0 0 (va_A (wdNamedForm_findMeetingUses cA ad N orderSize reached forerunners meetingNames meetingUses lastNames) sz) := by
  refine Met.ofW (cc := cNamedForm_findMeetingUses) (maxL := 3) (ret := none) (by decide) rfl ?_
  intro p e s m args below meth c s₁ B hml hv
  obtain ⟨rfl, hsz, hP, hK, hD0, hN⟩ := hv
  have hx := B.exec
  have hb := B.bytes
  have hr := B.returns
  have hts := atoms_spec (ws := (Cond.code yNamedForm_findMeetingUses cNamedForm_findMeetingUses 3 none :: xW)) B.pre
  have hown : s.vm.findClass "OnceNamed$NamedForm" = some m.cls := findClass_of_methodNamed B.named
  have hlocks := B.notSynchronized
  subst hsz
  have hD := hD0.self (sz := s.heap.size)
  generalize hAe : va_A (wdNamedForm_findMeetingUses cA ad N orderSize reached forerunners meetingNames meetingUses lastNames) s.heap.size = A at hD ⊢
  have hA : ∀ q : Nat, s.heap.size ≤ q → A q := fun q h => by rw [← hAe]; exact Or.inr h
  have hS : va_S A s.heap s.heap [] := va_S.rf
  have hend : ∀ (u0 : Nat → Int32) (H : Heap) (locs : List Loc) (pc : Nat) (ls : Array Slot), decode cNamedForm_findMeetingUses pc = .ok (.return_, 1) → va_P D vwCl (wdNamedForm_findMeetingUses cA ad N orderSize reached forerunners meetingNames u0 lastNames) H → va_D A (wdNamedForm_findMeetingUses cA ad N orderSize reached forerunners meetingNames u0 lastNames) → va_S A s.heap H locs → post u0 → W p l e (headSpec (Cond.code yNamedForm_findMeetingUses cNamedForm_findMeetingUses 3 none :: xW) rmNamedForm_findMeetingUses).room s m ([.ref (ad 18)] : List Value).toArray below meth c H locs 0 0 (MQ below (qcNamedForm_findMeetingUses D cA ad N orderSize reached forerunners meetingNames meetingUses lastNames post A) ([.ref (ad 18)] : List Value).toArray s 0 0 A) (F0 m pc ls []) := fun u0 H locs pc ls hd hP hD hS hw => W.vret hx hb hr (fun t ht hW => ⟨⟨u0, rfl, hw, ⟨by rw [ht]; exact hP, va_K.moved hW.alike hK, hD⟩⟩, hS.F ht⟩) hS.2.2 hd
  generalize hQ : MQ below (qcNamedForm_findMeetingUses D cA ad N orderSize reached forerunners meetingNames meetingUses lastNames post A) ([.ref (ad 18)] : List Value).toArray s 0 0 A = Q at hend ⊢
  have hl := lv_entry ([.ref (ad 18)]) (n := 3) (Nat.le_of_ble_eq_true rfl)
  rw [lg_entry_eq]
  generalize (lg_sl ([.ref (ad 18)]) ++ List.replicate (3 - (lg_sl ([.ref (ad 18)])).length) Slot.unset).toArray = ls at hl ⊢
  have hl : lv_has ls 3 [(0, .ref (ad 18))] := hl
  unfold wpNamedForm_findMeetingUses at hw
  refine lv_iconst (v := 0) hx hb dNamedForm_findMeetingUses_0 (by decide) ?_
  refine lv_istore_n (lv' := [(1, .int 0), (0, .ref (ad 18))]) hx hb dNamedForm_findMeetingUses_1 rfl hl (by decide) rfl (fun ls hl => ?_)
  obtain ⟨k2, hw⟩ := hw
  have hlp2 : ∀ (k : Nat), ∀ (v1_L2 : Int32) (meetingUses_L2 : Nat → Int32) (ls : Array Slot) (H : Heap) (locs : List Loc), lv_has ls 3 [(0, .ref (ad 18)), (1, .int v1_L2)] → va_P D vwCl (wdNamedForm_findMeetingUses cA ad N orderSize reached forerunners meetingNames meetingUses_L2 lastNames) H → va_D A (wdNamedForm_findMeetingUses cA ad N orderSize reached forerunners meetingNames meetingUses_L2 lastNames) → va_S A s.heap H locs → lpNamedForm_findMeetingUses_2 N forerunners meetingNames lastNames post k v1_L2 meetingUses_L2 → W p l e (headSpec (Cond.code yNamedForm_findMeetingUses cNamedForm_findMeetingUses 3 none :: xW) rmNamedForm_findMeetingUses).room s m ([.ref (ad 18)] : List Value).toArray below meth c H locs 0 0 Q (F0 m 2 ls []) := by
    intro k
    induction k with
    | zero => intro v1_L2 meetingUses_L2 ls H locs hl hP hD hS hw; exact False.elim hw
    | succ k ih =>
      intro v1_L2 meetingUses_L2 ls H locs hl hP hD hS hw
      refine lv_iload_n hx hb dNamedForm_findMeetingUses_2 rfl (lv_at hl 1 rfl) ?_
      refine lv_aload_n hx hb dNamedForm_findMeetingUses_3 rfl (lv_at hl 0 rfl) ?_
      refine va_get (D := D) (ci := 3) (v := .int (nI N)) (C := "OnceNamed$NamedForm") (T := TX3) (N := 14) hx hb hts (fun w h => List.mem_cons_of_mem _ (inX3 w h)) hown hK hP 2 rfl rfl 2 (by decide) (hts _ (List.mem_cons_of_mem _ kw_122)) (fun _ h9 => h9) rfl dNamedForm_findMeetingUses_4 ?_
      refine lv_icmp_ge (tgt := 51) hx hb dNamedForm_findMeetingUses_7 rfl (fun hc => ?_) (fun hc => ?_)
      · have hw := hw.1 hc
        exact hend meetingUses_L2 _ _ _ _ dNamedForm_findMeetingUses_51 hP hD hS hw
      · have hw := hw.2 hc
        refine lv_iconst (v := 0) hx hb dNamedForm_findMeetingUses_10 (by decide) ?_
        refine lv_istore_n (lv' := [(2, .int 0), (0, .ref (ad 18)), (1, .int v1_L2)]) hx hb dNamedForm_findMeetingUses_11 rfl hl (by decide) rfl (fun ls hl => ?_)
        obtain ⟨k12, hw⟩ := hw
        have hlp12 : ∀ (K45 : Int32 → (Nat → Int32) → Prop), (∀ (v2_x45 : Int32) (meetingUses_x45 : Nat → Int32) (ls : Array Slot) (H : Heap) (locs : List Loc), lv_has ls 3 [(0, .ref (ad 18)), (1, .int v1_L2), (2, .int v2_x45)] → va_P D vwCl (wdNamedForm_findMeetingUses cA ad N orderSize reached forerunners meetingNames meetingUses_x45 lastNames) H → va_D A (wdNamedForm_findMeetingUses cA ad N orderSize reached forerunners meetingNames meetingUses_x45 lastNames) → va_S A s.heap H locs → K45 v2_x45 meetingUses_x45 → W p l e (headSpec (Cond.code yNamedForm_findMeetingUses cNamedForm_findMeetingUses 3 none :: xW) rmNamedForm_findMeetingUses).room s m ([.ref (ad 18)] : List Value).toArray below meth c H locs 0 0 Q (F0 m 45 ls [])) → ∀ (k : Nat), ∀ (v2_L12 : Int32) (meetingUses_L12 : Nat → Int32) (ls : Array Slot) (H : Heap) (locs : List Loc), lv_has ls 3 [(0, .ref (ad 18)), (1, .int v1_L2), (2, .int v2_L12)] → va_P D vwCl (wdNamedForm_findMeetingUses cA ad N orderSize reached forerunners meetingNames meetingUses_L12 lastNames) H → va_D A (wdNamedForm_findMeetingUses cA ad N orderSize reached forerunners meetingNames meetingUses_L12 lastNames) → va_S A s.heap H locs → lpNamedForm_findMeetingUses_12 N v1_L2 forerunners meetingNames lastNames K45 k v2_L12 meetingUses_L12 → W p l e (headSpec (Cond.code yNamedForm_findMeetingUses cNamedForm_findMeetingUses 3 none :: xW) rmNamedForm_findMeetingUses).room s m ([.ref (ad 18)] : List Value).toArray below meth c H locs 0 0 Q (F0 m 12 ls []) := by
          intro K45 hK45 k
          induction k with
          | zero => intro v2_L12 meetingUses_L12 ls H locs hl hP hD hS hw; exact False.elim hw
          | succ k ih =>
            intro v2_L12 meetingUses_L12 ls H locs hl hP hD hS hw
            refine lv_iload_n hx hb dNamedForm_findMeetingUses_12 rfl (lv_at hl 2 rfl) ?_
            refine lv_bipush (v := 6) hx hb dNamedForm_findMeetingUses_13 (by decide) ?_
            refine lv_icmp_ge (tgt := 45) hx hb dNamedForm_findMeetingUses_15 rfl (fun hc => ?_) (fun hc => ?_)
            · have hw := hw.1 hc
              exact hK45 v2_L12 meetingUses_L12 _ _ _ (lv_sub hl [0, 1, 2] rfl) hP hD hS hw
            · have hw := hw.2 hc
              refine lv_aload_n hx hb dNamedForm_findMeetingUses_18 rfl (lv_at hl 0 rfl) ?_
              refine va_get (D := D) (ci := 3) (v := .ref (ad 19)) (C := "OnceNamed$NamedForm") (T := TX3) (N := 14) hx hb hts (fun w h => List.mem_cons_of_mem _ (inX3 w h)) hown hK hP 2 rfl rfl 3 (by decide) (hts _ (List.mem_cons_of_mem _ kw_123)) (fun _ h9 => h9) rfl dNamedForm_findMeetingUses_19 ?_
              refine lv_iload_n hx hb dNamedForm_findMeetingUses_22 rfl (lv_at hl 1 rfl) ?_
              refine lv_bipush (v := 6) hx hb dNamedForm_findMeetingUses_23 (by decide) ?_
              refine lv_imul hx hb dNamedForm_findMeetingUses_25 ?_
              refine lv_iload_n hx hb dNamedForm_findMeetingUses_26 rfl (lv_at hl 2 rfl) ?_
              refine lv_iadd hx hb dNamedForm_findMeetingUses_27 ?_
              have ho := hw.1
              have hw := hw.2
              refine va_iald hx hb hK hP 3 0 rfl rfl ho dNamedForm_findMeetingUses_28 ?_
              refine lv_iconst (v := (-1)) hx hb dNamedForm_findMeetingUses_29 (by decide) ?_
              refine lv_icmp_eq (tgt := 39) hx hb dNamedForm_findMeetingUses_30 rfl (fun hc => ?_) (fun hc => ?_)
              · have hw := hw.1 hc
                refine lv_iinc (k := 2) (v := (v2_L12 + 1)) (lv' := [(2, .int (v2_L12 + 1)), (0, .ref (ad 18)), (1, .int v1_L2)]) hx hb dNamedForm_findMeetingUses_39 hl rfl rfl (by decide) rfl (fun ls hl => ?_)
                refine lv_goto (tgt := 12) hx hb dNamedForm_findMeetingUses_42 rfl ?_
                exact ih (v2_L12 + 1) meetingUses_L12 _ _ _ (lv_sub hl [1, 2, 0] rfl) hP hD hS hw
              · have hw := hw.2 hc
                refine lv_aload_n hx hb dNamedForm_findMeetingUses_33 rfl (lv_at hl 0 rfl) ?_
                refine lv_iload_n hx hb dNamedForm_findMeetingUses_34 rfl (lv_at hl 1 rfl) ?_
                refine lv_iload_n hx hb dNamedForm_findMeetingUses_35 rfl (lv_at hl 2 rfl) ?_
                refine xcv (va_runV ⟨hx, hb, hml, hown, hts⟩ (ktNamedForm_findUsesOfMeeting l D cA ad N _ orderSize reached forerunners meetingUses_L12 lastNames v1_L2 v2_L12 _ hw) (cwV 2 hts (goodV kw_389 kw_391 ks_1_12 kw_6 kw_392) rfl rfl rfl (by decide +kernel) ⟨Nat.le_of_ble_eq_true rfl, Nat.le_of_ble_eq_true rfl⟩) (xpreV hK hP hD hN [0, 1, 2, 4, 5] rfl rfl 2 rfl rfl) rfl rfl hl.1 rfl (lv_room (Nat.le_of_ble_eq_true rfl)) dNamedForm_findMeetingUses_36 ⟨Nat.le_of_ble_eq_true rfl, Nat.le_of_ble_eq_true rfl⟩) hP hD hS hA [0, 1, 2, 4, 5] [3] rfl rfl rfl rfl [1, 2, 3, 0, 4, 5] rfl (fun _ => rfl) (fun meetingUses_36 H locs hw hP hD hS => ?_)
                try dsimp only at hw
                have hP : va_P D vwCl (wdNamedForm_findMeetingUses cA ad N orderSize reached forerunners meetingNames meetingUses_36 lastNames) H := hP
                have hD : va_D A (wdNamedForm_findMeetingUses cA ad N orderSize reached forerunners meetingNames meetingUses_36 lastNames) := hD
                refine lv_iinc (k := 2) (v := (v2_L12 + 1)) (lv' := [(2, .int (v2_L12 + 1)), (0, .ref (ad 18)), (1, .int v1_L2)]) hx hb dNamedForm_findMeetingUses_39 hl rfl rfl (by decide) rfl (fun ls hl => ?_)
                refine lv_goto (tgt := 12) hx hb dNamedForm_findMeetingUses_42 rfl ?_
                exact ih (v2_L12 + 1) meetingUses_36 _ _ _ (lv_sub hl [1, 2, 0] rfl) hP hD hS hw
        refine hlp12 _ ?_ k12 0 meetingUses_L2 _ _ _ (lv_sub hl [1, 2, 0] rfl) hP hD hS hw
        intro v2_x45 meetingUses_x45 ls H locs hl hP hD hS hw
        try dsimp only at hw
        refine lv_iinc (k := 1) (v := (v1_L2 + 1)) (lv' := [(1, .int (v1_L2 + 1)), (0, .ref (ad 18)), (2, .int v2_x45)]) hx hb dNamedForm_findMeetingUses_45 hl rfl rfl (by decide) rfl (fun ls hl => ?_)
        refine lv_goto (tgt := 2) hx hb dNamedForm_findMeetingUses_48 rfl ?_
        exact ih (v1_L2 + 1) meetingUses_x45 _ _ _ (lv_sub hl [1, 0] rfl) hP hD hS hw
  refine hlp2 k2 0 meetingUses _ _ _ (lv_sub hl [1, 0] rfl) hP hD hS hw
abbrev wdNamedForm_newName (cA : ClassId) (ad : Nat → Nat) (N : Nat) (lastNames : Nat → Int32) (namesOf : Nat → Int32) (homeBlock : Nat → Int32) (homePlace : Nat → Int32) : va_W := [((ad 18), .inr (3, [.ref (ad 1), .ref (ad 11), .int (nI N), .ref (ad 19), .ref (ad 20), .ref (ad 21), .ref (ad 22), .ref (ad 23), .ref (ad 24), .ref (ad 25), .ref (ad 26), .ref (ad 27), .ref (ad 28), .ref (ad 29)])), ((ad 25), .inl (cA, (N + 1) * 6, .inl lastNames)), ((ad 26), .inl (cA, 6, .inl namesOf)), ((ad 27), .inl (cA, 600, .inl homeBlock)), ((ad 28), .inl (cA, 600, .inl homePlace))]
abbrev qcNamedForm_newName (D : va_G) (cA : ClassId) (ad : Nat → Nat) (N : Nat) (lastNames : Nat → Int32) (namesOf : Nat → Int32) (homeBlock : Nat → Int32) (homePlace : Nat → Int32) (post : Int32 → (Nat → Int32) → (Nat → Int32) → (Nat → Int32) → (Nat → Int32) → Prop) (A : Nat → Prop) : Array Value → State → Outcome → State → Prop := va_Qi (S := (Nat → Int32) × (Nat → Int32) × (Nat → Int32) × (Nat → Int32)) (fun r u => post r u.1 u.2.1 u.2.2.1 u.2.2.2) (fun u t => xB D cA A (wdNamedForm_newName cA ad N u.1 u.2.1 u.2.2.1 u.2.2.2) t) A
abbrev rmNamedForm_newName : Room := { frames := 0, cells := 0, slots := 0, locals := 0 }
set_option maxHeartbeats 4000000 in
set_option maxRecDepth 100000 in
theorem ktNamedForm_newName (l : Launch) (D : va_G) (cA : ClassId) (ad : Nat → Nat) (N : Nat) (sz : Nat) (lastNames : Nat → Int32) (namesOf : Nat → Int32) (homeBlock : Nat → Int32) (homePlace : Nat → Int32) (v1 : Int32) (v2 : Int32) (v3 : Int32) (post : Int32 → (Nat → Int32) → (Nat → Int32) → (Nat → Int32) → (Nat → Int32) → Prop) (hw : wpNamedForm_newName N lastNames namesOf homeBlock homePlace v1 v2 v3 post) : Met l yNamedForm_newName (Cond.code yNamedForm_newName cNamedForm_newName 5 (some .int) :: xW) rmNamedForm_newName (va_Pc [.ref (ad 18), .int v1, .int v2, .int v3] (xPc D cA (wdNamedForm_newName cA ad N lastNames namesOf homeBlock homePlace) sz)) (qcNamedForm_newName D cA ad N lastNames namesOf homeBlock homePlace post (va_A (wdNamedForm_newName cA ad N lastNames namesOf homeBlock homePlace) sz)) 0 0 (va_A (wdNamedForm_newName cA ad N lastNames namesOf homeBlock homePlace) sz) := by
  refine Met.ofW (cc := cNamedForm_newName) (maxL := 5) (ret := (some .int)) (by decide) rfl ?_
  intro p e s m args below meth c s₁ B hml hv
  obtain ⟨rfl, hsz, hP, hK, hD0, hN⟩ := hv
  have hx := B.exec
  have hb := B.bytes
  have hr := B.returns
  have hts := atoms_spec (ws := (Cond.code yNamedForm_newName cNamedForm_newName 5 (some .int) :: xW)) B.pre
  have hown : s.vm.findClass "OnceNamed$NamedForm" = some m.cls := findClass_of_methodNamed B.named
  have hlocks := B.notSynchronized
  subst hsz
  have hD := hD0.self (sz := s.heap.size)
  generalize hAe : va_A (wdNamedForm_newName cA ad N lastNames namesOf homeBlock homePlace) s.heap.size = A at hD ⊢
  have hA : ∀ q : Nat, s.heap.size ≤ q → A q := fun q h => by rw [← hAe]; exact Or.inr h
  have hS : va_S A s.heap s.heap [] := va_S.rf
  have hend : ∀ (r : Int32) (u0 : Nat → Int32) (u1 : Nat → Int32) (u2 : Nat → Int32) (u3 : Nat → Int32) (H : Heap) (locs : List Loc) (pc : Nat) (ls : Array Slot), decode cNamedForm_newName pc = .ok (.ireturn, 1) → va_P D vwCl (wdNamedForm_newName cA ad N u0 u1 u2 u3) H → va_D A (wdNamedForm_newName cA ad N u0 u1 u2 u3) → va_S A s.heap H locs → post r u0 u1 u2 u3 → W p l e (headSpec (Cond.code yNamedForm_newName cNamedForm_newName 5 (some .int) :: xW) rmNamedForm_newName).room s m ([.ref (ad 18), .int v1, .int v2, .int v3] : List Value).toArray below meth c H locs 0 0 (MQ below (qcNamedForm_newName D cA ad N lastNames namesOf homeBlock homePlace post A) ([.ref (ad 18), .int v1, .int v2, .int v3] : List Value).toArray s 0 0 A) (F0 m pc ls [.int r]) := fun r u0 u1 u2 u3 H locs pc ls hd hP hD hS hw => W.iret (v := r) hx hb hr (fun t ht hW => ⟨⟨r, (u0, u1, u2, u3), rfl, hw, ⟨by rw [ht]; exact hP, va_K.moved hW.alike hK, hD⟩⟩, hS.F ht⟩) hS.2.2 hd
  generalize hQ : MQ below (qcNamedForm_newName D cA ad N lastNames namesOf homeBlock homePlace post A) ([.ref (ad 18), .int v1, .int v2, .int v3] : List Value).toArray s 0 0 A = Q at hend ⊢
  have hl := lv_entry ([.ref (ad 18), .int v1, .int v2, .int v3]) (n := 5) (Nat.le_of_ble_eq_true rfl)
  rw [lg_entry_eq]
  generalize (lg_sl ([.ref (ad 18), .int v1, .int v2, .int v3]) ++ List.replicate (5 - (lg_sl ([.ref (ad 18), .int v1, .int v2, .int v3])).length) Slot.unset).toArray = ls at hl ⊢
  have hl : lv_has ls 5 [(0, .ref (ad 18)), (1, .int v1), (2, .int v2), (3, .int v3)] := hl
  unfold wpNamedForm_newName at hw
  refine lv_bipush (v := 100) hx hb dNamedForm_newName_0 (by decide) ?_
  refine lv_iload_n hx hb dNamedForm_newName_2 rfl (lv_at hl 1 rfl) ?_
  refine lv_imul hx hb dNamedForm_newName_3 ?_
  refine lv_aload_n hx hb dNamedForm_newName_4 rfl (lv_at hl 0 rfl) ?_
  refine va_get (D := D) (ci := 3) (v := .ref (ad 26)) (C := "OnceNamed$NamedForm") (T := TX3) (N := 14) hx hb hts (fun w h => List.mem_cons_of_mem _ (inX3 w h)) hown hK hP 0 rfl rfl 10 (by decide) (hts _ (List.mem_cons_of_mem _ kw_130)) (fun _ h9 => h9) rfl dNamedForm_newName_5 ?_
  refine lv_iload_n hx hb dNamedForm_newName_8 rfl (lv_at hl 1 rfl) ?_
  have ho := hw.1
  have hw := hw.2
  refine va_iald hx hb hK hP 2 0 rfl rfl ho dNamedForm_newName_9 ?_
  refine lv_iadd hx hb dNamedForm_newName_10 ?_
  refine lv_topi (fun v4_11 e_v4_11 => ?_)
  have hw := hw v4_11 e_v4_11
  refine lv_istore (lv' := [(4, .int v4_11), (0, .ref (ad 18)), (1, .int v1), (2, .int v2), (3, .int v3)]) hx hb dNamedForm_newName_11 hl (by decide) rfl (fun ls hl => ?_)
  refine lv_aload_n hx hb dNamedForm_newName_13 rfl (lv_at hl 1 rfl) ?_
  refine va_get (D := D) (ci := 3) (v := .ref (ad 26)) (C := "OnceNamed$NamedForm") (T := TX3) (N := 14) hx hb hts (fun w h => List.mem_cons_of_mem _ (inX3 w h)) hown hK hP 0 rfl rfl 10 (by decide) (hts _ (List.mem_cons_of_mem _ kw_130)) (fun _ h9 => h9) rfl dNamedForm_newName_14 ?_
  refine lv_iload_n hx hb dNamedForm_newName_17 rfl (lv_at hl 2 rfl) ?_
  refine lv_dup2_11 hx hb dNamedForm_newName_18 rfl rfl ?_
  have ho := hw.1
  have hw := hw.2
  refine va_iald hx hb hK hP 2 0 rfl rfl ho dNamedForm_newName_19 ?_
  refine lv_iconst (v := 1) hx hb dNamedForm_newName_20 (by decide) ?_
  refine lv_iadd hx hb dNamedForm_newName_21 ?_
  have ho := hw.1
  have hw := hw.2
  refine va_iast hx hb hK hP hD hS 2 0 rfl rfl ho dNamedForm_newName_22 (fun H locs hP hD hS => ?_)
  have hP : va_P D vwCl (wdNamedForm_newName cA ad N lastNames (upd namesOf (Int32.toNatClampNeg v1) ((namesOf (Int32.toNatClampNeg v1)) + 1)) homeBlock homePlace) H := hP
  have hD : va_D A (wdNamedForm_newName cA ad N lastNames (upd namesOf (Int32.toNatClampNeg v1) ((namesOf (Int32.toNatClampNeg v1)) + 1)) homeBlock homePlace) := hD
  refine lv_aload_n hx hb dNamedForm_newName_23 rfl (lv_at hl 1 rfl) ?_
  refine va_get (D := D) (ci := 3) (v := .ref (ad 27)) (C := "OnceNamed$NamedForm") (T := TX3) (N := 14) hx hb hts (fun w h => List.mem_cons_of_mem _ (inX3 w h)) hown hK hP 0 rfl rfl 11 (by decide) (hts _ (List.mem_cons_of_mem _ kw_131)) (fun _ h9 => h9) rfl dNamedForm_newName_24 ?_
  refine lv_iload hx hb dNamedForm_newName_27 (lv_at hl 0 rfl) ?_
  refine lv_iload_n hx hb dNamedForm_newName_29 rfl (lv_at hl 3 rfl) ?_
  have ho := hw.1
  have hw := hw.2
  refine va_iast hx hb hK hP hD hS 3 0 rfl rfl ho dNamedForm_newName_30 (fun H locs hP hD hS => ?_)
  have hP : va_P D vwCl (wdNamedForm_newName cA ad N lastNames (upd namesOf (Int32.toNatClampNeg v1) ((namesOf (Int32.toNatClampNeg v1)) + 1)) (upd homeBlock (Int32.toNatClampNeg v4_11) v2) homePlace) H := hP
  have hD : va_D A (wdNamedForm_newName cA ad N lastNames (upd namesOf (Int32.toNatClampNeg v1) ((namesOf (Int32.toNatClampNeg v1)) + 1)) (upd homeBlock (Int32.toNatClampNeg v4_11) v2) homePlace) := hD
  refine lv_aload_n hx hb dNamedForm_newName_31 rfl (lv_at hl 1 rfl) ?_
  refine va_get (D := D) (ci := 3) (v := .ref (ad 28)) (C := "OnceNamed$NamedForm") (T := TX3) (N := 14) hx hb hts (fun w h => List.mem_cons_of_mem _ (inX3 w h)) hown hK hP 0 rfl rfl 12 (by decide) (hts _ (List.mem_cons_of_mem _ kw_132)) (fun _ h9 => h9) rfl dNamedForm_newName_32 ?_
  refine lv_iload hx hb dNamedForm_newName_35 (lv_at hl 0 rfl) ?_
  refine lv_iload_n hx hb dNamedForm_newName_37 rfl (lv_at hl 4 rfl) ?_
  have ho := hw.1
  have hw := hw.2
  refine va_iast hx hb hK hP hD hS 4 0 rfl rfl ho dNamedForm_newName_38 (fun H locs hP hD hS => ?_)
  have hP : va_P D vwCl (wdNamedForm_newName cA ad N lastNames (upd namesOf (Int32.toNatClampNeg v1) ((namesOf (Int32.toNatClampNeg v1)) + 1)) (upd homeBlock (Int32.toNatClampNeg v4_11) v2) (upd homePlace (Int32.toNatClampNeg v4_11) v3)) H := hP
  have hD : va_D A (wdNamedForm_newName cA ad N lastNames (upd namesOf (Int32.toNatClampNeg v1) ((namesOf (Int32.toNatClampNeg v1)) + 1)) (upd homeBlock (Int32.toNatClampNeg v4_11) v2) (upd homePlace (Int32.toNatClampNeg v4_11) v3)) := hD
  refine lv_aload_n hx hb dNamedForm_newName_39 rfl (lv_at hl 1 rfl) ?_
  refine va_get (D := D) (ci := 3) (v := .ref (ad 25)) (C := "OnceNamed$NamedForm") (T := TX3) (N := 14) hx hb hts (fun w h => List.mem_cons_of_mem _ (inX3 w h)) hown hK hP 0 rfl rfl 9 (by decide) (hts _ (List.mem_cons_of_mem _ kw_129)) (fun _ h9 => h9) rfl dNamedForm_newName_40 ?_
  refine lv_iload_n hx hb dNamedForm_newName_43 rfl (lv_at hl 3 rfl) ?_
  refine lv_bipush (v := 6) hx hb dNamedForm_newName_44 (by decide) ?_
  refine lv_imul hx hb dNamedForm_newName_46 ?_
  refine lv_iload_n hx hb dNamedForm_newName_47 rfl (lv_at hl 2 rfl) ?_
  refine lv_iadd hx hb dNamedForm_newName_48 ?_
  refine lv_iload hx hb dNamedForm_newName_49 (lv_at hl 0 rfl) ?_
  have ho := hw.1
  have hw := hw.2
  refine va_iast hx hb hK hP hD hS 1 0 rfl rfl ho dNamedForm_newName_51 (fun H locs hP hD hS => ?_)
  have hP : va_P D vwCl (wdNamedForm_newName cA ad N (upd lastNames (Int32.toNatClampNeg ((v2 * 6) + v1)) v4_11) (upd namesOf (Int32.toNatClampNeg v1) ((namesOf (Int32.toNatClampNeg v1)) + 1)) (upd homeBlock (Int32.toNatClampNeg v4_11) v2) (upd homePlace (Int32.toNatClampNeg v4_11) v3)) H := hP
  have hD : va_D A (wdNamedForm_newName cA ad N (upd lastNames (Int32.toNatClampNeg ((v2 * 6) + v1)) v4_11) (upd namesOf (Int32.toNatClampNeg v1) ((namesOf (Int32.toNatClampNeg v1)) + 1)) (upd homeBlock (Int32.toNatClampNeg v4_11) v2) (upd homePlace (Int32.toNatClampNeg v4_11) v3)) := hD
  refine lv_iload hx hb dNamedForm_newName_52 (lv_at hl 0 rfl) ?_
  exact hend v4_11 (upd lastNames (Int32.toNatClampNeg ((v2 * 6) + v1)) v4_11) (upd namesOf (Int32.toNatClampNeg v1) ((namesOf (Int32.toNatClampNeg v1)) + 1)) (upd homeBlock (Int32.toNatClampNeg v4_11) v2) (upd homePlace (Int32.toNatClampNeg v4_11) v3) _ _ _ _ dNamedForm_newName_54 hP hD hS hw
abbrev wdNamedForm_nameStep (cA : ClassId) (ad : Nat → Nat) (N : Nat) (kind : Nat → Int32) (target : Nat → Int32) (first : Nat → Int32) (second : Nat → Int32) (stepNames : Nat → Int32) (firstUses : Nat → Int32) (secondUses : Nat → Int32) (lastNames : Nat → Int32) (namesOf : Nat → Int32) (homeBlock : Nat → Int32) (homePlace : Nat → Int32) : va_W := [((ad 1), .inr (1, [.int (nI N), .ref (ad 2), .ref (ad 3), .ref (ad 4), .ref (ad 5), .ref (ad 6), .ref (ad 7), .ref (ad 8), .ref (ad 9), .ref (ad 10)])), ((ad 3), .inl (cA, N * 6, .inl kind)), ((ad 4), .inl (cA, N * 6, .inl target)), ((ad 5), .inl (cA, N * 6, .inl first)), ((ad 6), .inl (cA, N * 6, .inl second)), ((ad 18), .inr (3, [.ref (ad 1), .ref (ad 11), .int (nI N), .ref (ad 19), .ref (ad 20), .ref (ad 21), .ref (ad 22), .ref (ad 23), .ref (ad 24), .ref (ad 25), .ref (ad 26), .ref (ad 27), .ref (ad 28), .ref (ad 29)])), ((ad 21), .inl (cA, N * 6, .inl stepNames)), ((ad 22), .inl (cA, N * 6, .inl firstUses)), ((ad 23), .inl (cA, N * 6, .inl secondUses)), ((ad 25), .inl (cA, (N + 1) * 6, .inl lastNames)), ((ad 26), .inl (cA, 6, .inl namesOf)), ((ad 27), .inl (cA, 600, .inl homeBlock)), ((ad 28), .inl (cA, 600, .inl homePlace))]
abbrev qcNamedForm_nameStep (D : va_G) (cA : ClassId) (ad : Nat → Nat) (N : Nat) (kind : Nat → Int32) (target : Nat → Int32) (first : Nat → Int32) (second : Nat → Int32) (stepNames : Nat → Int32) (firstUses : Nat → Int32) (secondUses : Nat → Int32) (lastNames : Nat → Int32) (namesOf : Nat → Int32) (homeBlock : Nat → Int32) (homePlace : Nat → Int32) (post : (Nat → Int32) → (Nat → Int32) → (Nat → Int32) → (Nat → Int32) → (Nat → Int32) → (Nat → Int32) → (Nat → Int32) → Prop) (A : Nat → Prop) : Array Value → State → Outcome → State → Prop := va_Qv (S := (Nat → Int32) × (Nat → Int32) × (Nat → Int32) × (Nat → Int32) × (Nat → Int32) × (Nat → Int32) × (Nat → Int32)) (fun u => post u.1 u.2.1 u.2.2.1 u.2.2.2.1 u.2.2.2.2.1 u.2.2.2.2.2.1 u.2.2.2.2.2.2) (fun u t => xB D cA A (wdNamedForm_nameStep cA ad N kind target first second u.1 u.2.1 u.2.2.1 u.2.2.2.1 u.2.2.2.2.1 u.2.2.2.2.2.1 u.2.2.2.2.2.2) t) A
abbrev rmNamedForm_nameStep : Room := { frames := 2, cells := 0, slots := 0, locals := 43 }
set_option maxHeartbeats 4000000 in
set_option maxRecDepth 100000 in
theorem ktNamedForm_nameStep (l : Launch) (D : va_G) (cA : ClassId) (ad : Nat → Nat) (N : Nat) (sz : Nat) (kind : Nat → Int32) (target : Nat → Int32) (first : Nat → Int32) (second : Nat → Int32) (stepNames : Nat → Int32) (firstUses : Nat → Int32) (secondUses : Nat → Int32) (lastNames : Nat → Int32) (namesOf : Nat → Int32) (homeBlock : Nat → Int32) (homePlace : Nat → Int32) (v1 : Int32) (v2 : Int32) (post : (Nat → Int32) → (Nat → Int32) → (Nat → Int32) → (Nat → Int32) → (Nat → Int32) → (Nat → Int32) → (Nat → Int32) → Prop) (hw : wpNamedForm_nameStep N kind target first second stepNames firstUses secondUses lastNames namesOf homeBlock homePlace v1 v2 post) : Met l yNamedForm_nameStep (Cond.code yNamedForm_nameStep cNamedForm_nameStep 5 none :: xW) rmNamedForm_nameStep (va_Pc [.ref (ad 18), .int v1, .int v2] (xPc D cA (wdNamedForm_nameStep cA ad N kind target first second stepNames firstUses secondUses lastNames namesOf homeBlock homePlace) sz)) (qcNamedForm_nameStep D cA ad N kind target first second stepNames firstUses secondUses lastNames namesOf homeBlock homePlace post (va_A (wdNamedForm_nameStep cA ad N kind target first second stepNames firstUses secondUses lastNames namesOf homeBlock homePlace) sz)) 0 0 (va_A (wdNamedForm_nameStep cA ad N kind target first second stepNames firstUses secondUses lastNames namesOf homeBlock homePlace) sz) := by
  refine Met.ofW (cc := cNamedForm_nameStep) (maxL := 5) (ret := none) (by decide) rfl ?_
  intro p e s m args below meth c s₁ B hml hv
  obtain ⟨rfl, hsz, hP, hK, hD0, hN⟩ := hv
  have hx := B.exec
  have hb := B.bytes
  have hr := B.returns
  have hts := atoms_spec (ws := (Cond.code yNamedForm_nameStep cNamedForm_nameStep 5 none :: xW)) B.pre
  have hown : s.vm.findClass "OnceNamed$NamedForm" = some m.cls := findClass_of_methodNamed B.named
  have hlocks := B.notSynchronized
  subst hsz
  have hD := hD0.self (sz := s.heap.size)
  generalize hAe : va_A (wdNamedForm_nameStep cA ad N kind target first second stepNames firstUses secondUses lastNames namesOf homeBlock homePlace) s.heap.size = A at hD ⊢
  have hA : ∀ q : Nat, s.heap.size ≤ q → A q := fun q h => by rw [← hAe]; exact Or.inr h
  have hS : va_S A s.heap s.heap [] := va_S.rf
  have hend : ∀ (u0 : Nat → Int32) (u1 : Nat → Int32) (u2 : Nat → Int32) (u3 : Nat → Int32) (u4 : Nat → Int32) (u5 : Nat → Int32) (u6 : Nat → Int32) (H : Heap) (locs : List Loc) (pc : Nat) (ls : Array Slot), decode cNamedForm_nameStep pc = .ok (.return_, 1) → va_P D vwCl (wdNamedForm_nameStep cA ad N kind target first second u0 u1 u2 u3 u4 u5 u6) H → va_D A (wdNamedForm_nameStep cA ad N kind target first second u0 u1 u2 u3 u4 u5 u6) → va_S A s.heap H locs → post u0 u1 u2 u3 u4 u5 u6 → W p l e (headSpec (Cond.code yNamedForm_nameStep cNamedForm_nameStep 5 none :: xW) rmNamedForm_nameStep).room s m ([.ref (ad 18), .int v1, .int v2] : List Value).toArray below meth c H locs 0 0 (MQ below (qcNamedForm_nameStep D cA ad N kind target first second stepNames firstUses secondUses lastNames namesOf homeBlock homePlace post A) ([.ref (ad 18), .int v1, .int v2] : List Value).toArray s 0 0 A) (F0 m pc ls []) := fun u0 u1 u2 u3 u4 u5 u6 H locs pc ls hd hP hD hS hw => W.vret hx hb hr (fun t ht hW => ⟨⟨(u0, u1, u2, u3, u4, u5, u6), rfl, hw, ⟨by rw [ht]; exact hP, va_K.moved hW.alike hK, hD⟩⟩, hS.F ht⟩) hS.2.2 hd
  generalize hQ : MQ below (qcNamedForm_nameStep D cA ad N kind target first second stepNames firstUses secondUses lastNames namesOf homeBlock homePlace post A) ([.ref (ad 18), .int v1, .int v2] : List Value).toArray s 0 0 A = Q at hend ⊢
  have hl := lv_entry ([.ref (ad 18), .int v1, .int v2]) (n := 5) (Nat.le_of_ble_eq_true rfl)
  rw [lg_entry_eq]
  generalize (lg_sl ([.ref (ad 18), .int v1, .int v2]) ++ List.replicate (5 - (lg_sl ([.ref (ad 18), .int v1, .int v2])).length) Slot.unset).toArray = ls at hl ⊢
  have hl : lv_has ls 5 [(0, .ref (ad 18)), (1, .int v1), (2, .int v2)] := hl
  unfold wpNamedForm_nameStep at hw
  refine lv_iload_n hx hb dNamedForm_nameStep_0 rfl (lv_at hl 1 rfl) ?_
  refine lv_bipush (v := 6) hx hb dNamedForm_nameStep_1 (by decide) ?_
  refine lv_imul hx hb dNamedForm_nameStep_3 ?_
  refine lv_iload_n hx hb dNamedForm_nameStep_4 rfl (lv_at hl 2 rfl) ?_
  refine lv_iadd hx hb dNamedForm_nameStep_5 ?_
  refine lv_topi (fun v3_6 e_v3_6 => ?_)
  have hw := hw v3_6 e_v3_6
  refine lv_istore_n (lv' := [(3, .int v3_6), (0, .ref (ad 18)), (1, .int v1), (2, .int v2)]) hx hb dNamedForm_nameStep_6 rfl hl (by decide) rfl (fun ls hl => ?_)
  refine lv_aload_n hx hb dNamedForm_nameStep_7 rfl (lv_at hl 1 rfl) ?_
  refine va_get (D := D) (ci := 3) (v := .ref (ad 22)) (C := "OnceNamed$NamedForm") (T := TX3) (N := 14) hx hb hts (fun w h => List.mem_cons_of_mem _ (inX3 w h)) hown hK hP 5 rfl rfl 6 (by decide) (hts _ (List.mem_cons_of_mem _ kw_126)) (fun _ h9 => h9) rfl dNamedForm_nameStep_8 ?_
  refine lv_iload_n hx hb dNamedForm_nameStep_11 rfl (lv_at hl 0 rfl) ?_
  refine lv_aload_n hx hb dNamedForm_nameStep_12 rfl (lv_at hl 1 rfl) ?_
  refine lv_iload_n hx hb dNamedForm_nameStep_13 rfl (lv_at hl 2 rfl) ?_
  refine lv_aload_n hx hb dNamedForm_nameStep_14 rfl (lv_at hl 1 rfl) ?_
  refine va_get (D := D) (ci := 3) (v := .ref (ad 1)) (C := "OnceNamed$NamedForm") (T := TX3) (N := 14) hx hb hts (fun w h => List.mem_cons_of_mem _ (inX3 w h)) hown hK hP 5 rfl rfl 0 (by decide) (hts _ (List.mem_cons_of_mem _ kw_120)) (fun _ h9 => h9) rfl dNamedForm_nameStep_15 ?_
  refine lv_iload_n hx hb dNamedForm_nameStep_18 rfl (lv_at hl 2 rfl) ?_
  refine lv_iload_n hx hb dNamedForm_nameStep_19 rfl (lv_at hl 3 rfl) ?_
  refine xci (va_runV ⟨hx, hb, hml, hown, hts⟩ (ktProgram_firstVariable l D cA ad N _ kind first v1 v2 _ hw) (cwV 2 hts (goodV kw_362 kw_363 kw_364 kw_3 kw_365) rfl rfl rfl (by decide +kernel) ⟨Nat.le_of_ble_eq_true rfl, Nat.le_of_ble_eq_true rfl⟩) (xpreV hK hP hD hN [0, 1, 3] rfl rfl 0 rfl rfl) rfl rfl hl.1 rfl (lv_room (Nat.le_of_ble_eq_true rfl)) dNamedForm_nameStep_20 ⟨Nat.le_of_ble_eq_true rfl, Nat.le_of_ble_eq_true rfl⟩) hP hD hS hA [0, 1, 3] [2, 4, 5, 6, 7, 8, 9, 10, 11, 12] rfl rfl rfl rfl [10, 11, 0, 12, 1, 2, 3, 4, 5, 6, 7, 8, 9] rfl (fun _ => rfl) (fun r20 u H locs hw hP hD hS => ?_)
  have hP : va_P D vwCl (wdNamedForm_nameStep cA ad N kind target first second stepNames firstUses secondUses lastNames namesOf homeBlock homePlace) H := hP
  have hD : va_D A (wdNamedForm_nameStep cA ad N kind target first second stepNames firstUses secondUses lastNames namesOf homeBlock homePlace) := hD
  refine xci (va_runV ⟨hx, hb, hml, hown, hts⟩ (ktNamedForm_lastName l D cA ad N _ lastNames v1 r20 _ hw) (cwV 2 hts (goodV kw_369 kw_371 ks_1_10 kw_6 kw_372) rfl rfl rfl (by decide +kernel) ⟨Nat.le_of_ble_eq_true rfl, Nat.le_of_ble_eq_true rfl⟩) (xpreV hK hP hD hN [5, 9] rfl rfl 5 rfl rfl) rfl rfl hl.1 rfl (lv_room (Nat.le_of_ble_eq_true rfl)) dNamedForm_nameStep_23 ⟨Nat.le_of_ble_eq_true rfl, Nat.le_of_ble_eq_true rfl⟩) hP hD hS hA [5, 9] [0, 1, 2, 3, 4, 6, 7, 8, 10, 11, 12] rfl rfl rfl rfl [0, 1, 2, 3, 4, 11, 5, 6, 7, 12, 8, 9, 10] rfl (fun _ => rfl) (fun r23 u H locs hw hP hD hS => ?_)
  have hP : va_P D vwCl (wdNamedForm_nameStep cA ad N kind target first second stepNames firstUses secondUses lastNames namesOf homeBlock homePlace) H := hP
  have hD : va_D A (wdNamedForm_nameStep cA ad N kind target first second stepNames firstUses secondUses lastNames namesOf homeBlock homePlace) := hD
  have ho := hw.1
  have hw := hw.2
  refine va_iast hx hb hK hP hD hS 7 0 rfl rfl ho dNamedForm_nameStep_26 (fun H locs hP hD hS => ?_)
  have hP : va_P D vwCl (wdNamedForm_nameStep cA ad N kind target first second stepNames (upd firstUses (Int32.toNatClampNeg v3_6) r23) secondUses lastNames namesOf homeBlock homePlace) H := hP
  have hD : va_D A (wdNamedForm_nameStep cA ad N kind target first second stepNames (upd firstUses (Int32.toNatClampNeg v3_6) r23) secondUses lastNames namesOf homeBlock homePlace) := hD
  refine lv_aload_n hx hb dNamedForm_nameStep_27 rfl (lv_at hl 1 rfl) ?_
  refine va_get (D := D) (ci := 3) (v := .ref (ad 23)) (C := "OnceNamed$NamedForm") (T := TX3) (N := 14) hx hb hts (fun w h => List.mem_cons_of_mem _ (inX3 w h)) hown hK hP 5 rfl rfl 7 (by decide) (hts _ (List.mem_cons_of_mem _ kw_127)) (fun _ h9 => h9) rfl dNamedForm_nameStep_28 ?_
  refine lv_iload_n hx hb dNamedForm_nameStep_31 rfl (lv_at hl 0 rfl) ?_
  refine lv_aload_n hx hb dNamedForm_nameStep_32 rfl (lv_at hl 1 rfl) ?_
  refine lv_iload_n hx hb dNamedForm_nameStep_33 rfl (lv_at hl 2 rfl) ?_
  refine lv_aload_n hx hb dNamedForm_nameStep_34 rfl (lv_at hl 1 rfl) ?_
  refine va_get (D := D) (ci := 3) (v := .ref (ad 1)) (C := "OnceNamed$NamedForm") (T := TX3) (N := 14) hx hb hts (fun w h => List.mem_cons_of_mem _ (inX3 w h)) hown hK hP 5 rfl rfl 0 (by decide) (hts _ (List.mem_cons_of_mem _ kw_120)) (fun _ h9 => h9) rfl dNamedForm_nameStep_35 ?_
  refine lv_iload_n hx hb dNamedForm_nameStep_38 rfl (lv_at hl 2 rfl) ?_
  refine lv_iload_n hx hb dNamedForm_nameStep_39 rfl (lv_at hl 3 rfl) ?_
  refine xci (va_runV ⟨hx, hb, hml, hown, hts⟩ (ktProgram_secondVariable l D cA ad N _ kind second v1 v2 _ hw) (cwV 2 hts (goodV kw_373 kw_374 kw_375 kw_3 kw_376) rfl rfl rfl (by decide +kernel) ⟨Nat.le_of_ble_eq_true rfl, Nat.le_of_ble_eq_true rfl⟩) (xpreV hK hP hD hN [0, 1, 4] rfl rfl 0 rfl rfl) rfl rfl hl.1 rfl (lv_room (Nat.le_of_ble_eq_true rfl)) dNamedForm_nameStep_40 ⟨Nat.le_of_ble_eq_true rfl, Nat.le_of_ble_eq_true rfl⟩) hP hD hS hA [0, 1, 4] [2, 3, 5, 6, 7, 8, 9, 10, 11, 12] rfl rfl rfl rfl [10, 11, 0, 1, 12, 2, 3, 4, 5, 6, 7, 8, 9] rfl (fun _ => rfl) (fun r40 u H locs hw hP hD hS => ?_)
  have hP : va_P D vwCl (wdNamedForm_nameStep cA ad N kind target first second stepNames (upd firstUses (Int32.toNatClampNeg v3_6) r23) secondUses lastNames namesOf homeBlock homePlace) H := hP
  have hD : va_D A (wdNamedForm_nameStep cA ad N kind target first second stepNames (upd firstUses (Int32.toNatClampNeg v3_6) r23) secondUses lastNames namesOf homeBlock homePlace) := hD
  refine xci (va_runV ⟨hx, hb, hml, hown, hts⟩ (ktNamedForm_lastName l D cA ad N _ lastNames v1 r40 _ hw) (cwV 2 hts (goodV kw_369 kw_371 ks_1_10 kw_6 kw_372) rfl rfl rfl (by decide +kernel) ⟨Nat.le_of_ble_eq_true rfl, Nat.le_of_ble_eq_true rfl⟩) (xpreV hK hP hD hN [5, 9] rfl rfl 5 rfl rfl) rfl rfl hl.1 rfl (lv_room (Nat.le_of_ble_eq_true rfl)) dNamedForm_nameStep_43 ⟨Nat.le_of_ble_eq_true rfl, Nat.le_of_ble_eq_true rfl⟩) hP hD hS hA [5, 9] [0, 1, 2, 3, 4, 6, 7, 8, 10, 11, 12] rfl rfl rfl rfl [0, 1, 2, 3, 4, 11, 5, 6, 7, 12, 8, 9, 10] rfl (fun _ => rfl) (fun r43 u H locs hw hP hD hS => ?_)
  have hP : va_P D vwCl (wdNamedForm_nameStep cA ad N kind target first second stepNames (upd firstUses (Int32.toNatClampNeg v3_6) r23) secondUses lastNames namesOf homeBlock homePlace) H := hP
  have hD : va_D A (wdNamedForm_nameStep cA ad N kind target first second stepNames (upd firstUses (Int32.toNatClampNeg v3_6) r23) secondUses lastNames namesOf homeBlock homePlace) := hD
  have ho := hw.1
  have hw := hw.2
  refine va_iast hx hb hK hP hD hS 8 0 rfl rfl ho dNamedForm_nameStep_46 (fun H locs hP hD hS => ?_)
  have hP : va_P D vwCl (wdNamedForm_nameStep cA ad N kind target first second stepNames (upd firstUses (Int32.toNatClampNeg v3_6) r23) (upd secondUses (Int32.toNatClampNeg v3_6) r43) lastNames namesOf homeBlock homePlace) H := hP
  have hD : va_D A (wdNamedForm_nameStep cA ad N kind target first second stepNames (upd firstUses (Int32.toNatClampNeg v3_6) r23) (upd secondUses (Int32.toNatClampNeg v3_6) r43) lastNames namesOf homeBlock homePlace) := hD
  refine lv_aload_n hx hb dNamedForm_nameStep_47 rfl (lv_at hl 1 rfl) ?_
  refine va_get (D := D) (ci := 3) (v := .ref (ad 1)) (C := "OnceNamed$NamedForm") (T := TX3) (N := 14) hx hb hts (fun w h => List.mem_cons_of_mem _ (inX3 w h)) hown hK hP 5 rfl rfl 0 (by decide) (hts _ (List.mem_cons_of_mem _ kw_120)) (fun _ h9 => h9) rfl dNamedForm_nameStep_48 ?_
  refine lv_iload_n hx hb dNamedForm_nameStep_51 rfl (lv_at hl 2 rfl) ?_
  refine lv_iload_n hx hb dNamedForm_nameStep_52 rfl (lv_at hl 3 rfl) ?_
  refine xci (va_runV ⟨hx, hb, hml, hown, hts⟩ (ktProgram_variableSet l D cA ad N _ kind target v1 v2 _ hw) (cwV 2 hts (goodV kw_380 kw_328 kw_329 kw_3 kw_330) rfl rfl rfl (by decide +kernel) ⟨Nat.le_of_ble_eq_true rfl, Nat.le_of_ble_eq_true rfl⟩) (xpreV hK hP hD hN [0, 1, 2] rfl rfl 0 rfl rfl) rfl rfl hl.1 rfl (lv_room (Nat.le_of_ble_eq_true rfl)) dNamedForm_nameStep_53 ⟨Nat.le_of_ble_eq_true rfl, Nat.le_of_ble_eq_true rfl⟩) hP hD hS hA [0, 1, 2] [3, 4, 5, 6, 7, 8, 9, 10, 11, 12] rfl rfl rfl rfl [10, 11, 12, 0, 1, 2, 3, 4, 5, 6, 7, 8, 9] rfl (fun _ => rfl) (fun r53 u H locs hw hP hD hS => ?_)
  have hP : va_P D vwCl (wdNamedForm_nameStep cA ad N kind target first second stepNames (upd firstUses (Int32.toNatClampNeg v3_6) r23) (upd secondUses (Int32.toNatClampNeg v3_6) r43) lastNames namesOf homeBlock homePlace) H := hP
  have hD : va_D A (wdNamedForm_nameStep cA ad N kind target first second stepNames (upd firstUses (Int32.toNatClampNeg v3_6) r23) (upd secondUses (Int32.toNatClampNeg v3_6) r43) lastNames namesOf homeBlock homePlace) := hD
  refine lv_istore (lv' := [(4, .int r53), (3, .int v3_6), (0, .ref (ad 18)), (1, .int v1), (2, .int v2)]) hx hb dNamedForm_nameStep_56 hl (by decide) rfl (fun ls hl => ?_)
  refine lv_iload hx hb dNamedForm_nameStep_58 (lv_at hl 0 rfl) ?_
  refine lv_iconst (v := (-1)) hx hb dNamedForm_nameStep_60 (by decide) ?_
  refine lv_icmp_eq (tgt := 78) hx hb dNamedForm_nameStep_61 rfl (fun hc => ?_) (fun hc => ?_)
  · have hw := hw.1 hc
    exact hend stepNames (upd firstUses (Int32.toNatClampNeg v3_6) r23) (upd secondUses (Int32.toNatClampNeg v3_6) r43) lastNames namesOf homeBlock homePlace _ _ _ _ dNamedForm_nameStep_78 hP hD hS hw
  · have hw := hw.2 hc
    refine lv_aload_n hx hb dNamedForm_nameStep_64 rfl (lv_at hl 2 rfl) ?_
    refine va_get (D := D) (ci := 3) (v := .ref (ad 21)) (C := "OnceNamed$NamedForm") (T := TX3) (N := 14) hx hb hts (fun w h => List.mem_cons_of_mem _ (inX3 w h)) hown hK hP 5 rfl rfl 5 (by decide) (hts _ (List.mem_cons_of_mem _ kw_125)) (fun _ h9 => h9) rfl dNamedForm_nameStep_65 ?_
    refine lv_iload_n hx hb dNamedForm_nameStep_68 rfl (lv_at hl 1 rfl) ?_
    refine lv_aload_n hx hb dNamedForm_nameStep_69 rfl (lv_at hl 2 rfl) ?_
    refine lv_iload hx hb dNamedForm_nameStep_70 (lv_at hl 0 rfl) ?_
    refine lv_iload_n hx hb dNamedForm_nameStep_72 rfl (lv_at hl 3 rfl) ?_
    refine lv_iload_n hx hb dNamedForm_nameStep_73 rfl (lv_at hl 4 rfl) ?_
    refine xci (va_runV ⟨hx, hb, hml, hown, hts⟩ (ktNamedForm_newName l D cA ad N _ lastNames namesOf homeBlock homePlace r53 v1 v2 _ hw) (cwV 3 hts (goodV kw_339 kw_341 ks_1_7 kw_6 kw_342) rfl rfl rfl (by decide +kernel) ⟨Nat.le_of_ble_eq_true rfl, Nat.le_of_ble_eq_true rfl⟩) (xpreV hK hP hD hN [5, 9, 10, 11, 12] rfl rfl 5 rfl rfl) rfl rfl hl.1 rfl (lv_room (Nat.le_of_ble_eq_true rfl)) dNamedForm_nameStep_74 ⟨Nat.le_of_ble_eq_true rfl, Nat.le_of_ble_eq_true rfl⟩) hP hD hS hA [5, 9, 10, 11, 12] [0, 1, 2, 3, 4, 6, 7, 8] rfl rfl rfl rfl [0, 1, 2, 3, 4, 8, 5, 6, 7, 9, 10, 11, 12] rfl (fun _ => rfl) (fun r74 u H locs hw hP hD hS => ?_)
    obtain ⟨lastNames_74, namesOf_74, homeBlock_74, homePlace_74⟩ := u
    try dsimp only at hw
    have hP : va_P D vwCl (wdNamedForm_nameStep cA ad N kind target first second stepNames (upd firstUses (Int32.toNatClampNeg v3_6) r23) (upd secondUses (Int32.toNatClampNeg v3_6) r43) lastNames_74 namesOf_74 homeBlock_74 homePlace_74) H := hP
    have hD : va_D A (wdNamedForm_nameStep cA ad N kind target first second stepNames (upd firstUses (Int32.toNatClampNeg v3_6) r23) (upd secondUses (Int32.toNatClampNeg v3_6) r43) lastNames_74 namesOf_74 homeBlock_74 homePlace_74) := hD
    have ho := hw.1
    have hw := hw.2
    refine va_iast hx hb hK hP hD hS 6 0 rfl rfl ho dNamedForm_nameStep_77 (fun H locs hP hD hS => ?_)
    have hP : va_P D vwCl (wdNamedForm_nameStep cA ad N kind target first second (upd stepNames (Int32.toNatClampNeg v3_6) r74) (upd firstUses (Int32.toNatClampNeg v3_6) r23) (upd secondUses (Int32.toNatClampNeg v3_6) r43) lastNames_74 namesOf_74 homeBlock_74 homePlace_74) H := hP
    have hD : va_D A (wdNamedForm_nameStep cA ad N kind target first second (upd stepNames (Int32.toNatClampNeg v3_6) r74) (upd firstUses (Int32.toNatClampNeg v3_6) r23) (upd secondUses (Int32.toNatClampNeg v3_6) r43) lastNames_74 namesOf_74 homeBlock_74 homePlace_74) := hD
    exact hend (upd stepNames (Int32.toNatClampNeg v3_6) r74) (upd firstUses (Int32.toNatClampNeg v3_6) r23) (upd secondUses (Int32.toNatClampNeg v3_6) r43) lastNames_74 namesOf_74 homeBlock_74 homePlace_74 _ _ _ _ dNamedForm_nameStep_78 hP hD hS hw
abbrev wdNamedForm_nameBlock (cA : ClassId) (ad : Nat → Nat) (N : Nat) (stepCount : Nat → Int32) (kind : Nat → Int32) (target : Nat → Int32) (first : Nat → Int32) (second : Nat → Int32) (forkVariable : Nat → Int32) (orderSize : Int32) (reached : Int32) (parents : Nat → Int32) (meetingNames : Nat → Int32) (stepNames : Nat → Int32) (firstUses : Nat → Int32) (secondUses : Nat → Int32) (endUses : Nat → Int32) (lastNames : Nat → Int32) (namesOf : Nat → Int32) (homeBlock : Nat → Int32) (homePlace : Nat → Int32) : va_W := [((ad 1), .inr (1, [.int (nI N), .ref (ad 2), .ref (ad 3), .ref (ad 4), .ref (ad 5), .ref (ad 6), .ref (ad 7), .ref (ad 8), .ref (ad 9), .ref (ad 10)])), ((ad 2), .inl (cA, N, .inl stepCount)), ((ad 3), .inl (cA, N * 6, .inl kind)), ((ad 4), .inl (cA, N * 6, .inl target)), ((ad 5), .inl (cA, N * 6, .inl first)), ((ad 6), .inl (cA, N * 6, .inl second)), ((ad 7), .inl (cA, N, .inl forkVariable)), ((ad 11), .inr (2, [.int (nI N), .ref (ad 12), .ref (ad 13), .ref (ad 14), .ref (ad 15), .ref (ad 16), .ref (ad 17), .int orderSize, .int reached])), ((ad 15), .inl (cA, N, .inl parents)), ((ad 18), .inr (3, [.ref (ad 1), .ref (ad 11), .int (nI N), .ref (ad 19), .ref (ad 20), .ref (ad 21), .ref (ad 22), .ref (ad 23), .ref (ad 24), .ref (ad 25), .ref (ad 26), .ref (ad 27), .ref (ad 28), .ref (ad 29)])), ((ad 19), .inl (cA, N * 6, .inl meetingNames)), ((ad 21), .inl (cA, N * 6, .inl stepNames)), ((ad 22), .inl (cA, N * 6, .inl firstUses)), ((ad 23), .inl (cA, N * 6, .inl secondUses)), ((ad 24), .inl (cA, N, .inl endUses)), ((ad 25), .inl (cA, (N + 1) * 6, .inl lastNames)), ((ad 26), .inl (cA, 6, .inl namesOf)), ((ad 27), .inl (cA, 600, .inl homeBlock)), ((ad 28), .inl (cA, 600, .inl homePlace))]
abbrev qcNamedForm_nameBlock (D : va_G) (cA : ClassId) (ad : Nat → Nat) (N : Nat) (stepCount : Nat → Int32) (kind : Nat → Int32) (target : Nat → Int32) (first : Nat → Int32) (second : Nat → Int32) (forkVariable : Nat → Int32) (orderSize : Int32) (reached : Int32) (parents : Nat → Int32) (meetingNames : Nat → Int32) (stepNames : Nat → Int32) (firstUses : Nat → Int32) (secondUses : Nat → Int32) (endUses : Nat → Int32) (lastNames : Nat → Int32) (namesOf : Nat → Int32) (homeBlock : Nat → Int32) (homePlace : Nat → Int32) (post : (Nat → Int32) → (Nat → Int32) → (Nat → Int32) → (Nat → Int32) → (Nat → Int32) → (Nat → Int32) → (Nat → Int32) → (Nat → Int32) → (Nat → Int32) → Prop) (A : Nat → Prop) : Array Value → State → Outcome → State → Prop := va_Qv (S := (Nat → Int32) × (Nat → Int32) × (Nat → Int32) × (Nat → Int32) × (Nat → Int32) × (Nat → Int32) × (Nat → Int32) × (Nat → Int32) × (Nat → Int32)) (fun u => post u.1 u.2.1 u.2.2.1 u.2.2.2.1 u.2.2.2.2.1 u.2.2.2.2.2.1 u.2.2.2.2.2.2.1 u.2.2.2.2.2.2.2.1 u.2.2.2.2.2.2.2.2) (fun u t => xB D cA A (wdNamedForm_nameBlock cA ad N stepCount kind target first second forkVariable orderSize reached parents u.1 u.2.1 u.2.2.1 u.2.2.2.1 u.2.2.2.2.1 u.2.2.2.2.2.1 u.2.2.2.2.2.2.1 u.2.2.2.2.2.2.2.1 u.2.2.2.2.2.2.2.2) t) A
abbrev rmNamedForm_nameBlock : Room := { frames := 3, cells := 0, slots := 0, locals := 67 }
set_option maxHeartbeats 4000000 in
set_option maxRecDepth 100000 in
theorem ktNamedForm_nameBlock (l : Launch) (D : va_G) (cA : ClassId) (ad : Nat → Nat) (N : Nat) (sz : Nat) (stepCount : Nat → Int32) (kind : Nat → Int32) (target : Nat → Int32) (first : Nat → Int32) (second : Nat → Int32) (forkVariable : Nat → Int32) (orderSize : Int32) (reached : Int32) (parents : Nat → Int32) (meetingNames : Nat → Int32) (stepNames : Nat → Int32) (firstUses : Nat → Int32) (secondUses : Nat → Int32) (endUses : Nat → Int32) (lastNames : Nat → Int32) (namesOf : Nat → Int32) (homeBlock : Nat → Int32) (homePlace : Nat → Int32) (v1 : Int32) (post : (Nat → Int32) → (Nat → Int32) → (Nat → Int32) → (Nat → Int32) → (Nat → Int32) → (Nat → Int32) → (Nat → Int32) → (Nat → Int32) → (Nat → Int32) → Prop) (hw : wpNamedForm_nameBlock N stepCount kind target first second forkVariable parents meetingNames stepNames firstUses secondUses endUses lastNames namesOf homeBlock homePlace v1 post) : Met l yNamedForm_nameBlock (Cond.code yNamedForm_nameBlock cNamedForm_nameBlock 4 none :: xW) rmNamedForm_nameBlock (va_Pc [.ref (ad 18), .int v1] (xPc D cA (wdNamedForm_nameBlock cA ad N stepCount kind target first second forkVariable orderSize reached parents meetingNames stepNames firstUses secondUses endUses lastNames namesOf homeBlock homePlace) sz)) (qcNamedForm_nameBlock D cA ad N stepCount kind target first second forkVariable orderSize reached parents meetingNames stepNames firstUses secondUses endUses lastNames namesOf homeBlock homePlace post (va_A (wdNamedForm_nameBlock cA ad N stepCount kind target first second forkVariable orderSize reached parents meetingNames stepNames firstUses secondUses endUses lastNames namesOf homeBlock homePlace) sz)) 0 0 (va_A (wdNamedForm_nameBlock cA ad N stepCount kind target first second forkVariable orderSize reached parents meetingNames stepNames firstUses secondUses endUses lastNames namesOf homeBlock homePlace) sz) := by
  refine Met.ofW (cc := cNamedForm_nameBlock) (maxL := 4) (ret := none) (by decide) rfl ?_
  intro p e s m args below meth c s₁ B hml hv
  obtain ⟨rfl, hsz, hP, hK, hD0, hN⟩ := hv
  have hx := B.exec
  have hb := B.bytes
  have hr := B.returns
  have hts := atoms_spec (ws := (Cond.code yNamedForm_nameBlock cNamedForm_nameBlock 4 none :: xW)) B.pre
  have hown : s.vm.findClass "OnceNamed$NamedForm" = some m.cls := findClass_of_methodNamed B.named
  have hlocks := B.notSynchronized
  subst hsz
  have hD := hD0.self (sz := s.heap.size)
  generalize hAe : va_A (wdNamedForm_nameBlock cA ad N stepCount kind target first second forkVariable orderSize reached parents meetingNames stepNames firstUses secondUses endUses lastNames namesOf homeBlock homePlace) s.heap.size = A at hD ⊢
  have hA : ∀ q : Nat, s.heap.size ≤ q → A q := fun q h => by rw [← hAe]; exact Or.inr h
  have hS : va_S A s.heap s.heap [] := va_S.rf
  have hend : ∀ (u0 : Nat → Int32) (u1 : Nat → Int32) (u2 : Nat → Int32) (u3 : Nat → Int32) (u4 : Nat → Int32) (u5 : Nat → Int32) (u6 : Nat → Int32) (u7 : Nat → Int32) (u8 : Nat → Int32) (H : Heap) (locs : List Loc) (pc : Nat) (ls : Array Slot), decode cNamedForm_nameBlock pc = .ok (.return_, 1) → va_P D vwCl (wdNamedForm_nameBlock cA ad N stepCount kind target first second forkVariable orderSize reached parents u0 u1 u2 u3 u4 u5 u6 u7 u8) H → va_D A (wdNamedForm_nameBlock cA ad N stepCount kind target first second forkVariable orderSize reached parents u0 u1 u2 u3 u4 u5 u6 u7 u8) → va_S A s.heap H locs → post u0 u1 u2 u3 u4 u5 u6 u7 u8 → W p l e (headSpec (Cond.code yNamedForm_nameBlock cNamedForm_nameBlock 4 none :: xW) rmNamedForm_nameBlock).room s m ([.ref (ad 18), .int v1] : List Value).toArray below meth c H locs 0 0 (MQ below (qcNamedForm_nameBlock D cA ad N stepCount kind target first second forkVariable orderSize reached parents meetingNames stepNames firstUses secondUses endUses lastNames namesOf homeBlock homePlace post A) ([.ref (ad 18), .int v1] : List Value).toArray s 0 0 A) (F0 m pc ls []) := fun u0 u1 u2 u3 u4 u5 u6 u7 u8 H locs pc ls hd hP hD hS hw => W.vret hx hb hr (fun t ht hW => ⟨⟨(u0, u1, u2, u3, u4, u5, u6, u7, u8), rfl, hw, ⟨by rw [ht]; exact hP, va_K.moved hW.alike hK, hD⟩⟩, hS.F ht⟩) hS.2.2 hd
  generalize hQ : MQ below (qcNamedForm_nameBlock D cA ad N stepCount kind target first second forkVariable orderSize reached parents meetingNames stepNames firstUses secondUses endUses lastNames namesOf homeBlock homePlace post A) ([.ref (ad 18), .int v1] : List Value).toArray s 0 0 A = Q at hend ⊢
  have hl := lv_entry ([.ref (ad 18), .int v1]) (n := 4) (Nat.le_of_ble_eq_true rfl)
  rw [lg_entry_eq]
  generalize (lg_sl ([.ref (ad 18), .int v1]) ++ List.replicate (4 - (lg_sl ([.ref (ad 18), .int v1])).length) Slot.unset).toArray = ls at hl ⊢
  have hl : lv_has ls 4 [(0, .ref (ad 18)), (1, .int v1)] := hl
  unfold wpNamedForm_nameBlock at hw
  refine lv_aload_n hx hb dNamedForm_nameBlock_0 rfl (lv_at hl 0 rfl) ?_
  refine va_get (D := D) (ci := 3) (v := .ref (ad 11)) (C := "OnceNamed$NamedForm") (T := TX3) (N := 14) hx hb hts (fun w h => List.mem_cons_of_mem _ (inX3 w h)) hown hK hP 9 rfl rfl 1 (by decide) (hts _ (List.mem_cons_of_mem _ kw_121)) (fun _ h9 => h9) rfl dNamedForm_nameBlock_1 ?_
  refine lv_iload_n hx hb dNamedForm_nameBlock_4 rfl (lv_at hl 1 rfl) ?_
  refine xci (va_runV ⟨hx, hb, hml, hown, hts⟩ (ktGraph_parentOf l D cA ad N _ orderSize reached parents v1 _ hw) (cwV 1 hts (goodV kw_347 kw_348 kw_349 kw_5 kw_350) rfl rfl rfl (by decide +kernel) ⟨Nat.le_of_ble_eq_true rfl, Nat.le_of_ble_eq_true rfl⟩) (xpreV hK hP hD hN [7, 8] rfl rfl 7 rfl rfl) rfl rfl hl.1 rfl (lv_room (Nat.le_of_ble_eq_true rfl)) dNamedForm_nameBlock_5 ⟨Nat.le_of_ble_eq_true rfl, Nat.le_of_ble_eq_true rfl⟩) hP hD hS hA [7, 8] [0, 1, 2, 3, 4, 5, 6, 9, 10, 11, 12, 13, 14, 15, 16, 17, 18] rfl rfl rfl rfl [0, 1, 2, 3, 4, 5, 6, 17, 18, 7, 8, 9, 10, 11, 12, 13, 14, 15, 16] rfl (fun _ => rfl) (fun r5 u H locs hw hP hD hS => ?_)
  have hP : va_P D vwCl (wdNamedForm_nameBlock cA ad N stepCount kind target first second forkVariable orderSize reached parents meetingNames stepNames firstUses secondUses endUses lastNames namesOf homeBlock homePlace) H := hP
  have hD : va_D A (wdNamedForm_nameBlock cA ad N stepCount kind target first second forkVariable orderSize reached parents meetingNames stepNames firstUses secondUses endUses lastNames namesOf homeBlock homePlace) := hD
  refine lv_istore_n (lv' := [(2, .int r5), (0, .ref (ad 18)), (1, .int v1)]) hx hb dNamedForm_nameBlock_8 rfl hl (by decide) rfl (fun ls hl => ?_)
  refine lv_aload_n hx hb dNamedForm_nameBlock_9 rfl (lv_at hl 1 rfl) ?_
  refine va_get (D := D) (ci := 3) (v := .ref (ad 25)) (C := "OnceNamed$NamedForm") (T := TX3) (N := 14) hx hb hts (fun w h => List.mem_cons_of_mem _ (inX3 w h)) hown hK hP 9 rfl rfl 9 (by decide) (hts _ (List.mem_cons_of_mem _ kw_129)) (fun _ h9 => h9) rfl dNamedForm_nameBlock_10 ?_
  refine lv_iload_n hx hb dNamedForm_nameBlock_13 rfl (lv_at hl 0 rfl) ?_
  refine lv_bipush (v := 6) hx hb dNamedForm_nameBlock_14 (by decide) ?_
  refine lv_imul hx hb dNamedForm_nameBlock_16 ?_
  refine lv_aload_n hx hb dNamedForm_nameBlock_17 rfl (lv_at hl 1 rfl) ?_
  refine va_get (D := D) (ci := 3) (v := .ref (ad 25)) (C := "OnceNamed$NamedForm") (T := TX3) (N := 14) hx hb hts (fun w h => List.mem_cons_of_mem _ (inX3 w h)) hown hK hP 9 rfl rfl 9 (by decide) (hts _ (List.mem_cons_of_mem _ kw_129)) (fun _ h9 => h9) rfl dNamedForm_nameBlock_18 ?_
  refine lv_iload_n hx hb dNamedForm_nameBlock_21 rfl (lv_at hl 2 rfl) ?_
  refine lv_bipush (v := 6) hx hb dNamedForm_nameBlock_22 (by decide) ?_
  refine lv_imul hx hb dNamedForm_nameBlock_24 ?_
  refine lv_bipush (v := 6) hx hb dNamedForm_nameBlock_25 (by decide) ?_
  have ho1 := hw.1
  have hw := hw.2
  have ho2 := hw.1
  have hw := hw.2
  have ho3 := hw.1
  have hw := hw.2
  have ho4 := hw.1
  have hw := hw.2
  have ho5 := hw.1
  have hw := hw.2
  refine va_copyi hx hb (hml.trans hl.1.symm) hown (hts _ (List.mem_cons_of_mem _ kw_351)) (hts _ (List.mem_cons_of_mem _ kw_353)) (hts _ (List.mem_cons_of_mem _ kw_352)) (hts _ (List.mem_cons_of_mem _ kw_17)) hK hP hD hS 15 15 0 0 rfl rfl rfl rfl rfl ho1 ho2 ho3 ho4 ho5 (fun _ _ => rfl) (Nat.le_of_ble_eq_true rfl) (Nat.le_of_ble_eq_true rfl) dNamedForm_nameBlock_27 (fun H locs hP hD hS => ?_)
  have hP : va_P D vwCl (wdNamedForm_nameBlock cA ad N stepCount kind target first second forkVariable orderSize reached parents meetingNames stepNames firstUses secondUses endUses (va_cpy lastNames lastNames (Int32.toNatClampNeg (r5 * 6)) (Int32.toNatClampNeg (v1 * 6)) (Int32.toNatClampNeg 6)) namesOf homeBlock homePlace) H := hP
  have hD : va_D A (wdNamedForm_nameBlock cA ad N stepCount kind target first second forkVariable orderSize reached parents meetingNames stepNames firstUses secondUses endUses (va_cpy lastNames lastNames (Int32.toNatClampNeg (r5 * 6)) (Int32.toNatClampNeg (v1 * 6)) (Int32.toNatClampNeg 6)) namesOf homeBlock homePlace) := hD
  refine lv_iconst (v := 0) hx hb dNamedForm_nameBlock_30 (by decide) ?_
  refine lv_istore_n (lv' := [(3, .int 0), (2, .int r5), (0, .ref (ad 18)), (1, .int v1)]) hx hb dNamedForm_nameBlock_31 rfl hl (by decide) rfl (fun ls hl => ?_)
  obtain ⟨k32, hw⟩ := hw
  have hlp32 : ∀ (K77 : Int32 → (Nat → Int32) → (Nat → Int32) → (Nat → Int32) → (Nat → Int32) → (Nat → Int32) → Prop), (∀ (v3_x77 : Int32) (meetingNames_x77 : Nat → Int32) (lastNames_x77 : Nat → Int32) (namesOf_x77 : Nat → Int32) (homeBlock_x77 : Nat → Int32) (homePlace_x77 : Nat → Int32) (ls : Array Slot) (H : Heap) (locs : List Loc), lv_has ls 4 [(0, .ref (ad 18)), (1, .int v1), (2, .int r5), (3, .int v3_x77)] → va_P D vwCl (wdNamedForm_nameBlock cA ad N stepCount kind target first second forkVariable orderSize reached parents meetingNames_x77 stepNames firstUses secondUses endUses lastNames_x77 namesOf_x77 homeBlock_x77 homePlace_x77) H → va_D A (wdNamedForm_nameBlock cA ad N stepCount kind target first second forkVariable orderSize reached parents meetingNames_x77 stepNames firstUses secondUses endUses lastNames_x77 namesOf_x77 homeBlock_x77 homePlace_x77) → va_S A s.heap H locs → K77 v3_x77 meetingNames_x77 lastNames_x77 namesOf_x77 homeBlock_x77 homePlace_x77 → W p l e (headSpec (Cond.code yNamedForm_nameBlock cNamedForm_nameBlock 4 none :: xW) rmNamedForm_nameBlock).room s m ([.ref (ad 18), .int v1] : List Value).toArray below meth c H locs 0 0 Q (F0 m 77 ls [])) → ∀ (k : Nat), ∀ (v3_L32 : Int32) (meetingNames_L32 : Nat → Int32) (lastNames_L32 : Nat → Int32) (namesOf_L32 : Nat → Int32) (homeBlock_L32 : Nat → Int32) (homePlace_L32 : Nat → Int32) (ls : Array Slot) (H : Heap) (locs : List Loc), lv_has ls 4 [(0, .ref (ad 18)), (1, .int v1), (2, .int r5), (3, .int v3_L32)] → va_P D vwCl (wdNamedForm_nameBlock cA ad N stepCount kind target first second forkVariable orderSize reached parents meetingNames_L32 stepNames firstUses secondUses endUses lastNames_L32 namesOf_L32 homeBlock_L32 homePlace_L32) H → va_D A (wdNamedForm_nameBlock cA ad N stepCount kind target first second forkVariable orderSize reached parents meetingNames_L32 stepNames firstUses secondUses endUses lastNames_L32 namesOf_L32 homeBlock_L32 homePlace_L32) → va_S A s.heap H locs → lpNamedForm_nameBlock_32 N v1 K77 k v3_L32 meetingNames_L32 lastNames_L32 namesOf_L32 homeBlock_L32 homePlace_L32 → W p l e (headSpec (Cond.code yNamedForm_nameBlock cNamedForm_nameBlock 4 none :: xW) rmNamedForm_nameBlock).room s m ([.ref (ad 18), .int v1] : List Value).toArray below meth c H locs 0 0 Q (F0 m 32 ls []) := by
    intro K77 hK77 k
    induction k with
    | zero => intro v3_L32 meetingNames_L32 lastNames_L32 namesOf_L32 homeBlock_L32 homePlace_L32 ls H locs hl hP hD hS hw; exact False.elim hw
    | succ k ih =>
      intro v3_L32 meetingNames_L32 lastNames_L32 namesOf_L32 homeBlock_L32 homePlace_L32 ls H locs hl hP hD hS hw
      refine lv_iload_n hx hb dNamedForm_nameBlock_32 rfl (lv_at hl 3 rfl) ?_
      refine lv_bipush (v := 6) hx hb dNamedForm_nameBlock_33 (by decide) ?_
      refine lv_icmp_ge (tgt := 77) hx hb dNamedForm_nameBlock_35 rfl (fun hc => ?_) (fun hc => ?_)
      · have hw := hw.1 hc
        exact hK77 v3_L32 meetingNames_L32 lastNames_L32 namesOf_L32 homeBlock_L32 homePlace_L32 _ _ _ (lv_sub hl [0, 1, 2, 3] rfl) hP hD hS hw
      · have hw := hw.2 hc
        refine lv_aload_n hx hb dNamedForm_nameBlock_38 rfl (lv_at hl 0 rfl) ?_
        refine va_get (D := D) (ci := 3) (v := .ref (ad 19)) (C := "OnceNamed$NamedForm") (T := TX3) (N := 14) hx hb hts (fun w h => List.mem_cons_of_mem _ (inX3 w h)) hown hK hP 9 rfl rfl 3 (by decide) (hts _ (List.mem_cons_of_mem _ kw_123)) (fun _ h9 => h9) rfl dNamedForm_nameBlock_39 ?_
        refine lv_iload_n hx hb dNamedForm_nameBlock_42 rfl (lv_at hl 1 rfl) ?_
        refine lv_bipush (v := 6) hx hb dNamedForm_nameBlock_43 (by decide) ?_
        refine lv_imul hx hb dNamedForm_nameBlock_45 ?_
        refine lv_iload_n hx hb dNamedForm_nameBlock_46 rfl (lv_at hl 3 rfl) ?_
        refine lv_iadd hx hb dNamedForm_nameBlock_47 ?_
        have ho := hw.1
        have hw := hw.2
        refine va_iald hx hb hK hP 10 0 rfl rfl ho dNamedForm_nameBlock_48 ?_
        refine lv_iconst (v := (-1)) hx hb dNamedForm_nameBlock_49 (by decide) ?_
        refine lv_icmp_eq (tgt := 71) hx hb dNamedForm_nameBlock_50 rfl (fun hc => ?_) (fun hc => ?_)
        · have hw := hw.1 hc
          refine lv_iinc (k := 3) (v := (v3_L32 + 1)) (lv' := [(3, .int (v3_L32 + 1)), (0, .ref (ad 18)), (1, .int v1), (2, .int r5)]) hx hb dNamedForm_nameBlock_71 hl rfl rfl (by decide) rfl (fun ls hl => ?_)
          refine lv_goto (tgt := 32) hx hb dNamedForm_nameBlock_74 rfl ?_
          exact ih (v3_L32 + 1) meetingNames_L32 lastNames_L32 namesOf_L32 homeBlock_L32 homePlace_L32 _ _ _ (lv_sub hl [1, 2, 3, 0] rfl) hP hD hS hw
        · have hw := hw.2 hc
          refine lv_aload_n hx hb dNamedForm_nameBlock_53 rfl (lv_at hl 0 rfl) ?_
          refine va_get (D := D) (ci := 3) (v := .ref (ad 19)) (C := "OnceNamed$NamedForm") (T := TX3) (N := 14) hx hb hts (fun w h => List.mem_cons_of_mem _ (inX3 w h)) hown hK hP 9 rfl rfl 3 (by decide) (hts _ (List.mem_cons_of_mem _ kw_123)) (fun _ h9 => h9) rfl dNamedForm_nameBlock_54 ?_
          refine lv_iload_n hx hb dNamedForm_nameBlock_57 rfl (lv_at hl 1 rfl) ?_
          refine lv_bipush (v := 6) hx hb dNamedForm_nameBlock_58 (by decide) ?_
          refine lv_imul hx hb dNamedForm_nameBlock_60 ?_
          refine lv_iload_n hx hb dNamedForm_nameBlock_61 rfl (lv_at hl 3 rfl) ?_
          refine lv_iadd hx hb dNamedForm_nameBlock_62 ?_
          refine lv_aload_n hx hb dNamedForm_nameBlock_63 rfl (lv_at hl 0 rfl) ?_
          refine lv_iload_n hx hb dNamedForm_nameBlock_64 rfl (lv_at hl 3 rfl) ?_
          refine lv_iload_n hx hb dNamedForm_nameBlock_65 rfl (lv_at hl 1 rfl) ?_
          refine lv_iconst (v := (-1)) hx hb dNamedForm_nameBlock_66 (by decide) ?_
          refine xci (va_runV ⟨hx, hb, hml, hown, hts⟩ (ktNamedForm_newName l D cA ad N _ lastNames_L32 namesOf_L32 homeBlock_L32 homePlace_L32 v3_L32 v1 (-1) _ hw) (cwV 3 hts (goodV kw_339 kw_341 ks_1_7 kw_6 kw_342) rfl rfl rfl (by decide +kernel) ⟨Nat.le_of_ble_eq_true rfl, Nat.le_of_ble_eq_true rfl⟩) (xpreV hK hP hD hN [9, 15, 16, 17, 18] rfl rfl 9 rfl rfl) rfl rfl hl.1 rfl (lv_room (Nat.le_of_ble_eq_true rfl)) dNamedForm_nameBlock_67 ⟨Nat.le_of_ble_eq_true rfl, Nat.le_of_ble_eq_true rfl⟩) hP hD hS hA [9, 15, 16, 17, 18] [0, 1, 2, 3, 4, 5, 6, 7, 8, 10, 11, 12, 13, 14] rfl rfl rfl rfl [0, 1, 2, 3, 4, 5, 6, 7, 8, 14, 9, 10, 11, 12, 13, 15, 16, 17, 18] rfl (fun _ => rfl) (fun r67 u H locs hw hP hD hS => ?_)
          obtain ⟨lastNames_67, namesOf_67, homeBlock_67, homePlace_67⟩ := u
          try dsimp only at hw
          have hP : va_P D vwCl (wdNamedForm_nameBlock cA ad N stepCount kind target first second forkVariable orderSize reached parents meetingNames_L32 stepNames firstUses secondUses endUses lastNames_67 namesOf_67 homeBlock_67 homePlace_67) H := hP
          have hD : va_D A (wdNamedForm_nameBlock cA ad N stepCount kind target first second forkVariable orderSize reached parents meetingNames_L32 stepNames firstUses secondUses endUses lastNames_67 namesOf_67 homeBlock_67 homePlace_67) := hD
          have ho := hw.1
          have hw := hw.2
          refine va_iast hx hb hK hP hD hS 10 0 rfl rfl ho dNamedForm_nameBlock_70 (fun H locs hP hD hS => ?_)
          have hP : va_P D vwCl (wdNamedForm_nameBlock cA ad N stepCount kind target first second forkVariable orderSize reached parents (upd meetingNames_L32 (Int32.toNatClampNeg ((v1 * 6) + v3_L32)) r67) stepNames firstUses secondUses endUses lastNames_67 namesOf_67 homeBlock_67 homePlace_67) H := hP
          have hD : va_D A (wdNamedForm_nameBlock cA ad N stepCount kind target first second forkVariable orderSize reached parents (upd meetingNames_L32 (Int32.toNatClampNeg ((v1 * 6) + v3_L32)) r67) stepNames firstUses secondUses endUses lastNames_67 namesOf_67 homeBlock_67 homePlace_67) := hD
          refine lv_iinc (k := 3) (v := (v3_L32 + 1)) (lv' := [(3, .int (v3_L32 + 1)), (0, .ref (ad 18)), (1, .int v1), (2, .int r5)]) hx hb dNamedForm_nameBlock_71 hl rfl rfl (by decide) rfl (fun ls hl => ?_)
          refine lv_goto (tgt := 32) hx hb dNamedForm_nameBlock_74 rfl ?_
          exact ih (v3_L32 + 1) (upd meetingNames_L32 (Int32.toNatClampNeg ((v1 * 6) + v3_L32)) r67) lastNames_67 namesOf_67 homeBlock_67 homePlace_67 _ _ _ (lv_sub hl [1, 2, 3, 0] rfl) hP hD hS hw
  refine hlp32 _ ?_ k32 0 meetingNames (va_cpy lastNames lastNames (Int32.toNatClampNeg (r5 * 6)) (Int32.toNatClampNeg (v1 * 6)) (Int32.toNatClampNeg 6)) namesOf homeBlock homePlace _ _ _ (lv_sub hl [2, 3, 1, 0] rfl) hP hD hS hw
  intro v3_x77 meetingNames_x77 lastNames_x77 namesOf_x77 homeBlock_x77 homePlace_x77 ls H locs hl hP hD hS hw
  try dsimp only at hw
  refine lv_iconst (v := 0) hx hb dNamedForm_nameBlock_77 (by decide) ?_
  refine lv_istore_n (lv' := [(3, .int 0), (0, .ref (ad 18)), (1, .int v1), (2, .int r5)]) hx hb dNamedForm_nameBlock_78 rfl hl (by decide) rfl (fun ls hl => ?_)
  obtain ⟨k79, hw⟩ := hw
  have hlp79 : ∀ (K103 : Int32 → (Nat → Int32) → (Nat → Int32) → (Nat → Int32) → (Nat → Int32) → (Nat → Int32) → (Nat → Int32) → (Nat → Int32) → Prop), (∀ (v3_x103 : Int32) (stepNames_x103 : Nat → Int32) (firstUses_x103 : Nat → Int32) (secondUses_x103 : Nat → Int32) (lastNames_x103 : Nat → Int32) (namesOf_x103 : Nat → Int32) (homeBlock_x103 : Nat → Int32) (homePlace_x103 : Nat → Int32) (ls : Array Slot) (H : Heap) (locs : List Loc), lv_has ls 4 [(0, .ref (ad 18)), (1, .int v1), (2, .int r5), (3, .int v3_x103)] → va_P D vwCl (wdNamedForm_nameBlock cA ad N stepCount kind target first second forkVariable orderSize reached parents meetingNames_x77 stepNames_x103 firstUses_x103 secondUses_x103 endUses lastNames_x103 namesOf_x103 homeBlock_x103 homePlace_x103) H → va_D A (wdNamedForm_nameBlock cA ad N stepCount kind target first second forkVariable orderSize reached parents meetingNames_x77 stepNames_x103 firstUses_x103 secondUses_x103 endUses lastNames_x103 namesOf_x103 homeBlock_x103 homePlace_x103) → va_S A s.heap H locs → K103 v3_x103 stepNames_x103 firstUses_x103 secondUses_x103 lastNames_x103 namesOf_x103 homeBlock_x103 homePlace_x103 → W p l e (headSpec (Cond.code yNamedForm_nameBlock cNamedForm_nameBlock 4 none :: xW) rmNamedForm_nameBlock).room s m ([.ref (ad 18), .int v1] : List Value).toArray below meth c H locs 0 0 Q (F0 m 103 ls [])) → ∀ (k : Nat), ∀ (v3_L79 : Int32) (stepNames_L79 : Nat → Int32) (firstUses_L79 : Nat → Int32) (secondUses_L79 : Nat → Int32) (lastNames_L79 : Nat → Int32) (namesOf_L79 : Nat → Int32) (homeBlock_L79 : Nat → Int32) (homePlace_L79 : Nat → Int32) (ls : Array Slot) (H : Heap) (locs : List Loc), lv_has ls 4 [(0, .ref (ad 18)), (1, .int v1), (2, .int r5), (3, .int v3_L79)] → va_P D vwCl (wdNamedForm_nameBlock cA ad N stepCount kind target first second forkVariable orderSize reached parents meetingNames_x77 stepNames_L79 firstUses_L79 secondUses_L79 endUses lastNames_L79 namesOf_L79 homeBlock_L79 homePlace_L79) H → va_D A (wdNamedForm_nameBlock cA ad N stepCount kind target first second forkVariable orderSize reached parents meetingNames_x77 stepNames_L79 firstUses_L79 secondUses_L79 endUses lastNames_L79 namesOf_L79 homeBlock_L79 homePlace_L79) → va_S A s.heap H locs → lpNamedForm_nameBlock_79 N v1 stepCount kind target first second K103 k v3_L79 stepNames_L79 firstUses_L79 secondUses_L79 lastNames_L79 namesOf_L79 homeBlock_L79 homePlace_L79 → W p l e (headSpec (Cond.code yNamedForm_nameBlock cNamedForm_nameBlock 4 none :: xW) rmNamedForm_nameBlock).room s m ([.ref (ad 18), .int v1] : List Value).toArray below meth c H locs 0 0 Q (F0 m 79 ls []) := by
    intro K103 hK103 k
    induction k with
    | zero => intro v3_L79 stepNames_L79 firstUses_L79 secondUses_L79 lastNames_L79 namesOf_L79 homeBlock_L79 homePlace_L79 ls H locs hl hP hD hS hw; exact False.elim hw
    | succ k ih =>
      intro v3_L79 stepNames_L79 firstUses_L79 secondUses_L79 lastNames_L79 namesOf_L79 homeBlock_L79 homePlace_L79 ls H locs hl hP hD hS hw
      refine lv_iload_n hx hb dNamedForm_nameBlock_79 rfl (lv_at hl 3 rfl) ?_
      refine lv_aload_n hx hb dNamedForm_nameBlock_80 rfl (lv_at hl 0 rfl) ?_
      refine va_get (D := D) (ci := 3) (v := .ref (ad 1)) (C := "OnceNamed$NamedForm") (T := TX3) (N := 14) hx hb hts (fun w h => List.mem_cons_of_mem _ (inX3 w h)) hown hK hP 9 rfl rfl 0 (by decide) (hts _ (List.mem_cons_of_mem _ kw_120)) (fun _ h9 => h9) rfl dNamedForm_nameBlock_81 ?_
      refine lv_iload_n hx hb dNamedForm_nameBlock_84 rfl (lv_at hl 1 rfl) ?_
      dsimp only [lpNamedForm_nameBlock_79] at hw
      refine xci (va_runV ⟨hx, hb, hml, hown, hts⟩ (ktProgram_stepsOf l D cA ad N _ stepCount v1 _ hw) (cwV 1 hts (goodV kw_354 kw_355 kw_356 kw_3 kw_357) rfl rfl rfl (by decide +kernel) ⟨Nat.le_of_ble_eq_true rfl, Nat.le_of_ble_eq_true rfl⟩) (xpreV hK hP hD hN [0, 1] rfl rfl 0 rfl rfl) rfl rfl hl.1 rfl (lv_room (Nat.le_of_ble_eq_true rfl)) dNamedForm_nameBlock_85 ⟨Nat.le_of_ble_eq_true rfl, Nat.le_of_ble_eq_true rfl⟩) hP hD hS hA [0, 1] [2, 3, 4, 5, 6, 7, 8, 9, 10, 11, 12, 13, 14, 15, 16, 17, 18] rfl rfl rfl rfl [17, 18, 0, 1, 2, 3, 4, 5, 6, 7, 8, 9, 10, 11, 12, 13, 14, 15, 16] rfl (fun _ => rfl) (fun r85 u H locs hw hP hD hS => ?_)
      have hP : va_P D vwCl (wdNamedForm_nameBlock cA ad N stepCount kind target first second forkVariable orderSize reached parents meetingNames_x77 stepNames_L79 firstUses_L79 secondUses_L79 endUses lastNames_L79 namesOf_L79 homeBlock_L79 homePlace_L79) H := hP
      have hD : va_D A (wdNamedForm_nameBlock cA ad N stepCount kind target first second forkVariable orderSize reached parents meetingNames_x77 stepNames_L79 firstUses_L79 secondUses_L79 endUses lastNames_L79 namesOf_L79 homeBlock_L79 homePlace_L79) := hD
      refine lv_icmp_ge (tgt := 103) hx hb dNamedForm_nameBlock_88 rfl (fun hc => ?_) (fun hc => ?_)
      · have hw := hw.1 hc
        exact hK103 v3_L79 stepNames_L79 firstUses_L79 secondUses_L79 lastNames_L79 namesOf_L79 homeBlock_L79 homePlace_L79 _ _ _ (lv_sub hl [0, 1, 2, 3] rfl) hP hD hS hw
      · have hw := hw.2 hc
        refine lv_aload_n hx hb dNamedForm_nameBlock_91 rfl (lv_at hl 0 rfl) ?_
        refine lv_iload_n hx hb dNamedForm_nameBlock_92 rfl (lv_at hl 1 rfl) ?_
        refine lv_iload_n hx hb dNamedForm_nameBlock_93 rfl (lv_at hl 3 rfl) ?_
        refine xcv (va_runV ⟨hx, hb, hml, hown, hts⟩ (ktNamedForm_nameStep l D cA ad N _ kind target first second stepNames_L79 firstUses_L79 secondUses_L79 lastNames_L79 namesOf_L79 homeBlock_L79 homePlace_L79 v1 v3_L79 _ hw) (cwV 2 hts (goodV kw_358 kw_360 ks_1_9 kw_6 kw_361) rfl rfl rfl (by decide +kernel) ⟨Nat.le_of_ble_eq_true rfl, Nat.le_of_ble_eq_true rfl⟩) (xpreV hK hP hD hN [0, 2, 3, 4, 5, 9, 11, 12, 13, 15, 16, 17, 18] rfl rfl 9 rfl rfl) rfl rfl hl.1 rfl (lv_room (Nat.le_of_ble_eq_true rfl)) dNamedForm_nameBlock_94 ⟨Nat.le_of_ble_eq_true rfl, Nat.le_of_ble_eq_true rfl⟩) hP hD hS hA [0, 2, 3, 4, 5, 9, 11, 12, 13, 15, 16, 17, 18] [1, 6, 7, 8, 10, 14] rfl rfl rfl rfl [6, 0, 7, 8, 9, 10, 1, 2, 3, 11, 4, 12, 13, 14, 5, 15, 16, 17, 18] rfl (fun _ => rfl) (fun u H locs hw hP hD hS => ?_)
        obtain ⟨stepNames_94, firstUses_94, secondUses_94, lastNames_94, namesOf_94, homeBlock_94, homePlace_94⟩ := u
        try dsimp only at hw
        have hP : va_P D vwCl (wdNamedForm_nameBlock cA ad N stepCount kind target first second forkVariable orderSize reached parents meetingNames_x77 stepNames_94 firstUses_94 secondUses_94 endUses lastNames_94 namesOf_94 homeBlock_94 homePlace_94) H := hP
        have hD : va_D A (wdNamedForm_nameBlock cA ad N stepCount kind target first second forkVariable orderSize reached parents meetingNames_x77 stepNames_94 firstUses_94 secondUses_94 endUses lastNames_94 namesOf_94 homeBlock_94 homePlace_94) := hD
        refine lv_iinc (k := 3) (v := (v3_L79 + 1)) (lv' := [(3, .int (v3_L79 + 1)), (0, .ref (ad 18)), (1, .int v1), (2, .int r5)]) hx hb dNamedForm_nameBlock_97 hl rfl rfl (by decide) rfl (fun ls hl => ?_)
        refine lv_goto (tgt := 79) hx hb dNamedForm_nameBlock_100 rfl ?_
        exact ih (v3_L79 + 1) stepNames_94 firstUses_94 secondUses_94 lastNames_94 namesOf_94 homeBlock_94 homePlace_94 _ _ _ (lv_sub hl [1, 2, 3, 0] rfl) hP hD hS hw
  refine hlp79 _ ?_ k79 0 stepNames firstUses secondUses lastNames_x77 namesOf_x77 homeBlock_x77 homePlace_x77 _ _ _ (lv_sub hl [1, 2, 3, 0] rfl) hP hD hS hw
  intro v3_x103 stepNames_x103 firstUses_x103 secondUses_x103 lastNames_x103 namesOf_x103 homeBlock_x103 homePlace_x103 ls H locs hl hP hD hS hw
  try dsimp only at hw
  refine lv_aload_n hx hb dNamedForm_nameBlock_103 rfl (lv_at hl 0 rfl) ?_
  refine va_get (D := D) (ci := 3) (v := .ref (ad 24)) (C := "OnceNamed$NamedForm") (T := TX3) (N := 14) hx hb hts (fun w h => List.mem_cons_of_mem _ (inX3 w h)) hown hK hP 9 rfl rfl 8 (by decide) (hts _ (List.mem_cons_of_mem _ kw_128)) (fun _ h9 => h9) rfl dNamedForm_nameBlock_104 ?_
  refine lv_iload_n hx hb dNamedForm_nameBlock_107 rfl (lv_at hl 1 rfl) ?_
  refine lv_aload_n hx hb dNamedForm_nameBlock_108 rfl (lv_at hl 0 rfl) ?_
  refine lv_iload_n hx hb dNamedForm_nameBlock_109 rfl (lv_at hl 1 rfl) ?_
  refine lv_aload_n hx hb dNamedForm_nameBlock_110 rfl (lv_at hl 0 rfl) ?_
  refine va_get (D := D) (ci := 3) (v := .ref (ad 1)) (C := "OnceNamed$NamedForm") (T := TX3) (N := 14) hx hb hts (fun w h => List.mem_cons_of_mem _ (inX3 w h)) hown hK hP 9 rfl rfl 0 (by decide) (hts _ (List.mem_cons_of_mem _ kw_120)) (fun _ h9 => h9) rfl dNamedForm_nameBlock_111 ?_
  refine lv_iload_n hx hb dNamedForm_nameBlock_114 rfl (lv_at hl 1 rfl) ?_
  refine xci (va_runV ⟨hx, hb, hml, hown, hts⟩ (ktProgram_variableOfFork l D cA ad N _ forkVariable v1 _ hw) (cwV 1 hts (goodV kw_381 kw_382 kw_383 kw_3 kw_384) rfl rfl rfl (by decide +kernel) ⟨Nat.le_of_ble_eq_true rfl, Nat.le_of_ble_eq_true rfl⟩) (xpreV hK hP hD hN [0, 6] rfl rfl 0 rfl rfl) rfl rfl hl.1 rfl (lv_room (Nat.le_of_ble_eq_true rfl)) dNamedForm_nameBlock_115 ⟨Nat.le_of_ble_eq_true rfl, Nat.le_of_ble_eq_true rfl⟩) hP hD hS hA [0, 6] [1, 2, 3, 4, 5, 7, 8, 9, 10, 11, 12, 13, 14, 15, 16, 17, 18] rfl rfl rfl rfl [17, 0, 1, 2, 3, 4, 18, 5, 6, 7, 8, 9, 10, 11, 12, 13, 14, 15, 16] rfl (fun _ => rfl) (fun r115 u H locs hw hP hD hS => ?_)
  have hP : va_P D vwCl (wdNamedForm_nameBlock cA ad N stepCount kind target first second forkVariable orderSize reached parents meetingNames_x77 stepNames_x103 firstUses_x103 secondUses_x103 endUses lastNames_x103 namesOf_x103 homeBlock_x103 homePlace_x103) H := hP
  have hD : va_D A (wdNamedForm_nameBlock cA ad N stepCount kind target first second forkVariable orderSize reached parents meetingNames_x77 stepNames_x103 firstUses_x103 secondUses_x103 endUses lastNames_x103 namesOf_x103 homeBlock_x103 homePlace_x103) := hD
  refine xci (va_runV ⟨hx, hb, hml, hown, hts⟩ (ktNamedForm_lastName l D cA ad N _ lastNames_x103 v1 r115 _ hw) (cwV 2 hts (goodV kw_369 kw_371 ks_1_10 kw_6 kw_372) rfl rfl rfl (by decide +kernel) ⟨Nat.le_of_ble_eq_true rfl, Nat.le_of_ble_eq_true rfl⟩) (xpreV hK hP hD hN [9, 15] rfl rfl 9 rfl rfl) rfl rfl hl.1 rfl (lv_room (Nat.le_of_ble_eq_true rfl)) dNamedForm_nameBlock_118 ⟨Nat.le_of_ble_eq_true rfl, Nat.le_of_ble_eq_true rfl⟩) hP hD hS hA [9, 15] [0, 1, 2, 3, 4, 5, 6, 7, 8, 10, 11, 12, 13, 14, 16, 17, 18] rfl rfl rfl rfl [0, 1, 2, 3, 4, 5, 6, 7, 8, 17, 9, 10, 11, 12, 13, 18, 14, 15, 16] rfl (fun _ => rfl) (fun r118 u H locs hw hP hD hS => ?_)
  have hP : va_P D vwCl (wdNamedForm_nameBlock cA ad N stepCount kind target first second forkVariable orderSize reached parents meetingNames_x77 stepNames_x103 firstUses_x103 secondUses_x103 endUses lastNames_x103 namesOf_x103 homeBlock_x103 homePlace_x103) H := hP
  have hD : va_D A (wdNamedForm_nameBlock cA ad N stepCount kind target first second forkVariable orderSize reached parents meetingNames_x77 stepNames_x103 firstUses_x103 secondUses_x103 endUses lastNames_x103 namesOf_x103 homeBlock_x103 homePlace_x103) := hD
  have ho := hw.1
  have hw := hw.2
  refine va_iast hx hb hK hP hD hS 14 0 rfl rfl ho dNamedForm_nameBlock_121 (fun H locs hP hD hS => ?_)
  have hP : va_P D vwCl (wdNamedForm_nameBlock cA ad N stepCount kind target first second forkVariable orderSize reached parents meetingNames_x77 stepNames_x103 firstUses_x103 secondUses_x103 (upd endUses (Int32.toNatClampNeg v1) r118) lastNames_x103 namesOf_x103 homeBlock_x103 homePlace_x103) H := hP
  have hD : va_D A (wdNamedForm_nameBlock cA ad N stepCount kind target first second forkVariable orderSize reached parents meetingNames_x77 stepNames_x103 firstUses_x103 secondUses_x103 (upd endUses (Int32.toNatClampNeg v1) r118) lastNames_x103 namesOf_x103 homeBlock_x103 homePlace_x103) := hD
  exact hend meetingNames_x77 stepNames_x103 firstUses_x103 secondUses_x103 (upd endUses (Int32.toNatClampNeg v1) r118) lastNames_x103 namesOf_x103 homeBlock_x103 homePlace_x103 _ _ _ _ dNamedForm_nameBlock_122 hP hD hS hw
abbrev wdNamedForm_assemble (cA : ClassId) (ad : Nat → Nat) (N : Nat) (stepCount : Nat → Int32) (kind : Nat → Int32) (target : Nat → Int32) (first : Nat → Int32) (second : Nat → Int32) (forkVariable : Nat → Int32) (orderSize : Int32) (reached : Int32) (forerunners : Nat → Int32) (frontiers : Nat → Int32) (parents : Nat → Int32) (order : Nat → Int32) (meetingNames : Nat → Int32) (meetingUses : Nat → Int32) (stepNames : Nat → Int32) (firstUses : Nat → Int32) (secondUses : Nat → Int32) (endUses : Nat → Int32) (lastNames : Nat → Int32) (namesOf : Nat → Int32) (homeBlock : Nat → Int32) (homePlace : Nat → Int32) : va_W := [((ad 1), .inr (1, [.int (nI N), .ref (ad 2), .ref (ad 3), .ref (ad 4), .ref (ad 5), .ref (ad 6), .ref (ad 7), .ref (ad 8), .ref (ad 9), .ref (ad 10)])), ((ad 2), .inl (cA, N, .inl stepCount)), ((ad 3), .inl (cA, N * 6, .inl kind)), ((ad 4), .inl (cA, N * 6, .inl target)), ((ad 5), .inl (cA, N * 6, .inl first)), ((ad 6), .inl (cA, N * 6, .inl second)), ((ad 7), .inl (cA, N, .inl forkVariable)), ((ad 11), .inr (2, [.int (nI N), .ref (ad 12), .ref (ad 13), .ref (ad 14), .ref (ad 15), .ref (ad 16), .ref (ad 17), .int orderSize, .int reached])), ((ad 12), .inl (cA, N, .inl forerunners)), ((ad 14), .inl (cA, N, .inl frontiers)), ((ad 15), .inl (cA, N, .inl parents)), ((ad 16), .inl (cA, N, .inl order)), ((ad 18), .inr (3, [.ref (ad 1), .ref (ad 11), .int (nI N), .ref (ad 19), .ref (ad 20), .ref (ad 21), .ref (ad 22), .ref (ad 23), .ref (ad 24), .ref (ad 25), .ref (ad 26), .ref (ad 27), .ref (ad 28), .ref (ad 29)])), ((ad 19), .inl (cA, N * 6, .inl meetingNames)), ((ad 20), .inl (cA, N * 6 * (N + 1), .inl meetingUses)), ((ad 21), .inl (cA, N * 6, .inl stepNames)), ((ad 22), .inl (cA, N * 6, .inl firstUses)), ((ad 23), .inl (cA, N * 6, .inl secondUses)), ((ad 24), .inl (cA, N, .inl endUses)), ((ad 25), .inl (cA, (N + 1) * 6, .inl lastNames)), ((ad 26), .inl (cA, 6, .inl namesOf)), ((ad 27), .inl (cA, 600, .inl homeBlock)), ((ad 28), .inl (cA, 600, .inl homePlace))]
abbrev qcNamedForm_assemble (D : va_G) (cA : ClassId) (ad : Nat → Nat) (N : Nat) (stepCount : Nat → Int32) (kind : Nat → Int32) (target : Nat → Int32) (first : Nat → Int32) (second : Nat → Int32) (forkVariable : Nat → Int32) (orderSize : Int32) (reached : Int32) (forerunners : Nat → Int32) (frontiers : Nat → Int32) (parents : Nat → Int32) (order : Nat → Int32) (meetingNames : Nat → Int32) (meetingUses : Nat → Int32) (stepNames : Nat → Int32) (firstUses : Nat → Int32) (secondUses : Nat → Int32) (endUses : Nat → Int32) (lastNames : Nat → Int32) (namesOf : Nat → Int32) (homeBlock : Nat → Int32) (homePlace : Nat → Int32) (post : Int32 → (Nat → Int32) → (Nat → Int32) → (Nat → Int32) → (Nat → Int32) → (Nat → Int32) → (Nat → Int32) → (Nat → Int32) → (Nat → Int32) → (Nat → Int32) → (Nat → Int32) → Prop) (A : Nat → Prop) : Array Value → State → Outcome → State → Prop := va_Qi (S := (Nat → Int32) × (Nat → Int32) × (Nat → Int32) × (Nat → Int32) × (Nat → Int32) × (Nat → Int32) × (Nat → Int32) × (Nat → Int32) × (Nat → Int32) × (Nat → Int32)) (fun r u => post r u.1 u.2.1 u.2.2.1 u.2.2.2.1 u.2.2.2.2.1 u.2.2.2.2.2.1 u.2.2.2.2.2.2.1 u.2.2.2.2.2.2.2.1 u.2.2.2.2.2.2.2.2.1 u.2.2.2.2.2.2.2.2.2) (fun u t => xB D cA A (wdNamedForm_assemble cA ad N stepCount kind target first second forkVariable orderSize reached forerunners frontiers parents order u.1 u.2.1 u.2.2.1 u.2.2.2.1 u.2.2.2.2.1 u.2.2.2.2.2.1 u.2.2.2.2.2.2.1 u.2.2.2.2.2.2.2.1 u.2.2.2.2.2.2.2.2.1 u.2.2.2.2.2.2.2.2.2) t) A
abbrev rmNamedForm_assemble : Room := { frames := 5, cells := 0, slots := 0, locals := 111 }
set_option maxHeartbeats 4000000 in
set_option maxRecDepth 100000 in
theorem ktNamedForm_assemble (l : Launch) (D : va_G) (cA : ClassId) (ad : Nat → Nat) (N : Nat) (sz : Nat) (stepCount : Nat → Int32) (kind : Nat → Int32) (target : Nat → Int32) (first : Nat → Int32) (second : Nat → Int32) (forkVariable : Nat → Int32) (orderSize : Int32) (reached : Int32) (forerunners : Nat → Int32) (frontiers : Nat → Int32) (parents : Nat → Int32) (order : Nat → Int32) (meetingNames : Nat → Int32) (meetingUses : Nat → Int32) (stepNames : Nat → Int32) (firstUses : Nat → Int32) (secondUses : Nat → Int32) (endUses : Nat → Int32) (lastNames : Nat → Int32) (namesOf : Nat → Int32) (homeBlock : Nat → Int32) (homePlace : Nat → Int32)  (post : Int32 → (Nat → Int32) → (Nat → Int32) → (Nat → Int32) → (Nat → Int32) → (Nat → Int32) → (Nat → Int32) → (Nat → Int32) → (Nat → Int32) → (Nat → Int32) → (Nat → Int32) → Prop) (hw : wpNamedForm_assemble N stepCount kind target first second forkVariable orderSize forerunners frontiers parents order meetingNames meetingUses stepNames firstUses secondUses endUses lastNames namesOf homeBlock homePlace post) : Met l yNamedForm_assemble (Cond.code yNamedForm_assemble cNamedForm_assemble 3 (some .int) :: xW) rmNamedForm_assemble (va_Pc [.ref (ad 18)] (xPc D cA (wdNamedForm_assemble cA ad N stepCount kind target first second forkVariable orderSize reached forerunners frontiers parents order meetingNames meetingUses stepNames firstUses secondUses endUses lastNames namesOf homeBlock homePlace) sz)) (qcNamedForm_assemble D cA ad N stepCount kind target first second forkVariable orderSize reached forerunners frontiers parents order meetingNames meetingUses stepNames firstUses secondUses endUses lastNames namesOf homeBlock homePlace post (va_A (wdNamedForm_assemble cA ad N stepCount kind target first second forkVariable orderSize reached forerunners frontiers parents order meetingNames meetingUses stepNames firstUses secondUses endUses lastNames namesOf homeBlock homePlace) sz)) 0 0 (va_A (wdNamedForm_assemble cA ad N stepCount kind target first second forkVariable orderSize reached forerunners frontiers parents order meetingNames meetingUses stepNames firstUses secondUses endUses lastNames namesOf homeBlock homePlace) sz) := by
  refine Met.ofW (cc := cNamedForm_assemble) (maxL := 3) (ret := (some .int)) (by decide) rfl ?_
  intro p e s m args below meth c s₁ B hml hv
  obtain ⟨rfl, hsz, hP, hK, hD0, hN⟩ := hv
  have hx := B.exec
  have hb := B.bytes
  have hr := B.returns
  have hts := atoms_spec (ws := (Cond.code yNamedForm_assemble cNamedForm_assemble 3 (some .int) :: xW)) B.pre
  have hown : s.vm.findClass "OnceNamed$NamedForm" = some m.cls := findClass_of_methodNamed B.named
  have hlocks := B.notSynchronized
  subst hsz
  have hD := hD0.self (sz := s.heap.size)
  generalize hAe : va_A (wdNamedForm_assemble cA ad N stepCount kind target first second forkVariable orderSize reached forerunners frontiers parents order meetingNames meetingUses stepNames firstUses secondUses endUses lastNames namesOf homeBlock homePlace) s.heap.size = A at hD ⊢
  have hA : ∀ q : Nat, s.heap.size ≤ q → A q := fun q h => by rw [← hAe]; exact Or.inr h
  have hS : va_S A s.heap s.heap [] := va_S.rf
  have hend : ∀ (r : Int32) (u0 : Nat → Int32) (u1 : Nat → Int32) (u2 : Nat → Int32) (u3 : Nat → Int32) (u4 : Nat → Int32) (u5 : Nat → Int32) (u6 : Nat → Int32) (u7 : Nat → Int32) (u8 : Nat → Int32) (u9 : Nat → Int32) (H : Heap) (locs : List Loc) (pc : Nat) (ls : Array Slot), decode cNamedForm_assemble pc = .ok (.ireturn, 1) → va_P D vwCl (wdNamedForm_assemble cA ad N stepCount kind target first second forkVariable orderSize reached forerunners frontiers parents order u0 u1 u2 u3 u4 u5 u6 u7 u8 u9) H → va_D A (wdNamedForm_assemble cA ad N stepCount kind target first second forkVariable orderSize reached forerunners frontiers parents order u0 u1 u2 u3 u4 u5 u6 u7 u8 u9) → va_S A s.heap H locs → post r u0 u1 u2 u3 u4 u5 u6 u7 u8 u9 → W p l e (headSpec (Cond.code yNamedForm_assemble cNamedForm_assemble 3 (some .int) :: xW) rmNamedForm_assemble).room s m ([.ref (ad 18)] : List Value).toArray below meth c H locs 0 0 (MQ below (qcNamedForm_assemble D cA ad N stepCount kind target first second forkVariable orderSize reached forerunners frontiers parents order meetingNames meetingUses stepNames firstUses secondUses endUses lastNames namesOf homeBlock homePlace post A) ([.ref (ad 18)] : List Value).toArray s 0 0 A) (F0 m pc ls [.int r]) := fun r u0 u1 u2 u3 u4 u5 u6 u7 u8 u9 H locs pc ls hd hP hD hS hw => W.iret (v := r) hx hb hr (fun t ht hW => ⟨⟨r, (u0, u1, u2, u3, u4, u5, u6, u7, u8, u9), rfl, hw, ⟨by rw [ht]; exact hP, va_K.moved hW.alike hK, hD⟩⟩, hS.F ht⟩) hS.2.2 hd
  generalize hQ : MQ below (qcNamedForm_assemble D cA ad N stepCount kind target first second forkVariable orderSize reached forerunners frontiers parents order meetingNames meetingUses stepNames firstUses secondUses endUses lastNames namesOf homeBlock homePlace post A) ([.ref (ad 18)] : List Value).toArray s 0 0 A = Q at hend ⊢
  have hl := lv_entry ([.ref (ad 18)]) (n := 3) (Nat.le_of_ble_eq_true rfl)
  rw [lg_entry_eq]
  generalize (lg_sl ([.ref (ad 18)]) ++ List.replicate (3 - (lg_sl ([.ref (ad 18)])).length) Slot.unset).toArray = ls at hl ⊢
  have hl : lv_has ls 3 [(0, .ref (ad 18))] := hl
  unfold wpNamedForm_assemble at hw
  refine lv_aload_n hx hb dNamedForm_assemble_0 rfl (lv_at hl 0 rfl) ?_
  refine xcv (va_runV ⟨hx, hb, hml, hown, hts⟩ (ktNamedForm_forgetAll l D cA ad N _ stepCount kind target orderSize reached frontiers order meetingNames meetingUses stepNames firstUses secondUses endUses namesOf homeBlock _ hw) (cwV 0 hts (goodV kw_306 kw_308 ks_1_5 kw_6 kw_309) rfl rfl rfl (by decide +kernel) ⟨Nat.le_of_ble_eq_true rfl, Nat.le_of_ble_eq_true rfl⟩) (xpreV hK hP hD hN [0, 1, 2, 3, 7, 9, 11, 12, 13, 14, 15, 16, 17, 18, 20, 21] rfl rfl 12 rfl rfl) rfl rfl hl.1 rfl (lv_room (Nat.le_of_ble_eq_true rfl)) dNamedForm_assemble_1 ⟨Nat.le_of_ble_eq_true rfl, Nat.le_of_ble_eq_true rfl⟩) hP hD hS hA [0, 1, 2, 3, 7, 9, 11, 12, 13, 14, 15, 16, 17, 18, 20, 21] [4, 5, 6, 8, 10, 19, 22] rfl rfl rfl rfl [7, 8, 9, 10, 0, 1, 2, 11, 3, 12, 4, 13, 14, 15, 16, 17, 18, 19, 20, 5, 21, 22, 6] rfl (fun _ => rfl) (fun u H locs hw hP hD hS => ?_)
  obtain ⟨meetingNames_1, meetingUses_1, stepNames_1, firstUses_1, secondUses_1, endUses_1, namesOf_1, homeBlock_1⟩ := u
  try dsimp only at hw
  have hP : va_P D vwCl (wdNamedForm_assemble cA ad N stepCount kind target first second forkVariable orderSize reached forerunners frontiers parents order meetingNames_1 meetingUses_1 stepNames_1 firstUses_1 secondUses_1 endUses_1 lastNames namesOf_1 homeBlock_1 homePlace) H := hP
  have hD : va_D A (wdNamedForm_assemble cA ad N stepCount kind target first second forkVariable orderSize reached forerunners frontiers parents order meetingNames_1 meetingUses_1 stepNames_1 firstUses_1 secondUses_1 endUses_1 lastNames namesOf_1 homeBlock_1 homePlace) := hD
  refine lv_iconst (v := 0) hx hb dNamedForm_assemble_4 (by decide) ?_
  refine lv_istore_n (lv' := [(1, .int 0), (0, .ref (ad 18))]) hx hb dNamedForm_assemble_5 rfl hl (by decide) rfl (fun ls hl => ?_)
  obtain ⟨k6, hw⟩ := hw
  have hlp6 : ∀ (K29 : Int32 → (Nat → Int32) → (Nat → Int32) → (Nat → Int32) → (Nat → Int32) → Prop), (∀ (v1_x29 : Int32) (lastNames_x29 : Nat → Int32) (namesOf_x29 : Nat → Int32) (homeBlock_x29 : Nat → Int32) (homePlace_x29 : Nat → Int32) (ls : Array Slot) (H : Heap) (locs : List Loc), lv_has ls 3 [(0, .ref (ad 18)), (1, .int v1_x29)] → va_P D vwCl (wdNamedForm_assemble cA ad N stepCount kind target first second forkVariable orderSize reached forerunners frontiers parents order meetingNames_1 meetingUses_1 stepNames_1 firstUses_1 secondUses_1 endUses_1 lastNames_x29 namesOf_x29 homeBlock_x29 homePlace_x29) H → va_D A (wdNamedForm_assemble cA ad N stepCount kind target first second forkVariable orderSize reached forerunners frontiers parents order meetingNames_1 meetingUses_1 stepNames_1 firstUses_1 secondUses_1 endUses_1 lastNames_x29 namesOf_x29 homeBlock_x29 homePlace_x29) → va_S A s.heap H locs → K29 v1_x29 lastNames_x29 namesOf_x29 homeBlock_x29 homePlace_x29 → W p l e (headSpec (Cond.code yNamedForm_assemble cNamedForm_assemble 3 (some .int) :: xW) rmNamedForm_assemble).room s m ([.ref (ad 18)] : List Value).toArray below meth c H locs 0 0 Q (F0 m 29 ls [])) → ∀ (k : Nat), ∀ (v1_L6 : Int32) (lastNames_L6 : Nat → Int32) (namesOf_L6 : Nat → Int32) (homeBlock_L6 : Nat → Int32) (homePlace_L6 : Nat → Int32) (ls : Array Slot) (H : Heap) (locs : List Loc), lv_has ls 3 [(0, .ref (ad 18)), (1, .int v1_L6)] → va_P D vwCl (wdNamedForm_assemble cA ad N stepCount kind target first second forkVariable orderSize reached forerunners frontiers parents order meetingNames_1 meetingUses_1 stepNames_1 firstUses_1 secondUses_1 endUses_1 lastNames_L6 namesOf_L6 homeBlock_L6 homePlace_L6) H → va_D A (wdNamedForm_assemble cA ad N stepCount kind target first second forkVariable orderSize reached forerunners frontiers parents order meetingNames_1 meetingUses_1 stepNames_1 firstUses_1 secondUses_1 endUses_1 lastNames_L6 namesOf_L6 homeBlock_L6 homePlace_L6) → va_S A s.heap H locs → lpNamedForm_assemble_6 N K29 k v1_L6 lastNames_L6 namesOf_L6 homeBlock_L6 homePlace_L6 → W p l e (headSpec (Cond.code yNamedForm_assemble cNamedForm_assemble 3 (some .int) :: xW) rmNamedForm_assemble).room s m ([.ref (ad 18)] : List Value).toArray below meth c H locs 0 0 Q (F0 m 6 ls []) := by
    intro K29 hK29 k
    induction k with
    | zero => intro v1_L6 lastNames_L6 namesOf_L6 homeBlock_L6 homePlace_L6 ls H locs hl hP hD hS hw; exact False.elim hw
    | succ k ih =>
      intro v1_L6 lastNames_L6 namesOf_L6 homeBlock_L6 homePlace_L6 ls H locs hl hP hD hS hw
      refine lv_iload_n hx hb dNamedForm_assemble_6 rfl (lv_at hl 1 rfl) ?_
      refine lv_bipush (v := 6) hx hb dNamedForm_assemble_7 (by decide) ?_
      refine lv_icmp_ge (tgt := 29) hx hb dNamedForm_assemble_9 rfl (fun hc => ?_) (fun hc => ?_)
      · have hw := hw.1 hc
        exact hK29 v1_L6 lastNames_L6 namesOf_L6 homeBlock_L6 homePlace_L6 _ _ _ (lv_sub hl [0, 1] rfl) hP hD hS hw
      · have hw := hw.2 hc
        refine lv_aload_n hx hb dNamedForm_assemble_12 rfl (lv_at hl 0 rfl) ?_
        refine lv_iload_n hx hb dNamedForm_assemble_13 rfl (lv_at hl 1 rfl) ?_
        refine lv_aload_n hx hb dNamedForm_assemble_14 rfl (lv_at hl 0 rfl) ?_
        refine va_get (D := D) (ci := 3) (v := .int (nI N)) (C := "OnceNamed$NamedForm") (T := TX3) (N := 14) hx hb hts (fun w h => List.mem_cons_of_mem _ (inX3 w h)) hown hK hP 12 rfl rfl 2 (by decide) (hts _ (List.mem_cons_of_mem _ kw_122)) (fun _ h9 => h9) rfl dNamedForm_assemble_15 ?_
        refine lv_iconst (v := (-1)) hx hb dNamedForm_assemble_18 (by decide) ?_
        refine xci (va_runV ⟨hx, hb, hml, hown, hts⟩ (ktNamedForm_newName l D cA ad N _ lastNames_L6 namesOf_L6 homeBlock_L6 homePlace_L6 v1_L6 (nI N) (-1) _ hw) (cwV 3 hts (goodV kw_339 kw_341 ks_1_7 kw_6 kw_342) rfl rfl rfl (by decide +kernel) ⟨Nat.le_of_ble_eq_true rfl, Nat.le_of_ble_eq_true rfl⟩) (xpreV hK hP hD hN [12, 19, 20, 21, 22] rfl rfl 12 rfl rfl) rfl rfl hl.1 rfl (lv_room (Nat.le_of_ble_eq_true rfl)) dNamedForm_assemble_19 ⟨Nat.le_of_ble_eq_true rfl, Nat.le_of_ble_eq_true rfl⟩) hP hD hS hA [12, 19, 20, 21, 22] [0, 1, 2, 3, 4, 5, 6, 7, 8, 9, 10, 11, 13, 14, 15, 16, 17, 18] rfl rfl rfl rfl [0, 1, 2, 3, 4, 5, 6, 7, 8, 9, 10, 11, 18, 12, 13, 14, 15, 16, 17, 19, 20, 21, 22] rfl (fun _ => rfl) (fun r19 u H locs hw hP hD hS => ?_)
        obtain ⟨lastNames_19, namesOf_19, homeBlock_19, homePlace_19⟩ := u
        try dsimp only at hw
        have hP : va_P D vwCl (wdNamedForm_assemble cA ad N stepCount kind target first second forkVariable orderSize reached forerunners frontiers parents order meetingNames_1 meetingUses_1 stepNames_1 firstUses_1 secondUses_1 endUses_1 lastNames_19 namesOf_19 homeBlock_19 homePlace_19) H := hP
        have hD : va_D A (wdNamedForm_assemble cA ad N stepCount kind target first second forkVariable orderSize reached forerunners frontiers parents order meetingNames_1 meetingUses_1 stepNames_1 firstUses_1 secondUses_1 endUses_1 lastNames_19 namesOf_19 homeBlock_19 homePlace_19) := hD
        refine lv_pop hx hb dNamedForm_assemble_22 rfl ?_
        refine lv_iinc (k := 1) (v := (v1_L6 + 1)) (lv' := [(1, .int (v1_L6 + 1)), (0, .ref (ad 18))]) hx hb dNamedForm_assemble_23 hl rfl rfl (by decide) rfl (fun ls hl => ?_)
        refine lv_goto (tgt := 6) hx hb dNamedForm_assemble_26 rfl ?_
        exact ih (v1_L6 + 1) lastNames_19 namesOf_19 homeBlock_19 homePlace_19 _ _ _ (lv_sub hl [1, 0] rfl) hP hD hS hw
  refine hlp6 _ ?_ k6 0 lastNames namesOf_1 homeBlock_1 homePlace _ _ _ (lv_sub hl [1, 0] rfl) hP hD hS hw
  intro v1_x29 lastNames_x29 namesOf_x29 homeBlock_x29 homePlace_x29 ls H locs hl hP hD hS hw
  try dsimp only at hw
  refine lv_iconst (v := 0) hx hb dNamedForm_assemble_29 (by decide) ?_
  refine lv_istore_n (lv' := [(1, .int 0), (0, .ref (ad 18))]) hx hb dNamedForm_assemble_30 rfl hl (by decide) rfl (fun ls hl => ?_)
  obtain ⟨k31, hw⟩ := hw
  have hlp31 : ∀ (K60 : Int32 → (Nat → Int32) → (Nat → Int32) → (Nat → Int32) → (Nat → Int32) → (Nat → Int32) → (Nat → Int32) → (Nat → Int32) → (Nat → Int32) → (Nat → Int32) → Prop), (∀ (v1_x60 : Int32) (meetingNames_x60 : Nat → Int32) (stepNames_x60 : Nat → Int32) (firstUses_x60 : Nat → Int32) (secondUses_x60 : Nat → Int32) (endUses_x60 : Nat → Int32) (lastNames_x60 : Nat → Int32) (namesOf_x60 : Nat → Int32) (homeBlock_x60 : Nat → Int32) (homePlace_x60 : Nat → Int32) (ls : Array Slot) (H : Heap) (locs : List Loc), lv_has ls 3 [(0, .ref (ad 18)), (1, .int v1_x60)] → va_P D vwCl (wdNamedForm_assemble cA ad N stepCount kind target first second forkVariable orderSize reached forerunners frontiers parents order meetingNames_x60 meetingUses_1 stepNames_x60 firstUses_x60 secondUses_x60 endUses_x60 lastNames_x60 namesOf_x60 homeBlock_x60 homePlace_x60) H → va_D A (wdNamedForm_assemble cA ad N stepCount kind target first second forkVariable orderSize reached forerunners frontiers parents order meetingNames_x60 meetingUses_1 stepNames_x60 firstUses_x60 secondUses_x60 endUses_x60 lastNames_x60 namesOf_x60 homeBlock_x60 homePlace_x60) → va_S A s.heap H locs → K60 v1_x60 meetingNames_x60 stepNames_x60 firstUses_x60 secondUses_x60 endUses_x60 lastNames_x60 namesOf_x60 homeBlock_x60 homePlace_x60 → W p l e (headSpec (Cond.code yNamedForm_assemble cNamedForm_assemble 3 (some .int) :: xW) rmNamedForm_assemble).room s m ([.ref (ad 18)] : List Value).toArray below meth c H locs 0 0 Q (F0 m 60 ls [])) → ∀ (k : Nat), ∀ (v1_L31 : Int32) (meetingNames_L31 : Nat → Int32) (stepNames_L31 : Nat → Int32) (firstUses_L31 : Nat → Int32) (secondUses_L31 : Nat → Int32) (endUses_L31 : Nat → Int32) (lastNames_L31 : Nat → Int32) (namesOf_L31 : Nat → Int32) (homeBlock_L31 : Nat → Int32) (homePlace_L31 : Nat → Int32) (ls : Array Slot) (H : Heap) (locs : List Loc), lv_has ls 3 [(0, .ref (ad 18)), (1, .int v1_L31)] → va_P D vwCl (wdNamedForm_assemble cA ad N stepCount kind target first second forkVariable orderSize reached forerunners frontiers parents order meetingNames_L31 meetingUses_1 stepNames_L31 firstUses_L31 secondUses_L31 endUses_L31 lastNames_L31 namesOf_L31 homeBlock_L31 homePlace_L31) H → va_D A (wdNamedForm_assemble cA ad N stepCount kind target first second forkVariable orderSize reached forerunners frontiers parents order meetingNames_L31 meetingUses_1 stepNames_L31 firstUses_L31 secondUses_L31 endUses_L31 lastNames_L31 namesOf_L31 homeBlock_L31 homePlace_L31) → va_S A s.heap H locs → lpNamedForm_assemble_31 N stepCount kind target first second forkVariable orderSize parents order K60 k v1_L31 meetingNames_L31 stepNames_L31 firstUses_L31 secondUses_L31 endUses_L31 lastNames_L31 namesOf_L31 homeBlock_L31 homePlace_L31 → W p l e (headSpec (Cond.code yNamedForm_assemble cNamedForm_assemble 3 (some .int) :: xW) rmNamedForm_assemble).room s m ([.ref (ad 18)] : List Value).toArray below meth c H locs 0 0 Q (F0 m 31 ls []) := by
    intro K60 hK60 k
    induction k with
    | zero => intro v1_L31 meetingNames_L31 stepNames_L31 firstUses_L31 secondUses_L31 endUses_L31 lastNames_L31 namesOf_L31 homeBlock_L31 homePlace_L31 ls H locs hl hP hD hS hw; exact False.elim hw
    | succ k ih =>
      intro v1_L31 meetingNames_L31 stepNames_L31 firstUses_L31 secondUses_L31 endUses_L31 lastNames_L31 namesOf_L31 homeBlock_L31 homePlace_L31 ls H locs hl hP hD hS hw
      refine lv_iload_n hx hb dNamedForm_assemble_31 rfl (lv_at hl 1 rfl) ?_
      refine lv_aload_n hx hb dNamedForm_assemble_32 rfl (lv_at hl 0 rfl) ?_
      refine va_get (D := D) (ci := 3) (v := .ref (ad 11)) (C := "OnceNamed$NamedForm") (T := TX3) (N := 14) hx hb hts (fun w h => List.mem_cons_of_mem _ (inX3 w h)) hown hK hP 12 rfl rfl 1 (by decide) (hts _ (List.mem_cons_of_mem _ kw_121)) (fun _ h9 => h9) rfl dNamedForm_assemble_33 ?_
      dsimp only [lpNamedForm_assemble_31] at hw
      refine xci (va_runV ⟨hx, hb, hml, hown, hts⟩ (ktGraph_reachedCount l D cA ad N _ orderSize reached _ hw) (cwV 0 hts (goodV kw_315 kw_316 kw_317 kw_5 kw_318) rfl rfl rfl (by decide +kernel) ⟨Nat.le_of_ble_eq_true rfl, Nat.le_of_ble_eq_true rfl⟩) (xpreV hK hP hD hN [7] rfl rfl 7 rfl rfl) rfl rfl hl.1 rfl (lv_room (Nat.le_of_ble_eq_true rfl)) dNamedForm_assemble_36 ⟨Nat.le_of_ble_eq_true rfl, Nat.le_of_ble_eq_true rfl⟩) hP hD hS hA [7] [0, 1, 2, 3, 4, 5, 6, 8, 9, 10, 11, 12, 13, 14, 15, 16, 17, 18, 19, 20, 21, 22] rfl rfl rfl rfl [0, 1, 2, 3, 4, 5, 6, 22, 7, 8, 9, 10, 11, 12, 13, 14, 15, 16, 17, 18, 19, 20, 21] rfl (fun _ => rfl) (fun r36 u H locs hw hP hD hS => ?_)
      have hP : va_P D vwCl (wdNamedForm_assemble cA ad N stepCount kind target first second forkVariable orderSize reached forerunners frontiers parents order meetingNames_L31 meetingUses_1 stepNames_L31 firstUses_L31 secondUses_L31 endUses_L31 lastNames_L31 namesOf_L31 homeBlock_L31 homePlace_L31) H := hP
      have hD : va_D A (wdNamedForm_assemble cA ad N stepCount kind target first second forkVariable orderSize reached forerunners frontiers parents order meetingNames_L31 meetingUses_1 stepNames_L31 firstUses_L31 secondUses_L31 endUses_L31 lastNames_L31 namesOf_L31 homeBlock_L31 homePlace_L31) := hD
      refine lv_icmp_ge (tgt := 60) hx hb dNamedForm_assemble_39 rfl (fun hc => ?_) (fun hc => ?_)
      · have hw := hw.1 hc
        exact hK60 v1_L31 meetingNames_L31 stepNames_L31 firstUses_L31 secondUses_L31 endUses_L31 lastNames_L31 namesOf_L31 homeBlock_L31 homePlace_L31 _ _ _ (lv_sub hl [0, 1] rfl) hP hD hS hw
      · have hw := hw.2 hc
        refine lv_aload_n hx hb dNamedForm_assemble_42 rfl (lv_at hl 0 rfl) ?_
        refine lv_aload_n hx hb dNamedForm_assemble_43 rfl (lv_at hl 0 rfl) ?_
        refine va_get (D := D) (ci := 3) (v := .ref (ad 11)) (C := "OnceNamed$NamedForm") (T := TX3) (N := 14) hx hb hts (fun w h => List.mem_cons_of_mem _ (inX3 w h)) hown hK hP 12 rfl rfl 1 (by decide) (hts _ (List.mem_cons_of_mem _ kw_121)) (fun _ h9 => h9) rfl dNamedForm_assemble_44 ?_
        refine lv_iload_n hx hb dNamedForm_assemble_47 rfl (lv_at hl 1 rfl) ?_
        refine xci (va_runV ⟨hx, hb, hml, hown, hts⟩ (ktGraph_inOrder l D cA ad N _ orderSize reached order v1_L31 _ hw) (cwV 1 hts (goodV kw_319 kw_320 kw_321 kw_5 kw_322) rfl rfl rfl (by decide +kernel) ⟨Nat.le_of_ble_eq_true rfl, Nat.le_of_ble_eq_true rfl⟩) (xpreV hK hP hD hN [7, 11] rfl rfl 7 rfl rfl) rfl rfl hl.1 rfl (lv_room (Nat.le_of_ble_eq_true rfl)) dNamedForm_assemble_48 ⟨Nat.le_of_ble_eq_true rfl, Nat.le_of_ble_eq_true rfl⟩) hP hD hS hA [7, 11] [0, 1, 2, 3, 4, 5, 6, 8, 9, 10, 12, 13, 14, 15, 16, 17, 18, 19, 20, 21, 22] rfl rfl rfl rfl [0, 1, 2, 3, 4, 5, 6, 21, 7, 8, 9, 22, 10, 11, 12, 13, 14, 15, 16, 17, 18, 19, 20] rfl (fun _ => rfl) (fun r48 u H locs hw hP hD hS => ?_)
        have hP : va_P D vwCl (wdNamedForm_assemble cA ad N stepCount kind target first second forkVariable orderSize reached forerunners frontiers parents order meetingNames_L31 meetingUses_1 stepNames_L31 firstUses_L31 secondUses_L31 endUses_L31 lastNames_L31 namesOf_L31 homeBlock_L31 homePlace_L31) H := hP
        have hD : va_D A (wdNamedForm_assemble cA ad N stepCount kind target first second forkVariable orderSize reached forerunners frontiers parents order meetingNames_L31 meetingUses_1 stepNames_L31 firstUses_L31 secondUses_L31 endUses_L31 lastNames_L31 namesOf_L31 homeBlock_L31 homePlace_L31) := hD
        refine xcv (va_runV ⟨hx, hb, hml, hown, hts⟩ (ktNamedForm_nameBlock l D cA ad N _ stepCount kind target first second forkVariable orderSize reached parents meetingNames_L31 stepNames_L31 firstUses_L31 secondUses_L31 endUses_L31 lastNames_L31 namesOf_L31 homeBlock_L31 homePlace_L31 r48 _ hw) (cwV 1 hts (goodV kw_343 kw_345 ks_1_8 kw_6 kw_346) rfl rfl rfl (by decide +kernel) ⟨Nat.le_of_ble_eq_true rfl, Nat.le_of_ble_eq_true rfl⟩) (xpreV hK hP hD hN [0, 1, 2, 3, 4, 5, 6, 7, 10, 12, 13, 15, 16, 17, 18, 19, 20, 21, 22] rfl rfl 12 rfl rfl) rfl rfl hl.1 rfl (lv_room (Nat.le_of_ble_eq_true rfl)) dNamedForm_assemble_51 ⟨Nat.le_of_ble_eq_true rfl, Nat.le_of_ble_eq_true rfl⟩) hP hD hS hA [0, 1, 2, 3, 4, 5, 6, 7, 10, 12, 13, 15, 16, 17, 18, 19, 20, 21, 22] [8, 9, 11, 14] rfl rfl rfl rfl [4, 5, 6, 7, 8, 9, 10, 11, 0, 1, 12, 2, 13, 14, 3, 15, 16, 17, 18, 19, 20, 21, 22] rfl (fun _ => rfl) (fun u H locs hw hP hD hS => ?_)
        obtain ⟨meetingNames_51, stepNames_51, firstUses_51, secondUses_51, endUses_51, lastNames_51, namesOf_51, homeBlock_51, homePlace_51⟩ := u
        try dsimp only at hw
        have hP : va_P D vwCl (wdNamedForm_assemble cA ad N stepCount kind target first second forkVariable orderSize reached forerunners frontiers parents order meetingNames_51 meetingUses_1 stepNames_51 firstUses_51 secondUses_51 endUses_51 lastNames_51 namesOf_51 homeBlock_51 homePlace_51) H := hP
        have hD : va_D A (wdNamedForm_assemble cA ad N stepCount kind target first second forkVariable orderSize reached forerunners frontiers parents order meetingNames_51 meetingUses_1 stepNames_51 firstUses_51 secondUses_51 endUses_51 lastNames_51 namesOf_51 homeBlock_51 homePlace_51) := hD
        refine lv_iinc (k := 1) (v := (v1_L31 + 1)) (lv' := [(1, .int (v1_L31 + 1)), (0, .ref (ad 18))]) hx hb dNamedForm_assemble_54 hl rfl rfl (by decide) rfl (fun ls hl => ?_)
        refine lv_goto (tgt := 31) hx hb dNamedForm_assemble_57 rfl ?_
        exact ih (v1_L31 + 1) meetingNames_51 stepNames_51 firstUses_51 secondUses_51 endUses_51 lastNames_51 namesOf_51 homeBlock_51 homePlace_51 _ _ _ (lv_sub hl [1, 0] rfl) hP hD hS hw
  refine hlp31 _ ?_ k31 0 meetingNames_1 stepNames_1 firstUses_1 secondUses_1 endUses_1 lastNames_x29 namesOf_x29 homeBlock_x29 homePlace_x29 _ _ _ (lv_sub hl [1, 0] rfl) hP hD hS hw
  intro v1_x60 meetingNames_x60 stepNames_x60 firstUses_x60 secondUses_x60 endUses_x60 lastNames_x60 namesOf_x60 homeBlock_x60 homePlace_x60 ls H locs hl hP hD hS hw
  try dsimp only at hw
  refine lv_aload_n hx hb dNamedForm_assemble_60 rfl (lv_at hl 0 rfl) ?_
  refine xcv (va_runV ⟨hx, hb, hml, hown, hts⟩ (ktNamedForm_findMeetingUses l D cA ad N _ orderSize reached forerunners meetingNames_x60 meetingUses_1 lastNames_x60 _ hw) (cwV 0 hts (goodV kw_385 kw_387 ks_1_11 kw_6 kw_388) rfl rfl rfl (by decide +kernel) ⟨Nat.le_of_ble_eq_true rfl, Nat.le_of_ble_eq_true rfl⟩) (xpreV hK hP hD hN [7, 8, 12, 13, 14, 19] rfl rfl 12 rfl rfl) rfl rfl hl.1 rfl (lv_room (Nat.le_of_ble_eq_true rfl)) dNamedForm_assemble_61 ⟨Nat.le_of_ble_eq_true rfl, Nat.le_of_ble_eq_true rfl⟩) hP hD hS hA [7, 8, 12, 13, 14, 19] [0, 1, 2, 3, 4, 5, 6, 9, 10, 11, 15, 16, 17, 18, 20, 21, 22] rfl rfl rfl rfl [0, 1, 2, 3, 4, 5, 6, 17, 18, 7, 8, 9, 19, 20, 21, 10, 11, 12, 13, 22, 14, 15, 16] rfl (fun _ => rfl) (fun meetingUses_61 H locs hw hP hD hS => ?_)
  try dsimp only at hw
  have hP : va_P D vwCl (wdNamedForm_assemble cA ad N stepCount kind target first second forkVariable orderSize reached forerunners frontiers parents order meetingNames_x60 meetingUses_61 stepNames_x60 firstUses_x60 secondUses_x60 endUses_x60 lastNames_x60 namesOf_x60 homeBlock_x60 homePlace_x60) H := hP
  have hD : va_D A (wdNamedForm_assemble cA ad N stepCount kind target first second forkVariable orderSize reached forerunners frontiers parents order meetingNames_x60 meetingUses_61 stepNames_x60 firstUses_x60 secondUses_x60 endUses_x60 lastNames_x60 namesOf_x60 homeBlock_x60 homePlace_x60) := hD
  refine lv_iconst (v := 0) hx hb dNamedForm_assemble_64 (by decide) ?_
  refine lv_istore_n (lv' := [(1, .int 0), (0, .ref (ad 18))]) hx hb dNamedForm_assemble_65 rfl hl (by decide) rfl (fun ls hl => ?_)
  refine lv_iconst (v := 0) hx hb dNamedForm_assemble_66 (by decide) ?_
  refine lv_istore_n (lv' := [(2, .int 0), (1, .int 0), (0, .ref (ad 18))]) hx hb dNamedForm_assemble_67 rfl hl (by decide) rfl (fun ls hl => ?_)
  obtain ⟨k68, hw⟩ := hw
  have hlp68 : ∀ (k : Nat), ∀ (v1_L68 : Int32) (v2_L68 : Int32) (ls : Array Slot) (H : Heap) (locs : List Loc), lv_has ls 3 [(0, .ref (ad 18)), (1, .int v1_L68), (2, .int v2_L68)] → va_P D vwCl (wdNamedForm_assemble cA ad N stepCount kind target first second forkVariable orderSize reached forerunners frontiers parents order meetingNames_x60 meetingUses_61 stepNames_x60 firstUses_x60 secondUses_x60 endUses_x60 lastNames_x60 namesOf_x60 homeBlock_x60 homePlace_x60) H → va_D A (wdNamedForm_assemble cA ad N stepCount kind target first second forkVariable orderSize reached forerunners frontiers parents order meetingNames_x60 meetingUses_61 stepNames_x60 firstUses_x60 secondUses_x60 endUses_x60 lastNames_x60 namesOf_x60 homeBlock_x60 homePlace_x60) → va_S A s.heap H locs → lpNamedForm_assemble_68 meetingNames_x60 meetingUses_61 stepNames_x60 firstUses_x60 secondUses_x60 endUses_x60 lastNames_x60 namesOf_x60 homeBlock_x60 homePlace_x60 post k v1_L68 v2_L68 → W p l e (headSpec (Cond.code yNamedForm_assemble cNamedForm_assemble 3 (some .int) :: xW) rmNamedForm_assemble).room s m ([.ref (ad 18)] : List Value).toArray below meth c H locs 0 0 Q (F0 m 68 ls []) := by
    intro k
    induction k with
    | zero => intro v1_L68 v2_L68 ls H locs hl hP hD hS hw; exact False.elim hw
    | succ k ih =>
      intro v1_L68 v2_L68 ls H locs hl hP hD hS hw
      refine lv_iload_n hx hb dNamedForm_assemble_68 rfl (lv_at hl 2 rfl) ?_
      refine lv_bipush (v := 6) hx hb dNamedForm_assemble_69 (by decide) ?_
      refine lv_icmp_ge (tgt := 89) hx hb dNamedForm_assemble_71 rfl (fun hc => ?_) (fun hc => ?_)
      · have hw := hw.1 hc
        refine lv_iload_n hx hb dNamedForm_assemble_89 rfl (lv_at hl 1 rfl) ?_
        exact hend v1_L68 meetingNames_x60 meetingUses_61 stepNames_x60 firstUses_x60 secondUses_x60 endUses_x60 lastNames_x60 namesOf_x60 homeBlock_x60 homePlace_x60 _ _ _ _ dNamedForm_assemble_90 hP hD hS hw
      · have hw := hw.2 hc
        refine lv_iload_n hx hb dNamedForm_assemble_74 rfl (lv_at hl 1 rfl) ?_
        refine lv_aload_n hx hb dNamedForm_assemble_75 rfl (lv_at hl 0 rfl) ?_
        refine va_get (D := D) (ci := 3) (v := .ref (ad 26)) (C := "OnceNamed$NamedForm") (T := TX3) (N := 14) hx hb hts (fun w h => List.mem_cons_of_mem _ (inX3 w h)) hown hK hP 12 rfl rfl 10 (by decide) (hts _ (List.mem_cons_of_mem _ kw_130)) (fun _ h9 => h9) rfl dNamedForm_assemble_76 ?_
        refine lv_iload_n hx hb dNamedForm_assemble_79 rfl (lv_at hl 2 rfl) ?_
        have ho := hw.1
        have hw := hw.2
        refine va_iald hx hb hK hP 20 0 rfl rfl ho dNamedForm_assemble_80 ?_
        refine lv_iadd hx hb dNamedForm_assemble_81 ?_
        refine lv_topi (fun v1_82 e_v1_82 => ?_)
        have hw := hw v1_82 e_v1_82
        refine lv_istore_n (lv' := [(1, .int v1_82), (0, .ref (ad 18)), (2, .int v2_L68)]) hx hb dNamedForm_assemble_82 rfl hl (by decide) rfl (fun ls hl => ?_)
        refine lv_iinc (k := 2) (v := (v2_L68 + 1)) (lv' := [(2, .int (v2_L68 + 1)), (1, .int v1_82), (0, .ref (ad 18))]) hx hb dNamedForm_assemble_83 hl rfl rfl (by decide) rfl (fun ls hl => ?_)
        refine lv_goto (tgt := 68) hx hb dNamedForm_assemble_86 rfl ?_
        exact ih v1_82 (v2_L68 + 1) _ _ _ (lv_sub hl [2, 1, 0] rfl) hP hD hS hw
  refine hlp68 k68 0 0 _ _ _ (lv_sub hl [2, 1, 0] rfl) hP hD hS hw
abbrev wdNamedForm_isUseSound (cA : ClassId) (ad : Nat → Nat) (N : Nat) (orderSize : Int32) (reached : Int32) (blw : Nat → Int32) (homeBlock : Nat → Int32) (homePlace : Nat → Int32) : va_W := [((ad 11), .inr (2, [.int (nI N), .ref (ad 12), .ref (ad 13), .ref (ad 14), .ref (ad 15), .ref (ad 16), .ref (ad 17), .int orderSize, .int reached])), ((ad 13), .inl (cA, N, .inl blw)), ((ad 18), .inr (3, [.ref (ad 1), .ref (ad 11), .int (nI N), .ref (ad 19), .ref (ad 20), .ref (ad 21), .ref (ad 22), .ref (ad 23), .ref (ad 24), .ref (ad 25), .ref (ad 26), .ref (ad 27), .ref (ad 28), .ref (ad 29)])), ((ad 27), .inl (cA, 600, .inl homeBlock)), ((ad 28), .inl (cA, 600, .inl homePlace))]
abbrev qcNamedForm_isUseSound (D : va_G) (cA : ClassId) (ad : Nat → Nat) (N : Nat) (orderSize : Int32) (reached : Int32) (blw : Nat → Int32) (homeBlock : Nat → Int32) (homePlace : Nat → Int32) (post : Bool → Prop) (A : Nat → Prop) : Array Value → State → Outcome → State → Prop := va_Qi (S := Unit) (fun r u => ∃ z : Bool, r = bI z ∧ post z ) (fun u t => xB D cA A (wdNamedForm_isUseSound cA ad N orderSize reached blw homeBlock homePlace) t) A
abbrev rmNamedForm_isUseSound : Room := { frames := 2, cells := 0, slots := 0, locals := 43 }
set_option maxHeartbeats 4000000 in
set_option maxRecDepth 100000 in
theorem ktNamedForm_isUseSound (l : Launch) (D : va_G) (cA : ClassId) (ad : Nat → Nat) (N : Nat) (sz : Nat) (orderSize : Int32) (reached : Int32) (blw : Nat → Int32) (homeBlock : Nat → Int32) (homePlace : Nat → Int32) (v1 : Int32) (v2 : Int32) (v3 : Int32) (post : Bool → Prop) (hw : wpNamedForm_isUseSound N blw homeBlock homePlace v1 v2 v3 post) : Met l yNamedForm_isUseSound (Cond.code yNamedForm_isUseSound cNamedForm_isUseSound 5 (some .boolean) :: xW) rmNamedForm_isUseSound (va_Pc [.ref (ad 18), .int v1, .int v2, .int v3] (xPc D cA (wdNamedForm_isUseSound cA ad N orderSize reached blw homeBlock homePlace) sz)) (qcNamedForm_isUseSound D cA ad N orderSize reached blw homeBlock homePlace post (va_A (wdNamedForm_isUseSound cA ad N orderSize reached blw homeBlock homePlace) sz)) 0 0 (va_A (wdNamedForm_isUseSound cA ad N orderSize reached blw homeBlock homePlace) sz) := by
  refine Met.ofW (cc := cNamedForm_isUseSound) (maxL := 5) (ret := (some .boolean)) (by decide) rfl ?_
  intro p e s m args below meth c s₁ B hml hv
  obtain ⟨rfl, hsz, hP, hK, hD0, hN⟩ := hv
  have hx := B.exec
  have hb := B.bytes
  have hr := B.returns
  have hts := atoms_spec (ws := (Cond.code yNamedForm_isUseSound cNamedForm_isUseSound 5 (some .boolean) :: xW)) B.pre
  have hown : s.vm.findClass "OnceNamed$NamedForm" = some m.cls := findClass_of_methodNamed B.named
  have hlocks := B.notSynchronized
  subst hsz
  have hD := hD0.self (sz := s.heap.size)
  generalize hAe : va_A (wdNamedForm_isUseSound cA ad N orderSize reached blw homeBlock homePlace) s.heap.size = A at hD ⊢
  have hA : ∀ q : Nat, s.heap.size ≤ q → A q := fun q h => by rw [← hAe]; exact Or.inr h
  have hS : va_S A s.heap s.heap [] := va_S.rf
  have hend : ∀ (r : Bool)  (H : Heap) (locs : List Loc) (pc : Nat) (ls : Array Slot), decode cNamedForm_isUseSound pc = .ok (.ireturn, 1) → va_P D vwCl (wdNamedForm_isUseSound cA ad N orderSize reached blw homeBlock homePlace) H → va_D A (wdNamedForm_isUseSound cA ad N orderSize reached blw homeBlock homePlace) → va_S A s.heap H locs → post r  → W p l e (headSpec (Cond.code yNamedForm_isUseSound cNamedForm_isUseSound 5 (some .boolean) :: xW) rmNamedForm_isUseSound).room s m ([.ref (ad 18), .int v1, .int v2, .int v3] : List Value).toArray below meth c H locs 0 0 (MQ below (qcNamedForm_isUseSound D cA ad N orderSize reached blw homeBlock homePlace post A) ([.ref (ad 18), .int v1, .int v2, .int v3] : List Value).toArray s 0 0 A) (F0 m pc ls [.int (bI r)]) := fun r  H locs pc ls hd hP hD hS hw => W.zret (v := bI r) hx hb hr (bI_nar r) (fun t ht hW => ⟨⟨bI r, (), rfl, ⟨r, rfl, hw⟩, ⟨by rw [ht]; exact hP, va_K.moved hW.alike hK, hD⟩⟩, hS.F ht⟩) hS.2.2 hd
  generalize hQ : MQ below (qcNamedForm_isUseSound D cA ad N orderSize reached blw homeBlock homePlace post A) ([.ref (ad 18), .int v1, .int v2, .int v3] : List Value).toArray s 0 0 A = Q at hend ⊢
  have hl := lv_entry ([.ref (ad 18), .int v1, .int v2, .int v3]) (n := 5) (Nat.le_of_ble_eq_true rfl)
  rw [lg_entry_eq]
  generalize (lg_sl ([.ref (ad 18), .int v1, .int v2, .int v3]) ++ List.replicate (5 - (lg_sl ([.ref (ad 18), .int v1, .int v2, .int v3])).length) Slot.unset).toArray = ls at hl ⊢
  have hl : lv_has ls 5 [(0, .ref (ad 18)), (1, .int v1), (2, .int v2), (3, .int v3)] := hl
  unfold wpNamedForm_isUseSound at hw
  refine lv_iload_n hx hb dNamedForm_isUseSound_0 rfl (lv_at hl 1 rfl) ?_
  refine lv_iconst (v := (-1)) hx hb dNamedForm_isUseSound_1 (by decide) ?_
  refine lv_icmp_ne (tgt := 7) hx hb dNamedForm_isUseSound_2 rfl (fun hc => ?_) (fun hc => ?_)
  · have hw := hw.1 hc
    refine lv_aload_n hx hb dNamedForm_isUseSound_7 rfl (lv_at hl 0 rfl) ?_
    refine va_get (D := D) (ci := 3) (v := .ref (ad 27)) (C := "OnceNamed$NamedForm") (T := TX3) (N := 14) hx hb hts (fun w h => List.mem_cons_of_mem _ (inX3 w h)) hown hK hP 2 rfl rfl 11 (by decide) (hts _ (List.mem_cons_of_mem _ kw_131)) (fun _ h9 => h9) rfl dNamedForm_isUseSound_8 ?_
    refine lv_iload_n hx hb dNamedForm_isUseSound_11 rfl (lv_at hl 1 rfl) ?_
    have ho := hw.1
    have hw := hw.2
    refine va_iald hx hb hK hP 3 0 rfl rfl ho dNamedForm_isUseSound_12 ?_
    refine lv_topi (fun v4_13 e_v4_13 => ?_)
    have hw := hw v4_13 e_v4_13
    refine lv_istore (lv' := [(4, .int v4_13), (0, .ref (ad 18)), (1, .int v1), (2, .int v2), (3, .int v3)]) hx hb dNamedForm_isUseSound_13 hl (by decide) rfl (fun ls hl => ?_)
    refine lv_iload hx hb dNamedForm_isUseSound_15 (lv_at hl 0 rfl) ?_
    refine lv_aload_n hx hb dNamedForm_isUseSound_17 rfl (lv_at hl 1 rfl) ?_
    refine va_get (D := D) (ci := 3) (v := .int (nI N)) (C := "OnceNamed$NamedForm") (T := TX3) (N := 14) hx hb hts (fun w h => List.mem_cons_of_mem _ (inX3 w h)) hown hK hP 2 rfl rfl 2 (by decide) (hts _ (List.mem_cons_of_mem _ kw_122)) (fun _ h9 => h9) rfl dNamedForm_isUseSound_18 ?_
    refine lv_icmp_ne (tgt := 26) hx hb dNamedForm_isUseSound_21 rfl (fun hc => ?_) (fun hc => ?_)
    · have hw := hw.1 hc
      refine lv_iload hx hb dNamedForm_isUseSound_26 (lv_at hl 0 rfl) ?_
      refine lv_iload_n hx hb dNamedForm_isUseSound_28 rfl (lv_at hl 3 rfl) ?_
      refine lv_icmp_ne (tgt := 50) hx hb dNamedForm_isUseSound_29 rfl (fun hc => ?_) (fun hc => ?_)
      · have hw := hw.1 hc
        refine lv_aload_n hx hb dNamedForm_isUseSound_50 rfl (lv_at hl 1 rfl) ?_
        refine va_get (D := D) (ci := 3) (v := .ref (ad 11)) (C := "OnceNamed$NamedForm") (T := TX3) (N := 14) hx hb hts (fun w h => List.mem_cons_of_mem _ (inX3 w h)) hown hK hP 2 rfl rfl 1 (by decide) (hts _ (List.mem_cons_of_mem _ kw_121)) (fun _ h9 => h9) rfl dNamedForm_isUseSound_51 ?_
        refine lv_iload hx hb dNamedForm_isUseSound_54 (lv_at hl 0 rfl) ?_
        refine lv_iload_n hx hb dNamedForm_isUseSound_56 rfl (lv_at hl 3 rfl) ?_
        refine xci (va_runV ⟨hx, hb, hml, hown, hts⟩ (ktGraph_hasBelow l D cA ad N _ orderSize reached blw v4_13 v2 _ hw) (cwV 2 hts (goodV kw_600 kw_601 kw_602 kw_5 kw_603) rfl rfl rfl (by decide +kernel) ⟨Nat.le_of_ble_eq_true rfl, Nat.le_of_ble_eq_true rfl⟩) (xpreV hK hP hD hN [0, 1] rfl rfl 0 rfl rfl) rfl rfl hl.1 rfl (lv_room (Nat.le_of_ble_eq_true rfl)) dNamedForm_isUseSound_57 ⟨Nat.le_of_ble_eq_true rfl, Nat.le_of_ble_eq_true rfl⟩) hP hD hS hA [0, 1] [2, 3, 4] rfl rfl rfl rfl [3, 4, 0, 1, 2] rfl (fun _ => rfl) (fun r57 u H locs hw hP hD hS => ?_)
        obtain ⟨r57, rfl, hw⟩ := hw
        have hP : va_P D vwCl (wdNamedForm_isUseSound cA ad N orderSize reached blw homeBlock homePlace) H := hP
        have hD : va_D A (wdNamedForm_isUseSound cA ad N orderSize reached blw homeBlock homePlace) := hD
        exact hend r57 _ _ _ _ dNamedForm_isUseSound_60 hP hD hS hw
      · have hw := hw.2 hc
        refine lv_aload_n hx hb dNamedForm_isUseSound_32 rfl (lv_at hl 1 rfl) ?_
        refine va_get (D := D) (ci := 3) (v := .ref (ad 28)) (C := "OnceNamed$NamedForm") (T := TX3) (N := 14) hx hb hts (fun w h => List.mem_cons_of_mem _ (inX3 w h)) hown hK hP 2 rfl rfl 12 (by decide) (hts _ (List.mem_cons_of_mem _ kw_132)) (fun _ h9 => h9) rfl dNamedForm_isUseSound_33 ?_
        refine lv_iload_n hx hb dNamedForm_isUseSound_36 rfl (lv_at hl 2 rfl) ?_
        have ho := hw.1
        have hw := hw.2
        refine va_iald hx hb hK hP 4 0 rfl rfl ho dNamedForm_isUseSound_37 ?_
        refine lv_iload_n hx hb dNamedForm_isUseSound_38 rfl (lv_at hl 4 rfl) ?_
        refine lv_icmp_ge (tgt := 46) hx hb dNamedForm_isUseSound_39 rfl (fun hc => ?_) (fun hc => ?_)
        · have hw := hw.1 hc
          refine lv_iconst (v := 0) hx hb dNamedForm_isUseSound_46 (by decide) ?_
          refine lv_goto (tgt := 60) hx hb dNamedForm_isUseSound_47 rfl ?_
          exact hend false _ _ _ _ dNamedForm_isUseSound_60 hP hD hS hw
        · have hw := hw.2 hc
          refine lv_iconst (v := 1) hx hb dNamedForm_isUseSound_42 (by decide) ?_
          refine lv_goto (tgt := 60) hx hb dNamedForm_isUseSound_43 rfl ?_
          exact hend true _ _ _ _ dNamedForm_isUseSound_60 hP hD hS hw
    · have hw := hw.2 hc
      refine lv_iconst (v := 1) hx hb dNamedForm_isUseSound_24 (by decide) ?_
      exact hend true _ _ _ _ dNamedForm_isUseSound_25 hP hD hS hw
  · have hw := hw.2 hc
    refine lv_iconst (v := 1) hx hb dNamedForm_isUseSound_5 (by decide) ?_
    exact hend true _ _ _ _ dNamedForm_isUseSound_6 hP hD hS hw
abbrev wdNamedForm_isBlockSound (cA : ClassId) (ad : Nat → Nat) (N : Nat) (stepCount : Nat → Int32) (orderSize : Int32) (reached : Int32) (blw : Nat → Int32) (firstUses : Nat → Int32) (secondUses : Nat → Int32) (endUses : Nat → Int32) (homeBlock : Nat → Int32) (homePlace : Nat → Int32) : va_W := [((ad 1), .inr (1, [.int (nI N), .ref (ad 2), .ref (ad 3), .ref (ad 4), .ref (ad 5), .ref (ad 6), .ref (ad 7), .ref (ad 8), .ref (ad 9), .ref (ad 10)])), ((ad 2), .inl (cA, N, .inl stepCount)), ((ad 11), .inr (2, [.int (nI N), .ref (ad 12), .ref (ad 13), .ref (ad 14), .ref (ad 15), .ref (ad 16), .ref (ad 17), .int orderSize, .int reached])), ((ad 13), .inl (cA, N, .inl blw)), ((ad 18), .inr (3, [.ref (ad 1), .ref (ad 11), .int (nI N), .ref (ad 19), .ref (ad 20), .ref (ad 21), .ref (ad 22), .ref (ad 23), .ref (ad 24), .ref (ad 25), .ref (ad 26), .ref (ad 27), .ref (ad 28), .ref (ad 29)])), ((ad 22), .inl (cA, N * 6, .inl firstUses)), ((ad 23), .inl (cA, N * 6, .inl secondUses)), ((ad 24), .inl (cA, N, .inl endUses)), ((ad 27), .inl (cA, 600, .inl homeBlock)), ((ad 28), .inl (cA, 600, .inl homePlace))]
abbrev qcNamedForm_isBlockSound (D : va_G) (cA : ClassId) (ad : Nat → Nat) (N : Nat) (stepCount : Nat → Int32) (orderSize : Int32) (reached : Int32) (blw : Nat → Int32) (firstUses : Nat → Int32) (secondUses : Nat → Int32) (endUses : Nat → Int32) (homeBlock : Nat → Int32) (homePlace : Nat → Int32) (post : Bool → Prop) (A : Nat → Prop) : Array Value → State → Outcome → State → Prop := va_Qi (S := Unit) (fun r u => ∃ z : Bool, r = bI z ∧ post z ) (fun u t => xB D cA A (wdNamedForm_isBlockSound cA ad N stepCount orderSize reached blw firstUses secondUses endUses homeBlock homePlace) t) A
abbrev rmNamedForm_isBlockSound : Room := { frames := 3, cells := 0, slots := 0, locals := 67 }
set_option maxHeartbeats 4000000 in
set_option maxRecDepth 100000 in
theorem ktNamedForm_isBlockSound (l : Launch) (D : va_G) (cA : ClassId) (ad : Nat → Nat) (N : Nat) (sz : Nat) (stepCount : Nat → Int32) (orderSize : Int32) (reached : Int32) (blw : Nat → Int32) (firstUses : Nat → Int32) (secondUses : Nat → Int32) (endUses : Nat → Int32) (homeBlock : Nat → Int32) (homePlace : Nat → Int32) (v1 : Int32) (post : Bool → Prop) (hw : wpNamedForm_isBlockSound N stepCount blw firstUses secondUses endUses homeBlock homePlace v1 post) : Met l yNamedForm_isBlockSound (Cond.code yNamedForm_isBlockSound cNamedForm_isBlockSound 4 (some .boolean) :: xW) rmNamedForm_isBlockSound (va_Pc [.ref (ad 18), .int v1] (xPc D cA (wdNamedForm_isBlockSound cA ad N stepCount orderSize reached blw firstUses secondUses endUses homeBlock homePlace) sz)) (qcNamedForm_isBlockSound D cA ad N stepCount orderSize reached blw firstUses secondUses endUses homeBlock homePlace post (va_A (wdNamedForm_isBlockSound cA ad N stepCount orderSize reached blw firstUses secondUses endUses homeBlock homePlace) sz)) 0 0 (va_A (wdNamedForm_isBlockSound cA ad N stepCount orderSize reached blw firstUses secondUses endUses homeBlock homePlace) sz) := by
  refine Met.ofW (cc := cNamedForm_isBlockSound) (maxL := 4) (ret := (some .boolean)) (by decide) rfl ?_
  intro p e s m args below meth c s₁ B hml hv
  obtain ⟨rfl, hsz, hP, hK, hD0, hN⟩ := hv
  have hx := B.exec
  have hb := B.bytes
  have hr := B.returns
  have hts := atoms_spec (ws := (Cond.code yNamedForm_isBlockSound cNamedForm_isBlockSound 4 (some .boolean) :: xW)) B.pre
  have hown : s.vm.findClass "OnceNamed$NamedForm" = some m.cls := findClass_of_methodNamed B.named
  have hlocks := B.notSynchronized
  subst hsz
  have hD := hD0.self (sz := s.heap.size)
  generalize hAe : va_A (wdNamedForm_isBlockSound cA ad N stepCount orderSize reached blw firstUses secondUses endUses homeBlock homePlace) s.heap.size = A at hD ⊢
  have hA : ∀ q : Nat, s.heap.size ≤ q → A q := fun q h => by rw [← hAe]; exact Or.inr h
  have hS : va_S A s.heap s.heap [] := va_S.rf
  have hend : ∀ (r : Bool)  (H : Heap) (locs : List Loc) (pc : Nat) (ls : Array Slot), decode cNamedForm_isBlockSound pc = .ok (.ireturn, 1) → va_P D vwCl (wdNamedForm_isBlockSound cA ad N stepCount orderSize reached blw firstUses secondUses endUses homeBlock homePlace) H → va_D A (wdNamedForm_isBlockSound cA ad N stepCount orderSize reached blw firstUses secondUses endUses homeBlock homePlace) → va_S A s.heap H locs → post r  → W p l e (headSpec (Cond.code yNamedForm_isBlockSound cNamedForm_isBlockSound 4 (some .boolean) :: xW) rmNamedForm_isBlockSound).room s m ([.ref (ad 18), .int v1] : List Value).toArray below meth c H locs 0 0 (MQ below (qcNamedForm_isBlockSound D cA ad N stepCount orderSize reached blw firstUses secondUses endUses homeBlock homePlace post A) ([.ref (ad 18), .int v1] : List Value).toArray s 0 0 A) (F0 m pc ls [.int (bI r)]) := fun r  H locs pc ls hd hP hD hS hw => W.zret (v := bI r) hx hb hr (bI_nar r) (fun t ht hW => ⟨⟨bI r, (), rfl, ⟨r, rfl, hw⟩, ⟨by rw [ht]; exact hP, va_K.moved hW.alike hK, hD⟩⟩, hS.F ht⟩) hS.2.2 hd
  generalize hQ : MQ below (qcNamedForm_isBlockSound D cA ad N stepCount orderSize reached blw firstUses secondUses endUses homeBlock homePlace post A) ([.ref (ad 18), .int v1] : List Value).toArray s 0 0 A = Q at hend ⊢
  have hl := lv_entry ([.ref (ad 18), .int v1]) (n := 4) (Nat.le_of_ble_eq_true rfl)
  rw [lg_entry_eq]
  generalize (lg_sl ([.ref (ad 18), .int v1]) ++ List.replicate (4 - (lg_sl ([.ref (ad 18), .int v1])).length) Slot.unset).toArray = ls at hl ⊢
  have hl : lv_has ls 4 [(0, .ref (ad 18)), (1, .int v1)] := hl
  unfold wpNamedForm_isBlockSound at hw
  refine lv_iconst (v := 0) hx hb dNamedForm_isBlockSound_0 (by decide) ?_
  refine lv_istore_n (lv' := [(2, .int 0), (0, .ref (ad 18)), (1, .int v1)]) hx hb dNamedForm_isBlockSound_1 rfl hl (by decide) rfl (fun ls hl => ?_)
  obtain ⟨k2, hw⟩ := hw
  have hlp2 : ∀ (K59 : Int32 → Prop), (∀ (v2_x59 : Int32) (ls : Array Slot) (H : Heap) (locs : List Loc), lv_has ls 4 [(0, .ref (ad 18)), (1, .int v1), (2, .int v2_x59)] → va_P D vwCl (wdNamedForm_isBlockSound cA ad N stepCount orderSize reached blw firstUses secondUses endUses homeBlock homePlace) H → va_D A (wdNamedForm_isBlockSound cA ad N stepCount orderSize reached blw firstUses secondUses endUses homeBlock homePlace) → va_S A s.heap H locs → K59 v2_x59 → W p l e (headSpec (Cond.code yNamedForm_isBlockSound cNamedForm_isBlockSound 4 (some .boolean) :: xW) rmNamedForm_isBlockSound).room s m ([.ref (ad 18), .int v1] : List Value).toArray below meth c H locs 0 0 Q (F0 m 59 ls [])) → ∀ (k : Nat), ∀ (v2_L2 : Int32) (ls : Array Slot) (H : Heap) (locs : List Loc), lv_has ls 4 [(0, .ref (ad 18)), (1, .int v1), (2, .int v2_L2)] → va_P D vwCl (wdNamedForm_isBlockSound cA ad N stepCount orderSize reached blw firstUses secondUses endUses homeBlock homePlace) H → va_D A (wdNamedForm_isBlockSound cA ad N stepCount orderSize reached blw firstUses secondUses endUses homeBlock homePlace) → va_S A s.heap H locs → lpNamedForm_isBlockSound_2 N v1 stepCount blw firstUses secondUses homeBlock homePlace post K59 k v2_L2 → W p l e (headSpec (Cond.code yNamedForm_isBlockSound cNamedForm_isBlockSound 4 (some .boolean) :: xW) rmNamedForm_isBlockSound).room s m ([.ref (ad 18), .int v1] : List Value).toArray below meth c H locs 0 0 Q (F0 m 2 ls []) := by
    intro K59 hK59 k
    induction k with
    | zero => intro v2_L2 ls H locs hl hP hD hS hw; exact False.elim hw
    | succ k ih =>
      intro v2_L2 ls H locs hl hP hD hS hw
      refine lv_iload_n hx hb dNamedForm_isBlockSound_2 rfl (lv_at hl 2 rfl) ?_
      refine lv_aload_n hx hb dNamedForm_isBlockSound_3 rfl (lv_at hl 0 rfl) ?_
      refine va_get (D := D) (ci := 3) (v := .ref (ad 1)) (C := "OnceNamed$NamedForm") (T := TX3) (N := 14) hx hb hts (fun w h => List.mem_cons_of_mem _ (inX3 w h)) hown hK hP 4 rfl rfl 0 (by decide) (hts _ (List.mem_cons_of_mem _ kw_120)) (fun _ h9 => h9) rfl dNamedForm_isBlockSound_4 ?_
      refine lv_iload_n hx hb dNamedForm_isBlockSound_7 rfl (lv_at hl 1 rfl) ?_
      dsimp only [lpNamedForm_isBlockSound_2] at hw
      refine xci (va_runV ⟨hx, hb, hml, hown, hts⟩ (ktProgram_stepsOf l D cA ad N _ stepCount v1 _ hw) (cwV 1 hts (goodV kw_354 kw_355 kw_356 kw_3 kw_357) rfl rfl rfl (by decide +kernel) ⟨Nat.le_of_ble_eq_true rfl, Nat.le_of_ble_eq_true rfl⟩) (xpreV hK hP hD hN [0, 1] rfl rfl 0 rfl rfl) rfl rfl hl.1 rfl (lv_room (Nat.le_of_ble_eq_true rfl)) dNamedForm_isBlockSound_8 ⟨Nat.le_of_ble_eq_true rfl, Nat.le_of_ble_eq_true rfl⟩) hP hD hS hA [0, 1] [2, 3, 4, 5, 6, 7, 8, 9] rfl rfl rfl rfl [8, 9, 0, 1, 2, 3, 4, 5, 6, 7] rfl (fun _ => rfl) (fun r8 u H locs hw hP hD hS => ?_)
      have hP : va_P D vwCl (wdNamedForm_isBlockSound cA ad N stepCount orderSize reached blw firstUses secondUses endUses homeBlock homePlace) H := hP
      have hD : va_D A (wdNamedForm_isBlockSound cA ad N stepCount orderSize reached blw firstUses secondUses endUses homeBlock homePlace) := hD
      refine lv_icmp_ge (tgt := 59) hx hb dNamedForm_isBlockSound_11 rfl (fun hc => ?_) (fun hc => ?_)
      · have hw := hw.1 hc
        exact hK59 v2_L2 _ _ _ (lv_sub hl [0, 1, 2] rfl) hP hD hS hw
      · have hw := hw.2 hc
        refine lv_iload_n hx hb dNamedForm_isBlockSound_14 rfl (lv_at hl 1 rfl) ?_
        refine lv_bipush (v := 6) hx hb dNamedForm_isBlockSound_15 (by decide) ?_
        refine lv_imul hx hb dNamedForm_isBlockSound_17 ?_
        refine lv_iload_n hx hb dNamedForm_isBlockSound_18 rfl (lv_at hl 2 rfl) ?_
        refine lv_iadd hx hb dNamedForm_isBlockSound_19 ?_
        refine lv_topi (fun v3_20 e_v3_20 => ?_)
        have hw := hw v3_20 e_v3_20
        refine lv_istore_n (lv' := [(3, .int v3_20), (0, .ref (ad 18)), (1, .int v1), (2, .int v2_L2)]) hx hb dNamedForm_isBlockSound_20 rfl hl (by decide) rfl (fun ls hl => ?_)
        refine lv_aload_n hx hb dNamedForm_isBlockSound_21 rfl (lv_at hl 1 rfl) ?_
        refine lv_aload_n hx hb dNamedForm_isBlockSound_22 rfl (lv_at hl 1 rfl) ?_
        refine va_get (D := D) (ci := 3) (v := .ref (ad 22)) (C := "OnceNamed$NamedForm") (T := TX3) (N := 14) hx hb hts (fun w h => List.mem_cons_of_mem _ (inX3 w h)) hown hK hP 4 rfl rfl 6 (by decide) (hts _ (List.mem_cons_of_mem _ kw_126)) (fun _ h9 => h9) rfl dNamedForm_isBlockSound_23 ?_
        refine lv_iload_n hx hb dNamedForm_isBlockSound_26 rfl (lv_at hl 0 rfl) ?_
        have ho := hw.1
        have hw := hw.2
        refine va_iald hx hb hK hP 5 0 rfl rfl ho dNamedForm_isBlockSound_27 ?_
        refine lv_iload_n hx hb dNamedForm_isBlockSound_28 rfl (lv_at hl 2 rfl) ?_
        refine lv_iload_n hx hb dNamedForm_isBlockSound_29 rfl (lv_at hl 3 rfl) ?_
        refine xci (va_runV ⟨hx, hb, hml, hown, hts⟩ (ktNamedForm_isUseSound l D cA ad N _ orderSize reached blw homeBlock homePlace (firstUses (Int32.toNatClampNeg v3_20)) v1 v2_L2 _ hw) (cwV 3 hts (goodV kw_596 kw_598 ks_2_3 kw_6 kw_599) rfl rfl rfl (by decide +kernel) ⟨Nat.le_of_ble_eq_true rfl, Nat.le_of_ble_eq_true rfl⟩) (xpreV hK hP hD hN [2, 3, 4, 8, 9] rfl rfl 4 rfl rfl) rfl rfl hl.1 rfl (lv_room (Nat.le_of_ble_eq_true rfl)) dNamedForm_isBlockSound_30 ⟨Nat.le_of_ble_eq_true rfl, Nat.le_of_ble_eq_true rfl⟩) hP hD hS hA [2, 3, 4, 8, 9] [0, 1, 5, 6, 7] rfl rfl rfl rfl [0, 1, 5, 6, 7, 2, 3, 4, 8, 9] rfl (fun _ => rfl) (fun r30 u H locs hw hP hD hS => ?_)
        obtain ⟨r30, rfl, hw⟩ := hw
        have hP : va_P D vwCl (wdNamedForm_isBlockSound cA ad N stepCount orderSize reached blw firstUses secondUses endUses homeBlock homePlace) H := hP
        have hD : va_D A (wdNamedForm_isBlockSound cA ad N stepCount orderSize reached blw firstUses secondUses endUses homeBlock homePlace) := hD
        refine lv_if_eq (tgt := 51) hx hb dNamedForm_isBlockSound_33 rfl (fun hc => ?_) (fun hc => ?_)
        · have hw := hw.1 (bI_0 hc)
          refine lv_iconst (v := 0) hx hb dNamedForm_isBlockSound_51 (by decide) ?_
          exact hend false _ _ _ _ dNamedForm_isBlockSound_52 hP hD hS hw
        · have hw := hw.2 (bI_1 hc)
          refine lv_aload_n hx hb dNamedForm_isBlockSound_36 rfl (lv_at hl 1 rfl) ?_
          refine lv_aload_n hx hb dNamedForm_isBlockSound_37 rfl (lv_at hl 1 rfl) ?_
          refine va_get (D := D) (ci := 3) (v := .ref (ad 23)) (C := "OnceNamed$NamedForm") (T := TX3) (N := 14) hx hb hts (fun w h => List.mem_cons_of_mem _ (inX3 w h)) hown hK hP 4 rfl rfl 7 (by decide) (hts _ (List.mem_cons_of_mem _ kw_127)) (fun _ h9 => h9) rfl dNamedForm_isBlockSound_38 ?_
          refine lv_iload_n hx hb dNamedForm_isBlockSound_41 rfl (lv_at hl 0 rfl) ?_
          have ho := hw.1
          have hw := hw.2
          refine va_iald hx hb hK hP 6 0 rfl rfl ho dNamedForm_isBlockSound_42 ?_
          refine lv_iload_n hx hb dNamedForm_isBlockSound_43 rfl (lv_at hl 2 rfl) ?_
          refine lv_iload_n hx hb dNamedForm_isBlockSound_44 rfl (lv_at hl 3 rfl) ?_
          refine xci (va_runV ⟨hx, hb, hml, hown, hts⟩ (ktNamedForm_isUseSound l D cA ad N _ orderSize reached blw homeBlock homePlace (secondUses (Int32.toNatClampNeg v3_20)) v1 v2_L2 _ hw) (cwV 3 hts (goodV kw_596 kw_598 ks_2_3 kw_6 kw_599) rfl rfl rfl (by decide +kernel) ⟨Nat.le_of_ble_eq_true rfl, Nat.le_of_ble_eq_true rfl⟩) (xpreV hK hP hD hN [2, 3, 4, 8, 9] rfl rfl 4 rfl rfl) rfl rfl hl.1 rfl (lv_room (Nat.le_of_ble_eq_true rfl)) dNamedForm_isBlockSound_45 ⟨Nat.le_of_ble_eq_true rfl, Nat.le_of_ble_eq_true rfl⟩) hP hD hS hA [2, 3, 4, 8, 9] [0, 1, 5, 6, 7] rfl rfl rfl rfl [0, 1, 5, 6, 7, 2, 3, 4, 8, 9] rfl (fun _ => rfl) (fun r45 u H locs hw hP hD hS => ?_)
          obtain ⟨r45, rfl, hw⟩ := hw
          have hP : va_P D vwCl (wdNamedForm_isBlockSound cA ad N stepCount orderSize reached blw firstUses secondUses endUses homeBlock homePlace) H := hP
          have hD : va_D A (wdNamedForm_isBlockSound cA ad N stepCount orderSize reached blw firstUses secondUses endUses homeBlock homePlace) := hD
          refine lv_if_ne (tgt := 53) hx hb dNamedForm_isBlockSound_48 rfl (fun hc => ?_) (fun hc => ?_)
          · have hw := hw.1 (bI_1 hc)
            refine lv_iinc (k := 3) (v := (v2_L2 + 1)) (lv' := [(2, .int (v2_L2 + 1)), (3, .int v3_20), (0, .ref (ad 18)), (1, .int v1)]) hx hb dNamedForm_isBlockSound_53 hl rfl rfl (by decide) rfl (fun ls hl => ?_)
            refine lv_goto (tgt := 2) hx hb dNamedForm_isBlockSound_56 rfl ?_
            exact ih (v2_L2 + 1) _ _ _ (lv_sub hl [2, 3, 0] rfl) hP hD hS hw
          · have hw := hw.2 (bI_0 hc)
            refine lv_iconst (v := 0) hx hb dNamedForm_isBlockSound_51 (by decide) ?_
            exact hend false _ _ _ _ dNamedForm_isBlockSound_52 hP hD hS hw
  refine hlp2 _ ?_ k2 0 _ _ _ (lv_sub hl [1, 2, 0] rfl) hP hD hS hw
  intro v2_x59 ls H locs hl hP hD hS hw
  try dsimp only at hw
  refine lv_aload_n hx hb dNamedForm_isBlockSound_59 rfl (lv_at hl 0 rfl) ?_
  refine lv_aload_n hx hb dNamedForm_isBlockSound_60 rfl (lv_at hl 0 rfl) ?_
  refine va_get (D := D) (ci := 3) (v := .ref (ad 24)) (C := "OnceNamed$NamedForm") (T := TX3) (N := 14) hx hb hts (fun w h => List.mem_cons_of_mem _ (inX3 w h)) hown hK hP 4 rfl rfl 8 (by decide) (hts _ (List.mem_cons_of_mem _ kw_128)) (fun _ h9 => h9) rfl dNamedForm_isBlockSound_61 ?_
  refine lv_iload_n hx hb dNamedForm_isBlockSound_64 rfl (lv_at hl 1 rfl) ?_
  have ho := hw.1
  have hw := hw.2
  refine va_iald hx hb hK hP 7 0 rfl rfl ho dNamedForm_isBlockSound_65 ?_
  refine lv_iload_n hx hb dNamedForm_isBlockSound_66 rfl (lv_at hl 1 rfl) ?_
  refine lv_bipush (v := 6) hx hb dNamedForm_isBlockSound_67 (by decide) ?_
  refine xci (va_runV ⟨hx, hb, hml, hown, hts⟩ (ktNamedForm_isUseSound l D cA ad N _ orderSize reached blw homeBlock homePlace (endUses (Int32.toNatClampNeg v1)) v1 6 _ hw) (cwV 3 hts (goodV kw_596 kw_598 ks_2_3 kw_6 kw_599) rfl rfl rfl (by decide +kernel) ⟨Nat.le_of_ble_eq_true rfl, Nat.le_of_ble_eq_true rfl⟩) (xpreV hK hP hD hN [2, 3, 4, 8, 9] rfl rfl 4 rfl rfl) rfl rfl hl.1 rfl (lv_room (Nat.le_of_ble_eq_true rfl)) dNamedForm_isBlockSound_69 ⟨Nat.le_of_ble_eq_true rfl, Nat.le_of_ble_eq_true rfl⟩) hP hD hS hA [2, 3, 4, 8, 9] [0, 1, 5, 6, 7] rfl rfl rfl rfl [0, 1, 5, 6, 7, 2, 3, 4, 8, 9] rfl (fun _ => rfl) (fun r69 u H locs hw hP hD hS => ?_)
  obtain ⟨r69, rfl, hw⟩ := hw
  have hP : va_P D vwCl (wdNamedForm_isBlockSound cA ad N stepCount orderSize reached blw firstUses secondUses endUses homeBlock homePlace) H := hP
  have hD : va_D A (wdNamedForm_isBlockSound cA ad N stepCount orderSize reached blw firstUses secondUses endUses homeBlock homePlace) := hD
  exact hend r69 _ _ _ _ dNamedForm_isBlockSound_72 hP hD hS hw
abbrev wdNamedForm_areMeetingsSound (cA : ClassId) (ad : Nat → Nat) (N : Nat) (orderSize : Int32) (reached : Int32) (blw : Nat → Int32) (meetingUses : Nat → Int32) (homeBlock : Nat → Int32) (homePlace : Nat → Int32) : va_W := [((ad 11), .inr (2, [.int (nI N), .ref (ad 12), .ref (ad 13), .ref (ad 14), .ref (ad 15), .ref (ad 16), .ref (ad 17), .int orderSize, .int reached])), ((ad 13), .inl (cA, N, .inl blw)), ((ad 18), .inr (3, [.ref (ad 1), .ref (ad 11), .int (nI N), .ref (ad 19), .ref (ad 20), .ref (ad 21), .ref (ad 22), .ref (ad 23), .ref (ad 24), .ref (ad 25), .ref (ad 26), .ref (ad 27), .ref (ad 28), .ref (ad 29)])), ((ad 20), .inl (cA, N * 6 * (N + 1), .inl meetingUses)), ((ad 27), .inl (cA, 600, .inl homeBlock)), ((ad 28), .inl (cA, 600, .inl homePlace))]
abbrev qcNamedForm_areMeetingsSound (D : va_G) (cA : ClassId) (ad : Nat → Nat) (N : Nat) (orderSize : Int32) (reached : Int32) (blw : Nat → Int32) (meetingUses : Nat → Int32) (homeBlock : Nat → Int32) (homePlace : Nat → Int32) (post : Bool → Prop) (A : Nat → Prop) : Array Value → State → Outcome → State → Prop := va_Qi (S := Unit) (fun r u => ∃ z : Bool, r = bI z ∧ post z ) (fun u t => xB D cA A (wdNamedForm_areMeetingsSound cA ad N orderSize reached blw meetingUses homeBlock homePlace) t) A
abbrev rmNamedForm_areMeetingsSound : Room := { frames := 3, cells := 0, slots := 0, locals := 67 }
set_option maxHeartbeats 4000000 in
set_option maxRecDepth 100000 in
theorem ktNamedForm_areMeetingsSound (l : Launch) (D : va_G) (cA : ClassId) (ad : Nat → Nat) (N : Nat) (sz : Nat) (orderSize : Int32) (reached : Int32) (blw : Nat → Int32) (meetingUses : Nat → Int32) (homeBlock : Nat → Int32) (homePlace : Nat → Int32) (v1 : Int32) (post : Bool → Prop) (hw : wpNamedForm_areMeetingsSound N blw meetingUses homeBlock homePlace v1 post) : Met l yNamedForm_areMeetingsSound (Cond.code yNamedForm_areMeetingsSound cNamedForm_areMeetingsSound 4 (some .boolean) :: xW) rmNamedForm_areMeetingsSound (va_Pc [.ref (ad 18), .int v1] (xPc D cA (wdNamedForm_areMeetingsSound cA ad N orderSize reached blw meetingUses homeBlock homePlace) sz)) (qcNamedForm_areMeetingsSound D cA ad N orderSize reached blw meetingUses homeBlock homePlace post (va_A (wdNamedForm_areMeetingsSound cA ad N orderSize reached blw meetingUses homeBlock homePlace) sz)) 0 0 (va_A (wdNamedForm_areMeetingsSound cA ad N orderSize reached blw meetingUses homeBlock homePlace) sz) := by
  refine Met.ofW (cc := cNamedForm_areMeetingsSound) (maxL := 4) (ret := (some .boolean)) (by decide) rfl ?_
  intro p e s m args below meth c s₁ B hml hv
  obtain ⟨rfl, hsz, hP, hK, hD0, hN⟩ := hv
  have hx := B.exec
  have hb := B.bytes
  have hr := B.returns
  have hts := atoms_spec (ws := (Cond.code yNamedForm_areMeetingsSound cNamedForm_areMeetingsSound 4 (some .boolean) :: xW)) B.pre
  have hown : s.vm.findClass "OnceNamed$NamedForm" = some m.cls := findClass_of_methodNamed B.named
  have hlocks := B.notSynchronized
  subst hsz
  have hD := hD0.self (sz := s.heap.size)
  generalize hAe : va_A (wdNamedForm_areMeetingsSound cA ad N orderSize reached blw meetingUses homeBlock homePlace) s.heap.size = A at hD ⊢
  have hA : ∀ q : Nat, s.heap.size ≤ q → A q := fun q h => by rw [← hAe]; exact Or.inr h
  have hS : va_S A s.heap s.heap [] := va_S.rf
  have hend : ∀ (r : Bool)  (H : Heap) (locs : List Loc) (pc : Nat) (ls : Array Slot), decode cNamedForm_areMeetingsSound pc = .ok (.ireturn, 1) → va_P D vwCl (wdNamedForm_areMeetingsSound cA ad N orderSize reached blw meetingUses homeBlock homePlace) H → va_D A (wdNamedForm_areMeetingsSound cA ad N orderSize reached blw meetingUses homeBlock homePlace) → va_S A s.heap H locs → post r  → W p l e (headSpec (Cond.code yNamedForm_areMeetingsSound cNamedForm_areMeetingsSound 4 (some .boolean) :: xW) rmNamedForm_areMeetingsSound).room s m ([.ref (ad 18), .int v1] : List Value).toArray below meth c H locs 0 0 (MQ below (qcNamedForm_areMeetingsSound D cA ad N orderSize reached blw meetingUses homeBlock homePlace post A) ([.ref (ad 18), .int v1] : List Value).toArray s 0 0 A) (F0 m pc ls [.int (bI r)]) := fun r  H locs pc ls hd hP hD hS hw => W.zret (v := bI r) hx hb hr (bI_nar r) (fun t ht hW => ⟨⟨bI r, (), rfl, ⟨r, rfl, hw⟩, ⟨by rw [ht]; exact hP, va_K.moved hW.alike hK, hD⟩⟩, hS.F ht⟩) hS.2.2 hd
  generalize hQ : MQ below (qcNamedForm_areMeetingsSound D cA ad N orderSize reached blw meetingUses homeBlock homePlace post A) ([.ref (ad 18), .int v1] : List Value).toArray s 0 0 A = Q at hend ⊢
  have hl := lv_entry ([.ref (ad 18), .int v1]) (n := 4) (Nat.le_of_ble_eq_true rfl)
  rw [lg_entry_eq]
  generalize (lg_sl ([.ref (ad 18), .int v1]) ++ List.replicate (4 - (lg_sl ([.ref (ad 18), .int v1])).length) Slot.unset).toArray = ls at hl ⊢
  have hl : lv_has ls 4 [(0, .ref (ad 18)), (1, .int v1)] := hl
  unfold wpNamedForm_areMeetingsSound at hw
  refine lv_iconst (v := 0) hx hb dNamedForm_areMeetingsSound_0 (by decide) ?_
  refine lv_istore_n (lv' := [(2, .int 0), (0, .ref (ad 18)), (1, .int v1)]) hx hb dNamedForm_areMeetingsSound_1 rfl hl (by decide) rfl (fun ls hl => ?_)
  obtain ⟨k2, hw⟩ := hw
  have hlp2 : ∀ (k : Nat), ∀ (v2_L2 : Int32) (ls : Array Slot) (H : Heap) (locs : List Loc), lv_has ls 4 [(0, .ref (ad 18)), (1, .int v1), (2, .int v2_L2)] → va_P D vwCl (wdNamedForm_areMeetingsSound cA ad N orderSize reached blw meetingUses homeBlock homePlace) H → va_D A (wdNamedForm_areMeetingsSound cA ad N orderSize reached blw meetingUses homeBlock homePlace) → va_S A s.heap H locs → lpNamedForm_areMeetingsSound_2 N v1 blw meetingUses homeBlock homePlace post k v2_L2 → W p l e (headSpec (Cond.code yNamedForm_areMeetingsSound cNamedForm_areMeetingsSound 4 (some .boolean) :: xW) rmNamedForm_areMeetingsSound).room s m ([.ref (ad 18), .int v1] : List Value).toArray below meth c H locs 0 0 Q (F0 m 2 ls []) := by
    intro k
    induction k with
    | zero => intro v2_L2 ls H locs hl hP hD hS hw; exact False.elim hw
    | succ k ih =>
      intro v2_L2 ls H locs hl hP hD hS hw
      refine lv_iload_n hx hb dNamedForm_areMeetingsSound_2 rfl (lv_at hl 2 rfl) ?_
      refine lv_bipush (v := 6) hx hb dNamedForm_areMeetingsSound_3 (by decide) ?_
      refine lv_icmp_ge (tgt := 54) hx hb dNamedForm_areMeetingsSound_5 rfl (fun hc => ?_) (fun hc => ?_)
      · have hw := hw.1 hc
        refine lv_iconst (v := 1) hx hb dNamedForm_areMeetingsSound_54 (by decide) ?_
        exact hend true _ _ _ _ dNamedForm_areMeetingsSound_55 hP hD hS hw
      · have hw := hw.2 hc
        refine lv_iconst (v := 0) hx hb dNamedForm_areMeetingsSound_8 (by decide) ?_
        refine lv_istore_n (lv' := [(3, .int 0), (0, .ref (ad 18)), (1, .int v1), (2, .int v2_L2)]) hx hb dNamedForm_areMeetingsSound_9 rfl hl (by decide) rfl (fun ls hl => ?_)
        obtain ⟨k10, hw⟩ := hw
        have hlp10 : ∀ (K48 : Int32 → Prop), (∀ (v3_x48 : Int32) (ls : Array Slot) (H : Heap) (locs : List Loc), lv_has ls 4 [(0, .ref (ad 18)), (1, .int v1), (2, .int v2_L2), (3, .int v3_x48)] → va_P D vwCl (wdNamedForm_areMeetingsSound cA ad N orderSize reached blw meetingUses homeBlock homePlace) H → va_D A (wdNamedForm_areMeetingsSound cA ad N orderSize reached blw meetingUses homeBlock homePlace) → va_S A s.heap H locs → K48 v3_x48 → W p l e (headSpec (Cond.code yNamedForm_areMeetingsSound cNamedForm_areMeetingsSound 4 (some .boolean) :: xW) rmNamedForm_areMeetingsSound).room s m ([.ref (ad 18), .int v1] : List Value).toArray below meth c H locs 0 0 Q (F0 m 48 ls [])) → ∀ (k : Nat), ∀ (v3_L10 : Int32) (ls : Array Slot) (H : Heap) (locs : List Loc), lv_has ls 4 [(0, .ref (ad 18)), (1, .int v1), (2, .int v2_L2), (3, .int v3_L10)] → va_P D vwCl (wdNamedForm_areMeetingsSound cA ad N orderSize reached blw meetingUses homeBlock homePlace) H → va_D A (wdNamedForm_areMeetingsSound cA ad N orderSize reached blw meetingUses homeBlock homePlace) → va_S A s.heap H locs → lpNamedForm_areMeetingsSound_10 N v1 v2_L2 blw meetingUses homeBlock homePlace post K48 k v3_L10 → W p l e (headSpec (Cond.code yNamedForm_areMeetingsSound cNamedForm_areMeetingsSound 4 (some .boolean) :: xW) rmNamedForm_areMeetingsSound).room s m ([.ref (ad 18), .int v1] : List Value).toArray below meth c H locs 0 0 Q (F0 m 10 ls []) := by
          intro K48 hK48 k
          induction k with
          | zero => intro v3_L10 ls H locs hl hP hD hS hw; exact False.elim hw
          | succ k ih =>
            intro v3_L10 ls H locs hl hP hD hS hw
            refine lv_iload_n hx hb dNamedForm_areMeetingsSound_10 rfl (lv_at hl 3 rfl) ?_
            refine lv_aload_n hx hb dNamedForm_areMeetingsSound_11 rfl (lv_at hl 0 rfl) ?_
            refine va_get (D := D) (ci := 3) (v := .int (nI N)) (C := "OnceNamed$NamedForm") (T := TX3) (N := 14) hx hb hts (fun w h => List.mem_cons_of_mem _ (inX3 w h)) hown hK hP 2 rfl rfl 2 (by decide) (hts _ (List.mem_cons_of_mem _ kw_122)) (fun _ h9 => h9) rfl dNamedForm_areMeetingsSound_12 ?_
            refine lv_icmp_gt (tgt := 48) hx hb dNamedForm_areMeetingsSound_15 rfl (fun hc => ?_) (fun hc => ?_)
            · have hw := hw.1 hc
              exact hK48 v3_L10 _ _ _ (lv_sub hl [0, 1, 2, 3] rfl) hP hD hS hw
            · have hw := hw.2 hc
              refine lv_aload_n hx hb dNamedForm_areMeetingsSound_18 rfl (lv_at hl 0 rfl) ?_
              refine lv_aload_n hx hb dNamedForm_areMeetingsSound_19 rfl (lv_at hl 0 rfl) ?_
              refine va_get (D := D) (ci := 3) (v := .ref (ad 20)) (C := "OnceNamed$NamedForm") (T := TX3) (N := 14) hx hb hts (fun w h => List.mem_cons_of_mem _ (inX3 w h)) hown hK hP 2 rfl rfl 4 (by decide) (hts _ (List.mem_cons_of_mem _ kw_124)) (fun _ h9 => h9) rfl dNamedForm_areMeetingsSound_20 ?_
              refine lv_aload_n hx hb dNamedForm_areMeetingsSound_23 rfl (lv_at hl 0 rfl) ?_
              refine lv_iload_n hx hb dNamedForm_areMeetingsSound_24 rfl (lv_at hl 1 rfl) ?_
              refine lv_iload_n hx hb dNamedForm_areMeetingsSound_25 rfl (lv_at hl 2 rfl) ?_
              refine lv_iload_n hx hb dNamedForm_areMeetingsSound_26 rfl (lv_at hl 3 rfl) ?_
              refine xci (va_runV ⟨hx, hb, hml, hown, hts⟩ (ktNamedForm_useOfMeeting l D cA ad N _ v1 v2_L2 v3_L10 _ hw) (cwV 3 hts (goodV kw_397 kw_399 ks_1_13 kw_6 kw_400) rfl rfl rfl (by decide +kernel) ⟨Nat.le_of_ble_eq_true rfl, Nat.le_of_ble_eq_true rfl⟩) (xpreV hK hP hD hN [2] rfl rfl 2 rfl rfl) rfl rfl hl.1 rfl (lv_room (Nat.le_of_ble_eq_true rfl)) dNamedForm_areMeetingsSound_27 ⟨Nat.le_of_ble_eq_true rfl, Nat.le_of_ble_eq_true rfl⟩) hP hD hS hA [2] [0, 1, 3, 4, 5] rfl rfl rfl rfl [0, 1, 5, 2, 3, 4] rfl (fun _ => rfl) (fun r27 u H locs hw hP hD hS => ?_)
              have hP : va_P D vwCl (wdNamedForm_areMeetingsSound cA ad N orderSize reached blw meetingUses homeBlock homePlace) H := hP
              have hD : va_D A (wdNamedForm_areMeetingsSound cA ad N orderSize reached blw meetingUses homeBlock homePlace) := hD
              have ho := hw.1
              have hw := hw.2
              refine va_iald hx hb hK hP 3 0 rfl rfl ho dNamedForm_areMeetingsSound_30 ?_
              refine lv_iload_n hx hb dNamedForm_areMeetingsSound_31 rfl (lv_at hl 3 rfl) ?_
              refine lv_bipush (v := 6) hx hb dNamedForm_areMeetingsSound_32 (by decide) ?_
              refine xci (va_runV ⟨hx, hb, hml, hown, hts⟩ (ktNamedForm_isUseSound l D cA ad N _ orderSize reached blw homeBlock homePlace (meetingUses (Int32.toNatClampNeg r27)) v3_L10 6 _ hw) (cwV 3 hts (goodV kw_596 kw_598 ks_2_3 kw_6 kw_599) rfl rfl rfl (by decide +kernel) ⟨Nat.le_of_ble_eq_true rfl, Nat.le_of_ble_eq_true rfl⟩) (xpreV hK hP hD hN [0, 1, 2, 4, 5] rfl rfl 2 rfl rfl) rfl rfl hl.1 rfl (lv_room (Nat.le_of_ble_eq_true rfl)) dNamedForm_areMeetingsSound_34 ⟨Nat.le_of_ble_eq_true rfl, Nat.le_of_ble_eq_true rfl⟩) hP hD hS hA [0, 1, 2, 4, 5] [3] rfl rfl rfl rfl [1, 2, 3, 0, 4, 5] rfl (fun _ => rfl) (fun r34 u H locs hw hP hD hS => ?_)
              obtain ⟨r34, rfl, hw⟩ := hw
              have hP : va_P D vwCl (wdNamedForm_areMeetingsSound cA ad N orderSize reached blw meetingUses homeBlock homePlace) H := hP
              have hD : va_D A (wdNamedForm_areMeetingsSound cA ad N orderSize reached blw meetingUses homeBlock homePlace) := hD
              refine lv_if_ne (tgt := 42) hx hb dNamedForm_areMeetingsSound_37 rfl (fun hc => ?_) (fun hc => ?_)
              · have hw := hw.1 (bI_1 hc)
                refine lv_iinc (k := 3) (v := (v3_L10 + 1)) (lv' := [(3, .int (v3_L10 + 1)), (0, .ref (ad 18)), (1, .int v1), (2, .int v2_L2)]) hx hb dNamedForm_areMeetingsSound_42 hl rfl rfl (by decide) rfl (fun ls hl => ?_)
                refine lv_goto (tgt := 10) hx hb dNamedForm_areMeetingsSound_45 rfl ?_
                exact ih (v3_L10 + 1) _ _ _ (lv_sub hl [1, 2, 3, 0] rfl) hP hD hS hw
              · have hw := hw.2 (bI_0 hc)
                refine lv_iconst (v := 0) hx hb dNamedForm_areMeetingsSound_40 (by decide) ?_
                exact hend false _ _ _ _ dNamedForm_areMeetingsSound_41 hP hD hS hw
        refine hlp10 _ ?_ k10 0 _ _ _ (lv_sub hl [1, 2, 3, 0] rfl) hP hD hS hw
        intro v3_x48 ls H locs hl hP hD hS hw
        try dsimp only at hw
        refine lv_iinc (k := 2) (v := (v2_L2 + 1)) (lv' := [(2, .int (v2_L2 + 1)), (0, .ref (ad 18)), (1, .int v1), (3, .int v3_x48)]) hx hb dNamedForm_areMeetingsSound_48 hl rfl rfl (by decide) rfl (fun ls hl => ?_)
        refine lv_goto (tgt := 2) hx hb dNamedForm_areMeetingsSound_51 rfl ?_
        exact ih (v2_L2 + 1) _ _ _ (lv_sub hl [1, 2, 0] rfl) hP hD hS hw
  refine hlp2 k2 0 _ _ _ (lv_sub hl [1, 2, 0] rfl) hP hD hS hw
abbrev wdNamedForm_isSound (cA : ClassId) (ad : Nat → Nat) (N : Nat) (stepCount : Nat → Int32) (orderSize : Int32) (reached : Int32) (blw : Nat → Int32) (order : Nat → Int32) (meetingUses : Nat → Int32) (firstUses : Nat → Int32) (secondUses : Nat → Int32) (endUses : Nat → Int32) (homeBlock : Nat → Int32) (homePlace : Nat → Int32) : va_W := [((ad 1), .inr (1, [.int (nI N), .ref (ad 2), .ref (ad 3), .ref (ad 4), .ref (ad 5), .ref (ad 6), .ref (ad 7), .ref (ad 8), .ref (ad 9), .ref (ad 10)])), ((ad 2), .inl (cA, N, .inl stepCount)), ((ad 11), .inr (2, [.int (nI N), .ref (ad 12), .ref (ad 13), .ref (ad 14), .ref (ad 15), .ref (ad 16), .ref (ad 17), .int orderSize, .int reached])), ((ad 13), .inl (cA, N, .inl blw)), ((ad 16), .inl (cA, N, .inl order)), ((ad 18), .inr (3, [.ref (ad 1), .ref (ad 11), .int (nI N), .ref (ad 19), .ref (ad 20), .ref (ad 21), .ref (ad 22), .ref (ad 23), .ref (ad 24), .ref (ad 25), .ref (ad 26), .ref (ad 27), .ref (ad 28), .ref (ad 29)])), ((ad 20), .inl (cA, N * 6 * (N + 1), .inl meetingUses)), ((ad 22), .inl (cA, N * 6, .inl firstUses)), ((ad 23), .inl (cA, N * 6, .inl secondUses)), ((ad 24), .inl (cA, N, .inl endUses)), ((ad 27), .inl (cA, 600, .inl homeBlock)), ((ad 28), .inl (cA, 600, .inl homePlace))]
abbrev qcNamedForm_isSound (D : va_G) (cA : ClassId) (ad : Nat → Nat) (N : Nat) (stepCount : Nat → Int32) (orderSize : Int32) (reached : Int32) (blw : Nat → Int32) (order : Nat → Int32) (meetingUses : Nat → Int32) (firstUses : Nat → Int32) (secondUses : Nat → Int32) (endUses : Nat → Int32) (homeBlock : Nat → Int32) (homePlace : Nat → Int32) (post : Bool → Prop) (A : Nat → Prop) : Array Value → State → Outcome → State → Prop := va_Qi (S := Unit) (fun r u => ∃ z : Bool, r = bI z ∧ post z ) (fun u t => xB D cA A (wdNamedForm_isSound cA ad N stepCount orderSize reached blw order meetingUses firstUses secondUses endUses homeBlock homePlace) t) A
abbrev rmNamedForm_isSound : Room := { frames := 4, cells := 0, slots := 0, locals := 90 }
set_option maxHeartbeats 4000000 in
set_option maxRecDepth 100000 in
theorem ktNamedForm_isSound (l : Launch) (D : va_G) (cA : ClassId) (ad : Nat → Nat) (N : Nat) (sz : Nat) (stepCount : Nat → Int32) (orderSize : Int32) (reached : Int32) (blw : Nat → Int32) (order : Nat → Int32) (meetingUses : Nat → Int32) (firstUses : Nat → Int32) (secondUses : Nat → Int32) (endUses : Nat → Int32) (homeBlock : Nat → Int32) (homePlace : Nat → Int32)  (post : Bool → Prop) (hw : wpNamedForm_isSound N stepCount orderSize blw order meetingUses firstUses secondUses endUses homeBlock homePlace post) : Met l yNamedForm_isSound (Cond.code yNamedForm_isSound cNamedForm_isSound 3 (some .boolean) :: xW) rmNamedForm_isSound (va_Pc [.ref (ad 18)] (xPc D cA (wdNamedForm_isSound cA ad N stepCount orderSize reached blw order meetingUses firstUses secondUses endUses homeBlock homePlace) sz)) (qcNamedForm_isSound D cA ad N stepCount orderSize reached blw order meetingUses firstUses secondUses endUses homeBlock homePlace post (va_A (wdNamedForm_isSound cA ad N stepCount orderSize reached blw order meetingUses firstUses secondUses endUses homeBlock homePlace) sz)) 0 0 (va_A (wdNamedForm_isSound cA ad N stepCount orderSize reached blw order meetingUses firstUses secondUses endUses homeBlock homePlace) sz) := by
  refine Met.ofW (cc := cNamedForm_isSound) (maxL := 3) (ret := (some .boolean)) (by decide) rfl ?_
  intro p e s m args below meth c s₁ B hml hv
  obtain ⟨rfl, hsz, hP, hK, hD0, hN⟩ := hv
  have hx := B.exec
  have hb := B.bytes
  have hr := B.returns
  have hts := atoms_spec (ws := (Cond.code yNamedForm_isSound cNamedForm_isSound 3 (some .boolean) :: xW)) B.pre
  have hown : s.vm.findClass "OnceNamed$NamedForm" = some m.cls := findClass_of_methodNamed B.named
  have hlocks := B.notSynchronized
  subst hsz
  have hD := hD0.self (sz := s.heap.size)
  generalize hAe : va_A (wdNamedForm_isSound cA ad N stepCount orderSize reached blw order meetingUses firstUses secondUses endUses homeBlock homePlace) s.heap.size = A at hD ⊢
  have hA : ∀ q : Nat, s.heap.size ≤ q → A q := fun q h => by rw [← hAe]; exact Or.inr h
  have hS : va_S A s.heap s.heap [] := va_S.rf
  have hend : ∀ (r : Bool)  (H : Heap) (locs : List Loc) (pc : Nat) (ls : Array Slot), decode cNamedForm_isSound pc = .ok (.ireturn, 1) → va_P D vwCl (wdNamedForm_isSound cA ad N stepCount orderSize reached blw order meetingUses firstUses secondUses endUses homeBlock homePlace) H → va_D A (wdNamedForm_isSound cA ad N stepCount orderSize reached blw order meetingUses firstUses secondUses endUses homeBlock homePlace) → va_S A s.heap H locs → post r  → W p l e (headSpec (Cond.code yNamedForm_isSound cNamedForm_isSound 3 (some .boolean) :: xW) rmNamedForm_isSound).room s m ([.ref (ad 18)] : List Value).toArray below meth c H locs 0 0 (MQ below (qcNamedForm_isSound D cA ad N stepCount orderSize reached blw order meetingUses firstUses secondUses endUses homeBlock homePlace post A) ([.ref (ad 18)] : List Value).toArray s 0 0 A) (F0 m pc ls [.int (bI r)]) := fun r  H locs pc ls hd hP hD hS hw => W.zret (v := bI r) hx hb hr (bI_nar r) (fun t ht hW => ⟨⟨bI r, (), rfl, ⟨r, rfl, hw⟩, ⟨by rw [ht]; exact hP, va_K.moved hW.alike hK, hD⟩⟩, hS.F ht⟩) hS.2.2 hd
  generalize hQ : MQ below (qcNamedForm_isSound D cA ad N stepCount orderSize reached blw order meetingUses firstUses secondUses endUses homeBlock homePlace post A) ([.ref (ad 18)] : List Value).toArray s 0 0 A = Q at hend ⊢
  have hl := lv_entry ([.ref (ad 18)]) (n := 3) (Nat.le_of_ble_eq_true rfl)
  rw [lg_entry_eq]
  generalize (lg_sl ([.ref (ad 18)]) ++ List.replicate (3 - (lg_sl ([.ref (ad 18)])).length) Slot.unset).toArray = ls at hl ⊢
  have hl : lv_has ls 3 [(0, .ref (ad 18))] := hl
  unfold wpNamedForm_isSound at hw
  refine lv_iconst (v := 0) hx hb dNamedForm_isSound_0 (by decide) ?_
  refine lv_istore_n (lv' := [(1, .int 0), (0, .ref (ad 18))]) hx hb dNamedForm_isSound_1 rfl hl (by decide) rfl (fun ls hl => ?_)
  obtain ⟨k2, hw⟩ := hw
  have hlp2 : ∀ (k : Nat), ∀ (v1_L2 : Int32) (ls : Array Slot) (H : Heap) (locs : List Loc), lv_has ls 3 [(0, .ref (ad 18)), (1, .int v1_L2)] → va_P D vwCl (wdNamedForm_isSound cA ad N stepCount orderSize reached blw order meetingUses firstUses secondUses endUses homeBlock homePlace) H → va_D A (wdNamedForm_isSound cA ad N stepCount orderSize reached blw order meetingUses firstUses secondUses endUses homeBlock homePlace) → va_S A s.heap H locs → lpNamedForm_isSound_2 N stepCount orderSize blw order meetingUses firstUses secondUses endUses homeBlock homePlace post k v1_L2 → W p l e (headSpec (Cond.code yNamedForm_isSound cNamedForm_isSound 3 (some .boolean) :: xW) rmNamedForm_isSound).room s m ([.ref (ad 18)] : List Value).toArray below meth c H locs 0 0 Q (F0 m 2 ls []) := by
    intro k
    induction k with
    | zero => intro v1_L2 ls H locs hl hP hD hS hw; exact False.elim hw
    | succ k ih =>
      intro v1_L2 ls H locs hl hP hD hS hw
      refine lv_iload_n hx hb dNamedForm_isSound_2 rfl (lv_at hl 1 rfl) ?_
      refine lv_aload_n hx hb dNamedForm_isSound_3 rfl (lv_at hl 0 rfl) ?_
      refine va_get (D := D) (ci := 3) (v := .ref (ad 11)) (C := "OnceNamed$NamedForm") (T := TX3) (N := 14) hx hb hts (fun w h => List.mem_cons_of_mem _ (inX3 w h)) hown hK hP 5 rfl rfl 1 (by decide) (hts _ (List.mem_cons_of_mem _ kw_121)) (fun _ h9 => h9) rfl dNamedForm_isSound_4 ?_
      dsimp only [lpNamedForm_isSound_2] at hw
      refine xci (va_runV ⟨hx, hb, hml, hown, hts⟩ (ktGraph_reachedCount l D cA ad N _ orderSize reached _ hw) (cwV 0 hts (goodV kw_315 kw_316 kw_317 kw_5 kw_318) rfl rfl rfl (by decide +kernel) ⟨Nat.le_of_ble_eq_true rfl, Nat.le_of_ble_eq_true rfl⟩) (xpreV hK hP hD hN [2] rfl rfl 2 rfl rfl) rfl rfl hl.1 rfl (lv_room (Nat.le_of_ble_eq_true rfl)) dNamedForm_isSound_7 ⟨Nat.le_of_ble_eq_true rfl, Nat.le_of_ble_eq_true rfl⟩) hP hD hS hA [2] [0, 1, 3, 4, 5, 6, 7, 8, 9, 10, 11] rfl rfl rfl rfl [0, 1, 11, 2, 3, 4, 5, 6, 7, 8, 9, 10] rfl (fun _ => rfl) (fun r7 u H locs hw hP hD hS => ?_)
      have hP : va_P D vwCl (wdNamedForm_isSound cA ad N stepCount orderSize reached blw order meetingUses firstUses secondUses endUses homeBlock homePlace) H := hP
      have hD : va_D A (wdNamedForm_isSound cA ad N stepCount orderSize reached blw order meetingUses firstUses secondUses endUses homeBlock homePlace) := hD
      refine lv_icmp_ge (tgt := 46) hx hb dNamedForm_isSound_10 rfl (fun hc => ?_) (fun hc => ?_)
      · have hw := hw.1 hc
        refine lv_iconst (v := 1) hx hb dNamedForm_isSound_46 (by decide) ?_
        exact hend true _ _ _ _ dNamedForm_isSound_47 hP hD hS hw
      · have hw := hw.2 hc
        refine lv_aload_n hx hb dNamedForm_isSound_13 rfl (lv_at hl 0 rfl) ?_
        refine va_get (D := D) (ci := 3) (v := .ref (ad 11)) (C := "OnceNamed$NamedForm") (T := TX3) (N := 14) hx hb hts (fun w h => List.mem_cons_of_mem _ (inX3 w h)) hown hK hP 5 rfl rfl 1 (by decide) (hts _ (List.mem_cons_of_mem _ kw_121)) (fun _ h9 => h9) rfl dNamedForm_isSound_14 ?_
        refine lv_iload_n hx hb dNamedForm_isSound_17 rfl (lv_at hl 1 rfl) ?_
        refine xci (va_runV ⟨hx, hb, hml, hown, hts⟩ (ktGraph_inOrder l D cA ad N _ orderSize reached order v1_L2 _ hw) (cwV 1 hts (goodV kw_319 kw_320 kw_321 kw_5 kw_322) rfl rfl rfl (by decide +kernel) ⟨Nat.le_of_ble_eq_true rfl, Nat.le_of_ble_eq_true rfl⟩) (xpreV hK hP hD hN [2, 4] rfl rfl 2 rfl rfl) rfl rfl hl.1 rfl (lv_room (Nat.le_of_ble_eq_true rfl)) dNamedForm_isSound_18 ⟨Nat.le_of_ble_eq_true rfl, Nat.le_of_ble_eq_true rfl⟩) hP hD hS hA [2, 4] [0, 1, 3, 5, 6, 7, 8, 9, 10, 11] rfl rfl rfl rfl [0, 1, 10, 2, 11, 3, 4, 5, 6, 7, 8, 9] rfl (fun _ => rfl) (fun r18 u H locs hw hP hD hS => ?_)
        have hP : va_P D vwCl (wdNamedForm_isSound cA ad N stepCount orderSize reached blw order meetingUses firstUses secondUses endUses homeBlock homePlace) H := hP
        have hD : va_D A (wdNamedForm_isSound cA ad N stepCount orderSize reached blw order meetingUses firstUses secondUses endUses homeBlock homePlace) := hD
        refine lv_istore_n (lv' := [(2, .int r18), (0, .ref (ad 18)), (1, .int v1_L2)]) hx hb dNamedForm_isSound_21 rfl hl (by decide) rfl (fun ls hl => ?_)
        refine lv_aload_n hx hb dNamedForm_isSound_22 rfl (lv_at hl 1 rfl) ?_
        refine lv_iload_n hx hb dNamedForm_isSound_23 rfl (lv_at hl 0 rfl) ?_
        refine xci (va_runV ⟨hx, hb, hml, hown, hts⟩ (ktNamedForm_isBlockSound l D cA ad N _ stepCount orderSize reached blw firstUses secondUses endUses homeBlock homePlace r18 _ hw) (cwV 1 hts (goodV kw_592 kw_594 ks_2_2 kw_6 kw_595) rfl rfl rfl (by decide +kernel) ⟨Nat.le_of_ble_eq_true rfl, Nat.le_of_ble_eq_true rfl⟩) (xpreV hK hP hD hN [0, 1, 2, 3, 5, 7, 8, 9, 10, 11] rfl rfl 5 rfl rfl) rfl rfl hl.1 rfl (lv_room (Nat.le_of_ble_eq_true rfl)) dNamedForm_isSound_24 ⟨Nat.le_of_ble_eq_true rfl, Nat.le_of_ble_eq_true rfl⟩) hP hD hS hA [0, 1, 2, 3, 5, 7, 8, 9, 10, 11] [4, 6] rfl rfl rfl rfl [2, 3, 4, 5, 0, 6, 1, 7, 8, 9, 10, 11] rfl (fun _ => rfl) (fun r24 u H locs hw hP hD hS => ?_)
        obtain ⟨r24, rfl, hw⟩ := hw
        have hP : va_P D vwCl (wdNamedForm_isSound cA ad N stepCount orderSize reached blw order meetingUses firstUses secondUses endUses homeBlock homePlace) H := hP
        have hD : va_D A (wdNamedForm_isSound cA ad N stepCount orderSize reached blw order meetingUses firstUses secondUses endUses homeBlock homePlace) := hD
        refine lv_if_eq (tgt := 38) hx hb dNamedForm_isSound_27 rfl (fun hc => ?_) (fun hc => ?_)
        · have hw := hw.1 (bI_0 hc)
          refine lv_iconst (v := 0) hx hb dNamedForm_isSound_38 (by decide) ?_
          exact hend false _ _ _ _ dNamedForm_isSound_39 hP hD hS hw
        · have hw := hw.2 (bI_1 hc)
          refine lv_aload_n hx hb dNamedForm_isSound_30 rfl (lv_at hl 1 rfl) ?_
          refine lv_iload_n hx hb dNamedForm_isSound_31 rfl (lv_at hl 0 rfl) ?_
          refine xci (va_runV ⟨hx, hb, hml, hown, hts⟩ (ktNamedForm_areMeetingsSound l D cA ad N _ orderSize reached blw meetingUses homeBlock homePlace r18 _ hw) (cwV 1 hts (goodV kw_604 kw_606 ks_2_4 kw_6 kw_607) rfl rfl rfl (by decide +kernel) ⟨Nat.le_of_ble_eq_true rfl, Nat.le_of_ble_eq_true rfl⟩) (xpreV hK hP hD hN [2, 3, 5, 6, 10, 11] rfl rfl 5 rfl rfl) rfl rfl hl.1 rfl (lv_room (Nat.le_of_ble_eq_true rfl)) dNamedForm_isSound_32 ⟨Nat.le_of_ble_eq_true rfl, Nat.le_of_ble_eq_true rfl⟩) hP hD hS hA [2, 3, 5, 6, 10, 11] [0, 1, 4, 7, 8, 9] rfl rfl rfl rfl [0, 1, 6, 7, 2, 8, 9, 3, 4, 5, 10, 11] rfl (fun _ => rfl) (fun r32 u H locs hw hP hD hS => ?_)
          obtain ⟨r32, rfl, hw⟩ := hw
          have hP : va_P D vwCl (wdNamedForm_isSound cA ad N stepCount orderSize reached blw order meetingUses firstUses secondUses endUses homeBlock homePlace) H := hP
          have hD : va_D A (wdNamedForm_isSound cA ad N stepCount orderSize reached blw order meetingUses firstUses secondUses endUses homeBlock homePlace) := hD
          refine lv_if_ne (tgt := 40) hx hb dNamedForm_isSound_35 rfl (fun hc => ?_) (fun hc => ?_)
          · have hw := hw.1 (bI_1 hc)
            refine lv_iinc (k := 2) (v := (v1_L2 + 1)) (lv' := [(1, .int (v1_L2 + 1)), (2, .int r18), (0, .ref (ad 18))]) hx hb dNamedForm_isSound_40 hl rfl rfl (by decide) rfl (fun ls hl => ?_)
            refine lv_goto (tgt := 2) hx hb dNamedForm_isSound_43 rfl ?_
            exact ih (v1_L2 + 1) _ _ _ (lv_sub hl [2, 0] rfl) hP hD hS hw
          · have hw := hw.2 (bI_0 hc)
            refine lv_iconst (v := 0) hx hb dNamedForm_isSound_38 (by decide) ?_
            exact hend false _ _ _ _ dNamedForm_isSound_39 hP hD hS hw
  refine hlp2 k2 0 _ _ _ (lv_sub hl [1, 0] rfl) hP hD hS hw
abbrev wdNamedForm_replaceAll (cA : ClassId) (ad : Nat → Nat) (N : Nat) (R1a : Nat) (R1n : Nat) (standsFor : Nat → Int32) (R1c : Nat → Int32) : va_W := [((ad 18), .inr (3, [.ref (ad 1), .ref (ad 11), .int (nI N), .ref (ad 19), .ref (ad 20), .ref (ad 21), .ref (ad 22), .ref (ad 23), .ref (ad 24), .ref (ad 25), .ref (ad 26), .ref (ad 27), .ref (ad 28), .ref (ad 29)])), ((ad 29), .inl (cA, 600, .inl standsFor)), (R1a, .inl (cA, R1n, .inl R1c))]
abbrev qcNamedForm_replaceAll (D : va_G) (cA : ClassId) (ad : Nat → Nat) (N : Nat) (R1a : Nat) (R1n : Nat) (standsFor : Nat → Int32) (R1c : Nat → Int32) (post : (Nat → Int32) → Prop) (A : Nat → Prop) : Array Value → State → Outcome → State → Prop := va_Qv (S := (Nat → Int32)) (fun u => post u) (fun u t => xB D cA A (wdNamedForm_replaceAll cA ad N R1a R1n standsFor u) t) A
abbrev rmNamedForm_replaceAll : Room := { frames := 0, cells := 0, slots := 0, locals := 0 }
set_option maxHeartbeats 4000000 in
set_option maxRecDepth 100000 in
theorem ktNamedForm_replaceAll (l : Launch) (D : va_G) (cA : ClassId) (ad : Nat → Nat) (N : Nat) (R1a : Nat) (R1n : Nat) (sz : Nat) (standsFor : Nat → Int32) (R1c : Nat → Int32)  (post : (Nat → Int32) → Prop) (hw : wpNamedForm_replaceAll R1n standsFor R1c post) : Met l yNamedForm_replaceAll (Cond.code yNamedForm_replaceAll cNamedForm_replaceAll 3 none :: xW) rmNamedForm_replaceAll (va_Pc [.ref (ad 18), .ref R1a] (xPc D cA (wdNamedForm_replaceAll cA ad N R1a R1n standsFor R1c) sz)) (qcNamedForm_replaceAll D cA ad N R1a R1n standsFor R1c post (va_A (wdNamedForm_replaceAll cA ad N R1a R1n standsFor R1c) sz)) 0 0 (va_A (wdNamedForm_replaceAll cA ad N R1a R1n standsFor R1c) sz) := by
  refine Met.ofW (cc := cNamedForm_replaceAll) (maxL := 3) (ret := none) (by decide) rfl ?_
  intro p e s m args below meth c s₁ B hml hv
  obtain ⟨rfl, hsz, hP, hK, hD0, hN⟩ := hv
  have hx := B.exec
  have hb := B.bytes
  have hr := B.returns
  have hts := atoms_spec (ws := (Cond.code yNamedForm_replaceAll cNamedForm_replaceAll 3 none :: xW)) B.pre
  have hown : s.vm.findClass "OnceNamed$NamedForm" = some m.cls := findClass_of_methodNamed B.named
  have hlocks := B.notSynchronized
  subst hsz
  have hD := hD0.self (sz := s.heap.size)
  generalize hAe : va_A (wdNamedForm_replaceAll cA ad N R1a R1n standsFor R1c) s.heap.size = A at hD ⊢
  have hA : ∀ q : Nat, s.heap.size ≤ q → A q := fun q h => by rw [← hAe]; exact Or.inr h
  have hS : va_S A s.heap s.heap [] := va_S.rf
  have hend : ∀ (u0 : Nat → Int32) (H : Heap) (locs : List Loc) (pc : Nat) (ls : Array Slot), decode cNamedForm_replaceAll pc = .ok (.return_, 1) → va_P D vwCl (wdNamedForm_replaceAll cA ad N R1a R1n standsFor u0) H → va_D A (wdNamedForm_replaceAll cA ad N R1a R1n standsFor u0) → va_S A s.heap H locs → post u0 → W p l e (headSpec (Cond.code yNamedForm_replaceAll cNamedForm_replaceAll 3 none :: xW) rmNamedForm_replaceAll).room s m ([.ref (ad 18), .ref R1a] : List Value).toArray below meth c H locs 0 0 (MQ below (qcNamedForm_replaceAll D cA ad N R1a R1n standsFor R1c post A) ([.ref (ad 18), .ref R1a] : List Value).toArray s 0 0 A) (F0 m pc ls []) := fun u0 H locs pc ls hd hP hD hS hw => W.vret hx hb hr (fun t ht hW => ⟨⟨u0, rfl, hw, ⟨by rw [ht]; exact hP, va_K.moved hW.alike hK, hD⟩⟩, hS.F ht⟩) hS.2.2 hd
  generalize hQ : MQ below (qcNamedForm_replaceAll D cA ad N R1a R1n standsFor R1c post A) ([.ref (ad 18), .ref R1a] : List Value).toArray s 0 0 A = Q at hend ⊢
  have hl := lv_entry ([.ref (ad 18), .ref R1a]) (n := 3) (Nat.le_of_ble_eq_true rfl)
  rw [lg_entry_eq]
  generalize (lg_sl ([.ref (ad 18), .ref R1a]) ++ List.replicate (3 - (lg_sl ([.ref (ad 18), .ref R1a])).length) Slot.unset).toArray = ls at hl ⊢
  have hl : lv_has ls 3 [(0, .ref (ad 18)), (1, .ref R1a)] := hl
  unfold wpNamedForm_replaceAll at hw
  refine lv_iconst (v := 0) hx hb dNamedForm_replaceAll_0 (by decide) ?_
  refine lv_istore_n (lv' := [(2, .int 0), (0, .ref (ad 18)), (1, .ref R1a)]) hx hb dNamedForm_replaceAll_1 rfl hl (by decide) rfl (fun ls hl => ?_)
  obtain ⟨k2, hw⟩ := hw
  have hlp2 : ∀ (k : Nat), ∀ (v2_L2 : Int32) (R1c_L2 : Nat → Int32) (ls : Array Slot) (H : Heap) (locs : List Loc), lv_has ls 3 [(0, .ref (ad 18)), (1, .ref R1a), (2, .int v2_L2)] → va_P D vwCl (wdNamedForm_replaceAll cA ad N R1a R1n standsFor R1c_L2) H → va_D A (wdNamedForm_replaceAll cA ad N R1a R1n standsFor R1c_L2) → va_S A s.heap H locs → lpNamedForm_replaceAll_2 R1n standsFor post k v2_L2 R1c_L2 → W p l e (headSpec (Cond.code yNamedForm_replaceAll cNamedForm_replaceAll 3 none :: xW) rmNamedForm_replaceAll).room s m ([.ref (ad 18), .ref R1a] : List Value).toArray below meth c H locs 0 0 Q (F0 m 2 ls []) := by
    intro k
    induction k with
    | zero => intro v2_L2 R1c_L2 ls H locs hl hP hD hS hw; exact False.elim hw
    | succ k ih =>
      intro v2_L2 R1c_L2 ls H locs hl hP hD hS hw
      refine lv_iload_n hx hb dNamedForm_replaceAll_2 rfl (lv_at hl 2 rfl) ?_
      refine lv_aload_n hx hb dNamedForm_replaceAll_3 rfl (lv_at hl 1 rfl) ?_
      refine va_alen (v := nI R1n) hx hb hK hP 2 0 rfl rfl rfl dNamedForm_replaceAll_4 ?_
      refine lv_icmp_ge (tgt := 32) hx hb dNamedForm_replaceAll_5 rfl (fun hc => ?_) (fun hc => ?_)
      · have hw := hw.1 hc
        exact hend R1c_L2 _ _ _ _ dNamedForm_replaceAll_32 hP hD hS hw
      · have hw := hw.2 hc
        refine lv_aload_n hx hb dNamedForm_replaceAll_8 rfl (lv_at hl 1 rfl) ?_
        refine lv_iload_n hx hb dNamedForm_replaceAll_9 rfl (lv_at hl 2 rfl) ?_
        have ho := hw.1
        have hw := hw.2
        refine va_iald hx hb hK hP 2 0 rfl rfl ho dNamedForm_replaceAll_10 ?_
        refine lv_iconst (v := (-1)) hx hb dNamedForm_replaceAll_11 (by decide) ?_
        refine lv_icmp_eq (tgt := 26) hx hb dNamedForm_replaceAll_12 rfl (fun hc => ?_) (fun hc => ?_)
        · have hw := hw.1 hc
          refine lv_iinc (k := 2) (v := (v2_L2 + 1)) (lv' := [(2, .int (v2_L2 + 1)), (0, .ref (ad 18)), (1, .ref R1a)]) hx hb dNamedForm_replaceAll_26 hl rfl rfl (by decide) rfl (fun ls hl => ?_)
          refine lv_goto (tgt := 2) hx hb dNamedForm_replaceAll_29 rfl ?_
          exact ih (v2_L2 + 1) R1c_L2 _ _ _ (lv_sub hl [1, 2, 0] rfl) hP hD hS hw
        · have hw := hw.2 hc
          refine lv_aload_n hx hb dNamedForm_replaceAll_15 rfl (lv_at hl 1 rfl) ?_
          refine lv_iload_n hx hb dNamedForm_replaceAll_16 rfl (lv_at hl 2 rfl) ?_
          refine lv_aload_n hx hb dNamedForm_replaceAll_17 rfl (lv_at hl 0 rfl) ?_
          refine va_get (D := D) (ci := 3) (v := .ref (ad 29)) (C := "OnceNamed$NamedForm") (T := TX3) (N := 14) hx hb hts (fun w h => List.mem_cons_of_mem _ (inX3 w h)) hown hK hP 0 rfl rfl 13 (by decide) (hts _ (List.mem_cons_of_mem _ kw_133)) (fun _ h9 => h9) rfl dNamedForm_replaceAll_18 ?_
          refine lv_aload_n hx hb dNamedForm_replaceAll_21 rfl (lv_at hl 1 rfl) ?_
          refine lv_iload_n hx hb dNamedForm_replaceAll_22 rfl (lv_at hl 2 rfl) ?_
          have ho := hw.1
          have hw := hw.2
          refine va_iald hx hb hK hP 2 0 rfl rfl ho dNamedForm_replaceAll_23 ?_
          have ho := hw.1
          have hw := hw.2
          refine va_iald hx hb hK hP 1 0 rfl rfl ho dNamedForm_replaceAll_24 ?_
          have ho := hw.1
          have hw := hw.2
          refine va_iast hx hb hK hP hD hS 2 0 rfl rfl ho dNamedForm_replaceAll_25 (fun H locs hP hD hS => ?_)
          have hP : va_P D vwCl (wdNamedForm_replaceAll cA ad N R1a R1n standsFor (upd R1c_L2 (Int32.toNatClampNeg v2_L2) (standsFor (Int32.toNatClampNeg (R1c_L2 (Int32.toNatClampNeg v2_L2)))))) H := hP
          have hD : va_D A (wdNamedForm_replaceAll cA ad N R1a R1n standsFor (upd R1c_L2 (Int32.toNatClampNeg v2_L2) (standsFor (Int32.toNatClampNeg (R1c_L2 (Int32.toNatClampNeg v2_L2)))))) := hD
          refine lv_iinc (k := 2) (v := (v2_L2 + 1)) (lv' := [(2, .int (v2_L2 + 1)), (0, .ref (ad 18)), (1, .ref R1a)]) hx hb dNamedForm_replaceAll_26 hl rfl rfl (by decide) rfl (fun ls hl => ?_)
          refine lv_goto (tgt := 2) hx hb dNamedForm_replaceAll_29 rfl ?_
          exact ih (v2_L2 + 1) (upd R1c_L2 (Int32.toNatClampNeg v2_L2) (standsFor (Int32.toNatClampNeg (R1c_L2 (Int32.toNatClampNeg v2_L2))))) _ _ _ (lv_sub hl [1, 2, 0] rfl) hP hD hS hw
  refine hlp2 k2 0 R1c _ _ _ (lv_sub hl [1, 2, 0] rfl) hP hD hS hw
abbrev wdNamedForm_dropCopiesOf (cA : ClassId) (ad : Nat → Nat) (N : Nat) (stepCount : Nat → Int32) (kind : Nat → Int32) (stepNames : Nat → Int32) (firstUses : Nat → Int32) (homeBlock : Nat → Int32) (standsFor : Nat → Int32) : va_W := [((ad 1), .inr (1, [.int (nI N), .ref (ad 2), .ref (ad 3), .ref (ad 4), .ref (ad 5), .ref (ad 6), .ref (ad 7), .ref (ad 8), .ref (ad 9), .ref (ad 10)])), ((ad 2), .inl (cA, N, .inl stepCount)), ((ad 3), .inl (cA, N * 6, .inl kind)), ((ad 18), .inr (3, [.ref (ad 1), .ref (ad 11), .int (nI N), .ref (ad 19), .ref (ad 20), .ref (ad 21), .ref (ad 22), .ref (ad 23), .ref (ad 24), .ref (ad 25), .ref (ad 26), .ref (ad 27), .ref (ad 28), .ref (ad 29)])), ((ad 21), .inl (cA, N * 6, .inl stepNames)), ((ad 22), .inl (cA, N * 6, .inl firstUses)), ((ad 27), .inl (cA, 600, .inl homeBlock)), ((ad 29), .inl (cA, 600, .inl standsFor))]
abbrev qcNamedForm_dropCopiesOf (D : va_G) (cA : ClassId) (ad : Nat → Nat) (N : Nat) (stepCount : Nat → Int32) (kind : Nat → Int32) (stepNames : Nat → Int32) (firstUses : Nat → Int32) (homeBlock : Nat → Int32) (standsFor : Nat → Int32) (post : Int32 → (Nat → Int32) → (Nat → Int32) → (Nat → Int32) → (Nat → Int32) → Prop) (A : Nat → Prop) : Array Value → State → Outcome → State → Prop := va_Qi (S := (Nat → Int32) × (Nat → Int32) × (Nat → Int32) × (Nat → Int32)) (fun r u => post r u.1 u.2.1 u.2.2.1 u.2.2.2) (fun u t => xB D cA A (wdNamedForm_dropCopiesOf cA ad N stepCount kind u.1 u.2.1 u.2.2.1 u.2.2.2) t) A
abbrev rmNamedForm_dropCopiesOf : Room := { frames := 1, cells := 0, slots := 0, locals := 22 }
set_option maxHeartbeats 4000000 in
set_option maxRecDepth 100000 in
theorem ktNamedForm_dropCopiesOf (l : Launch) (D : va_G) (cA : ClassId) (ad : Nat → Nat) (N : Nat) (sz : Nat) (stepCount : Nat → Int32) (kind : Nat → Int32) (stepNames : Nat → Int32) (firstUses : Nat → Int32) (homeBlock : Nat → Int32) (standsFor : Nat → Int32) (v1 : Int32) (post : Int32 → (Nat → Int32) → (Nat → Int32) → (Nat → Int32) → (Nat → Int32) → Prop) (hw : wpNamedForm_dropCopiesOf N stepCount kind stepNames firstUses homeBlock standsFor v1 post) : Met l yNamedForm_dropCopiesOf (Cond.code yNamedForm_dropCopiesOf cNamedForm_dropCopiesOf 5 (some .int) :: xW) rmNamedForm_dropCopiesOf (va_Pc [.ref (ad 18), .int v1] (xPc D cA (wdNamedForm_dropCopiesOf cA ad N stepCount kind stepNames firstUses homeBlock standsFor) sz)) (qcNamedForm_dropCopiesOf D cA ad N stepCount kind stepNames firstUses homeBlock standsFor post (va_A (wdNamedForm_dropCopiesOf cA ad N stepCount kind stepNames firstUses homeBlock standsFor) sz)) 0 0 (va_A (wdNamedForm_dropCopiesOf cA ad N stepCount kind stepNames firstUses homeBlock standsFor) sz) := by
  refine Met.ofW (cc := cNamedForm_dropCopiesOf) (maxL := 5) (ret := (some .int)) (by decide) rfl ?_
  intro p e s m args below meth c s₁ B hml hv
  obtain ⟨rfl, hsz, hP, hK, hD0, hN⟩ := hv
  have hx := B.exec
  have hb := B.bytes
  have hr := B.returns
  have hts := atoms_spec (ws := (Cond.code yNamedForm_dropCopiesOf cNamedForm_dropCopiesOf 5 (some .int) :: xW)) B.pre
  have hown : s.vm.findClass "OnceNamed$NamedForm" = some m.cls := findClass_of_methodNamed B.named
  have hlocks := B.notSynchronized
  subst hsz
  have hD := hD0.self (sz := s.heap.size)
  generalize hAe : va_A (wdNamedForm_dropCopiesOf cA ad N stepCount kind stepNames firstUses homeBlock standsFor) s.heap.size = A at hD ⊢
  have hA : ∀ q : Nat, s.heap.size ≤ q → A q := fun q h => by rw [← hAe]; exact Or.inr h
  have hS : va_S A s.heap s.heap [] := va_S.rf
  have hend : ∀ (r : Int32) (u0 : Nat → Int32) (u1 : Nat → Int32) (u2 : Nat → Int32) (u3 : Nat → Int32) (H : Heap) (locs : List Loc) (pc : Nat) (ls : Array Slot), decode cNamedForm_dropCopiesOf pc = .ok (.ireturn, 1) → va_P D vwCl (wdNamedForm_dropCopiesOf cA ad N stepCount kind u0 u1 u2 u3) H → va_D A (wdNamedForm_dropCopiesOf cA ad N stepCount kind u0 u1 u2 u3) → va_S A s.heap H locs → post r u0 u1 u2 u3 → W p l e (headSpec (Cond.code yNamedForm_dropCopiesOf cNamedForm_dropCopiesOf 5 (some .int) :: xW) rmNamedForm_dropCopiesOf).room s m ([.ref (ad 18), .int v1] : List Value).toArray below meth c H locs 0 0 (MQ below (qcNamedForm_dropCopiesOf D cA ad N stepCount kind stepNames firstUses homeBlock standsFor post A) ([.ref (ad 18), .int v1] : List Value).toArray s 0 0 A) (F0 m pc ls [.int r]) := fun r u0 u1 u2 u3 H locs pc ls hd hP hD hS hw => W.iret (v := r) hx hb hr (fun t ht hW => ⟨⟨r, (u0, u1, u2, u3), rfl, hw, ⟨by rw [ht]; exact hP, va_K.moved hW.alike hK, hD⟩⟩, hS.F ht⟩) hS.2.2 hd
  generalize hQ : MQ below (qcNamedForm_dropCopiesOf D cA ad N stepCount kind stepNames firstUses homeBlock standsFor post A) ([.ref (ad 18), .int v1] : List Value).toArray s 0 0 A = Q at hend ⊢
  have hl := lv_entry ([.ref (ad 18), .int v1]) (n := 5) (Nat.le_of_ble_eq_true rfl)
  rw [lg_entry_eq]
  generalize (lg_sl ([.ref (ad 18), .int v1]) ++ List.replicate (5 - (lg_sl ([.ref (ad 18), .int v1])).length) Slot.unset).toArray = ls at hl ⊢
  have hl : lv_has ls 5 [(0, .ref (ad 18)), (1, .int v1)] := hl
  unfold wpNamedForm_dropCopiesOf at hw
  refine lv_iconst (v := 0) hx hb dNamedForm_dropCopiesOf_0 (by decide) ?_
  refine lv_istore_n (lv' := [(2, .int 0), (0, .ref (ad 18)), (1, .int v1)]) hx hb dNamedForm_dropCopiesOf_1 rfl hl (by decide) rfl (fun ls hl => ?_)
  refine lv_iconst (v := 0) hx hb dNamedForm_dropCopiesOf_2 (by decide) ?_
  refine lv_istore_n (lv' := [(3, .int 0), (2, .int 0), (0, .ref (ad 18)), (1, .int v1)]) hx hb dNamedForm_dropCopiesOf_3 rfl hl (by decide) rfl (fun ls hl => ?_)
  obtain ⟨k4, hw⟩ := hw
  have hlp4 : ∀ (k : Nat), ∀ (v2_L4 : Int32) (v3_L4 : Int32) (stepNames_L4 : Nat → Int32) (firstUses_L4 : Nat → Int32) (homeBlock_L4 : Nat → Int32) (standsFor_L4 : Nat → Int32) (ls : Array Slot) (H : Heap) (locs : List Loc), lv_has ls 5 [(0, .ref (ad 18)), (1, .int v1), (2, .int v2_L4), (3, .int v3_L4)] → va_P D vwCl (wdNamedForm_dropCopiesOf cA ad N stepCount kind stepNames_L4 firstUses_L4 homeBlock_L4 standsFor_L4) H → va_D A (wdNamedForm_dropCopiesOf cA ad N stepCount kind stepNames_L4 firstUses_L4 homeBlock_L4 standsFor_L4) → va_S A s.heap H locs → lpNamedForm_dropCopiesOf_4 N v1 stepCount kind post k v2_L4 v3_L4 stepNames_L4 firstUses_L4 homeBlock_L4 standsFor_L4 → W p l e (headSpec (Cond.code yNamedForm_dropCopiesOf cNamedForm_dropCopiesOf 5 (some .int) :: xW) rmNamedForm_dropCopiesOf).room s m ([.ref (ad 18), .int v1] : List Value).toArray below meth c H locs 0 0 Q (F0 m 4 ls []) := by
    intro k
    induction k with
    | zero => intro v2_L4 v3_L4 stepNames_L4 firstUses_L4 homeBlock_L4 standsFor_L4 ls H locs hl hP hD hS hw; exact False.elim hw
    | succ k ih =>
      intro v2_L4 v3_L4 stepNames_L4 firstUses_L4 homeBlock_L4 standsFor_L4 ls H locs hl hP hD hS hw
      refine lv_iload_n hx hb dNamedForm_dropCopiesOf_4 rfl (lv_at hl 3 rfl) ?_
      refine lv_aload_n hx hb dNamedForm_dropCopiesOf_5 rfl (lv_at hl 0 rfl) ?_
      refine va_get (D := D) (ci := 3) (v := .ref (ad 1)) (C := "OnceNamed$NamedForm") (T := TX3) (N := 14) hx hb hts (fun w h => List.mem_cons_of_mem _ (inX3 w h)) hown hK hP 3 rfl rfl 0 (by decide) (hts _ (List.mem_cons_of_mem _ kw_120)) (fun _ h9 => h9) rfl dNamedForm_dropCopiesOf_6 ?_
      refine lv_iload_n hx hb dNamedForm_dropCopiesOf_9 rfl (lv_at hl 1 rfl) ?_
      dsimp only [lpNamedForm_dropCopiesOf_4] at hw
      refine xci (va_runV ⟨hx, hb, hml, hown, hts⟩ (ktProgram_stepsOf l D cA ad N _ stepCount v1 _ hw) (cwV 1 hts (goodV kw_354 kw_355 kw_356 kw_3 kw_357) rfl rfl rfl (by decide +kernel) ⟨Nat.le_of_ble_eq_true rfl, Nat.le_of_ble_eq_true rfl⟩) (xpreV hK hP hD hN [0, 1] rfl rfl 0 rfl rfl) rfl rfl hl.1 rfl (lv_room (Nat.le_of_ble_eq_true rfl)) dNamedForm_dropCopiesOf_10 ⟨Nat.le_of_ble_eq_true rfl, Nat.le_of_ble_eq_true rfl⟩) hP hD hS hA [0, 1] [2, 3, 4, 5, 6, 7] rfl rfl rfl rfl [6, 7, 0, 1, 2, 3, 4, 5] rfl (fun _ => rfl) (fun r10 u H locs hw hP hD hS => ?_)
      have hP : va_P D vwCl (wdNamedForm_dropCopiesOf cA ad N stepCount kind stepNames_L4 firstUses_L4 homeBlock_L4 standsFor_L4) H := hP
      have hD : va_D A (wdNamedForm_dropCopiesOf cA ad N stepCount kind stepNames_L4 firstUses_L4 homeBlock_L4 standsFor_L4) := hD
      refine lv_icmp_ge (tgt := 110) hx hb dNamedForm_dropCopiesOf_13 rfl (fun hc => ?_) (fun hc => ?_)
      · have hw := hw.1 hc
        refine lv_iload_n hx hb dNamedForm_dropCopiesOf_110 rfl (lv_at hl 2 rfl) ?_
        exact hend v2_L4 stepNames_L4 firstUses_L4 homeBlock_L4 standsFor_L4 _ _ _ _ dNamedForm_dropCopiesOf_111 hP hD hS hw
      · have hw := hw.2 hc
        refine lv_iload_n hx hb dNamedForm_dropCopiesOf_16 rfl (lv_at hl 1 rfl) ?_
        refine lv_bipush (v := 6) hx hb dNamedForm_dropCopiesOf_17 (by decide) ?_
        refine lv_imul hx hb dNamedForm_dropCopiesOf_19 ?_
        refine lv_iload_n hx hb dNamedForm_dropCopiesOf_20 rfl (lv_at hl 3 rfl) ?_
        refine lv_iadd hx hb dNamedForm_dropCopiesOf_21 ?_
        refine lv_topi (fun v4_22 e_v4_22 => ?_)
        have hw := hw v4_22 e_v4_22
        refine lv_istore (lv' := [(4, .int v4_22), (0, .ref (ad 18)), (1, .int v1), (2, .int v2_L4), (3, .int v3_L4)]) hx hb dNamedForm_dropCopiesOf_22 hl (by decide) rfl (fun ls hl => ?_)
        refine lv_aload_n hx hb dNamedForm_dropCopiesOf_24 rfl (lv_at hl 1 rfl) ?_
        refine va_get (D := D) (ci := 3) (v := .ref (ad 1)) (C := "OnceNamed$NamedForm") (T := TX3) (N := 14) hx hb hts (fun w h => List.mem_cons_of_mem _ (inX3 w h)) hown hK hP 3 rfl rfl 0 (by decide) (hts _ (List.mem_cons_of_mem _ kw_120)) (fun _ h9 => h9) rfl dNamedForm_dropCopiesOf_25 ?_
        refine lv_iload_n hx hb dNamedForm_dropCopiesOf_28 rfl (lv_at hl 2 rfl) ?_
        refine lv_iload_n hx hb dNamedForm_dropCopiesOf_29 rfl (lv_at hl 4 rfl) ?_
        refine xci (va_runV ⟨hx, hb, hml, hown, hts⟩ (ktProgram_kindOf l D cA ad N _ kind v1 v3_L4 _ hw) (cwV 2 hts (goodV kw_617 kw_618 kw_619 kw_3 kw_620) rfl rfl rfl (by decide +kernel) ⟨Nat.le_of_ble_eq_true rfl, Nat.le_of_ble_eq_true rfl⟩) (xpreV hK hP hD hN [0, 2] rfl rfl 0 rfl rfl) rfl rfl hl.1 rfl (lv_room (Nat.le_of_ble_eq_true rfl)) dNamedForm_dropCopiesOf_30 ⟨Nat.le_of_ble_eq_true rfl, Nat.le_of_ble_eq_true rfl⟩) hP hD hS hA [0, 2] [1, 3, 4, 5, 6, 7] rfl rfl rfl rfl [6, 0, 7, 1, 2, 3, 4, 5] rfl (fun _ => rfl) (fun r30 u H locs hw hP hD hS => ?_)
        have hP : va_P D vwCl (wdNamedForm_dropCopiesOf cA ad N stepCount kind stepNames_L4 firstUses_L4 homeBlock_L4 standsFor_L4) H := hP
        have hD : va_D A (wdNamedForm_dropCopiesOf cA ad N stepCount kind stepNames_L4 firstUses_L4 homeBlock_L4 standsFor_L4) := hD
        refine lv_iconst (v := 1) hx hb dNamedForm_dropCopiesOf_33 (by decide) ?_
        refine lv_icmp_ne (tgt := 104) hx hb dNamedForm_dropCopiesOf_34 rfl (fun hc => ?_) (fun hc => ?_)
        · have hw := hw.1 hc
          refine lv_iinc (k := 4) (v := (v3_L4 + 1)) (lv' := [(3, .int (v3_L4 + 1)), (4, .int v4_22), (0, .ref (ad 18)), (1, .int v1), (2, .int v2_L4)]) hx hb dNamedForm_dropCopiesOf_104 hl rfl rfl (by decide) rfl (fun ls hl => ?_)
          refine lv_goto (tgt := 4) hx hb dNamedForm_dropCopiesOf_107 rfl ?_
          exact ih v2_L4 (v3_L4 + 1) stepNames_L4 firstUses_L4 homeBlock_L4 standsFor_L4 _ _ _ (lv_sub hl [2, 3, 4, 0] rfl) hP hD hS hw
        · have hw := hw.2 hc
          refine lv_aload_n hx hb dNamedForm_dropCopiesOf_37 rfl (lv_at hl 1 rfl) ?_
          refine va_get (D := D) (ci := 3) (v := .ref (ad 21)) (C := "OnceNamed$NamedForm") (T := TX3) (N := 14) hx hb hts (fun w h => List.mem_cons_of_mem _ (inX3 w h)) hown hK hP 3 rfl rfl 5 (by decide) (hts _ (List.mem_cons_of_mem _ kw_125)) (fun _ h9 => h9) rfl dNamedForm_dropCopiesOf_38 ?_
          refine lv_iload hx hb dNamedForm_dropCopiesOf_41 (lv_at hl 0 rfl) ?_
          have ho := hw.1
          have hw := hw.2
          refine va_iald hx hb hK hP 4 0 rfl rfl ho dNamedForm_dropCopiesOf_43 ?_
          refine lv_iconst (v := (-1)) hx hb dNamedForm_dropCopiesOf_44 (by decide) ?_
          refine lv_icmp_eq (tgt := 104) hx hb dNamedForm_dropCopiesOf_45 rfl (fun hc => ?_) (fun hc => ?_)
          · have hw := hw.1 hc
            refine lv_iinc (k := 4) (v := (v3_L4 + 1)) (lv' := [(3, .int (v3_L4 + 1)), (4, .int v4_22), (0, .ref (ad 18)), (1, .int v1), (2, .int v2_L4)]) hx hb dNamedForm_dropCopiesOf_104 hl rfl rfl (by decide) rfl (fun ls hl => ?_)
            refine lv_goto (tgt := 4) hx hb dNamedForm_dropCopiesOf_107 rfl ?_
            exact ih v2_L4 (v3_L4 + 1) stepNames_L4 firstUses_L4 homeBlock_L4 standsFor_L4 _ _ _ (lv_sub hl [2, 3, 4, 0] rfl) hP hD hS hw
          · have hw := hw.2 hc
            refine lv_aload_n hx hb dNamedForm_dropCopiesOf_48 rfl (lv_at hl 1 rfl) ?_
            refine va_get (D := D) (ci := 3) (v := .ref (ad 29)) (C := "OnceNamed$NamedForm") (T := TX3) (N := 14) hx hb hts (fun w h => List.mem_cons_of_mem _ (inX3 w h)) hown hK hP 3 rfl rfl 13 (by decide) (hts _ (List.mem_cons_of_mem _ kw_133)) (fun _ h9 => h9) rfl dNamedForm_dropCopiesOf_49 ?_
            refine lv_aload_n hx hb dNamedForm_dropCopiesOf_52 rfl (lv_at hl 1 rfl) ?_
            refine va_get (D := D) (ci := 3) (v := .ref (ad 21)) (C := "OnceNamed$NamedForm") (T := TX3) (N := 14) hx hb hts (fun w h => List.mem_cons_of_mem _ (inX3 w h)) hown hK hP 3 rfl rfl 5 (by decide) (hts _ (List.mem_cons_of_mem _ kw_125)) (fun _ h9 => h9) rfl dNamedForm_dropCopiesOf_53 ?_
            refine lv_iload hx hb dNamedForm_dropCopiesOf_56 (lv_at hl 0 rfl) ?_
            have ho := hw.1
            have hw := hw.2
            refine va_iald hx hb hK hP 4 0 rfl rfl ho dNamedForm_dropCopiesOf_58 ?_
            refine lv_aload_n hx hb dNamedForm_dropCopiesOf_59 rfl (lv_at hl 1 rfl) ?_
            refine va_get (D := D) (ci := 3) (v := .ref (ad 29)) (C := "OnceNamed$NamedForm") (T := TX3) (N := 14) hx hb hts (fun w h => List.mem_cons_of_mem _ (inX3 w h)) hown hK hP 3 rfl rfl 13 (by decide) (hts _ (List.mem_cons_of_mem _ kw_133)) (fun _ h9 => h9) rfl dNamedForm_dropCopiesOf_60 ?_
            refine lv_aload_n hx hb dNamedForm_dropCopiesOf_63 rfl (lv_at hl 1 rfl) ?_
            refine va_get (D := D) (ci := 3) (v := .ref (ad 22)) (C := "OnceNamed$NamedForm") (T := TX3) (N := 14) hx hb hts (fun w h => List.mem_cons_of_mem _ (inX3 w h)) hown hK hP 3 rfl rfl 6 (by decide) (hts _ (List.mem_cons_of_mem _ kw_126)) (fun _ h9 => h9) rfl dNamedForm_dropCopiesOf_64 ?_
            refine lv_iload hx hb dNamedForm_dropCopiesOf_67 (lv_at hl 0 rfl) ?_
            have ho := hw.1
            have hw := hw.2
            refine va_iald hx hb hK hP 5 0 rfl rfl ho dNamedForm_dropCopiesOf_69 ?_
            have ho := hw.1
            have hw := hw.2
            refine va_iald hx hb hK hP 7 0 rfl rfl ho dNamedForm_dropCopiesOf_70 ?_
            have ho := hw.1
            have hw := hw.2
            refine va_iast hx hb hK hP hD hS 7 0 rfl rfl ho dNamedForm_dropCopiesOf_71 (fun H locs hP hD hS => ?_)
            have hP : va_P D vwCl (wdNamedForm_dropCopiesOf cA ad N stepCount kind stepNames_L4 firstUses_L4 homeBlock_L4 (upd standsFor_L4 (Int32.toNatClampNeg (stepNames_L4 (Int32.toNatClampNeg v4_22))) (standsFor_L4 (Int32.toNatClampNeg (firstUses_L4 (Int32.toNatClampNeg v4_22)))))) H := hP
            have hD : va_D A (wdNamedForm_dropCopiesOf cA ad N stepCount kind stepNames_L4 firstUses_L4 homeBlock_L4 (upd standsFor_L4 (Int32.toNatClampNeg (stepNames_L4 (Int32.toNatClampNeg v4_22))) (standsFor_L4 (Int32.toNatClampNeg (firstUses_L4 (Int32.toNatClampNeg v4_22)))))) := hD
            refine lv_aload_n hx hb dNamedForm_dropCopiesOf_72 rfl (lv_at hl 1 rfl) ?_
            refine va_get (D := D) (ci := 3) (v := .ref (ad 27)) (C := "OnceNamed$NamedForm") (T := TX3) (N := 14) hx hb hts (fun w h => List.mem_cons_of_mem _ (inX3 w h)) hown hK hP 3 rfl rfl 11 (by decide) (hts _ (List.mem_cons_of_mem _ kw_131)) (fun _ h9 => h9) rfl dNamedForm_dropCopiesOf_73 ?_
            refine lv_aload_n hx hb dNamedForm_dropCopiesOf_76 rfl (lv_at hl 1 rfl) ?_
            refine va_get (D := D) (ci := 3) (v := .ref (ad 21)) (C := "OnceNamed$NamedForm") (T := TX3) (N := 14) hx hb hts (fun w h => List.mem_cons_of_mem _ (inX3 w h)) hown hK hP 3 rfl rfl 5 (by decide) (hts _ (List.mem_cons_of_mem _ kw_125)) (fun _ h9 => h9) rfl dNamedForm_dropCopiesOf_77 ?_
            refine lv_iload hx hb dNamedForm_dropCopiesOf_80 (lv_at hl 0 rfl) ?_
            have ho := hw.1
            have hw := hw.2
            refine va_iald hx hb hK hP 4 0 rfl rfl ho dNamedForm_dropCopiesOf_82 ?_
            refine lv_iconst (v := (-1)) hx hb dNamedForm_dropCopiesOf_83 (by decide) ?_
            have ho := hw.1
            have hw := hw.2
            refine va_iast hx hb hK hP hD hS 6 0 rfl rfl ho dNamedForm_dropCopiesOf_84 (fun H locs hP hD hS => ?_)
            have hP : va_P D vwCl (wdNamedForm_dropCopiesOf cA ad N stepCount kind stepNames_L4 firstUses_L4 (upd homeBlock_L4 (Int32.toNatClampNeg (stepNames_L4 (Int32.toNatClampNeg v4_22))) (-1)) (upd standsFor_L4 (Int32.toNatClampNeg (stepNames_L4 (Int32.toNatClampNeg v4_22))) (standsFor_L4 (Int32.toNatClampNeg (firstUses_L4 (Int32.toNatClampNeg v4_22)))))) H := hP
            have hD : va_D A (wdNamedForm_dropCopiesOf cA ad N stepCount kind stepNames_L4 firstUses_L4 (upd homeBlock_L4 (Int32.toNatClampNeg (stepNames_L4 (Int32.toNatClampNeg v4_22))) (-1)) (upd standsFor_L4 (Int32.toNatClampNeg (stepNames_L4 (Int32.toNatClampNeg v4_22))) (standsFor_L4 (Int32.toNatClampNeg (firstUses_L4 (Int32.toNatClampNeg v4_22)))))) := hD
            refine lv_aload_n hx hb dNamedForm_dropCopiesOf_85 rfl (lv_at hl 1 rfl) ?_
            refine va_get (D := D) (ci := 3) (v := .ref (ad 21)) (C := "OnceNamed$NamedForm") (T := TX3) (N := 14) hx hb hts (fun w h => List.mem_cons_of_mem _ (inX3 w h)) hown hK hP 3 rfl rfl 5 (by decide) (hts _ (List.mem_cons_of_mem _ kw_125)) (fun _ h9 => h9) rfl dNamedForm_dropCopiesOf_86 ?_
            refine lv_iload hx hb dNamedForm_dropCopiesOf_89 (lv_at hl 0 rfl) ?_
            refine lv_iconst (v := (-1)) hx hb dNamedForm_dropCopiesOf_91 (by decide) ?_
            have ho := hw.1
            have hw := hw.2
            refine va_iast hx hb hK hP hD hS 4 0 rfl rfl ho dNamedForm_dropCopiesOf_92 (fun H locs hP hD hS => ?_)
            have hP : va_P D vwCl (wdNamedForm_dropCopiesOf cA ad N stepCount kind (upd stepNames_L4 (Int32.toNatClampNeg v4_22) (-1)) firstUses_L4 (upd homeBlock_L4 (Int32.toNatClampNeg (stepNames_L4 (Int32.toNatClampNeg v4_22))) (-1)) (upd standsFor_L4 (Int32.toNatClampNeg (stepNames_L4 (Int32.toNatClampNeg v4_22))) (standsFor_L4 (Int32.toNatClampNeg (firstUses_L4 (Int32.toNatClampNeg v4_22)))))) H := hP
            have hD : va_D A (wdNamedForm_dropCopiesOf cA ad N stepCount kind (upd stepNames_L4 (Int32.toNatClampNeg v4_22) (-1)) firstUses_L4 (upd homeBlock_L4 (Int32.toNatClampNeg (stepNames_L4 (Int32.toNatClampNeg v4_22))) (-1)) (upd standsFor_L4 (Int32.toNatClampNeg (stepNames_L4 (Int32.toNatClampNeg v4_22))) (standsFor_L4 (Int32.toNatClampNeg (firstUses_L4 (Int32.toNatClampNeg v4_22)))))) := hD
            refine lv_aload_n hx hb dNamedForm_dropCopiesOf_93 rfl (lv_at hl 1 rfl) ?_
            refine va_get (D := D) (ci := 3) (v := .ref (ad 22)) (C := "OnceNamed$NamedForm") (T := TX3) (N := 14) hx hb hts (fun w h => List.mem_cons_of_mem _ (inX3 w h)) hown hK hP 3 rfl rfl 6 (by decide) (hts _ (List.mem_cons_of_mem _ kw_126)) (fun _ h9 => h9) rfl dNamedForm_dropCopiesOf_94 ?_
            refine lv_iload hx hb dNamedForm_dropCopiesOf_97 (lv_at hl 0 rfl) ?_
            refine lv_iconst (v := (-1)) hx hb dNamedForm_dropCopiesOf_99 (by decide) ?_
            have ho := hw.1
            have hw := hw.2
            refine va_iast hx hb hK hP hD hS 5 0 rfl rfl ho dNamedForm_dropCopiesOf_100 (fun H locs hP hD hS => ?_)
            have hP : va_P D vwCl (wdNamedForm_dropCopiesOf cA ad N stepCount kind (upd stepNames_L4 (Int32.toNatClampNeg v4_22) (-1)) (upd firstUses_L4 (Int32.toNatClampNeg v4_22) (-1)) (upd homeBlock_L4 (Int32.toNatClampNeg (stepNames_L4 (Int32.toNatClampNeg v4_22))) (-1)) (upd standsFor_L4 (Int32.toNatClampNeg (stepNames_L4 (Int32.toNatClampNeg v4_22))) (standsFor_L4 (Int32.toNatClampNeg (firstUses_L4 (Int32.toNatClampNeg v4_22)))))) H := hP
            have hD : va_D A (wdNamedForm_dropCopiesOf cA ad N stepCount kind (upd stepNames_L4 (Int32.toNatClampNeg v4_22) (-1)) (upd firstUses_L4 (Int32.toNatClampNeg v4_22) (-1)) (upd homeBlock_L4 (Int32.toNatClampNeg (stepNames_L4 (Int32.toNatClampNeg v4_22))) (-1)) (upd standsFor_L4 (Int32.toNatClampNeg (stepNames_L4 (Int32.toNatClampNeg v4_22))) (standsFor_L4 (Int32.toNatClampNeg (firstUses_L4 (Int32.toNatClampNeg v4_22)))))) := hD
            refine lv_iinc (k := 3) (v := (v2_L4 + 1)) (lv' := [(2, .int (v2_L4 + 1)), (4, .int v4_22), (0, .ref (ad 18)), (1, .int v1), (3, .int v3_L4)]) hx hb dNamedForm_dropCopiesOf_101 hl rfl rfl (by decide) rfl (fun ls hl => ?_)
            refine lv_iinc (k := 4) (v := (v3_L4 + 1)) (lv' := [(3, .int (v3_L4 + 1)), (2, .int (v2_L4 + 1)), (4, .int v4_22), (0, .ref (ad 18)), (1, .int v1)]) hx hb dNamedForm_dropCopiesOf_104 hl rfl rfl (by decide) rfl (fun ls hl => ?_)
            refine lv_goto (tgt := 4) hx hb dNamedForm_dropCopiesOf_107 rfl ?_
            exact ih (v2_L4 + 1) (v3_L4 + 1) (upd stepNames_L4 (Int32.toNatClampNeg v4_22) (-1)) (upd firstUses_L4 (Int32.toNatClampNeg v4_22) (-1)) (upd homeBlock_L4 (Int32.toNatClampNeg (stepNames_L4 (Int32.toNatClampNeg v4_22))) (-1)) (upd standsFor_L4 (Int32.toNatClampNeg (stepNames_L4 (Int32.toNatClampNeg v4_22))) (standsFor_L4 (Int32.toNatClampNeg (firstUses_L4 (Int32.toNatClampNeg v4_22))))) _ _ _ (lv_sub hl [3, 4, 1, 0] rfl) hP hD hS hw
  refine hlp4 k4 0 0 stepNames firstUses homeBlock standsFor _ _ _ (lv_sub hl [2, 3, 1, 0] rfl) hP hD hS hw
abbrev wdNamedForm_dropCopies (cA : ClassId) (ad : Nat → Nat) (N : Nat) (stepCount : Nat → Int32) (kind : Nat → Int32) (orderSize : Int32) (reached : Int32) (order : Nat → Int32) (meetingUses : Nat → Int32) (stepNames : Nat → Int32) (firstUses : Nat → Int32) (secondUses : Nat → Int32) (endUses : Nat → Int32) (homeBlock : Nat → Int32) (standsFor : Nat → Int32) : va_W := [((ad 1), .inr (1, [.int (nI N), .ref (ad 2), .ref (ad 3), .ref (ad 4), .ref (ad 5), .ref (ad 6), .ref (ad 7), .ref (ad 8), .ref (ad 9), .ref (ad 10)])), ((ad 2), .inl (cA, N, .inl stepCount)), ((ad 3), .inl (cA, N * 6, .inl kind)), ((ad 11), .inr (2, [.int (nI N), .ref (ad 12), .ref (ad 13), .ref (ad 14), .ref (ad 15), .ref (ad 16), .ref (ad 17), .int orderSize, .int reached])), ((ad 16), .inl (cA, N, .inl order)), ((ad 18), .inr (3, [.ref (ad 1), .ref (ad 11), .int (nI N), .ref (ad 19), .ref (ad 20), .ref (ad 21), .ref (ad 22), .ref (ad 23), .ref (ad 24), .ref (ad 25), .ref (ad 26), .ref (ad 27), .ref (ad 28), .ref (ad 29)])), ((ad 20), .inl (cA, N * 6 * (N + 1), .inl meetingUses)), ((ad 21), .inl (cA, N * 6, .inl stepNames)), ((ad 22), .inl (cA, N * 6, .inl firstUses)), ((ad 23), .inl (cA, N * 6, .inl secondUses)), ((ad 24), .inl (cA, N, .inl endUses)), ((ad 27), .inl (cA, 600, .inl homeBlock)), ((ad 29), .inl (cA, 600, .inl standsFor))]
abbrev qcNamedForm_dropCopies (D : va_G) (cA : ClassId) (ad : Nat → Nat) (N : Nat) (stepCount : Nat → Int32) (kind : Nat → Int32) (orderSize : Int32) (reached : Int32) (order : Nat → Int32) (meetingUses : Nat → Int32) (stepNames : Nat → Int32) (firstUses : Nat → Int32) (secondUses : Nat → Int32) (endUses : Nat → Int32) (homeBlock : Nat → Int32) (standsFor : Nat → Int32) (post : Int32 → (Nat → Int32) → (Nat → Int32) → (Nat → Int32) → (Nat → Int32) → (Nat → Int32) → (Nat → Int32) → (Nat → Int32) → Prop) (A : Nat → Prop) : Array Value → State → Outcome → State → Prop := va_Qi (S := (Nat → Int32) × (Nat → Int32) × (Nat → Int32) × (Nat → Int32) × (Nat → Int32) × (Nat → Int32) × (Nat → Int32)) (fun r u => post r u.1 u.2.1 u.2.2.1 u.2.2.2.1 u.2.2.2.2.1 u.2.2.2.2.2.1 u.2.2.2.2.2.2) (fun u t => xB D cA A (wdNamedForm_dropCopies cA ad N stepCount kind orderSize reached order u.1 u.2.1 u.2.2.1 u.2.2.2.1 u.2.2.2.2.1 u.2.2.2.2.2.1 u.2.2.2.2.2.2) t) A
abbrev rmNamedForm_dropCopies : Room := { frames := 2, cells := 0, slots := 0, locals := 46 }
set_option maxHeartbeats 4000000 in
set_option maxRecDepth 100000 in
theorem ktNamedForm_dropCopies (l : Launch) (D : va_G) (cA : ClassId) (ad : Nat → Nat) (N : Nat) (sz : Nat) (stepCount : Nat → Int32) (kind : Nat → Int32) (orderSize : Int32) (reached : Int32) (order : Nat → Int32) (meetingUses : Nat → Int32) (stepNames : Nat → Int32) (firstUses : Nat → Int32) (secondUses : Nat → Int32) (endUses : Nat → Int32) (homeBlock : Nat → Int32) (standsFor : Nat → Int32)  (post : Int32 → (Nat → Int32) → (Nat → Int32) → (Nat → Int32) → (Nat → Int32) → (Nat → Int32) → (Nat → Int32) → (Nat → Int32) → Prop) (hw : wpNamedForm_dropCopies N stepCount kind orderSize order meetingUses stepNames firstUses secondUses endUses homeBlock standsFor post) : Met l yNamedForm_dropCopies (Cond.code yNamedForm_dropCopies cNamedForm_dropCopies 3 (some .int) :: xW) rmNamedForm_dropCopies (va_Pc [.ref (ad 18)] (xPc D cA (wdNamedForm_dropCopies cA ad N stepCount kind orderSize reached order meetingUses stepNames firstUses secondUses endUses homeBlock standsFor) sz)) (qcNamedForm_dropCopies D cA ad N stepCount kind orderSize reached order meetingUses stepNames firstUses secondUses endUses homeBlock standsFor post (va_A (wdNamedForm_dropCopies cA ad N stepCount kind orderSize reached order meetingUses stepNames firstUses secondUses endUses homeBlock standsFor) sz)) 0 0 (va_A (wdNamedForm_dropCopies cA ad N stepCount kind orderSize reached order meetingUses stepNames firstUses secondUses endUses homeBlock standsFor) sz) := by
  refine Met.ofW (cc := cNamedForm_dropCopies) (maxL := 3) (ret := (some .int)) (by decide) rfl ?_
  intro p e s m args below meth c s₁ B hml hv
  obtain ⟨rfl, hsz, hP, hK, hD0, hN⟩ := hv
  have hx := B.exec
  have hb := B.bytes
  have hr := B.returns
  have hts := atoms_spec (ws := (Cond.code yNamedForm_dropCopies cNamedForm_dropCopies 3 (some .int) :: xW)) B.pre
  have hown : s.vm.findClass "OnceNamed$NamedForm" = some m.cls := findClass_of_methodNamed B.named
  have hlocks := B.notSynchronized
  subst hsz
  have hD := hD0.self (sz := s.heap.size)
  generalize hAe : va_A (wdNamedForm_dropCopies cA ad N stepCount kind orderSize reached order meetingUses stepNames firstUses secondUses endUses homeBlock standsFor) s.heap.size = A at hD ⊢
  have hA : ∀ q : Nat, s.heap.size ≤ q → A q := fun q h => by rw [← hAe]; exact Or.inr h
  have hS : va_S A s.heap s.heap [] := va_S.rf
  have hend : ∀ (r : Int32) (u0 : Nat → Int32) (u1 : Nat → Int32) (u2 : Nat → Int32) (u3 : Nat → Int32) (u4 : Nat → Int32) (u5 : Nat → Int32) (u6 : Nat → Int32) (H : Heap) (locs : List Loc) (pc : Nat) (ls : Array Slot), decode cNamedForm_dropCopies pc = .ok (.ireturn, 1) → va_P D vwCl (wdNamedForm_dropCopies cA ad N stepCount kind orderSize reached order u0 u1 u2 u3 u4 u5 u6) H → va_D A (wdNamedForm_dropCopies cA ad N stepCount kind orderSize reached order u0 u1 u2 u3 u4 u5 u6) → va_S A s.heap H locs → post r u0 u1 u2 u3 u4 u5 u6 → W p l e (headSpec (Cond.code yNamedForm_dropCopies cNamedForm_dropCopies 3 (some .int) :: xW) rmNamedForm_dropCopies).room s m ([.ref (ad 18)] : List Value).toArray below meth c H locs 0 0 (MQ below (qcNamedForm_dropCopies D cA ad N stepCount kind orderSize reached order meetingUses stepNames firstUses secondUses endUses homeBlock standsFor post A) ([.ref (ad 18)] : List Value).toArray s 0 0 A) (F0 m pc ls [.int r]) := fun r u0 u1 u2 u3 u4 u5 u6 H locs pc ls hd hP hD hS hw => W.iret (v := r) hx hb hr (fun t ht hW => ⟨⟨r, (u0, u1, u2, u3, u4, u5, u6), rfl, hw, ⟨by rw [ht]; exact hP, va_K.moved hW.alike hK, hD⟩⟩, hS.F ht⟩) hS.2.2 hd
  generalize hQ : MQ below (qcNamedForm_dropCopies D cA ad N stepCount kind orderSize reached order meetingUses stepNames firstUses secondUses endUses homeBlock standsFor post A) ([.ref (ad 18)] : List Value).toArray s 0 0 A = Q at hend ⊢
  have hl := lv_entry ([.ref (ad 18)]) (n := 3) (Nat.le_of_ble_eq_true rfl)
  rw [lg_entry_eq]
  generalize (lg_sl ([.ref (ad 18)]) ++ List.replicate (3 - (lg_sl ([.ref (ad 18)])).length) Slot.unset).toArray = ls at hl ⊢
  have hl : lv_has ls 3 [(0, .ref (ad 18))] := hl
  unfold wpNamedForm_dropCopies at hw
  refine lv_iconst (v := 0) hx hb dNamedForm_dropCopies_0 (by decide) ?_
  refine lv_istore_n (lv' := [(1, .int 0), (0, .ref (ad 18))]) hx hb dNamedForm_dropCopies_1 rfl hl (by decide) rfl (fun ls hl => ?_)
  obtain ⟨k2, hw⟩ := hw
  have hlp2 : ∀ (K22 : Int32 → (Nat → Int32) → Prop), (∀ (v1_x22 : Int32) (standsFor_x22 : Nat → Int32) (ls : Array Slot) (H : Heap) (locs : List Loc), lv_has ls 3 [(0, .ref (ad 18)), (1, .int v1_x22)] → va_P D vwCl (wdNamedForm_dropCopies cA ad N stepCount kind orderSize reached order meetingUses stepNames firstUses secondUses endUses homeBlock standsFor_x22) H → va_D A (wdNamedForm_dropCopies cA ad N stepCount kind orderSize reached order meetingUses stepNames firstUses secondUses endUses homeBlock standsFor_x22) → va_S A s.heap H locs → K22 v1_x22 standsFor_x22 → W p l e (headSpec (Cond.code yNamedForm_dropCopies cNamedForm_dropCopies 3 (some .int) :: xW) rmNamedForm_dropCopies).room s m ([.ref (ad 18)] : List Value).toArray below meth c H locs 0 0 Q (F0 m 22 ls [])) → ∀ (k : Nat), ∀ (v1_L2 : Int32) (standsFor_L2 : Nat → Int32) (ls : Array Slot) (H : Heap) (locs : List Loc), lv_has ls 3 [(0, .ref (ad 18)), (1, .int v1_L2)] → va_P D vwCl (wdNamedForm_dropCopies cA ad N stepCount kind orderSize reached order meetingUses stepNames firstUses secondUses endUses homeBlock standsFor_L2) H → va_D A (wdNamedForm_dropCopies cA ad N stepCount kind orderSize reached order meetingUses stepNames firstUses secondUses endUses homeBlock standsFor_L2) → va_S A s.heap H locs → lpNamedForm_dropCopies_2 K22 k v1_L2 standsFor_L2 → W p l e (headSpec (Cond.code yNamedForm_dropCopies cNamedForm_dropCopies 3 (some .int) :: xW) rmNamedForm_dropCopies).room s m ([.ref (ad 18)] : List Value).toArray below meth c H locs 0 0 Q (F0 m 2 ls []) := by
    intro K22 hK22 k
    induction k with
    | zero => intro v1_L2 standsFor_L2 ls H locs hl hP hD hS hw; exact False.elim hw
    | succ k ih =>
      intro v1_L2 standsFor_L2 ls H locs hl hP hD hS hw
      refine lv_iload_n hx hb dNamedForm_dropCopies_2 rfl (lv_at hl 1 rfl) ?_
      refine lv_sipush (v := 600) hx hb dNamedForm_dropCopies_3 (by decide) ?_
      refine lv_icmp_ge (tgt := 22) hx hb dNamedForm_dropCopies_6 rfl (fun hc => ?_) (fun hc => ?_)
      · have hw := hw.1 hc
        exact hK22 v1_L2 standsFor_L2 _ _ _ (lv_sub hl [0, 1] rfl) hP hD hS hw
      · have hw := hw.2 hc
        refine lv_aload_n hx hb dNamedForm_dropCopies_9 rfl (lv_at hl 0 rfl) ?_
        refine va_get (D := D) (ci := 3) (v := .ref (ad 29)) (C := "OnceNamed$NamedForm") (T := TX3) (N := 14) hx hb hts (fun w h => List.mem_cons_of_mem _ (inX3 w h)) hown hK hP 5 rfl rfl 13 (by decide) (hts _ (List.mem_cons_of_mem _ kw_133)) (fun _ h9 => h9) rfl dNamedForm_dropCopies_10 ?_
        refine lv_iload_n hx hb dNamedForm_dropCopies_13 rfl (lv_at hl 1 rfl) ?_
        refine lv_iload_n hx hb dNamedForm_dropCopies_14 rfl (lv_at hl 1 rfl) ?_
        have ho := hw.1
        have hw := hw.2
        refine va_iast hx hb hK hP hD hS 12 0 rfl rfl ho dNamedForm_dropCopies_15 (fun H locs hP hD hS => ?_)
        have hP : va_P D vwCl (wdNamedForm_dropCopies cA ad N stepCount kind orderSize reached order meetingUses stepNames firstUses secondUses endUses homeBlock (upd standsFor_L2 (Int32.toNatClampNeg v1_L2) v1_L2)) H := hP
        have hD : va_D A (wdNamedForm_dropCopies cA ad N stepCount kind orderSize reached order meetingUses stepNames firstUses secondUses endUses homeBlock (upd standsFor_L2 (Int32.toNatClampNeg v1_L2) v1_L2)) := hD
        refine lv_iinc (k := 1) (v := (v1_L2 + 1)) (lv' := [(1, .int (v1_L2 + 1)), (0, .ref (ad 18))]) hx hb dNamedForm_dropCopies_16 hl rfl rfl (by decide) rfl (fun ls hl => ?_)
        refine lv_goto (tgt := 2) hx hb dNamedForm_dropCopies_19 rfl ?_
        exact ih (v1_L2 + 1) (upd standsFor_L2 (Int32.toNatClampNeg v1_L2) v1_L2) _ _ _ (lv_sub hl [1, 0] rfl) hP hD hS hw
  refine hlp2 _ ?_ k2 0 standsFor _ _ _ (lv_sub hl [1, 0] rfl) hP hD hS hw
  intro v1_x22 standsFor_x22 ls H locs hl hP hD hS hw
  try dsimp only at hw
  refine lv_iconst (v := 0) hx hb dNamedForm_dropCopies_22 (by decide) ?_
  refine lv_istore_n (lv' := [(1, .int 0), (0, .ref (ad 18))]) hx hb dNamedForm_dropCopies_23 rfl hl (by decide) rfl (fun ls hl => ?_)
  refine lv_iconst (v := 0) hx hb dNamedForm_dropCopies_24 (by decide) ?_
  refine lv_istore_n (lv' := [(2, .int 0), (1, .int 0), (0, .ref (ad 18))]) hx hb dNamedForm_dropCopies_25 rfl hl (by decide) rfl (fun ls hl => ?_)
  obtain ⟨k26, hw⟩ := hw
  have hlp26 : ∀ (K58 : Int32 → Int32 → (Nat → Int32) → (Nat → Int32) → (Nat → Int32) → (Nat → Int32) → Prop), (∀ (v1_x58 : Int32) (v2_x58 : Int32) (stepNames_x58 : Nat → Int32) (firstUses_x58 : Nat → Int32) (homeBlock_x58 : Nat → Int32) (standsFor_x58 : Nat → Int32) (ls : Array Slot) (H : Heap) (locs : List Loc), lv_has ls 3 [(0, .ref (ad 18)), (1, .int v1_x58), (2, .int v2_x58)] → va_P D vwCl (wdNamedForm_dropCopies cA ad N stepCount kind orderSize reached order meetingUses stepNames_x58 firstUses_x58 secondUses endUses homeBlock_x58 standsFor_x58) H → va_D A (wdNamedForm_dropCopies cA ad N stepCount kind orderSize reached order meetingUses stepNames_x58 firstUses_x58 secondUses endUses homeBlock_x58 standsFor_x58) → va_S A s.heap H locs → K58 v1_x58 v2_x58 stepNames_x58 firstUses_x58 homeBlock_x58 standsFor_x58 → W p l e (headSpec (Cond.code yNamedForm_dropCopies cNamedForm_dropCopies 3 (some .int) :: xW) rmNamedForm_dropCopies).room s m ([.ref (ad 18)] : List Value).toArray below meth c H locs 0 0 Q (F0 m 58 ls [])) → ∀ (k : Nat), ∀ (v1_L26 : Int32) (v2_L26 : Int32) (stepNames_L26 : Nat → Int32) (firstUses_L26 : Nat → Int32) (homeBlock_L26 : Nat → Int32) (standsFor_L26 : Nat → Int32) (ls : Array Slot) (H : Heap) (locs : List Loc), lv_has ls 3 [(0, .ref (ad 18)), (1, .int v1_L26), (2, .int v2_L26)] → va_P D vwCl (wdNamedForm_dropCopies cA ad N stepCount kind orderSize reached order meetingUses stepNames_L26 firstUses_L26 secondUses endUses homeBlock_L26 standsFor_L26) H → va_D A (wdNamedForm_dropCopies cA ad N stepCount kind orderSize reached order meetingUses stepNames_L26 firstUses_L26 secondUses endUses homeBlock_L26 standsFor_L26) → va_S A s.heap H locs → lpNamedForm_dropCopies_26 N stepCount kind orderSize order K58 k v1_L26 v2_L26 stepNames_L26 firstUses_L26 homeBlock_L26 standsFor_L26 → W p l e (headSpec (Cond.code yNamedForm_dropCopies cNamedForm_dropCopies 3 (some .int) :: xW) rmNamedForm_dropCopies).room s m ([.ref (ad 18)] : List Value).toArray below meth c H locs 0 0 Q (F0 m 26 ls []) := by
    intro K58 hK58 k
    induction k with
    | zero => intro v1_L26 v2_L26 stepNames_L26 firstUses_L26 homeBlock_L26 standsFor_L26 ls H locs hl hP hD hS hw; exact False.elim hw
    | succ k ih =>
      intro v1_L26 v2_L26 stepNames_L26 firstUses_L26 homeBlock_L26 standsFor_L26 ls H locs hl hP hD hS hw
      refine lv_iload_n hx hb dNamedForm_dropCopies_26 rfl (lv_at hl 2 rfl) ?_
      refine lv_aload_n hx hb dNamedForm_dropCopies_27 rfl (lv_at hl 0 rfl) ?_
      refine va_get (D := D) (ci := 3) (v := .ref (ad 11)) (C := "OnceNamed$NamedForm") (T := TX3) (N := 14) hx hb hts (fun w h => List.mem_cons_of_mem _ (inX3 w h)) hown hK hP 5 rfl rfl 1 (by decide) (hts _ (List.mem_cons_of_mem _ kw_121)) (fun _ h9 => h9) rfl dNamedForm_dropCopies_28 ?_
      dsimp only [lpNamedForm_dropCopies_26] at hw
      refine xci (va_runV ⟨hx, hb, hml, hown, hts⟩ (ktGraph_reachedCount l D cA ad N _ orderSize reached _ hw) (cwV 0 hts (goodV kw_315 kw_316 kw_317 kw_5 kw_318) rfl rfl rfl (by decide +kernel) ⟨Nat.le_of_ble_eq_true rfl, Nat.le_of_ble_eq_true rfl⟩) (xpreV hK hP hD hN [3] rfl rfl 3 rfl rfl) rfl rfl hl.1 rfl (lv_room (Nat.le_of_ble_eq_true rfl)) dNamedForm_dropCopies_31 ⟨Nat.le_of_ble_eq_true rfl, Nat.le_of_ble_eq_true rfl⟩) hP hD hS hA [3] [0, 1, 2, 4, 5, 6, 7, 8, 9, 10, 11, 12] rfl rfl rfl rfl [0, 1, 2, 12, 3, 4, 5, 6, 7, 8, 9, 10, 11] rfl (fun _ => rfl) (fun r31 u H locs hw hP hD hS => ?_)
      have hP : va_P D vwCl (wdNamedForm_dropCopies cA ad N stepCount kind orderSize reached order meetingUses stepNames_L26 firstUses_L26 secondUses endUses homeBlock_L26 standsFor_L26) H := hP
      have hD : va_D A (wdNamedForm_dropCopies cA ad N stepCount kind orderSize reached order meetingUses stepNames_L26 firstUses_L26 secondUses endUses homeBlock_L26 standsFor_L26) := hD
      refine lv_icmp_ge (tgt := 58) hx hb dNamedForm_dropCopies_34 rfl (fun hc => ?_) (fun hc => ?_)
      · have hw := hw.1 hc
        exact hK58 v1_L26 v2_L26 stepNames_L26 firstUses_L26 homeBlock_L26 standsFor_L26 _ _ _ (lv_sub hl [0, 1, 2] rfl) hP hD hS hw
      · have hw := hw.2 hc
        refine lv_iload_n hx hb dNamedForm_dropCopies_37 rfl (lv_at hl 1 rfl) ?_
        refine lv_aload_n hx hb dNamedForm_dropCopies_38 rfl (lv_at hl 0 rfl) ?_
        refine lv_aload_n hx hb dNamedForm_dropCopies_39 rfl (lv_at hl 0 rfl) ?_
        refine va_get (D := D) (ci := 3) (v := .ref (ad 11)) (C := "OnceNamed$NamedForm") (T := TX3) (N := 14) hx hb hts (fun w h => List.mem_cons_of_mem _ (inX3 w h)) hown hK hP 5 rfl rfl 1 (by decide) (hts _ (List.mem_cons_of_mem _ kw_121)) (fun _ h9 => h9) rfl dNamedForm_dropCopies_40 ?_
        refine lv_iload_n hx hb dNamedForm_dropCopies_43 rfl (lv_at hl 2 rfl) ?_
        refine xci (va_runV ⟨hx, hb, hml, hown, hts⟩ (ktGraph_inOrder l D cA ad N _ orderSize reached order v2_L26 _ hw) (cwV 1 hts (goodV kw_319 kw_320 kw_321 kw_5 kw_322) rfl rfl rfl (by decide +kernel) ⟨Nat.le_of_ble_eq_true rfl, Nat.le_of_ble_eq_true rfl⟩) (xpreV hK hP hD hN [3, 4] rfl rfl 3 rfl rfl) rfl rfl hl.1 rfl (lv_room (Nat.le_of_ble_eq_true rfl)) dNamedForm_dropCopies_44 ⟨Nat.le_of_ble_eq_true rfl, Nat.le_of_ble_eq_true rfl⟩) hP hD hS hA [3, 4] [0, 1, 2, 5, 6, 7, 8, 9, 10, 11, 12] rfl rfl rfl rfl [0, 1, 2, 11, 12, 3, 4, 5, 6, 7, 8, 9, 10] rfl (fun _ => rfl) (fun r44 u H locs hw hP hD hS => ?_)
        have hP : va_P D vwCl (wdNamedForm_dropCopies cA ad N stepCount kind orderSize reached order meetingUses stepNames_L26 firstUses_L26 secondUses endUses homeBlock_L26 standsFor_L26) H := hP
        have hD : va_D A (wdNamedForm_dropCopies cA ad N stepCount kind orderSize reached order meetingUses stepNames_L26 firstUses_L26 secondUses endUses homeBlock_L26 standsFor_L26) := hD
        refine xci (va_runV ⟨hx, hb, hml, hown, hts⟩ (ktNamedForm_dropCopiesOf l D cA ad N _ stepCount kind stepNames_L26 firstUses_L26 homeBlock_L26 standsFor_L26 r44 _ hw) (cwV 1 hts (goodV kw_613 kw_615 ks_2_5 kw_6 kw_616) rfl rfl rfl (by decide +kernel) ⟨Nat.le_of_ble_eq_true rfl, Nat.le_of_ble_eq_true rfl⟩) (xpreV hK hP hD hN [0, 1, 2, 5, 7, 8, 11, 12] rfl rfl 5 rfl rfl) rfl rfl hl.1 rfl (lv_room (Nat.le_of_ble_eq_true rfl)) dNamedForm_dropCopies_47 ⟨Nat.le_of_ble_eq_true rfl, Nat.le_of_ble_eq_true rfl⟩) hP hD hS hA [0, 1, 2, 5, 7, 8, 11, 12] [3, 4, 6, 9, 10] rfl rfl rfl rfl [5, 6, 7, 0, 1, 8, 2, 9, 10, 3, 4, 11, 12] rfl (fun _ => rfl) (fun r47 u H locs hw hP hD hS => ?_)
        obtain ⟨stepNames_47, firstUses_47, homeBlock_47, standsFor_47⟩ := u
        try dsimp only at hw
        have hP : va_P D vwCl (wdNamedForm_dropCopies cA ad N stepCount kind orderSize reached order meetingUses stepNames_47 firstUses_47 secondUses endUses homeBlock_47 standsFor_47) H := hP
        have hD : va_D A (wdNamedForm_dropCopies cA ad N stepCount kind orderSize reached order meetingUses stepNames_47 firstUses_47 secondUses endUses homeBlock_47 standsFor_47) := hD
        refine lv_iadd hx hb dNamedForm_dropCopies_50 ?_
        refine lv_topi (fun v1_51 e_v1_51 => ?_)
        have hw := hw v1_51 e_v1_51
        refine lv_istore_n (lv' := [(1, .int v1_51), (0, .ref (ad 18)), (2, .int v2_L26)]) hx hb dNamedForm_dropCopies_51 rfl hl (by decide) rfl (fun ls hl => ?_)
        refine lv_iinc (k := 2) (v := (v2_L26 + 1)) (lv' := [(2, .int (v2_L26 + 1)), (1, .int v1_51), (0, .ref (ad 18))]) hx hb dNamedForm_dropCopies_52 hl rfl rfl (by decide) rfl (fun ls hl => ?_)
        refine lv_goto (tgt := 26) hx hb dNamedForm_dropCopies_55 rfl ?_
        exact ih v1_51 (v2_L26 + 1) stepNames_47 firstUses_47 homeBlock_47 standsFor_47 _ _ _ (lv_sub hl [2, 1, 0] rfl) hP hD hS hw
  refine hlp26 _ ?_ k26 0 0 stepNames firstUses homeBlock standsFor_x22 _ _ _ (lv_sub hl [2, 1, 0] rfl) hP hD hS hw
  intro v1_x58 v2_x58 stepNames_x58 firstUses_x58 homeBlock_x58 standsFor_x58 ls H locs hl hP hD hS hw
  try dsimp only at hw
  refine lv_aload_n hx hb dNamedForm_dropCopies_58 rfl (lv_at hl 0 rfl) ?_
  refine lv_aload_n hx hb dNamedForm_dropCopies_59 rfl (lv_at hl 0 rfl) ?_
  refine va_get (D := D) (ci := 3) (v := .ref (ad 22)) (C := "OnceNamed$NamedForm") (T := TX3) (N := 14) hx hb hts (fun w h => List.mem_cons_of_mem _ (inX3 w h)) hown hK hP 5 rfl rfl 6 (by decide) (hts _ (List.mem_cons_of_mem _ kw_126)) (fun _ h9 => h9) rfl dNamedForm_dropCopies_60 ?_
  refine xcv (va_runV ⟨hx, hb, hml, hown, hts⟩ (ktNamedForm_replaceAll l D cA ad N (ad 22) (N * 6) _ standsFor_x58 firstUses_x58 _ hw) (cwV 1 hts (goodV kw_621 kw_623 ks_2_6 kw_6 kw_624) rfl rfl rfl (by decide +kernel) ⟨Nat.le_of_ble_eq_true rfl, Nat.le_of_ble_eq_true rfl⟩) (xpreV hK hP hD hN [5, 12, 8] rfl rfl 5 rfl rfl) rfl rfl hl.1 rfl (lv_room (Nat.le_of_ble_eq_true rfl)) dNamedForm_dropCopies_63 ⟨Nat.le_of_ble_eq_true rfl, Nat.le_of_ble_eq_true rfl⟩) hP hD hS hA [5, 12, 8] [0, 1, 2, 3, 4, 6, 7, 9, 10, 11] rfl rfl rfl rfl [0, 1, 2, 3, 4, 10, 5, 6, 12, 7, 8, 9, 11] rfl (fun _ => rfl) (fun firstUses_63 H locs hw hP hD hS => ?_)
  try dsimp only at hw
  have hP : va_P D vwCl (wdNamedForm_dropCopies cA ad N stepCount kind orderSize reached order meetingUses stepNames_x58 firstUses_63 secondUses endUses homeBlock_x58 standsFor_x58) H := hP
  have hD : va_D A (wdNamedForm_dropCopies cA ad N stepCount kind orderSize reached order meetingUses stepNames_x58 firstUses_63 secondUses endUses homeBlock_x58 standsFor_x58) := hD
  refine lv_aload_n hx hb dNamedForm_dropCopies_66 rfl (lv_at hl 0 rfl) ?_
  refine lv_aload_n hx hb dNamedForm_dropCopies_67 rfl (lv_at hl 0 rfl) ?_
  refine va_get (D := D) (ci := 3) (v := .ref (ad 23)) (C := "OnceNamed$NamedForm") (T := TX3) (N := 14) hx hb hts (fun w h => List.mem_cons_of_mem _ (inX3 w h)) hown hK hP 5 rfl rfl 7 (by decide) (hts _ (List.mem_cons_of_mem _ kw_127)) (fun _ h9 => h9) rfl dNamedForm_dropCopies_68 ?_
  refine xcv (va_runV ⟨hx, hb, hml, hown, hts⟩ (ktNamedForm_replaceAll l D cA ad N (ad 23) (N * 6) _ standsFor_x58 secondUses _ hw) (cwV 1 hts (goodV kw_621 kw_623 ks_2_6 kw_6 kw_624) rfl rfl rfl (by decide +kernel) ⟨Nat.le_of_ble_eq_true rfl, Nat.le_of_ble_eq_true rfl⟩) (xpreV hK hP hD hN [5, 12, 9] rfl rfl 5 rfl rfl) rfl rfl hl.1 rfl (lv_room (Nat.le_of_ble_eq_true rfl)) dNamedForm_dropCopies_71 ⟨Nat.le_of_ble_eq_true rfl, Nat.le_of_ble_eq_true rfl⟩) hP hD hS hA [5, 12, 9] [0, 1, 2, 3, 4, 6, 7, 8, 10, 11] rfl rfl rfl rfl [0, 1, 2, 3, 4, 10, 5, 6, 7, 12, 8, 9, 11] rfl (fun _ => rfl) (fun secondUses_71 H locs hw hP hD hS => ?_)
  try dsimp only at hw
  have hP : va_P D vwCl (wdNamedForm_dropCopies cA ad N stepCount kind orderSize reached order meetingUses stepNames_x58 firstUses_63 secondUses_71 endUses homeBlock_x58 standsFor_x58) H := hP
  have hD : va_D A (wdNamedForm_dropCopies cA ad N stepCount kind orderSize reached order meetingUses stepNames_x58 firstUses_63 secondUses_71 endUses homeBlock_x58 standsFor_x58) := hD
  refine lv_aload_n hx hb dNamedForm_dropCopies_74 rfl (lv_at hl 0 rfl) ?_
  refine lv_aload_n hx hb dNamedForm_dropCopies_75 rfl (lv_at hl 0 rfl) ?_
  refine va_get (D := D) (ci := 3) (v := .ref (ad 24)) (C := "OnceNamed$NamedForm") (T := TX3) (N := 14) hx hb hts (fun w h => List.mem_cons_of_mem _ (inX3 w h)) hown hK hP 5 rfl rfl 8 (by decide) (hts _ (List.mem_cons_of_mem _ kw_128)) (fun _ h9 => h9) rfl dNamedForm_dropCopies_76 ?_
  refine xcv (va_runV ⟨hx, hb, hml, hown, hts⟩ (ktNamedForm_replaceAll l D cA ad N (ad 24) N _ standsFor_x58 endUses _ hw) (cwV 1 hts (goodV kw_621 kw_623 ks_2_6 kw_6 kw_624) rfl rfl rfl (by decide +kernel) ⟨Nat.le_of_ble_eq_true rfl, Nat.le_of_ble_eq_true rfl⟩) (xpreV hK hP hD hN [5, 12, 10] rfl rfl 5 rfl rfl) rfl rfl hl.1 rfl (lv_room (Nat.le_of_ble_eq_true rfl)) dNamedForm_dropCopies_79 ⟨Nat.le_of_ble_eq_true rfl, Nat.le_of_ble_eq_true rfl⟩) hP hD hS hA [5, 12, 10] [0, 1, 2, 3, 4, 6, 7, 8, 9, 11] rfl rfl rfl rfl [0, 1, 2, 3, 4, 10, 5, 6, 7, 8, 12, 9, 11] rfl (fun _ => rfl) (fun endUses_79 H locs hw hP hD hS => ?_)
  try dsimp only at hw
  have hP : va_P D vwCl (wdNamedForm_dropCopies cA ad N stepCount kind orderSize reached order meetingUses stepNames_x58 firstUses_63 secondUses_71 endUses_79 homeBlock_x58 standsFor_x58) H := hP
  have hD : va_D A (wdNamedForm_dropCopies cA ad N stepCount kind orderSize reached order meetingUses stepNames_x58 firstUses_63 secondUses_71 endUses_79 homeBlock_x58 standsFor_x58) := hD
  refine lv_aload_n hx hb dNamedForm_dropCopies_82 rfl (lv_at hl 0 rfl) ?_
  refine lv_aload_n hx hb dNamedForm_dropCopies_83 rfl (lv_at hl 0 rfl) ?_
  refine va_get (D := D) (ci := 3) (v := .ref (ad 20)) (C := "OnceNamed$NamedForm") (T := TX3) (N := 14) hx hb hts (fun w h => List.mem_cons_of_mem _ (inX3 w h)) hown hK hP 5 rfl rfl 4 (by decide) (hts _ (List.mem_cons_of_mem _ kw_124)) (fun _ h9 => h9) rfl dNamedForm_dropCopies_84 ?_
  refine xcv (va_runV ⟨hx, hb, hml, hown, hts⟩ (ktNamedForm_replaceAll l D cA ad N (ad 20) (N * 6 * (N + 1)) _ standsFor_x58 meetingUses _ hw) (cwV 1 hts (goodV kw_621 kw_623 ks_2_6 kw_6 kw_624) rfl rfl rfl (by decide +kernel) ⟨Nat.le_of_ble_eq_true rfl, Nat.le_of_ble_eq_true rfl⟩) (xpreV hK hP hD hN [5, 12, 6] rfl rfl 5 rfl rfl) rfl rfl hl.1 rfl (lv_room (Nat.le_of_ble_eq_true rfl)) dNamedForm_dropCopies_87 ⟨Nat.le_of_ble_eq_true rfl, Nat.le_of_ble_eq_true rfl⟩) hP hD hS hA [5, 12, 6] [0, 1, 2, 3, 4, 7, 8, 9, 10, 11] rfl rfl rfl rfl [0, 1, 2, 3, 4, 10, 12, 5, 6, 7, 8, 9, 11] rfl (fun _ => rfl) (fun meetingUses_87 H locs hw hP hD hS => ?_)
  try dsimp only at hw
  have hP : va_P D vwCl (wdNamedForm_dropCopies cA ad N stepCount kind orderSize reached order meetingUses_87 stepNames_x58 firstUses_63 secondUses_71 endUses_79 homeBlock_x58 standsFor_x58) H := hP
  have hD : va_D A (wdNamedForm_dropCopies cA ad N stepCount kind orderSize reached order meetingUses_87 stepNames_x58 firstUses_63 secondUses_71 endUses_79 homeBlock_x58 standsFor_x58) := hD
  refine lv_iload_n hx hb dNamedForm_dropCopies_90 rfl (lv_at hl 1 rfl) ?_
  exact hend v1_x58 meetingUses_87 stepNames_x58 firstUses_63 secondUses_71 endUses_79 homeBlock_x58 standsFor_x58 _ _ _ _ dNamedForm_dropCopies_91 hP hD hS hw
abbrev wdNamedForm_hasName (cA : ClassId) (ad : Nat → Nat) (N : Nat) (homeBlock : Nat → Int32) : va_W := [((ad 18), .inr (3, [.ref (ad 1), .ref (ad 11), .int (nI N), .ref (ad 19), .ref (ad 20), .ref (ad 21), .ref (ad 22), .ref (ad 23), .ref (ad 24), .ref (ad 25), .ref (ad 26), .ref (ad 27), .ref (ad 28), .ref (ad 29)])), ((ad 27), .inl (cA, 600, .inl homeBlock))]
abbrev qcNamedForm_hasName (D : va_G) (cA : ClassId) (ad : Nat → Nat) (N : Nat) (homeBlock : Nat → Int32) (post : Bool → Prop) (A : Nat → Prop) : Array Value → State → Outcome → State → Prop := va_Qi (S := Unit) (fun r u => ∃ z : Bool, r = bI z ∧ post z ) (fun u t => xB D cA A (wdNamedForm_hasName cA ad N homeBlock) t) A
abbrev rmNamedForm_hasName : Room := { frames := 0, cells := 0, slots := 0, locals := 0 }
set_option maxHeartbeats 4000000 in
set_option maxRecDepth 100000 in
theorem ktNamedForm_hasName (l : Launch) (D : va_G) (cA : ClassId) (ad : Nat → Nat) (N : Nat) (sz : Nat) (homeBlock : Nat → Int32) (v1 : Int32) (post : Bool → Prop) (hw : wpNamedForm_hasName homeBlock v1 post) : Met l yNamedForm_hasName (Cond.code yNamedForm_hasName cNamedForm_hasName 2 (some .boolean) :: xW) rmNamedForm_hasName (va_Pc [.ref (ad 18), .int v1] (xPc D cA (wdNamedForm_hasName cA ad N homeBlock) sz)) (qcNamedForm_hasName D cA ad N homeBlock post (va_A (wdNamedForm_hasName cA ad N homeBlock) sz)) 0 0 (va_A (wdNamedForm_hasName cA ad N homeBlock) sz) := by
  refine Met.ofW (cc := cNamedForm_hasName) (maxL := 2) (ret := (some .boolean)) (by decide) rfl ?_
  intro p e s m args below meth c s₁ B hml hv
  obtain ⟨rfl, hsz, hP, hK, hD0, hN⟩ := hv
  have hx := B.exec
  have hb := B.bytes
  have hr := B.returns
  have hts := atoms_spec (ws := (Cond.code yNamedForm_hasName cNamedForm_hasName 2 (some .boolean) :: xW)) B.pre
  have hown : s.vm.findClass "OnceNamed$NamedForm" = some m.cls := findClass_of_methodNamed B.named
  have hlocks := B.notSynchronized
  subst hsz
  have hD := hD0.self (sz := s.heap.size)
  generalize hAe : va_A (wdNamedForm_hasName cA ad N homeBlock) s.heap.size = A at hD ⊢
  have hA : ∀ q : Nat, s.heap.size ≤ q → A q := fun q h => by rw [← hAe]; exact Or.inr h
  have hS : va_S A s.heap s.heap [] := va_S.rf
  have hend : ∀ (r : Bool)  (H : Heap) (locs : List Loc) (pc : Nat) (ls : Array Slot), decode cNamedForm_hasName pc = .ok (.ireturn, 1) → va_P D vwCl (wdNamedForm_hasName cA ad N homeBlock) H → va_D A (wdNamedForm_hasName cA ad N homeBlock) → va_S A s.heap H locs → post r  → W p l e (headSpec (Cond.code yNamedForm_hasName cNamedForm_hasName 2 (some .boolean) :: xW) rmNamedForm_hasName).room s m ([.ref (ad 18), .int v1] : List Value).toArray below meth c H locs 0 0 (MQ below (qcNamedForm_hasName D cA ad N homeBlock post A) ([.ref (ad 18), .int v1] : List Value).toArray s 0 0 A) (F0 m pc ls [.int (bI r)]) := fun r  H locs pc ls hd hP hD hS hw => W.zret (v := bI r) hx hb hr (bI_nar r) (fun t ht hW => ⟨⟨bI r, (), rfl, ⟨r, rfl, hw⟩, ⟨by rw [ht]; exact hP, va_K.moved hW.alike hK, hD⟩⟩, hS.F ht⟩) hS.2.2 hd
  generalize hQ : MQ below (qcNamedForm_hasName D cA ad N homeBlock post A) ([.ref (ad 18), .int v1] : List Value).toArray s 0 0 A = Q at hend ⊢
  have hl := lv_entry ([.ref (ad 18), .int v1]) (n := 2) (Nat.le_of_ble_eq_true rfl)
  rw [lg_entry_eq]
  generalize (lg_sl ([.ref (ad 18), .int v1]) ++ List.replicate (2 - (lg_sl ([.ref (ad 18), .int v1])).length) Slot.unset).toArray = ls at hl ⊢
  have hl : lv_has ls 2 [(0, .ref (ad 18)), (1, .int v1)] := hl
  unfold wpNamedForm_hasName at hw
  refine lv_iload_n hx hb dNamedForm_hasName_0 rfl (lv_at hl 1 rfl) ?_
  refine lv_if_lt (tgt := 25) hx hb dNamedForm_hasName_1 rfl (fun hc => ?_) (fun hc => ?_)
  · have hw := hw.1 hc
    refine lv_iconst (v := 0) hx hb dNamedForm_hasName_25 (by decide) ?_
    exact hend false _ _ _ _ dNamedForm_hasName_26 hP hD hS hw
  · have hw := hw.2 hc
    refine lv_iload_n hx hb dNamedForm_hasName_4 rfl (lv_at hl 1 rfl) ?_
    refine lv_sipush (v := 600) hx hb dNamedForm_hasName_5 (by decide) ?_
    refine lv_icmp_ge (tgt := 25) hx hb dNamedForm_hasName_8 rfl (fun hc => ?_) (fun hc => ?_)
    · have hw := hw.1 hc
      refine lv_iconst (v := 0) hx hb dNamedForm_hasName_25 (by decide) ?_
      exact hend false _ _ _ _ dNamedForm_hasName_26 hP hD hS hw
    · have hw := hw.2 hc
      refine lv_aload_n hx hb dNamedForm_hasName_11 rfl (lv_at hl 0 rfl) ?_
      refine va_get (D := D) (ci := 3) (v := .ref (ad 27)) (C := "OnceNamed$NamedForm") (T := TX3) (N := 14) hx hb hts (fun w h => List.mem_cons_of_mem _ (inX3 w h)) hown hK hP 0 rfl rfl 11 (by decide) (hts _ (List.mem_cons_of_mem _ kw_131)) (fun _ h9 => h9) rfl dNamedForm_hasName_12 ?_
      refine lv_iload_n hx hb dNamedForm_hasName_15 rfl (lv_at hl 1 rfl) ?_
      have ho := hw.1
      have hw := hw.2
      refine va_iald hx hb hK hP 1 0 rfl rfl ho dNamedForm_hasName_16 ?_
      refine lv_iconst (v := (-1)) hx hb dNamedForm_hasName_17 (by decide) ?_
      refine lv_icmp_eq (tgt := 25) hx hb dNamedForm_hasName_18 rfl (fun hc => ?_) (fun hc => ?_)
      · have hw := hw.1 hc
        refine lv_iconst (v := 0) hx hb dNamedForm_hasName_25 (by decide) ?_
        exact hend false _ _ _ _ dNamedForm_hasName_26 hP hD hS hw
      · have hw := hw.2 hc
        refine lv_iconst (v := 1) hx hb dNamedForm_hasName_21 (by decide) ?_
        refine lv_goto (tgt := 26) hx hb dNamedForm_hasName_22 rfl ?_
        exact hend true _ _ _ _ dNamedForm_hasName_26 hP hD hS hw
abbrev wdNamedForm_entryName (cA : ClassId) (ad : Nat → Nat) (N : Nat)  : va_W := []
abbrev qcNamedForm_entryName (D : va_G) (cA : ClassId) (ad : Nat → Nat) (N : Nat)  (post : Int32 → Prop) (A : Nat → Prop) : Array Value → State → Outcome → State → Prop := va_Qi (S := Unit) (fun r u => post r ) (fun u t => xB D cA A (wdNamedForm_entryName cA ad N) t) A
abbrev rmNamedForm_entryName : Room := { frames := 0, cells := 0, slots := 0, locals := 0 }
set_option maxHeartbeats 4000000 in
set_option maxRecDepth 100000 in
theorem ktNamedForm_entryName (l : Launch) (D : va_G) (cA : ClassId) (ad : Nat → Nat) (N : Nat) (sz : Nat)  (v1 : Int32) (post : Int32 → Prop) (hw : wpNamedForm_entryName v1 post) : Met l yNamedForm_entryName (Cond.code yNamedForm_entryName cNamedForm_entryName 2 (some .int) :: xW) rmNamedForm_entryName (va_Pc [.ref (ad 18), .int v1] (xPc D cA (wdNamedForm_entryName cA ad N) sz)) (qcNamedForm_entryName D cA ad N  post (va_A (wdNamedForm_entryName cA ad N) sz)) 0 0 (va_A (wdNamedForm_entryName cA ad N) sz) := by
  refine Met.ofW (cc := cNamedForm_entryName) (maxL := 2) (ret := (some .int)) (by decide) rfl ?_
  intro p e s m args below meth c s₁ B hml hv
  obtain ⟨rfl, hsz, hP, hK, hD0, hN⟩ := hv
  have hx := B.exec
  have hb := B.bytes
  have hr := B.returns
  have hts := atoms_spec (ws := (Cond.code yNamedForm_entryName cNamedForm_entryName 2 (some .int) :: xW)) B.pre
  have hown : s.vm.findClass "OnceNamed$NamedForm" = some m.cls := findClass_of_methodNamed B.named
  have hlocks := B.notSynchronized
  subst hsz
  have hD := hD0.self (sz := s.heap.size)
  generalize hAe : va_A (wdNamedForm_entryName cA ad N) s.heap.size = A at hD ⊢
  have hA : ∀ q : Nat, s.heap.size ≤ q → A q := fun q h => by rw [← hAe]; exact Or.inr h
  have hS : va_S A s.heap s.heap [] := va_S.rf
  have hend : ∀ (r : Int32)  (H : Heap) (locs : List Loc) (pc : Nat) (ls : Array Slot), decode cNamedForm_entryName pc = .ok (.ireturn, 1) → va_P D vwCl (wdNamedForm_entryName cA ad N) H → va_D A (wdNamedForm_entryName cA ad N) → va_S A s.heap H locs → post r  → W p l e (headSpec (Cond.code yNamedForm_entryName cNamedForm_entryName 2 (some .int) :: xW) rmNamedForm_entryName).room s m ([.ref (ad 18), .int v1] : List Value).toArray below meth c H locs 0 0 (MQ below (qcNamedForm_entryName D cA ad N  post A) ([.ref (ad 18), .int v1] : List Value).toArray s 0 0 A) (F0 m pc ls [.int r]) := fun r  H locs pc ls hd hP hD hS hw => W.iret (v := r) hx hb hr (fun t ht hW => ⟨⟨r, (), rfl, hw, ⟨by rw [ht]; exact hP, va_K.moved hW.alike hK, hD⟩⟩, hS.F ht⟩) hS.2.2 hd
  generalize hQ : MQ below (qcNamedForm_entryName D cA ad N  post A) ([.ref (ad 18), .int v1] : List Value).toArray s 0 0 A = Q at hend ⊢
  have hl := lv_entry ([.ref (ad 18), .int v1]) (n := 2) (Nat.le_of_ble_eq_true rfl)
  rw [lg_entry_eq]
  generalize (lg_sl ([.ref (ad 18), .int v1]) ++ List.replicate (2 - (lg_sl ([.ref (ad 18), .int v1])).length) Slot.unset).toArray = ls at hl ⊢
  have hl : lv_has ls 2 [(0, .ref (ad 18)), (1, .int v1)] := hl
  unfold wpNamedForm_entryName at hw
  refine lv_bipush (v := 100) hx hb dNamedForm_entryName_0 (by decide) ?_
  refine lv_iload_n hx hb dNamedForm_entryName_2 rfl (lv_at hl 1 rfl) ?_
  refine lv_imul hx hb dNamedForm_entryName_3 ?_
  exact hend (100 * v1) _ _ _ _ dNamedForm_entryName_4 hP hD hS hw
abbrev wdNamedForm_meetingName (cA : ClassId) (ad : Nat → Nat) (N : Nat) (meetingNames : Nat → Int32) : va_W := [((ad 18), .inr (3, [.ref (ad 1), .ref (ad 11), .int (nI N), .ref (ad 19), .ref (ad 20), .ref (ad 21), .ref (ad 22), .ref (ad 23), .ref (ad 24), .ref (ad 25), .ref (ad 26), .ref (ad 27), .ref (ad 28), .ref (ad 29)])), ((ad 19), .inl (cA, N * 6, .inl meetingNames))]
abbrev qcNamedForm_meetingName (D : va_G) (cA : ClassId) (ad : Nat → Nat) (N : Nat) (meetingNames : Nat → Int32) (post : Int32 → Prop) (A : Nat → Prop) : Array Value → State → Outcome → State → Prop := va_Qi (S := Unit) (fun r u => post r ) (fun u t => xB D cA A (wdNamedForm_meetingName cA ad N meetingNames) t) A
abbrev rmNamedForm_meetingName : Room := { frames := 0, cells := 0, slots := 0, locals := 0 }
set_option maxHeartbeats 4000000 in
set_option maxRecDepth 100000 in
theorem ktNamedForm_meetingName (l : Launch) (D : va_G) (cA : ClassId) (ad : Nat → Nat) (N : Nat) (sz : Nat) (meetingNames : Nat → Int32) (v1 : Int32) (v2 : Int32) (post : Int32 → Prop) (hw : wpNamedForm_meetingName N meetingNames v1 v2 post) : Met l yNamedForm_meetingName (Cond.code yNamedForm_meetingName cNamedForm_meetingName 3 (some .int) :: xW) rmNamedForm_meetingName (va_Pc [.ref (ad 18), .int v1, .int v2] (xPc D cA (wdNamedForm_meetingName cA ad N meetingNames) sz)) (qcNamedForm_meetingName D cA ad N meetingNames post (va_A (wdNamedForm_meetingName cA ad N meetingNames) sz)) 0 0 (va_A (wdNamedForm_meetingName cA ad N meetingNames) sz) := by
  refine Met.ofW (cc := cNamedForm_meetingName) (maxL := 3) (ret := (some .int)) (by decide) rfl ?_
  intro p e s m args below meth c s₁ B hml hv
  obtain ⟨rfl, hsz, hP, hK, hD0, hN⟩ := hv
  have hx := B.exec
  have hb := B.bytes
  have hr := B.returns
  have hts := atoms_spec (ws := (Cond.code yNamedForm_meetingName cNamedForm_meetingName 3 (some .int) :: xW)) B.pre
  have hown : s.vm.findClass "OnceNamed$NamedForm" = some m.cls := findClass_of_methodNamed B.named
  have hlocks := B.notSynchronized
  subst hsz
  have hD := hD0.self (sz := s.heap.size)
  generalize hAe : va_A (wdNamedForm_meetingName cA ad N meetingNames) s.heap.size = A at hD ⊢
  have hA : ∀ q : Nat, s.heap.size ≤ q → A q := fun q h => by rw [← hAe]; exact Or.inr h
  have hS : va_S A s.heap s.heap [] := va_S.rf
  have hend : ∀ (r : Int32)  (H : Heap) (locs : List Loc) (pc : Nat) (ls : Array Slot), decode cNamedForm_meetingName pc = .ok (.ireturn, 1) → va_P D vwCl (wdNamedForm_meetingName cA ad N meetingNames) H → va_D A (wdNamedForm_meetingName cA ad N meetingNames) → va_S A s.heap H locs → post r  → W p l e (headSpec (Cond.code yNamedForm_meetingName cNamedForm_meetingName 3 (some .int) :: xW) rmNamedForm_meetingName).room s m ([.ref (ad 18), .int v1, .int v2] : List Value).toArray below meth c H locs 0 0 (MQ below (qcNamedForm_meetingName D cA ad N meetingNames post A) ([.ref (ad 18), .int v1, .int v2] : List Value).toArray s 0 0 A) (F0 m pc ls [.int r]) := fun r  H locs pc ls hd hP hD hS hw => W.iret (v := r) hx hb hr (fun t ht hW => ⟨⟨r, (), rfl, hw, ⟨by rw [ht]; exact hP, va_K.moved hW.alike hK, hD⟩⟩, hS.F ht⟩) hS.2.2 hd
  generalize hQ : MQ below (qcNamedForm_meetingName D cA ad N meetingNames post A) ([.ref (ad 18), .int v1, .int v2] : List Value).toArray s 0 0 A = Q at hend ⊢
  have hl := lv_entry ([.ref (ad 18), .int v1, .int v2]) (n := 3) (Nat.le_of_ble_eq_true rfl)
  rw [lg_entry_eq]
  generalize (lg_sl ([.ref (ad 18), .int v1, .int v2]) ++ List.replicate (3 - (lg_sl ([.ref (ad 18), .int v1, .int v2])).length) Slot.unset).toArray = ls at hl ⊢
  have hl : lv_has ls 3 [(0, .ref (ad 18)), (1, .int v1), (2, .int v2)] := hl
  unfold wpNamedForm_meetingName at hw
  refine lv_aload_n hx hb dNamedForm_meetingName_0 rfl (lv_at hl 0 rfl) ?_
  refine va_get (D := D) (ci := 3) (v := .ref (ad 19)) (C := "OnceNamed$NamedForm") (T := TX3) (N := 14) hx hb hts (fun w h => List.mem_cons_of_mem _ (inX3 w h)) hown hK hP 0 rfl rfl 3 (by decide) (hts _ (List.mem_cons_of_mem _ kw_123)) (fun _ h9 => h9) rfl dNamedForm_meetingName_1 ?_
  refine lv_iload_n hx hb dNamedForm_meetingName_4 rfl (lv_at hl 1 rfl) ?_
  refine lv_bipush (v := 6) hx hb dNamedForm_meetingName_5 (by decide) ?_
  refine lv_imul hx hb dNamedForm_meetingName_7 ?_
  refine lv_iload_n hx hb dNamedForm_meetingName_8 rfl (lv_at hl 2 rfl) ?_
  refine lv_iadd hx hb dNamedForm_meetingName_9 ?_
  have ho := hw.1
  have hw := hw.2
  refine va_iald hx hb hK hP 1 0 rfl rfl ho dNamedForm_meetingName_10 ?_
  exact hend (meetingNames (Int32.toNatClampNeg ((v1 * 6) + v2))) _ _ _ _ dNamedForm_meetingName_11 hP hD hS hw
abbrev wdNamedForm_meetingUse (cA : ClassId) (ad : Nat → Nat) (N : Nat) (meetingUses : Nat → Int32) : va_W := [((ad 18), .inr (3, [.ref (ad 1), .ref (ad 11), .int (nI N), .ref (ad 19), .ref (ad 20), .ref (ad 21), .ref (ad 22), .ref (ad 23), .ref (ad 24), .ref (ad 25), .ref (ad 26), .ref (ad 27), .ref (ad 28), .ref (ad 29)])), ((ad 20), .inl (cA, N * 6 * (N + 1), .inl meetingUses))]
abbrev qcNamedForm_meetingUse (D : va_G) (cA : ClassId) (ad : Nat → Nat) (N : Nat) (meetingUses : Nat → Int32) (post : Int32 → Prop) (A : Nat → Prop) : Array Value → State → Outcome → State → Prop := va_Qi (S := Unit) (fun r u => post r ) (fun u t => xB D cA A (wdNamedForm_meetingUse cA ad N meetingUses) t) A
abbrev rmNamedForm_meetingUse : Room := { frames := 1, cells := 0, slots := 0, locals := 23 }
set_option maxHeartbeats 4000000 in
set_option maxRecDepth 100000 in
theorem ktNamedForm_meetingUse (l : Launch) (D : va_G) (cA : ClassId) (ad : Nat → Nat) (N : Nat) (sz : Nat) (meetingUses : Nat → Int32) (v1 : Int32) (v2 : Int32) (v3 : Int32) (post : Int32 → Prop) (hw : wpNamedForm_meetingUse N meetingUses v1 v2 v3 post) : Met l yNamedForm_meetingUse (Cond.code yNamedForm_meetingUse cNamedForm_meetingUse 4 (some .int) :: xW) rmNamedForm_meetingUse (va_Pc [.ref (ad 18), .int v1, .int v2, .int v3] (xPc D cA (wdNamedForm_meetingUse cA ad N meetingUses) sz)) (qcNamedForm_meetingUse D cA ad N meetingUses post (va_A (wdNamedForm_meetingUse cA ad N meetingUses) sz)) 0 0 (va_A (wdNamedForm_meetingUse cA ad N meetingUses) sz) := by
  refine Met.ofW (cc := cNamedForm_meetingUse) (maxL := 4) (ret := (some .int)) (by decide) rfl ?_
  intro p e s m args below meth c s₁ B hml hv
  obtain ⟨rfl, hsz, hP, hK, hD0, hN⟩ := hv
  have hx := B.exec
  have hb := B.bytes
  have hr := B.returns
  have hts := atoms_spec (ws := (Cond.code yNamedForm_meetingUse cNamedForm_meetingUse 4 (some .int) :: xW)) B.pre
  have hown : s.vm.findClass "OnceNamed$NamedForm" = some m.cls := findClass_of_methodNamed B.named
  have hlocks := B.notSynchronized
  subst hsz
  have hD := hD0.self (sz := s.heap.size)
  generalize hAe : va_A (wdNamedForm_meetingUse cA ad N meetingUses) s.heap.size = A at hD ⊢
  have hA : ∀ q : Nat, s.heap.size ≤ q → A q := fun q h => by rw [← hAe]; exact Or.inr h
  have hS : va_S A s.heap s.heap [] := va_S.rf
  have hend : ∀ (r : Int32)  (H : Heap) (locs : List Loc) (pc : Nat) (ls : Array Slot), decode cNamedForm_meetingUse pc = .ok (.ireturn, 1) → va_P D vwCl (wdNamedForm_meetingUse cA ad N meetingUses) H → va_D A (wdNamedForm_meetingUse cA ad N meetingUses) → va_S A s.heap H locs → post r  → W p l e (headSpec (Cond.code yNamedForm_meetingUse cNamedForm_meetingUse 4 (some .int) :: xW) rmNamedForm_meetingUse).room s m ([.ref (ad 18), .int v1, .int v2, .int v3] : List Value).toArray below meth c H locs 0 0 (MQ below (qcNamedForm_meetingUse D cA ad N meetingUses post A) ([.ref (ad 18), .int v1, .int v2, .int v3] : List Value).toArray s 0 0 A) (F0 m pc ls [.int r]) := fun r  H locs pc ls hd hP hD hS hw => W.iret (v := r) hx hb hr (fun t ht hW => ⟨⟨r, (), rfl, hw, ⟨by rw [ht]; exact hP, va_K.moved hW.alike hK, hD⟩⟩, hS.F ht⟩) hS.2.2 hd
  generalize hQ : MQ below (qcNamedForm_meetingUse D cA ad N meetingUses post A) ([.ref (ad 18), .int v1, .int v2, .int v3] : List Value).toArray s 0 0 A = Q at hend ⊢
  have hl := lv_entry ([.ref (ad 18), .int v1, .int v2, .int v3]) (n := 4) (Nat.le_of_ble_eq_true rfl)
  rw [lg_entry_eq]
  generalize (lg_sl ([.ref (ad 18), .int v1, .int v2, .int v3]) ++ List.replicate (4 - (lg_sl ([.ref (ad 18), .int v1, .int v2, .int v3])).length) Slot.unset).toArray = ls at hl ⊢
  have hl : lv_has ls 4 [(0, .ref (ad 18)), (1, .int v1), (2, .int v2), (3, .int v3)] := hl
  unfold wpNamedForm_meetingUse at hw
  refine lv_aload_n hx hb dNamedForm_meetingUse_0 rfl (lv_at hl 0 rfl) ?_
  refine va_get (D := D) (ci := 3) (v := .ref (ad 20)) (C := "OnceNamed$NamedForm") (T := TX3) (N := 14) hx hb hts (fun w h => List.mem_cons_of_mem _ (inX3 w h)) hown hK hP 0 rfl rfl 4 (by decide) (hts _ (List.mem_cons_of_mem _ kw_124)) (fun _ h9 => h9) rfl dNamedForm_meetingUse_1 ?_
  refine lv_aload_n hx hb dNamedForm_meetingUse_4 rfl (lv_at hl 0 rfl) ?_
  refine lv_iload_n hx hb dNamedForm_meetingUse_5 rfl (lv_at hl 1 rfl) ?_
  refine lv_iload_n hx hb dNamedForm_meetingUse_6 rfl (lv_at hl 2 rfl) ?_
  refine lv_iload_n hx hb dNamedForm_meetingUse_7 rfl (lv_at hl 3 rfl) ?_
  refine xci (va_runV ⟨hx, hb, hml, hown, hts⟩ (ktNamedForm_useOfMeeting l D cA ad N _ v1 v2 v3 _ hw) (cwV 3 hts (goodV kw_397 kw_399 ks_1_13 kw_6 kw_400) rfl rfl rfl (by decide +kernel) ⟨Nat.le_of_ble_eq_true rfl, Nat.le_of_ble_eq_true rfl⟩) (xpreV hK hP hD hN [0] rfl rfl 0 rfl rfl) rfl rfl hl.1 rfl (lv_room (Nat.le_of_ble_eq_true rfl)) dNamedForm_meetingUse_8 ⟨Nat.le_of_ble_eq_true rfl, Nat.le_of_ble_eq_true rfl⟩) hP hD hS hA [0] [1] rfl rfl rfl rfl [1, 0] rfl (fun _ => rfl) (fun r8 u H locs hw hP hD hS => ?_)
  have hP : va_P D vwCl (wdNamedForm_meetingUse cA ad N meetingUses) H := hP
  have hD : va_D A (wdNamedForm_meetingUse cA ad N meetingUses) := hD
  have ho := hw.1
  have hw := hw.2
  refine va_iald hx hb hK hP 1 0 rfl rfl ho dNamedForm_meetingUse_11 ?_
  exact hend (meetingUses (Int32.toNatClampNeg r8)) _ _ _ _ dNamedForm_meetingUse_12 hP hD hS hw
abbrev wdNamedForm_nameSet (cA : ClassId) (ad : Nat → Nat) (N : Nat) (stepNames : Nat → Int32) : va_W := [((ad 18), .inr (3, [.ref (ad 1), .ref (ad 11), .int (nI N), .ref (ad 19), .ref (ad 20), .ref (ad 21), .ref (ad 22), .ref (ad 23), .ref (ad 24), .ref (ad 25), .ref (ad 26), .ref (ad 27), .ref (ad 28), .ref (ad 29)])), ((ad 21), .inl (cA, N * 6, .inl stepNames))]
abbrev qcNamedForm_nameSet (D : va_G) (cA : ClassId) (ad : Nat → Nat) (N : Nat) (stepNames : Nat → Int32) (post : Int32 → Prop) (A : Nat → Prop) : Array Value → State → Outcome → State → Prop := va_Qi (S := Unit) (fun r u => post r ) (fun u t => xB D cA A (wdNamedForm_nameSet cA ad N stepNames) t) A
abbrev rmNamedForm_nameSet : Room := { frames := 0, cells := 0, slots := 0, locals := 0 }
set_option maxHeartbeats 4000000 in
set_option maxRecDepth 100000 in
theorem ktNamedForm_nameSet (l : Launch) (D : va_G) (cA : ClassId) (ad : Nat → Nat) (N : Nat) (sz : Nat) (stepNames : Nat → Int32) (v1 : Int32) (v2 : Int32) (post : Int32 → Prop) (hw : wpNamedForm_nameSet N stepNames v1 v2 post) : Met l yNamedForm_nameSet (Cond.code yNamedForm_nameSet cNamedForm_nameSet 3 (some .int) :: xW) rmNamedForm_nameSet (va_Pc [.ref (ad 18), .int v1, .int v2] (xPc D cA (wdNamedForm_nameSet cA ad N stepNames) sz)) (qcNamedForm_nameSet D cA ad N stepNames post (va_A (wdNamedForm_nameSet cA ad N stepNames) sz)) 0 0 (va_A (wdNamedForm_nameSet cA ad N stepNames) sz) := by
  refine Met.ofW (cc := cNamedForm_nameSet) (maxL := 3) (ret := (some .int)) (by decide) rfl ?_
  intro p e s m args below meth c s₁ B hml hv
  obtain ⟨rfl, hsz, hP, hK, hD0, hN⟩ := hv
  have hx := B.exec
  have hb := B.bytes
  have hr := B.returns
  have hts := atoms_spec (ws := (Cond.code yNamedForm_nameSet cNamedForm_nameSet 3 (some .int) :: xW)) B.pre
  have hown : s.vm.findClass "OnceNamed$NamedForm" = some m.cls := findClass_of_methodNamed B.named
  have hlocks := B.notSynchronized
  subst hsz
  have hD := hD0.self (sz := s.heap.size)
  generalize hAe : va_A (wdNamedForm_nameSet cA ad N stepNames) s.heap.size = A at hD ⊢
  have hA : ∀ q : Nat, s.heap.size ≤ q → A q := fun q h => by rw [← hAe]; exact Or.inr h
  have hS : va_S A s.heap s.heap [] := va_S.rf
  have hend : ∀ (r : Int32)  (H : Heap) (locs : List Loc) (pc : Nat) (ls : Array Slot), decode cNamedForm_nameSet pc = .ok (.ireturn, 1) → va_P D vwCl (wdNamedForm_nameSet cA ad N stepNames) H → va_D A (wdNamedForm_nameSet cA ad N stepNames) → va_S A s.heap H locs → post r  → W p l e (headSpec (Cond.code yNamedForm_nameSet cNamedForm_nameSet 3 (some .int) :: xW) rmNamedForm_nameSet).room s m ([.ref (ad 18), .int v1, .int v2] : List Value).toArray below meth c H locs 0 0 (MQ below (qcNamedForm_nameSet D cA ad N stepNames post A) ([.ref (ad 18), .int v1, .int v2] : List Value).toArray s 0 0 A) (F0 m pc ls [.int r]) := fun r  H locs pc ls hd hP hD hS hw => W.iret (v := r) hx hb hr (fun t ht hW => ⟨⟨r, (), rfl, hw, ⟨by rw [ht]; exact hP, va_K.moved hW.alike hK, hD⟩⟩, hS.F ht⟩) hS.2.2 hd
  generalize hQ : MQ below (qcNamedForm_nameSet D cA ad N stepNames post A) ([.ref (ad 18), .int v1, .int v2] : List Value).toArray s 0 0 A = Q at hend ⊢
  have hl := lv_entry ([.ref (ad 18), .int v1, .int v2]) (n := 3) (Nat.le_of_ble_eq_true rfl)
  rw [lg_entry_eq]
  generalize (lg_sl ([.ref (ad 18), .int v1, .int v2]) ++ List.replicate (3 - (lg_sl ([.ref (ad 18), .int v1, .int v2])).length) Slot.unset).toArray = ls at hl ⊢
  have hl : lv_has ls 3 [(0, .ref (ad 18)), (1, .int v1), (2, .int v2)] := hl
  unfold wpNamedForm_nameSet at hw
  refine lv_aload_n hx hb dNamedForm_nameSet_0 rfl (lv_at hl 0 rfl) ?_
  refine va_get (D := D) (ci := 3) (v := .ref (ad 21)) (C := "OnceNamed$NamedForm") (T := TX3) (N := 14) hx hb hts (fun w h => List.mem_cons_of_mem _ (inX3 w h)) hown hK hP 0 rfl rfl 5 (by decide) (hts _ (List.mem_cons_of_mem _ kw_125)) (fun _ h9 => h9) rfl dNamedForm_nameSet_1 ?_
  refine lv_iload_n hx hb dNamedForm_nameSet_4 rfl (lv_at hl 1 rfl) ?_
  refine lv_bipush (v := 6) hx hb dNamedForm_nameSet_5 (by decide) ?_
  refine lv_imul hx hb dNamedForm_nameSet_7 ?_
  refine lv_iload_n hx hb dNamedForm_nameSet_8 rfl (lv_at hl 2 rfl) ?_
  refine lv_iadd hx hb dNamedForm_nameSet_9 ?_
  have ho := hw.1
  have hw := hw.2
  refine va_iald hx hb hK hP 1 0 rfl rfl ho dNamedForm_nameSet_10 ?_
  exact hend (stepNames (Int32.toNatClampNeg ((v1 * 6) + v2))) _ _ _ _ dNamedForm_nameSet_11 hP hD hS hw
abbrev wdNamedForm_stepUse (cA : ClassId) (ad : Nat → Nat) (N : Nat) (firstUses : Nat → Int32) (secondUses : Nat → Int32) : va_W := [((ad 18), .inr (3, [.ref (ad 1), .ref (ad 11), .int (nI N), .ref (ad 19), .ref (ad 20), .ref (ad 21), .ref (ad 22), .ref (ad 23), .ref (ad 24), .ref (ad 25), .ref (ad 26), .ref (ad 27), .ref (ad 28), .ref (ad 29)])), ((ad 22), .inl (cA, N * 6, .inl firstUses)), ((ad 23), .inl (cA, N * 6, .inl secondUses))]
abbrev qcNamedForm_stepUse (D : va_G) (cA : ClassId) (ad : Nat → Nat) (N : Nat) (firstUses : Nat → Int32) (secondUses : Nat → Int32) (post : Int32 → Prop) (A : Nat → Prop) : Array Value → State → Outcome → State → Prop := va_Qi (S := Unit) (fun r u => post r ) (fun u t => xB D cA A (wdNamedForm_stepUse cA ad N firstUses secondUses) t) A
abbrev rmNamedForm_stepUse : Room := { frames := 0, cells := 0, slots := 0, locals := 0 }
set_option maxHeartbeats 4000000 in
set_option maxRecDepth 100000 in
theorem ktNamedForm_stepUse (l : Launch) (D : va_G) (cA : ClassId) (ad : Nat → Nat) (N : Nat) (sz : Nat) (firstUses : Nat → Int32) (secondUses : Nat → Int32) (v1 : Int32) (v2 : Int32) (v3 : Int32) (post : Int32 → Prop) (hw : wpNamedForm_stepUse N firstUses secondUses v1 v2 v3 post) : Met l yNamedForm_stepUse (Cond.code yNamedForm_stepUse cNamedForm_stepUse 5 (some .int) :: xW) rmNamedForm_stepUse (va_Pc [.ref (ad 18), .int v1, .int v2, .int v3] (xPc D cA (wdNamedForm_stepUse cA ad N firstUses secondUses) sz)) (qcNamedForm_stepUse D cA ad N firstUses secondUses post (va_A (wdNamedForm_stepUse cA ad N firstUses secondUses) sz)) 0 0 (va_A (wdNamedForm_stepUse cA ad N firstUses secondUses) sz) := by
  refine Met.ofW (cc := cNamedForm_stepUse) (maxL := 5) (ret := (some .int)) (by decide) rfl ?_
  intro p e s m args below meth c s₁ B hml hv
  obtain ⟨rfl, hsz, hP, hK, hD0, hN⟩ := hv
  have hx := B.exec
  have hb := B.bytes
  have hr := B.returns
  have hts := atoms_spec (ws := (Cond.code yNamedForm_stepUse cNamedForm_stepUse 5 (some .int) :: xW)) B.pre
  have hown : s.vm.findClass "OnceNamed$NamedForm" = some m.cls := findClass_of_methodNamed B.named
  have hlocks := B.notSynchronized
  subst hsz
  have hD := hD0.self (sz := s.heap.size)
  generalize hAe : va_A (wdNamedForm_stepUse cA ad N firstUses secondUses) s.heap.size = A at hD ⊢
  have hA : ∀ q : Nat, s.heap.size ≤ q → A q := fun q h => by rw [← hAe]; exact Or.inr h
  have hS : va_S A s.heap s.heap [] := va_S.rf
  have hend : ∀ (r : Int32)  (H : Heap) (locs : List Loc) (pc : Nat) (ls : Array Slot), decode cNamedForm_stepUse pc = .ok (.ireturn, 1) → va_P D vwCl (wdNamedForm_stepUse cA ad N firstUses secondUses) H → va_D A (wdNamedForm_stepUse cA ad N firstUses secondUses) → va_S A s.heap H locs → post r  → W p l e (headSpec (Cond.code yNamedForm_stepUse cNamedForm_stepUse 5 (some .int) :: xW) rmNamedForm_stepUse).room s m ([.ref (ad 18), .int v1, .int v2, .int v3] : List Value).toArray below meth c H locs 0 0 (MQ below (qcNamedForm_stepUse D cA ad N firstUses secondUses post A) ([.ref (ad 18), .int v1, .int v2, .int v3] : List Value).toArray s 0 0 A) (F0 m pc ls [.int r]) := fun r  H locs pc ls hd hP hD hS hw => W.iret (v := r) hx hb hr (fun t ht hW => ⟨⟨r, (), rfl, hw, ⟨by rw [ht]; exact hP, va_K.moved hW.alike hK, hD⟩⟩, hS.F ht⟩) hS.2.2 hd
  generalize hQ : MQ below (qcNamedForm_stepUse D cA ad N firstUses secondUses post A) ([.ref (ad 18), .int v1, .int v2, .int v3] : List Value).toArray s 0 0 A = Q at hend ⊢
  have hl := lv_entry ([.ref (ad 18), .int v1, .int v2, .int v3]) (n := 5) (Nat.le_of_ble_eq_true rfl)
  rw [lg_entry_eq]
  generalize (lg_sl ([.ref (ad 18), .int v1, .int v2, .int v3]) ++ List.replicate (5 - (lg_sl ([.ref (ad 18), .int v1, .int v2, .int v3])).length) Slot.unset).toArray = ls at hl ⊢
  have hl : lv_has ls 5 [(0, .ref (ad 18)), (1, .int v1), (2, .int v2), (3, .int v3)] := hl
  unfold wpNamedForm_stepUse at hw
  refine lv_iload_n hx hb dNamedForm_stepUse_0 rfl (lv_at hl 1 rfl) ?_
  refine lv_bipush (v := 6) hx hb dNamedForm_stepUse_1 (by decide) ?_
  refine lv_imul hx hb dNamedForm_stepUse_3 ?_
  refine lv_iload_n hx hb dNamedForm_stepUse_4 rfl (lv_at hl 2 rfl) ?_
  refine lv_iadd hx hb dNamedForm_stepUse_5 ?_
  refine lv_topi (fun v4_6 e_v4_6 => ?_)
  have hw := hw v4_6 e_v4_6
  refine lv_istore (lv' := [(4, .int v4_6), (0, .ref (ad 18)), (1, .int v1), (2, .int v2), (3, .int v3)]) hx hb dNamedForm_stepUse_6 hl (by decide) rfl (fun ls hl => ?_)
  refine lv_iload_n hx hb dNamedForm_stepUse_8 rfl (lv_at hl 4 rfl) ?_
  refine lv_if_ne (tgt := 22) hx hb dNamedForm_stepUse_9 rfl (fun hc => ?_) (fun hc => ?_)
  · have hw := hw.1 hc
    refine lv_aload_n hx hb dNamedForm_stepUse_22 rfl (lv_at hl 1 rfl) ?_
    refine va_get (D := D) (ci := 3) (v := .ref (ad 23)) (C := "OnceNamed$NamedForm") (T := TX3) (N := 14) hx hb hts (fun w h => List.mem_cons_of_mem _ (inX3 w h)) hown hK hP 0 rfl rfl 7 (by decide) (hts _ (List.mem_cons_of_mem _ kw_127)) (fun _ h9 => h9) rfl dNamedForm_stepUse_23 ?_
    refine lv_iload hx hb dNamedForm_stepUse_26 (lv_at hl 0 rfl) ?_
    have ho := hw.1
    have hw := hw.2
    refine va_iald hx hb hK hP 2 0 rfl rfl ho dNamedForm_stepUse_28 ?_
    exact hend (secondUses (Int32.toNatClampNeg v4_6)) _ _ _ _ dNamedForm_stepUse_29 hP hD hS hw
  · have hw := hw.2 hc
    refine lv_aload_n hx hb dNamedForm_stepUse_12 rfl (lv_at hl 1 rfl) ?_
    refine va_get (D := D) (ci := 3) (v := .ref (ad 22)) (C := "OnceNamed$NamedForm") (T := TX3) (N := 14) hx hb hts (fun w h => List.mem_cons_of_mem _ (inX3 w h)) hown hK hP 0 rfl rfl 6 (by decide) (hts _ (List.mem_cons_of_mem _ kw_126)) (fun _ h9 => h9) rfl dNamedForm_stepUse_13 ?_
    refine lv_iload hx hb dNamedForm_stepUse_16 (lv_at hl 0 rfl) ?_
    have ho := hw.1
    have hw := hw.2
    refine va_iald hx hb hK hP 1 0 rfl rfl ho dNamedForm_stepUse_18 ?_
    refine lv_goto (tgt := 29) hx hb dNamedForm_stepUse_19 rfl ?_
    exact hend (firstUses (Int32.toNatClampNeg v4_6)) _ _ _ _ dNamedForm_stepUse_29 hP hD hS hw
abbrev wdNamedForm_endUse (cA : ClassId) (ad : Nat → Nat) (N : Nat) (endUses : Nat → Int32) : va_W := [((ad 18), .inr (3, [.ref (ad 1), .ref (ad 11), .int (nI N), .ref (ad 19), .ref (ad 20), .ref (ad 21), .ref (ad 22), .ref (ad 23), .ref (ad 24), .ref (ad 25), .ref (ad 26), .ref (ad 27), .ref (ad 28), .ref (ad 29)])), ((ad 24), .inl (cA, N, .inl endUses))]
abbrev qcNamedForm_endUse (D : va_G) (cA : ClassId) (ad : Nat → Nat) (N : Nat) (endUses : Nat → Int32) (post : Int32 → Prop) (A : Nat → Prop) : Array Value → State → Outcome → State → Prop := va_Qi (S := Unit) (fun r u => post r ) (fun u t => xB D cA A (wdNamedForm_endUse cA ad N endUses) t) A
abbrev rmNamedForm_endUse : Room := { frames := 0, cells := 0, slots := 0, locals := 0 }
set_option maxHeartbeats 4000000 in
set_option maxRecDepth 100000 in
theorem ktNamedForm_endUse (l : Launch) (D : va_G) (cA : ClassId) (ad : Nat → Nat) (N : Nat) (sz : Nat) (endUses : Nat → Int32) (v1 : Int32) (post : Int32 → Prop) (hw : wpNamedForm_endUse N endUses v1 post) : Met l yNamedForm_endUse (Cond.code yNamedForm_endUse cNamedForm_endUse 2 (some .int) :: xW) rmNamedForm_endUse (va_Pc [.ref (ad 18), .int v1] (xPc D cA (wdNamedForm_endUse cA ad N endUses) sz)) (qcNamedForm_endUse D cA ad N endUses post (va_A (wdNamedForm_endUse cA ad N endUses) sz)) 0 0 (va_A (wdNamedForm_endUse cA ad N endUses) sz) := by
  refine Met.ofW (cc := cNamedForm_endUse) (maxL := 2) (ret := (some .int)) (by decide) rfl ?_
  intro p e s m args below meth c s₁ B hml hv
  obtain ⟨rfl, hsz, hP, hK, hD0, hN⟩ := hv
  have hx := B.exec
  have hb := B.bytes
  have hr := B.returns
  have hts := atoms_spec (ws := (Cond.code yNamedForm_endUse cNamedForm_endUse 2 (some .int) :: xW)) B.pre
  have hown : s.vm.findClass "OnceNamed$NamedForm" = some m.cls := findClass_of_methodNamed B.named
  have hlocks := B.notSynchronized
  subst hsz
  have hD := hD0.self (sz := s.heap.size)
  generalize hAe : va_A (wdNamedForm_endUse cA ad N endUses) s.heap.size = A at hD ⊢
  have hA : ∀ q : Nat, s.heap.size ≤ q → A q := fun q h => by rw [← hAe]; exact Or.inr h
  have hS : va_S A s.heap s.heap [] := va_S.rf
  have hend : ∀ (r : Int32)  (H : Heap) (locs : List Loc) (pc : Nat) (ls : Array Slot), decode cNamedForm_endUse pc = .ok (.ireturn, 1) → va_P D vwCl (wdNamedForm_endUse cA ad N endUses) H → va_D A (wdNamedForm_endUse cA ad N endUses) → va_S A s.heap H locs → post r  → W p l e (headSpec (Cond.code yNamedForm_endUse cNamedForm_endUse 2 (some .int) :: xW) rmNamedForm_endUse).room s m ([.ref (ad 18), .int v1] : List Value).toArray below meth c H locs 0 0 (MQ below (qcNamedForm_endUse D cA ad N endUses post A) ([.ref (ad 18), .int v1] : List Value).toArray s 0 0 A) (F0 m pc ls [.int r]) := fun r  H locs pc ls hd hP hD hS hw => W.iret (v := r) hx hb hr (fun t ht hW => ⟨⟨r, (), rfl, hw, ⟨by rw [ht]; exact hP, va_K.moved hW.alike hK, hD⟩⟩, hS.F ht⟩) hS.2.2 hd
  generalize hQ : MQ below (qcNamedForm_endUse D cA ad N endUses post A) ([.ref (ad 18), .int v1] : List Value).toArray s 0 0 A = Q at hend ⊢
  have hl := lv_entry ([.ref (ad 18), .int v1]) (n := 2) (Nat.le_of_ble_eq_true rfl)
  rw [lg_entry_eq]
  generalize (lg_sl ([.ref (ad 18), .int v1]) ++ List.replicate (2 - (lg_sl ([.ref (ad 18), .int v1])).length) Slot.unset).toArray = ls at hl ⊢
  have hl : lv_has ls 2 [(0, .ref (ad 18)), (1, .int v1)] := hl
  unfold wpNamedForm_endUse at hw
  refine lv_aload_n hx hb dNamedForm_endUse_0 rfl (lv_at hl 0 rfl) ?_
  refine va_get (D := D) (ci := 3) (v := .ref (ad 24)) (C := "OnceNamed$NamedForm") (T := TX3) (N := 14) hx hb hts (fun w h => List.mem_cons_of_mem _ (inX3 w h)) hown hK hP 0 rfl rfl 8 (by decide) (hts _ (List.mem_cons_of_mem _ kw_128)) (fun _ h9 => h9) rfl dNamedForm_endUse_1 ?_
  refine lv_iload_n hx hb dNamedForm_endUse_4 rfl (lv_at hl 1 rfl) ?_
  have ho := hw.1
  have hw := hw.2
  refine va_iald hx hb hK hP 1 0 rfl rfl ho dNamedForm_endUse_5 ?_
  exact hend (endUses (Int32.toNatClampNeg v1)) _ _ _ _ dNamedForm_endUse_6 hP hD hS hw
abbrev wdNamedForm_changeEndUse (cA : ClassId) (ad : Nat → Nat) (N : Nat) (endUses : Nat → Int32) : va_W := [((ad 18), .inr (3, [.ref (ad 1), .ref (ad 11), .int (nI N), .ref (ad 19), .ref (ad 20), .ref (ad 21), .ref (ad 22), .ref (ad 23), .ref (ad 24), .ref (ad 25), .ref (ad 26), .ref (ad 27), .ref (ad 28), .ref (ad 29)])), ((ad 24), .inl (cA, N, .inl endUses))]
abbrev qcNamedForm_changeEndUse (D : va_G) (cA : ClassId) (ad : Nat → Nat) (N : Nat) (endUses : Nat → Int32) (post : (Nat → Int32) → Prop) (A : Nat → Prop) : Array Value → State → Outcome → State → Prop := va_Qv (S := (Nat → Int32)) (fun u => post u) (fun u t => xB D cA A (wdNamedForm_changeEndUse cA ad N u) t) A
abbrev rmNamedForm_changeEndUse : Room := { frames := 0, cells := 0, slots := 0, locals := 0 }
set_option maxHeartbeats 4000000 in
set_option maxRecDepth 100000 in
theorem ktNamedForm_changeEndUse (l : Launch) (D : va_G) (cA : ClassId) (ad : Nat → Nat) (N : Nat) (sz : Nat) (endUses : Nat → Int32) (v1 : Int32) (v2 : Int32) (post : (Nat → Int32) → Prop) (hw : wpNamedForm_changeEndUse N endUses v1 v2 post) : Met l yNamedForm_changeEndUse (Cond.code yNamedForm_changeEndUse cNamedForm_changeEndUse 3 none :: xW) rmNamedForm_changeEndUse (va_Pc [.ref (ad 18), .int v1, .int v2] (xPc D cA (wdNamedForm_changeEndUse cA ad N endUses) sz)) (qcNamedForm_changeEndUse D cA ad N endUses post (va_A (wdNamedForm_changeEndUse cA ad N endUses) sz)) 0 0 (va_A (wdNamedForm_changeEndUse cA ad N endUses) sz) := by
  refine Met.ofW (cc := cNamedForm_changeEndUse) (maxL := 3) (ret := none) (by decide) rfl ?_
  intro p e s m args below meth c s₁ B hml hv
  obtain ⟨rfl, hsz, hP, hK, hD0, hN⟩ := hv
  have hx := B.exec
  have hb := B.bytes
  have hr := B.returns
  have hts := atoms_spec (ws := (Cond.code yNamedForm_changeEndUse cNamedForm_changeEndUse 3 none :: xW)) B.pre
  have hown : s.vm.findClass "OnceNamed$NamedForm" = some m.cls := findClass_of_methodNamed B.named
  have hlocks := B.notSynchronized
  subst hsz
  have hD := hD0.self (sz := s.heap.size)
  generalize hAe : va_A (wdNamedForm_changeEndUse cA ad N endUses) s.heap.size = A at hD ⊢
  have hA : ∀ q : Nat, s.heap.size ≤ q → A q := fun q h => by rw [← hAe]; exact Or.inr h
  have hS : va_S A s.heap s.heap [] := va_S.rf
  have hend : ∀ (u0 : Nat → Int32) (H : Heap) (locs : List Loc) (pc : Nat) (ls : Array Slot), decode cNamedForm_changeEndUse pc = .ok (.return_, 1) → va_P D vwCl (wdNamedForm_changeEndUse cA ad N u0) H → va_D A (wdNamedForm_changeEndUse cA ad N u0) → va_S A s.heap H locs → post u0 → W p l e (headSpec (Cond.code yNamedForm_changeEndUse cNamedForm_changeEndUse 3 none :: xW) rmNamedForm_changeEndUse).room s m ([.ref (ad 18), .int v1, .int v2] : List Value).toArray below meth c H locs 0 0 (MQ below (qcNamedForm_changeEndUse D cA ad N endUses post A) ([.ref (ad 18), .int v1, .int v2] : List Value).toArray s 0 0 A) (F0 m pc ls []) := fun u0 H locs pc ls hd hP hD hS hw => W.vret hx hb hr (fun t ht hW => ⟨⟨u0, rfl, hw, ⟨by rw [ht]; exact hP, va_K.moved hW.alike hK, hD⟩⟩, hS.F ht⟩) hS.2.2 hd
  generalize hQ : MQ below (qcNamedForm_changeEndUse D cA ad N endUses post A) ([.ref (ad 18), .int v1, .int v2] : List Value).toArray s 0 0 A = Q at hend ⊢
  have hl := lv_entry ([.ref (ad 18), .int v1, .int v2]) (n := 3) (Nat.le_of_ble_eq_true rfl)
  rw [lg_entry_eq]
  generalize (lg_sl ([.ref (ad 18), .int v1, .int v2]) ++ List.replicate (3 - (lg_sl ([.ref (ad 18), .int v1, .int v2])).length) Slot.unset).toArray = ls at hl ⊢
  have hl : lv_has ls 3 [(0, .ref (ad 18)), (1, .int v1), (2, .int v2)] := hl
  unfold wpNamedForm_changeEndUse at hw
  refine lv_aload_n hx hb dNamedForm_changeEndUse_0 rfl (lv_at hl 0 rfl) ?_
  refine va_get (D := D) (ci := 3) (v := .ref (ad 24)) (C := "OnceNamed$NamedForm") (T := TX3) (N := 14) hx hb hts (fun w h => List.mem_cons_of_mem _ (inX3 w h)) hown hK hP 0 rfl rfl 8 (by decide) (hts _ (List.mem_cons_of_mem _ kw_128)) (fun _ h9 => h9) rfl dNamedForm_changeEndUse_1 ?_
  refine lv_iload_n hx hb dNamedForm_changeEndUse_4 rfl (lv_at hl 1 rfl) ?_
  refine lv_iload_n hx hb dNamedForm_changeEndUse_5 rfl (lv_at hl 2 rfl) ?_
  have ho := hw.1
  have hw := hw.2
  refine va_iast hx hb hK hP hD hS 1 0 rfl rfl ho dNamedForm_changeEndUse_6 (fun H locs hP hD hS => ?_)
  have hP : va_P D vwCl (wdNamedForm_changeEndUse cA ad N (upd endUses (Int32.toNatClampNeg v1) v2)) H := hP
  have hD : va_D A (wdNamedForm_changeEndUse cA ad N (upd endUses (Int32.toNatClampNeg v1) v2)) := hD
  exact hend (upd endUses (Int32.toNatClampNeg v1) v2) _ _ _ _ dNamedForm_changeEndUse_7 hP hD hS hw
abbrev wdNamedForm_changeStepUse (cA : ClassId) (ad : Nat → Nat) (N : Nat) (firstUses : Nat → Int32) (secondUses : Nat → Int32) : va_W := [((ad 18), .inr (3, [.ref (ad 1), .ref (ad 11), .int (nI N), .ref (ad 19), .ref (ad 20), .ref (ad 21), .ref (ad 22), .ref (ad 23), .ref (ad 24), .ref (ad 25), .ref (ad 26), .ref (ad 27), .ref (ad 28), .ref (ad 29)])), ((ad 22), .inl (cA, N * 6, .inl firstUses)), ((ad 23), .inl (cA, N * 6, .inl secondUses))]
abbrev qcNamedForm_changeStepUse (D : va_G) (cA : ClassId) (ad : Nat → Nat) (N : Nat) (firstUses : Nat → Int32) (secondUses : Nat → Int32) (post : (Nat → Int32) → (Nat → Int32) → Prop) (A : Nat → Prop) : Array Value → State → Outcome → State → Prop := va_Qv (S := (Nat → Int32) × (Nat → Int32)) (fun u => post u.1 u.2) (fun u t => xB D cA A (wdNamedForm_changeStepUse cA ad N u.1 u.2) t) A
abbrev rmNamedForm_changeStepUse : Room := { frames := 0, cells := 0, slots := 0, locals := 0 }
set_option maxHeartbeats 4000000 in
set_option maxRecDepth 100000 in
theorem ktNamedForm_changeStepUse (l : Launch) (D : va_G) (cA : ClassId) (ad : Nat → Nat) (N : Nat) (sz : Nat) (firstUses : Nat → Int32) (secondUses : Nat → Int32) (v1 : Int32) (v2 : Int32) (v3 : Int32) (v4 : Int32) (post : (Nat → Int32) → (Nat → Int32) → Prop) (hw : wpNamedForm_changeStepUse N firstUses secondUses v1 v2 v3 v4 post) : Met l yNamedForm_changeStepUse (Cond.code yNamedForm_changeStepUse cNamedForm_changeStepUse 6 none :: xW) rmNamedForm_changeStepUse (va_Pc [.ref (ad 18), .int v1, .int v2, .int v3, .int v4] (xPc D cA (wdNamedForm_changeStepUse cA ad N firstUses secondUses) sz)) (qcNamedForm_changeStepUse D cA ad N firstUses secondUses post (va_A (wdNamedForm_changeStepUse cA ad N firstUses secondUses) sz)) 0 0 (va_A (wdNamedForm_changeStepUse cA ad N firstUses secondUses) sz) := by
  refine Met.ofW (cc := cNamedForm_changeStepUse) (maxL := 6) (ret := none) (by decide) rfl ?_
  intro p e s m args below meth c s₁ B hml hv
  obtain ⟨rfl, hsz, hP, hK, hD0, hN⟩ := hv
  have hx := B.exec
  have hb := B.bytes
  have hr := B.returns
  have hts := atoms_spec (ws := (Cond.code yNamedForm_changeStepUse cNamedForm_changeStepUse 6 none :: xW)) B.pre
  have hown : s.vm.findClass "OnceNamed$NamedForm" = some m.cls := findClass_of_methodNamed B.named
  have hlocks := B.notSynchronized
  subst hsz
  have hD := hD0.self (sz := s.heap.size)
  generalize hAe : va_A (wdNamedForm_changeStepUse cA ad N firstUses secondUses) s.heap.size = A at hD ⊢
  have hA : ∀ q : Nat, s.heap.size ≤ q → A q := fun q h => by rw [← hAe]; exact Or.inr h
  have hS : va_S A s.heap s.heap [] := va_S.rf
  have hend : ∀ (u0 : Nat → Int32) (u1 : Nat → Int32) (H : Heap) (locs : List Loc) (pc : Nat) (ls : Array Slot), decode cNamedForm_changeStepUse pc = .ok (.return_, 1) → va_P D vwCl (wdNamedForm_changeStepUse cA ad N u0 u1) H → va_D A (wdNamedForm_changeStepUse cA ad N u0 u1) → va_S A s.heap H locs → post u0 u1 → W p l e (headSpec (Cond.code yNamedForm_changeStepUse cNamedForm_changeStepUse 6 none :: xW) rmNamedForm_changeStepUse).room s m ([.ref (ad 18), .int v1, .int v2, .int v3, .int v4] : List Value).toArray below meth c H locs 0 0 (MQ below (qcNamedForm_changeStepUse D cA ad N firstUses secondUses post A) ([.ref (ad 18), .int v1, .int v2, .int v3, .int v4] : List Value).toArray s 0 0 A) (F0 m pc ls []) := fun u0 u1 H locs pc ls hd hP hD hS hw => W.vret hx hb hr (fun t ht hW => ⟨⟨(u0, u1), rfl, hw, ⟨by rw [ht]; exact hP, va_K.moved hW.alike hK, hD⟩⟩, hS.F ht⟩) hS.2.2 hd
  generalize hQ : MQ below (qcNamedForm_changeStepUse D cA ad N firstUses secondUses post A) ([.ref (ad 18), .int v1, .int v2, .int v3, .int v4] : List Value).toArray s 0 0 A = Q at hend ⊢
  have hl := lv_entry ([.ref (ad 18), .int v1, .int v2, .int v3, .int v4]) (n := 6) (Nat.le_of_ble_eq_true rfl)
  rw [lg_entry_eq]
  generalize (lg_sl ([.ref (ad 18), .int v1, .int v2, .int v3, .int v4]) ++ List.replicate (6 - (lg_sl ([.ref (ad 18), .int v1, .int v2, .int v3, .int v4])).length) Slot.unset).toArray = ls at hl ⊢
  have hl : lv_has ls 6 [(0, .ref (ad 18)), (1, .int v1), (2, .int v2), (3, .int v3), (4, .int v4)] := hl
  unfold wpNamedForm_changeStepUse at hw
  refine lv_iload_n hx hb dNamedForm_changeStepUse_0 rfl (lv_at hl 1 rfl) ?_
  refine lv_bipush (v := 6) hx hb dNamedForm_changeStepUse_1 (by decide) ?_
  refine lv_imul hx hb dNamedForm_changeStepUse_3 ?_
  refine lv_iload_n hx hb dNamedForm_changeStepUse_4 rfl (lv_at hl 2 rfl) ?_
  refine lv_iadd hx hb dNamedForm_changeStepUse_5 ?_
  refine lv_topi (fun v5_6 e_v5_6 => ?_)
  have hw := hw v5_6 e_v5_6
  refine lv_istore (lv' := [(5, .int v5_6), (0, .ref (ad 18)), (1, .int v1), (2, .int v2), (3, .int v3), (4, .int v4)]) hx hb dNamedForm_changeStepUse_6 hl (by decide) rfl (fun ls hl => ?_)
  refine lv_iload_n hx hb dNamedForm_changeStepUse_8 rfl (lv_at hl 4 rfl) ?_
  refine lv_if_ne (tgt := 24) hx hb dNamedForm_changeStepUse_9 rfl (fun hc => ?_) (fun hc => ?_)
  · have hw := hw.1 hc
    refine lv_aload_n hx hb dNamedForm_changeStepUse_24 rfl (lv_at hl 1 rfl) ?_
    refine va_get (D := D) (ci := 3) (v := .ref (ad 23)) (C := "OnceNamed$NamedForm") (T := TX3) (N := 14) hx hb hts (fun w h => List.mem_cons_of_mem _ (inX3 w h)) hown hK hP 0 rfl rfl 7 (by decide) (hts _ (List.mem_cons_of_mem _ kw_127)) (fun _ h9 => h9) rfl dNamedForm_changeStepUse_25 ?_
    refine lv_iload hx hb dNamedForm_changeStepUse_28 (lv_at hl 0 rfl) ?_
    refine lv_iload hx hb dNamedForm_changeStepUse_30 (lv_at hl 5 rfl) ?_
    have ho := hw.1
    have hw := hw.2
    refine va_iast hx hb hK hP hD hS 2 0 rfl rfl ho dNamedForm_changeStepUse_32 (fun H locs hP hD hS => ?_)
    have hP : va_P D vwCl (wdNamedForm_changeStepUse cA ad N firstUses (upd secondUses (Int32.toNatClampNeg v5_6) v4)) H := hP
    have hD : va_D A (wdNamedForm_changeStepUse cA ad N firstUses (upd secondUses (Int32.toNatClampNeg v5_6) v4)) := hD
    exact hend firstUses (upd secondUses (Int32.toNatClampNeg v5_6) v4) _ _ _ _ dNamedForm_changeStepUse_33 hP hD hS hw
  · have hw := hw.2 hc
    refine lv_aload_n hx hb dNamedForm_changeStepUse_12 rfl (lv_at hl 1 rfl) ?_
    refine va_get (D := D) (ci := 3) (v := .ref (ad 22)) (C := "OnceNamed$NamedForm") (T := TX3) (N := 14) hx hb hts (fun w h => List.mem_cons_of_mem _ (inX3 w h)) hown hK hP 0 rfl rfl 6 (by decide) (hts _ (List.mem_cons_of_mem _ kw_126)) (fun _ h9 => h9) rfl dNamedForm_changeStepUse_13 ?_
    refine lv_iload hx hb dNamedForm_changeStepUse_16 (lv_at hl 0 rfl) ?_
    refine lv_iload hx hb dNamedForm_changeStepUse_18 (lv_at hl 5 rfl) ?_
    have ho := hw.1
    have hw := hw.2
    refine va_iast hx hb hK hP hD hS 1 0 rfl rfl ho dNamedForm_changeStepUse_20 (fun H locs hP hD hS => ?_)
    have hP : va_P D vwCl (wdNamedForm_changeStepUse cA ad N (upd firstUses (Int32.toNatClampNeg v5_6) v4) secondUses) H := hP
    have hD : va_D A (wdNamedForm_changeStepUse cA ad N (upd firstUses (Int32.toNatClampNeg v5_6) v4) secondUses) := hD
    refine lv_goto (tgt := 33) hx hb dNamedForm_changeStepUse_21 rfl ?_
    exact hend (upd firstUses (Int32.toNatClampNeg v5_6) v4) secondUses _ _ _ _ dNamedForm_changeStepUse_33 hP hD hS hw
abbrev wdNamedForm_changeMeetingUse (cA : ClassId) (ad : Nat → Nat) (N : Nat) (meetingUses : Nat → Int32) : va_W := [((ad 18), .inr (3, [.ref (ad 1), .ref (ad 11), .int (nI N), .ref (ad 19), .ref (ad 20), .ref (ad 21), .ref (ad 22), .ref (ad 23), .ref (ad 24), .ref (ad 25), .ref (ad 26), .ref (ad 27), .ref (ad 28), .ref (ad 29)])), ((ad 20), .inl (cA, N * 6 * (N + 1), .inl meetingUses))]
abbrev qcNamedForm_changeMeetingUse (D : va_G) (cA : ClassId) (ad : Nat → Nat) (N : Nat) (meetingUses : Nat → Int32) (post : (Nat → Int32) → Prop) (A : Nat → Prop) : Array Value → State → Outcome → State → Prop := va_Qv (S := (Nat → Int32)) (fun u => post u) (fun u t => xB D cA A (wdNamedForm_changeMeetingUse cA ad N u) t) A
abbrev rmNamedForm_changeMeetingUse : Room := { frames := 1, cells := 0, slots := 0, locals := 23 }
set_option maxHeartbeats 4000000 in
set_option maxRecDepth 100000 in
theorem ktNamedForm_changeMeetingUse (l : Launch) (D : va_G) (cA : ClassId) (ad : Nat → Nat) (N : Nat) (sz : Nat) (meetingUses : Nat → Int32) (v1 : Int32) (v2 : Int32) (v3 : Int32) (v4 : Int32) (post : (Nat → Int32) → Prop) (hw : wpNamedForm_changeMeetingUse N meetingUses v1 v2 v3 v4 post) : Met l yNamedForm_changeMeetingUse (Cond.code yNamedForm_changeMeetingUse cNamedForm_changeMeetingUse 5 none :: xW) rmNamedForm_changeMeetingUse (va_Pc [.ref (ad 18), .int v1, .int v2, .int v3, .int v4] (xPc D cA (wdNamedForm_changeMeetingUse cA ad N meetingUses) sz)) (qcNamedForm_changeMeetingUse D cA ad N meetingUses post (va_A (wdNamedForm_changeMeetingUse cA ad N meetingUses) sz)) 0 0 (va_A (wdNamedForm_changeMeetingUse cA ad N meetingUses) sz) := by
  refine Met.ofW (cc := cNamedForm_changeMeetingUse) (maxL := 5) (ret := none) (by decide) rfl ?_
  intro p e s m args below meth c s₁ B hml hv
  obtain ⟨rfl, hsz, hP, hK, hD0, hN⟩ := hv
  have hx := B.exec
  have hb := B.bytes
  have hr := B.returns
  have hts := atoms_spec (ws := (Cond.code yNamedForm_changeMeetingUse cNamedForm_changeMeetingUse 5 none :: xW)) B.pre
  have hown : s.vm.findClass "OnceNamed$NamedForm" = some m.cls := findClass_of_methodNamed B.named
  have hlocks := B.notSynchronized
  subst hsz
  have hD := hD0.self (sz := s.heap.size)
  generalize hAe : va_A (wdNamedForm_changeMeetingUse cA ad N meetingUses) s.heap.size = A at hD ⊢
  have hA : ∀ q : Nat, s.heap.size ≤ q → A q := fun q h => by rw [← hAe]; exact Or.inr h
  have hS : va_S A s.heap s.heap [] := va_S.rf
  have hend : ∀ (u0 : Nat → Int32) (H : Heap) (locs : List Loc) (pc : Nat) (ls : Array Slot), decode cNamedForm_changeMeetingUse pc = .ok (.return_, 1) → va_P D vwCl (wdNamedForm_changeMeetingUse cA ad N u0) H → va_D A (wdNamedForm_changeMeetingUse cA ad N u0) → va_S A s.heap H locs → post u0 → W p l e (headSpec (Cond.code yNamedForm_changeMeetingUse cNamedForm_changeMeetingUse 5 none :: xW) rmNamedForm_changeMeetingUse).room s m ([.ref (ad 18), .int v1, .int v2, .int v3, .int v4] : List Value).toArray below meth c H locs 0 0 (MQ below (qcNamedForm_changeMeetingUse D cA ad N meetingUses post A) ([.ref (ad 18), .int v1, .int v2, .int v3, .int v4] : List Value).toArray s 0 0 A) (F0 m pc ls []) := fun u0 H locs pc ls hd hP hD hS hw => W.vret hx hb hr (fun t ht hW => ⟨⟨u0, rfl, hw, ⟨by rw [ht]; exact hP, va_K.moved hW.alike hK, hD⟩⟩, hS.F ht⟩) hS.2.2 hd
  generalize hQ : MQ below (qcNamedForm_changeMeetingUse D cA ad N meetingUses post A) ([.ref (ad 18), .int v1, .int v2, .int v3, .int v4] : List Value).toArray s 0 0 A = Q at hend ⊢
  have hl := lv_entry ([.ref (ad 18), .int v1, .int v2, .int v3, .int v4]) (n := 5) (Nat.le_of_ble_eq_true rfl)
  rw [lg_entry_eq]
  generalize (lg_sl ([.ref (ad 18), .int v1, .int v2, .int v3, .int v4]) ++ List.replicate (5 - (lg_sl ([.ref (ad 18), .int v1, .int v2, .int v3, .int v4])).length) Slot.unset).toArray = ls at hl ⊢
  have hl : lv_has ls 5 [(0, .ref (ad 18)), (1, .int v1), (2, .int v2), (3, .int v3), (4, .int v4)] := hl
  unfold wpNamedForm_changeMeetingUse at hw
  refine lv_aload_n hx hb dNamedForm_changeMeetingUse_0 rfl (lv_at hl 0 rfl) ?_
  refine va_get (D := D) (ci := 3) (v := .ref (ad 20)) (C := "OnceNamed$NamedForm") (T := TX3) (N := 14) hx hb hts (fun w h => List.mem_cons_of_mem _ (inX3 w h)) hown hK hP 0 rfl rfl 4 (by decide) (hts _ (List.mem_cons_of_mem _ kw_124)) (fun _ h9 => h9) rfl dNamedForm_changeMeetingUse_1 ?_
  refine lv_aload_n hx hb dNamedForm_changeMeetingUse_4 rfl (lv_at hl 0 rfl) ?_
  refine lv_iload_n hx hb dNamedForm_changeMeetingUse_5 rfl (lv_at hl 1 rfl) ?_
  refine lv_iload_n hx hb dNamedForm_changeMeetingUse_6 rfl (lv_at hl 2 rfl) ?_
  refine lv_iload_n hx hb dNamedForm_changeMeetingUse_7 rfl (lv_at hl 3 rfl) ?_
  refine xci (va_runV ⟨hx, hb, hml, hown, hts⟩ (ktNamedForm_useOfMeeting l D cA ad N _ v1 v2 v3 _ hw) (cwV 3 hts (goodV kw_397 kw_399 ks_1_13 kw_6 kw_400) rfl rfl rfl (by decide +kernel) ⟨Nat.le_of_ble_eq_true rfl, Nat.le_of_ble_eq_true rfl⟩) (xpreV hK hP hD hN [0] rfl rfl 0 rfl rfl) rfl rfl hl.1 rfl (lv_room (Nat.le_of_ble_eq_true rfl)) dNamedForm_changeMeetingUse_8 ⟨Nat.le_of_ble_eq_true rfl, Nat.le_of_ble_eq_true rfl⟩) hP hD hS hA [0] [1] rfl rfl rfl rfl [1, 0] rfl (fun _ => rfl) (fun r8 u H locs hw hP hD hS => ?_)
  have hP : va_P D vwCl (wdNamedForm_changeMeetingUse cA ad N meetingUses) H := hP
  have hD : va_D A (wdNamedForm_changeMeetingUse cA ad N meetingUses) := hD
  refine lv_iload hx hb dNamedForm_changeMeetingUse_11 (lv_at hl 4 rfl) ?_
  have ho := hw.1
  have hw := hw.2
  refine va_iast hx hb hK hP hD hS 1 0 rfl rfl ho dNamedForm_changeMeetingUse_13 (fun H locs hP hD hS => ?_)
  have hP : va_P D vwCl (wdNamedForm_changeMeetingUse cA ad N (upd meetingUses (Int32.toNatClampNeg r8) v4)) H := hP
  have hD : va_D A (wdNamedForm_changeMeetingUse cA ad N (upd meetingUses (Int32.toNatClampNeg r8) v4)) := hD
  exact hend (upd meetingUses (Int32.toNatClampNeg r8) v4) _ _ _ _ dNamedForm_changeMeetingUse_14 hP hD hS hw
