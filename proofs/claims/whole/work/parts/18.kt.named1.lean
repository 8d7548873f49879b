abbrev wdNamedForm_markMeetings (cA : ClassId) (ad : Nat → Nat) (N : Nat) (stepCount : Nat → Int32) (kind : Nat → Int32) (target : Nat → Int32) (orderSize : Int32) (reached : Int32) (frontiers : Nat → Int32) (order : Nat → Int32) (meetingNames : Nat → Int32) : va_W := [((ad 1), .inr (1, [.int (nI N), .ref (ad 2), .ref (ad 3), .ref (ad 4), .ref (ad 5), .ref (ad 6), .ref (ad 7), .ref (ad 8), .ref (ad 9), .ref (ad 10)])), ((ad 2), .inl (cA, N, .inl stepCount)), ((ad 3), .inl (cA, N * 6, .inl kind)), ((ad 4), .inl (cA, N * 6, .inl target)), ((ad 11), .inr (2, [.int (nI N), .ref (ad 12), .ref (ad 13), .ref (ad 14), .ref (ad 15), .ref (ad 16), .ref (ad 17), .int orderSize, .int reached])), ((ad 14), .inl (cA, N, .inl frontiers)), ((ad 16), .inl (cA, N, .inl order)), ((ad 18), .inr (3, [.ref (ad 1), .ref (ad 11), .int (nI N), .ref (ad 19), .ref (ad 20), .ref (ad 21), .ref (ad 22), .ref (ad 23), .ref (ad 24), .ref (ad 25), .ref (ad 26), .ref (ad 27), .ref (ad 28), .ref (ad 29)])), ((ad 19), .inl (cA, N * 6, .inl meetingNames))]
abbrev qcNamedForm_markMeetings (D : va_G) (cA : ClassId) (ad : Nat → Nat) (N : Nat) (stepCount : Nat → Int32) (kind : Nat → Int32) (target : Nat → Int32) (orderSize : Int32) (reached : Int32) (frontiers : Nat → Int32) (order : Nat → Int32) (meetingNames : Nat → Int32) (post : (Nat → Int32) → Prop) (A : Nat → Prop) : Array Value → State → Outcome → State → Prop := va_Qv (S := (Nat → Int32)) (fun u => post u) (fun u t => xB D [(cA, .int)] A (wdNamedForm_markMeetings cA ad N stepCount kind target orderSize reached frontiers order u) t) A
abbrev rmNamedForm_markMeetings : Room := { frames := 3, cells := 0, slots := 0, locals := 66 }
set_option maxHeartbeats 4000000 in
set_option maxRecDepth 100000 in
theorem ktNamedForm_markMeetings (l : Launch) (D : va_G) (cA : ClassId) (ad : Nat → Nat) (N : Nat) (sz : Nat) (stepCount : Nat → Int32) (kind : Nat → Int32) (target : Nat → Int32) (orderSize : Int32) (reached : Int32) (frontiers : Nat → Int32) (order : Nat → Int32) (meetingNames : Nat → Int32) (v1 : Int32) (post : (Nat → Int32) → Prop) (hw : wpNamedForm_markMeetings N stepCount kind target orderSize frontiers order meetingNames v1 post) : Met l yNamedForm_markMeetings (Cond.code yNamedForm_markMeetings cNamedForm_markMeetings 5 none :: xW) rmNamedForm_markMeetings (va_Pc [.ref (ad 18), .int v1] (xPc D [(cA, .int)] (wdNamedForm_markMeetings cA ad N stepCount kind target orderSize reached frontiers order meetingNames) sz)) (qcNamedForm_markMeetings D cA ad N stepCount kind target orderSize reached frontiers order meetingNames post (va_A (wdNamedForm_markMeetings cA ad N stepCount kind target orderSize reached frontiers order meetingNames) sz)) 0 0 (va_A (wdNamedForm_markMeetings cA ad N stepCount kind target orderSize reached frontiers order meetingNames) sz) := by
  refine Met.ofW (cc := cNamedForm_markMeetings) (maxL := 5) (ret := none) (by decide) rfl ?_
  intro p e s m args below meth c s₁ B hml hv
  obtain ⟨rfl, hsz, hP, hK, hD0, hN⟩ := hv
  have hx := B.exec
  have hb := B.bytes
  have hr := B.returns
  have hts := atoms_spec (ws := (Cond.code yNamedForm_markMeetings cNamedForm_markMeetings 5 none :: xW)) B.pre
  have hown : s.vm.findClass "OnceNamed$NamedForm" = some m.cls := findClass_of_methodNamed B.named
  have hlocks := B.notSynchronized
  subst hsz
  have hD := hD0.self (sz := s.heap.size)
  generalize hAe : va_A (wdNamedForm_markMeetings cA ad N stepCount kind target orderSize reached frontiers order meetingNames) s.heap.size = A at hD ⊢
  have hA : ∀ q : Nat, s.heap.size ≤ q → A q := fun q h => by rw [← hAe]; exact Or.inr h
  have hS : va_S A s.heap s.heap [] := va_S.rf
  have hend : ∀ (u0 : Nat → Int32) (H : Heap) (locs : List Loc) (pc : Nat) (ls : Array Slot), decode cNamedForm_markMeetings pc = .ok (.return_, 1) → va_P D vwCl (wdNamedForm_markMeetings cA ad N stepCount kind target orderSize reached frontiers order u0) H → va_D A (wdNamedForm_markMeetings cA ad N stepCount kind target orderSize reached frontiers order u0) → va_S A s.heap H locs → post u0 → W p l e (headSpec (Cond.code yNamedForm_markMeetings cNamedForm_markMeetings 5 none :: xW) rmNamedForm_markMeetings).room s m ([.ref (ad 18), .int v1] : List Value).toArray below meth c H locs 0 0 (MQ below (qcNamedForm_markMeetings D cA ad N stepCount kind target orderSize reached frontiers order meetingNames post A) ([.ref (ad 18), .int v1] : List Value).toArray s 0 0 A) (F0 m pc ls []) := fun u0 H locs pc ls hd hP hD hS hw => W.vret hx hb hr (fun t ht hW => ⟨⟨u0, rfl, hw, ⟨by rw [ht]; exact hP, va_K.moved hW.alike hK, hD⟩⟩, hS.F ht⟩) hS.2.2 hd
  generalize hQ : MQ below (qcNamedForm_markMeetings D cA ad N stepCount kind target orderSize reached frontiers order meetingNames post A) ([.ref (ad 18), .int v1] : List Value).toArray s 0 0 A = Q at hend ⊢
  have hl := lv_entry ([.ref (ad 18), .int v1]) (n := 5) (Nat.le_of_ble_eq_true rfl)
  rw [lg_entry_eq]
  generalize (lg_sl ([.ref (ad 18), .int v1]) ++ List.replicate (5 - (lg_sl ([.ref (ad 18), .int v1])).length) Slot.unset).toArray = ls at hl ⊢
  have hl : lv_has ls 5 [(0, .ref (ad 18)), (1, .int v1)] := hl
  unfold wpNamedForm_markMeetings at hw
  refine lv_iconst (v := 0) hx hb dNamedForm_markMeetings_0 (by decide) ?_
  refine lv_istore_n (lv' := [(2, .int 0), (0, .ref (ad 18)), (1, .int v1)]) hx hb dNamedForm_markMeetings_1 rfl hl (by decide) rfl (fun ls hl => ?_)
  refine lv_iconst (v := 0) hx hb dNamedForm_markMeetings_2 (by decide) ?_
  refine lv_istore_n (lv' := [(3, .int 0), (2, .int 0), (0, .ref (ad 18)), (1, .int v1)]) hx hb dNamedForm_markMeetings_3 rfl hl (by decide) rfl (fun ls hl => ?_)
  obtain ⟨k4, hw⟩ := hw
  have hlp4 : ∀ (K51 : Int32 → Int32 → Prop), (∀ (v2_x51 : Int32) (v3_x51 : Int32) (ls : Array Slot) (H : Heap) (locs : List Loc), lv_has ls 5 [(0, .ref (ad 18)), (1, .int v1), (2, .int v2_x51), (3, .int v3_x51)] → va_P D vwCl (wdNamedForm_markMeetings cA ad N stepCount kind target orderSize reached frontiers order meetingNames) H → va_D A (wdNamedForm_markMeetings cA ad N stepCount kind target orderSize reached frontiers order meetingNames) → va_S A s.heap H locs → K51 v2_x51 v3_x51 → W p l e (headSpec (Cond.code yNamedForm_markMeetings cNamedForm_markMeetings 5 none :: xW) rmNamedForm_markMeetings).room s m ([.ref (ad 18), .int v1] : List Value).toArray below meth c H locs 0 0 Q (F0 m 51 ls [])) → ∀ (k : Nat), ∀ (v2_L4 : Int32) (v3_L4 : Int32) (ls : Array Slot) (H : Heap) (locs : List Loc), lv_has ls 5 [(0, .ref (ad 18)), (1, .int v1), (2, .int v2_L4), (3, .int v3_L4)] → va_P D vwCl (wdNamedForm_markMeetings cA ad N stepCount kind target orderSize reached frontiers order meetingNames) H → va_D A (wdNamedForm_markMeetings cA ad N stepCount kind target orderSize reached frontiers order meetingNames) → va_S A s.heap H locs → lpNamedForm_markMeetings_4 N v1 stepCount kind target orderSize order K51 k v2_L4 v3_L4 → W p l e (headSpec (Cond.code yNamedForm_markMeetings cNamedForm_markMeetings 5 none :: xW) rmNamedForm_markMeetings).room s m ([.ref (ad 18), .int v1] : List Value).toArray below meth c H locs 0 0 Q (F0 m 4 ls []) := by
    intro K51 hK51 k
    induction k with
    | zero => intro v2_L4 v3_L4 ls H locs hl hP hD hS hw; exact False.elim hw
    | succ k ih =>
      intro v2_L4 v3_L4 ls H locs hl hP hD hS hw
      refine lv_iload_n hx hb dNamedForm_markMeetings_4 rfl (lv_at hl 3 rfl) ?_
      refine lv_aload_n hx hb dNamedForm_markMeetings_5 rfl (lv_at hl 0 rfl) ?_
      refine va_get (D := D) (ci := 3) (v := .ref (ad 11)) (C := "OnceNamed$NamedForm") (T := TX3) (N := 14) hx hb hts (fun w h => List.mem_cons_of_mem _ (inX3 w h)) hown hK hP 7 rfl rfl 1 (by decide) (hts _ (List.mem_cons_of_mem _ kw_121)) (fun _ h9 => h9) rfl dNamedForm_markMeetings_6 ?_
      dsimp only [lpNamedForm_markMeetings_4] at hw
      refine xci (va_runV ⟨hx, hb, hml, hown, hts⟩ (ktGraph_reachedCount l D cA ad N _ orderSize reached _ hw) (cwV 0 hts (goodV kw_315 kw_316 kw_317 kw_5 kw_318) rfl rfl rfl (by decide +kernel) ⟨Nat.le_of_ble_eq_true rfl, Nat.le_of_ble_eq_true rfl⟩) (xpreV hK hP hD hN [4] rfl rfl 4 rfl rfl) rfl rfl hl.1 rfl (lv_room (Nat.le_of_ble_eq_true rfl)) dNamedForm_markMeetings_9 ⟨Nat.le_of_ble_eq_true rfl, Nat.le_of_ble_eq_true rfl⟩) hP hD hS hA [4] [0, 1, 2, 3, 5, 6, 7, 8] rfl rfl rfl rfl [0, 1, 2, 3, 8, 4, 5, 6, 7] rfl (fun _ => rfl) (fun r9 u H locs hw hP hD hS => ?_)
      have hP : va_P D vwCl (wdNamedForm_markMeetings cA ad N stepCount kind target orderSize reached frontiers order meetingNames) H := hP
      have hD : va_D A (wdNamedForm_markMeetings cA ad N stepCount kind target orderSize reached frontiers order meetingNames) := hD
      refine lv_icmp_ge (tgt := 51) hx hb dNamedForm_markMeetings_12 rfl (fun hc => ?_) (fun hc => ?_)
      · have hw := hw.1 hc
        exact hK51 v2_L4 v3_L4 _ _ _ (lv_sub hl [0, 1, 2, 3] rfl) hP hD hS hw
      · have hw := hw.2 hc
        refine lv_aload_n hx hb dNamedForm_markMeetings_15 rfl (lv_at hl 0 rfl) ?_
        refine va_get (D := D) (ci := 3) (v := .ref (ad 11)) (C := "OnceNamed$NamedForm") (T := TX3) (N := 14) hx hb hts (fun w h => List.mem_cons_of_mem _ (inX3 w h)) hown hK hP 7 rfl rfl 1 (by decide) (hts _ (List.mem_cons_of_mem _ kw_121)) (fun _ h9 => h9) rfl dNamedForm_markMeetings_16 ?_
        refine lv_iload_n hx hb dNamedForm_markMeetings_19 rfl (lv_at hl 3 rfl) ?_
        refine xci (va_runV ⟨hx, hb, hml, hown, hts⟩ (ktGraph_inOrder l D cA ad N _ orderSize reached order v3_L4 _ hw) (cwV 1 hts (goodV kw_319 kw_320 kw_321 kw_5 kw_322) rfl rfl rfl (by decide +kernel) ⟨Nat.le_of_ble_eq_true rfl, Nat.le_of_ble_eq_true rfl⟩) (xpreV hK hP hD hN [4, 6] rfl rfl 4 rfl rfl) rfl rfl hl.1 rfl (lv_room (Nat.le_of_ble_eq_true rfl)) dNamedForm_markMeetings_20 ⟨Nat.le_of_ble_eq_true rfl, Nat.le_of_ble_eq_true rfl⟩) hP hD hS hA [4, 6] [0, 1, 2, 3, 5, 7, 8] rfl rfl rfl rfl [0, 1, 2, 3, 7, 4, 8, 5, 6] rfl (fun _ => rfl) (fun r20 u H locs hw hP hD hS => ?_)
        have hP : va_P D vwCl (wdNamedForm_markMeetings cA ad N stepCount kind target orderSize reached frontiers order meetingNames) H := hP
        have hD : va_D A (wdNamedForm_markMeetings cA ad N stepCount kind target orderSize reached frontiers order meetingNames) := hD
        refine lv_istore (lv' := [(4, .int r20), (0, .ref (ad 18)), (1, .int v1), (2, .int v2_L4), (3, .int v3_L4)]) hx hb dNamedForm_markMeetings_23 hl (by decide) rfl (fun ls hl => ?_)
        refine lv_aload_n hx hb dNamedForm_markMeetings_25 rfl (lv_at hl 1 rfl) ?_
        refine va_get (D := D) (ci := 3) (v := .ref (ad 1)) (C := "OnceNamed$NamedForm") (T := TX3) (N := 14) hx hb hts (fun w h => List.mem_cons_of_mem _ (inX3 w h)) hown hK hP 7 rfl rfl 0 (by decide) (hts _ (List.mem_cons_of_mem _ kw_120)) (fun _ h9 => h9) rfl dNamedForm_markMeetings_26 ?_
        refine lv_iload hx hb dNamedForm_markMeetings_29 (lv_at hl 0 rfl) ?_
        refine lv_iload_n hx hb dNamedForm_markMeetings_31 rfl (lv_at hl 2 rfl) ?_
        refine xci (va_runV ⟨hx, hb, hml, hown, hts⟩ (ktProgram_setsInBlock l D cA ad N _ stepCount kind target r20 v1 _ hw) (cwV 2 hts (goodV kw_323 kw_324 kw_325 kw_3 kw_326) rfl rfl rfl (by decide +kernel) ⟨Nat.le_of_ble_eq_true rfl, Nat.le_of_ble_eq_true rfl⟩) (xpreV hK hP hD hN [0, 1, 2, 3] rfl rfl 0 rfl rfl) rfl rfl hl.1 rfl (lv_room (Nat.le_of_ble_eq_true rfl)) dNamedForm_markMeetings_32 ⟨Nat.le_of_ble_eq_true rfl, Nat.le_of_ble_eq_true rfl⟩) hP hD hS hA [0, 1, 2, 3] [4, 5, 6, 7, 8] rfl rfl rfl rfl [5, 6, 7, 8, 0, 1, 2, 3, 4] rfl (fun _ => rfl) (fun r32 u H locs hw hP hD hS => ?_)
        obtain ⟨r32, rfl, hw⟩ := hw
        have hP : va_P D vwCl (wdNamedForm_markMeetings cA ad N stepCount kind target orderSize reached frontiers order meetingNames) H := hP
        have hD : va_D A (wdNamedForm_markMeetings cA ad N stepCount kind target orderSize reached frontiers order meetingNames) := hD
        refine lv_if_eq (tgt := 45) hx hb dNamedForm_markMeetings_35 rfl (fun hc => ?_) (fun hc => ?_)
        · have hw := hw.1 (bI_0 hc)
          refine lv_iinc (k := 4) (v := (v3_L4 + 1)) (lv' := [(3, .int (v3_L4 + 1)), (4, .int r20), (0, .ref (ad 18)), (1, .int v1), (2, .int v2_L4)]) hx hb dNamedForm_markMeetings_45 hl rfl rfl (by decide) rfl (fun ls hl => ?_)
          refine lv_goto (tgt := 4) hx hb dNamedForm_markMeetings_48 rfl ?_
          exact ih v2_L4 (v3_L4 + 1) _ _ _ (lv_sub hl [2, 3, 4, 0] rfl) hP hD hS hw
        · have hw := hw.2 (bI_1 hc)
          refine lv_iload_n hx hb dNamedForm_markMeetings_38 rfl (lv_at hl 3 rfl) ?_
          refine lv_iconst (v := 1) hx hb dNamedForm_markMeetings_39 (by decide) ?_
          refine lv_iload hx hb dNamedForm_markMeetings_40 (lv_at hl 0 rfl) ?_
          refine lv_ishl hx hb dNamedForm_markMeetings_42 ?_
          refine lv_ior hx hb dNamedForm_markMeetings_43 ?_
          refine lv_topi (fun v2_44 e_v2_44 => ?_)
          have hw := hw v2_44 e_v2_44
          refine lv_istore_n (lv' := [(2, .int v2_44), (4, .int r20), (0, .ref (ad 18)), (1, .int v1), (3, .int v3_L4)]) hx hb dNamedForm_markMeetings_44 rfl hl (by decide) rfl (fun ls hl => ?_)
          refine lv_iinc (k := 4) (v := (v3_L4 + 1)) (lv' := [(3, .int (v3_L4 + 1)), (2, .int v2_44), (4, .int r20), (0, .ref (ad 18)), (1, .int v1)]) hx hb dNamedForm_markMeetings_45 hl rfl rfl (by decide) rfl (fun ls hl => ?_)
          refine lv_goto (tgt := 4) hx hb dNamedForm_markMeetings_48 rfl ?_
          exact ih v2_44 (v3_L4 + 1) _ _ _ (lv_sub hl [3, 4, 1, 0] rfl) hP hD hS hw
  refine hlp4 _ ?_ k4 0 0 _ _ _ (lv_sub hl [2, 3, 1, 0] rfl) hP hD hS hw
  intro v2_x51 v3_x51 ls H locs hl hP hD hS hw
  try dsimp only at hw
  refine lv_iconst (v := 0) hx hb dNamedForm_markMeetings_51 (by decide) ?_
  refine lv_istore_n (lv' := [(3, .int 0), (0, .ref (ad 18)), (1, .int v1), (2, .int v2_x51)]) hx hb dNamedForm_markMeetings_52 rfl hl (by decide) rfl (fun ls hl => ?_)
  refine lv_iconst (v := 0) hx hb dNamedForm_markMeetings_53 (by decide) ?_
  refine lv_istore (lv' := [(4, .int 0), (3, .int 0), (0, .ref (ad 18)), (1, .int v1), (2, .int v2_x51)]) hx hb dNamedForm_markMeetings_54 hl (by decide) rfl (fun ls hl => ?_)
  obtain ⟨k56, hw⟩ := hw
  have hlp56 : ∀ (K82 : Int32 → Int32 → Prop), (∀ (v3_x82 : Int32) (v4_x82 : Int32) (ls : Array Slot) (H : Heap) (locs : List Loc), lv_has ls 5 [(0, .ref (ad 18)), (1, .int v1), (2, .int v2_x51), (3, .int v3_x82), (4, .int v4_x82)] → va_P D vwCl (wdNamedForm_markMeetings cA ad N stepCount kind target orderSize reached frontiers order meetingNames) H → va_D A (wdNamedForm_markMeetings cA ad N stepCount kind target orderSize reached frontiers order meetingNames) → va_S A s.heap H locs → K82 v3_x82 v4_x82 → W p l e (headSpec (Cond.code yNamedForm_markMeetings cNamedForm_markMeetings 5 none :: xW) rmNamedForm_markMeetings).room s m ([.ref (ad 18), .int v1] : List Value).toArray below meth c H locs 0 0 Q (F0 m 82 ls [])) → ∀ (k : Nat), ∀ (v3_L56 : Int32) (v4_L56 : Int32) (ls : Array Slot) (H : Heap) (locs : List Loc), lv_has ls 5 [(0, .ref (ad 18)), (1, .int v1), (2, .int v2_x51), (3, .int v3_L56), (4, .int v4_L56)] → va_P D vwCl (wdNamedForm_markMeetings cA ad N stepCount kind target orderSize reached frontiers order meetingNames) H → va_D A (wdNamedForm_markMeetings cA ad N stepCount kind target orderSize reached frontiers order meetingNames) → va_S A s.heap H locs → lpNamedForm_markMeetings_56 N v2_x51 frontiers K82 k v3_L56 v4_L56 → W p l e (headSpec (Cond.code yNamedForm_markMeetings cNamedForm_markMeetings 5 none :: xW) rmNamedForm_markMeetings).room s m ([.ref (ad 18), .int v1] : List Value).toArray below meth c H locs 0 0 Q (F0 m 56 ls []) := by
    intro K82 hK82 k
    induction k with
    | zero => intro v3_L56 v4_L56 ls H locs hl hP hD hS hw; exact False.elim hw
    | succ k ih =>
      intro v3_L56 v4_L56 ls H locs hl hP hD hS hw
      refine lv_iload hx hb dNamedForm_markMeetings_56 (lv_at hl 4 rfl) ?_
      refine lv_aload_n hx hb dNamedForm_markMeetings_58 rfl (lv_at hl 0 rfl) ?_
      refine va_get (D := D) (ci := 3) (v := .int (nI N)) (C := "OnceNamed$NamedForm") (T := TX3) (N := 14) hx hb hts (fun w h => List.mem_cons_of_mem _ (inX3 w h)) hown hK hP 7 rfl rfl 2 (by decide) (hts _ (List.mem_cons_of_mem _ kw_122)) (fun _ h9 => h9) rfl dNamedForm_markMeetings_59 ?_
      refine lv_icmp_ge (tgt := 82) hx hb dNamedForm_markMeetings_62 rfl (fun hc => ?_) (fun hc => ?_)
      · have hw := hw.1 hc
        exact hK82 v3_L56 v4_L56 _ _ _ (lv_sub hl [0, 1, 2, 3, 4] rfl) hP hD hS hw
      · have hw := hw.2 hc
        refine lv_aload_n hx hb dNamedForm_markMeetings_65 rfl (lv_at hl 0 rfl) ?_
        refine va_get (D := D) (ci := 3) (v := .ref (ad 11)) (C := "OnceNamed$NamedForm") (T := TX3) (N := 14) hx hb hts (fun w h => List.mem_cons_of_mem _ (inX3 w h)) hown hK hP 7 rfl rfl 1 (by decide) (hts _ (List.mem_cons_of_mem _ kw_121)) (fun _ h9 => h9) rfl dNamedForm_markMeetings_66 ?_
        refine lv_iload_n hx hb dNamedForm_markMeetings_69 rfl (lv_at hl 2 rfl) ?_
        refine lv_iload_n hx hb dNamedForm_markMeetings_70 rfl (lv_at hl 3 rfl) ?_
        refine lv_ior hx hb dNamedForm_markMeetings_71 ?_
        refine xci (va_runV ⟨hx, hb, hml, hown, hts⟩ (ktGraph_frontierOfAll l D cA ad N _ orderSize reached frontiers (v2_x51 ||| v3_L56) _ hw) (cwV 1 hts (goodV kw_334 kw_335 kw_336 kw_5 kw_337) rfl rfl rfl (by decide +kernel) ⟨Nat.le_of_ble_eq_true rfl, Nat.le_of_ble_eq_true rfl⟩) (xpreV hK hP hD hN [4, 5] rfl rfl 4 rfl rfl) rfl rfl hl.1 rfl (lv_room (Nat.le_of_ble_eq_true rfl)) dNamedForm_markMeetings_72 ⟨Nat.le_of_ble_eq_true rfl, Nat.le_of_ble_eq_true rfl⟩) hP hD hS hA [4, 5] [0, 1, 2, 3, 6, 7, 8] rfl rfl rfl rfl [0, 1, 2, 3, 7, 8, 4, 5, 6] rfl (fun _ => rfl) (fun r72 u H locs hw hP hD hS => ?_)
        have hP : va_P D vwCl (wdNamedForm_markMeetings cA ad N stepCount kind target orderSize reached frontiers order meetingNames) H := hP
        have hD : va_D A (wdNamedForm_markMeetings cA ad N stepCount kind target orderSize reached frontiers order meetingNames) := hD
        refine lv_istore_n (lv' := [(3, .int r72), (0, .ref (ad 18)), (1, .int v1), (2, .int v2_x51), (4, .int v4_L56)]) hx hb dNamedForm_markMeetings_75 rfl hl (by decide) rfl (fun ls hl => ?_)
        refine lv_iinc (k := 4) (v := (v4_L56 + 1)) (lv' := [(4, .int (v4_L56 + 1)), (3, .int r72), (0, .ref (ad 18)), (1, .int v1), (2, .int v2_x51)]) hx hb dNamedForm_markMeetings_76 hl rfl rfl (by decide) rfl (fun ls hl => ?_)
        refine lv_goto (tgt := 56) hx hb dNamedForm_markMeetings_79 rfl ?_
        exact ih r72 (v4_L56 + 1) _ _ _ (lv_sub hl [2, 3, 4, 1, 0] rfl) hP hD hS hw
  refine hlp56 _ ?_ k56 0 0 _ _ _ (lv_sub hl [2, 3, 4, 1, 0] rfl) hP hD hS hw
  intro v3_x82 v4_x82 ls H locs hl hP hD hS hw
  try dsimp only at hw
  refine lv_iconst (v := 0) hx hb dNamedForm_markMeetings_82 (by decide) ?_
  refine lv_istore (lv' := [(4, .int 0), (0, .ref (ad 18)), (1, .int v1), (2, .int v2_x51), (3, .int v3_x82)]) hx hb dNamedForm_markMeetings_83 hl (by decide) rfl (fun ls hl => ?_)
  obtain ⟨k85, hw⟩ := hw
  have hlp85 : ∀ (k : Nat), ∀ (v4_L85 : Int32) (meetingNames_L85 : Nat → Int32) (ls : Array Slot) (H : Heap) (locs : List Loc), lv_has ls 5 [(0, .ref (ad 18)), (1, .int v1), (2, .int v2_x51), (3, .int v3_x82), (4, .int v4_L85)] → va_P D vwCl (wdNamedForm_markMeetings cA ad N stepCount kind target orderSize reached frontiers order meetingNames_L85) H → va_D A (wdNamedForm_markMeetings cA ad N stepCount kind target orderSize reached frontiers order meetingNames_L85) → va_S A s.heap H locs → lpNamedForm_markMeetings_85 N v1 v3_x82 post k v4_L85 meetingNames_L85 → W p l e (headSpec (Cond.code yNamedForm_markMeetings cNamedForm_markMeetings 5 none :: xW) rmNamedForm_markMeetings).room s m ([.ref (ad 18), .int v1] : List Value).toArray below meth c H locs 0 0 Q (F0 m 85 ls []) := by
    intro k
    induction k with
    | zero => intro v4_L85 meetingNames_L85 ls H locs hl hP hD hS hw; exact False.elim hw
    | succ k ih =>
      intro v4_L85 meetingNames_L85 ls H locs hl hP hD hS hw
      refine lv_iload hx hb dNamedForm_markMeetings_85 (lv_at hl 4 rfl) ?_
      refine lv_aload_n hx hb dNamedForm_markMeetings_87 rfl (lv_at hl 0 rfl) ?_
      refine va_get (D := D) (ci := 3) (v := .int (nI N)) (C := "OnceNamed$NamedForm") (T := TX3) (N := 14) hx hb hts (fun w h => List.mem_cons_of_mem _ (inX3 w h)) hown hK hP 7 rfl rfl 2 (by decide) (hts _ (List.mem_cons_of_mem _ kw_122)) (fun _ h9 => h9) rfl dNamedForm_markMeetings_88 ?_
      refine lv_icmp_ge (tgt := 122) hx hb dNamedForm_markMeetings_91 rfl (fun hc => ?_) (fun hc => ?_)
      · have hw := hw.1 hc
        exact hend meetingNames_L85 _ _ _ _ dNamedForm_markMeetings_122 hP hD hS hw
      · have hw := hw.2 hc
        refine lv_iload_n hx hb dNamedForm_markMeetings_94 rfl (lv_at hl 3 rfl) ?_
        refine lv_iload hx hb dNamedForm_markMeetings_95 (lv_at hl 4 rfl) ?_
        refine xci (va_runSN ⟨hx, hb, hml, hown, hts⟩ (ktOn_has l D cA ad N _ v3_x82 v4_L85 _ hw) ⟨va_cnB 2 hts (goodB kw_239) rfl rfl rfl hN.2 (hts _ (List.mem_cons_of_mem _ kw_1)) (by decide +kernel) ⟨Nat.le_of_ble_eq_true rfl, Nat.le_of_ble_eq_true rfl⟩, hts _ (List.mem_cons_of_mem _ kw_238), trivial⟩ (xpreS hK hP hD hN [] rfl rfl) rfl rfl hl.1 rfl (lv_room (Nat.le_of_ble_eq_true rfl)) dNamedForm_markMeetings_97 ⟨Nat.le_of_ble_eq_true rfl, Nat.le_of_ble_eq_true rfl⟩) hP hD hS hA [] [0, 1, 2, 3, 4, 5, 6, 7, 8] rfl rfl rfl rfl [0, 1, 2, 3, 4, 5, 6, 7, 8] rfl (fun _ => rfl) (fun r97 u H locs hw hP hD hS => ?_)
        obtain ⟨r97, rfl, hw⟩ := hw
        have hP : va_P D vwCl (wdNamedForm_markMeetings cA ad N stepCount kind target orderSize reached frontiers order meetingNames_L85) H := hP
        have hD : va_D A (wdNamedForm_markMeetings cA ad N stepCount kind target orderSize reached frontiers order meetingNames_L85) := hD
        refine lv_if_eq (tgt := 116) hx hb dNamedForm_markMeetings_100 rfl (fun hc => ?_) (fun hc => ?_)
        · have hw := hw.1 (bI_0 hc)
          refine lv_iinc (k := 4) (v := (v4_L85 + 1)) (lv' := [(4, .int (v4_L85 + 1)), (0, .ref (ad 18)), (1, .int v1), (2, .int v2_x51), (3, .int v3_x82)]) hx hb dNamedForm_markMeetings_116 hl rfl rfl (by decide) rfl (fun ls hl => ?_)
          refine lv_goto (tgt := 85) hx hb dNamedForm_markMeetings_119 rfl ?_
          exact ih (v4_L85 + 1) meetingNames_L85 _ _ _ (lv_sub hl [1, 2, 3, 4, 0] rfl) hP hD hS hw
        · have hw := hw.2 (bI_1 hc)
          refine lv_aload_n hx hb dNamedForm_markMeetings_103 rfl (lv_at hl 0 rfl) ?_
          refine va_get (D := D) (ci := 3) (v := .ref (ad 19)) (C := "OnceNamed$NamedForm") (T := TX3) (N := 14) hx hb hts (fun w h => List.mem_cons_of_mem _ (inX3 w h)) hown hK hP 7 rfl rfl 3 (by decide) (hts _ (List.mem_cons_of_mem _ kw_123)) (fun _ h9 => h9) rfl dNamedForm_markMeetings_104 ?_
          refine lv_iload hx hb dNamedForm_markMeetings_107 (lv_at hl 4 rfl) ?_
          refine lv_bipush (v := 6) hx hb dNamedForm_markMeetings_109 (by decide) ?_
          refine lv_imul hx hb dNamedForm_markMeetings_111 ?_
          refine lv_iload_n hx hb dNamedForm_markMeetings_112 rfl (lv_at hl 1 rfl) ?_
          refine lv_iadd hx hb dNamedForm_markMeetings_113 ?_
          refine lv_iconst (v := 0) hx hb dNamedForm_markMeetings_114 (by decide) ?_
          have ho := hw.1
          have hw := hw.2
          refine va_iast hx hb hK hP hD hS 8 0 rfl rfl ho dNamedForm_markMeetings_115 (fun H locs hP hD hS => ?_)
          have hP : va_P D vwCl (wdNamedForm_markMeetings cA ad N stepCount kind target orderSize reached frontiers order (upd meetingNames_L85 (Int32.toNatClampNeg ((v4_L85 * 6) + v1)) 0)) H := hP
          have hD : va_D A (wdNamedForm_markMeetings cA ad N stepCount kind target orderSize reached frontiers order (upd meetingNames_L85 (Int32.toNatClampNeg ((v4_L85 * 6) + v1)) 0)) := hD
          refine lv_iinc (k := 4) (v := (v4_L85 + 1)) (lv' := [(4, .int (v4_L85 + 1)), (0, .ref (ad 18)), (1, .int v1), (2, .int v2_x51), (3, .int v3_x82)]) hx hb dNamedForm_markMeetings_116 hl rfl rfl (by decide) rfl (fun ls hl => ?_)
          refine lv_goto (tgt := 85) hx hb dNamedForm_markMeetings_119 rfl ?_
          exact ih (v4_L85 + 1) (upd meetingNames_L85 (Int32.toNatClampNeg ((v4_L85 * 6) + v1)) 0) _ _ _ (lv_sub hl [1, 2, 3, 4, 0] rfl) hP hD hS hw
  refine hlp85 k85 0 meetingNames _ _ _ (lv_sub hl [1, 2, 3, 4, 0] rfl) hP hD hS hw
abbrev wdNamedForm_forgetAll (cA : ClassId) (ad : Nat → Nat) (N : Nat) (stepCount : Nat → Int32) (kind : Nat → Int32) (target : Nat → Int32) (orderSize : Int32) (reached : Int32) (frontiers : Nat → Int32) (order : Nat → Int32) (meetingNames : Nat → Int32) (meetingUses : Nat → Int32) (stepNames : Nat → Int32) (firstUses : Nat → Int32) (secondUses : Nat → Int32) (endUses : Nat → Int32) (namesOf : Nat → Int32) (homeBlock : Nat → Int32) : va_W := [((ad 1), .inr (1, [.int (nI N), .ref (ad 2), .ref (ad 3), .ref (ad 4), .ref (ad 5), .ref (ad 6), .ref (ad 7), .ref (ad 8), .ref (ad 9), .ref (ad 10)])), ((ad 2), .inl (cA, N, .inl stepCount)), ((ad 3), .inl (cA, N * 6, .inl kind)), ((ad 4), .inl (cA, N * 6, .inl target)), ((ad 11), .inr (2, [.int (nI N), .ref (ad 12), .ref (ad 13), .ref (ad 14), .ref (ad 15), .ref (ad 16), .ref (ad 17), .int orderSize, .int reached])), ((ad 14), .inl (cA, N, .inl frontiers)), ((ad 16), .inl (cA, N, .inl order)), ((ad 18), .inr (3, [.ref (ad 1), .ref (ad 11), .int (nI N), .ref (ad 19), .ref (ad 20), .ref (ad 21), .ref (ad 22), .ref (ad 23), .ref (ad 24), .ref (ad 25), .ref (ad 26), .ref (ad 27), .ref (ad 28), .ref (ad 29)])), ((ad 19), .inl (cA, N * 6, .inl meetingNames)), ((ad 20), .inl (cA, N * 6 * (N + 1), .inl meetingUses)), ((ad 21), .inl (cA, N * 6, .inl stepNames)), ((ad 22), .inl (cA, N * 6, .inl firstUses)), ((ad 23), .inl (cA, N * 6, .inl secondUses)), ((ad 24), .inl (cA, N, .inl endUses)), ((ad 26), .inl (cA, 6, .inl namesOf)), ((ad 27), .inl (cA, 600, .inl homeBlock))]
abbrev qcNamedForm_forgetAll (D : va_G) (cA : ClassId) (ad : Nat → Nat) (N : Nat) (stepCount : Nat → Int32) (kind : Nat → Int32) (target : Nat → Int32) (orderSize : Int32) (reached : Int32) (frontiers : Nat → Int32) (order : Nat → Int32) (meetingNames : Nat → Int32) (meetingUses : Nat → Int32) (stepNames : Nat → Int32) (firstUses : Nat → Int32) (secondUses : Nat → Int32) (endUses : Nat → Int32) (namesOf : Nat → Int32) (homeBlock : Nat → Int32) (post : (Nat → Int32) → (Nat → Int32) → (Nat → Int32) → (Nat → Int32) → (Nat → Int32) → (Nat → Int32) → (Nat → Int32) → (Nat → Int32) → Prop) (A : Nat → Prop) : Array Value → State → Outcome → State → Prop := va_Qv (S := (Nat → Int32) × (Nat → Int32) × (Nat → Int32) × (Nat → Int32) × (Nat → Int32) × (Nat → Int32) × (Nat → Int32) × (Nat → Int32)) (fun u => post u.1 u.2.1 u.2.2.1 u.2.2.2.1 u.2.2.2.2.1 u.2.2.2.2.2.1 u.2.2.2.2.2.2.1 u.2.2.2.2.2.2.2) (fun u t => xB D [(cA, .int)] A (wdNamedForm_forgetAll cA ad N stepCount kind target orderSize reached frontiers order u.1 u.2.1 u.2.2.1 u.2.2.2.1 u.2.2.2.2.1 u.2.2.2.2.2.1 u.2.2.2.2.2.2.1 u.2.2.2.2.2.2.2) t) A
abbrev rmNamedForm_forgetAll : Room := { frames := 4, cells := 0, slots := 0, locals := 90 }
set_option maxHeartbeats 4000000 in
set_option maxRecDepth 100000 in
theorem ktNamedForm_forgetAll (l : Launch) (D : va_G) (cA : ClassId) (ad : Nat → Nat) (N : Nat) (sz : Nat) (stepCount : Nat → Int32) (kind : Nat → Int32) (target : Nat → Int32) (orderSize : Int32) (reached : Int32) (frontiers : Nat → Int32) (order : Nat → Int32) (meetingNames : Nat → Int32) (meetingUses : Nat → Int32) (stepNames : Nat → Int32) (firstUses : Nat → Int32) (secondUses : Nat → Int32) (endUses : Nat → Int32) (namesOf : Nat → Int32) (homeBlock : Nat → Int32)  (post : (Nat → Int32) → (Nat → Int32) → (Nat → Int32) → (Nat → Int32) → (Nat → Int32) → (Nat → Int32) → (Nat → Int32) → (Nat → Int32) → Prop) (hw : wpNamedForm_forgetAll N stepCount kind target orderSize frontiers order meetingNames meetingUses stepNames firstUses secondUses endUses namesOf homeBlock post) : Met l yNamedForm_forgetAll (Cond.code yNamedForm_forgetAll cNamedForm_forgetAll 2 none :: xW) rmNamedForm_forgetAll (va_Pc [.ref (ad 18)] (xPc D [(cA, .int)] (wdNamedForm_forgetAll cA ad N stepCount kind target orderSize reached frontiers order meetingNames meetingUses stepNames firstUses secondUses endUses namesOf homeBlock) sz)) (qcNamedForm_forgetAll D cA ad N stepCount kind target orderSize reached frontiers order meetingNames meetingUses stepNames firstUses secondUses endUses namesOf homeBlock post (va_A (wdNamedForm_forgetAll cA ad N stepCount kind target orderSize reached frontiers order meetingNames meetingUses stepNames firstUses secondUses endUses namesOf homeBlock) sz)) 0 0 (va_A (wdNamedForm_forgetAll cA ad N stepCount kind target orderSize reached frontiers order meetingNames meetingUses stepNames firstUses secondUses endUses namesOf homeBlock) sz) := by
  refine Met.ofW (cc := cNamedForm_forgetAll) (maxL := 2) (ret := none) (by decide) rfl ?_
  intro p e s m args below meth c s₁ B hml hv
  obtain ⟨rfl, hsz, hP, hK, hD0, hN⟩ := hv
  have hx := B.exec
  have hb := B.bytes
  have hr := B.returns
  have hts := atoms_spec (ws := (Cond.code yNamedForm_forgetAll cNamedForm_forgetAll 2 none :: xW)) B.pre
  have hown : s.vm.findClass "OnceNamed$NamedForm" = some m.cls := findClass_of_methodNamed B.named
  have hlocks := B.notSynchronized
  subst hsz
  have hD := hD0.self (sz := s.heap.size)
  generalize hAe : va_A (wdNamedForm_forgetAll cA ad N stepCount kind target orderSize reached frontiers order meetingNames meetingUses stepNames firstUses secondUses endUses namesOf homeBlock) s.heap.size = A at hD ⊢
  have hA : ∀ q : Nat, s.heap.size ≤ q → A q := fun q h => by rw [← hAe]; exact Or.inr h
  have hS : va_S A s.heap s.heap [] := va_S.rf
  have hend : ∀ (u0 : Nat → Int32) (u1 : Nat → Int32) (u2 : Nat → Int32) (u3 : Nat → Int32) (u4 : Nat → Int32) (u5 : Nat → Int32) (u6 : Nat → Int32) (u7 : Nat → Int32) (H : Heap) (locs : List Loc) (pc : Nat) (ls : Array Slot), decode cNamedForm_forgetAll pc = .ok (.return_, 1) → va_P D vwCl (wdNamedForm_forgetAll cA ad N stepCount kind target orderSize reached frontiers order u0 u1 u2 u3 u4 u5 u6 u7) H → va_D A (wdNamedForm_forgetAll cA ad N stepCount kind target orderSize reached frontiers order u0 u1 u2 u3 u4 u5 u6 u7) → va_S A s.heap H locs → post u0 u1 u2 u3 u4 u5 u6 u7 → W p l e (headSpec (Cond.code yNamedForm_forgetAll cNamedForm_forgetAll 2 none :: xW) rmNamedForm_forgetAll).room s m ([.ref (ad 18)] : List Value).toArray below meth c H locs 0 0 (MQ below (qcNamedForm_forgetAll D cA ad N stepCount kind target orderSize reached frontiers order meetingNames meetingUses stepNames firstUses secondUses endUses namesOf homeBlock post A) ([.ref (ad 18)] : List Value).toArray s 0 0 A) (F0 m pc ls []) := fun u0 u1 u2 u3 u4 u5 u6 u7 H locs pc ls hd hP hD hS hw => W.vret hx hb hr (fun t ht hW => ⟨⟨(u0, u1, u2, u3, u4, u5, u6, u7), rfl, hw, ⟨by rw [ht]; exact hP, va_K.moved hW.alike hK, hD⟩⟩, hS.F ht⟩) hS.2.2 hd
  generalize hQ : MQ below (qcNamedForm_forgetAll D cA ad N stepCount kind target orderSize reached frontiers order meetingNames meetingUses stepNames firstUses secondUses endUses namesOf homeBlock post A) ([.ref (ad 18)] : List Value).toArray s 0 0 A = Q at hend ⊢
  have hl := lv_entry ([.ref (ad 18)]) (n := 2) (Nat.le_of_ble_eq_true rfl)
  rw [lg_entry_eq]
  generalize (lg_sl ([.ref (ad 18)]) ++ List.replicate (2 - (lg_sl ([.ref (ad 18)])).length) Slot.unset).toArray = ls at hl ⊢
  have hl : lv_has ls 2 [(0, .ref (ad 18))] := hl
  unfold wpNamedForm_forgetAll at hw
  refine lv_aload_n hx hb dNamedForm_forgetAll_0 rfl (lv_at hl 0 rfl) ?_
  refine va_get (D := D) (ci := 3) (v := .ref (ad 19)) (C := "OnceNamed$NamedForm") (T := TX3) (N := 14) hx hb hts (fun w h => List.mem_cons_of_mem _ (inX3 w h)) hown hK hP 7 rfl rfl 3 (by decide) (hts _ (List.mem_cons_of_mem _ kw_123)) (fun _ h9 => h9) rfl dNamedForm_forgetAll_1 ?_
  refine lv_iconst (v := (-1)) hx hb dNamedForm_forgetAll_4 (by decide) ?_
  refine xcv (va_runS ⟨hx, hb, hml, hown, hts⟩ (ktArrays_fill l D cA ad N (ad 19) (N * 6) _ meetingNames (-1) _ hw) (va_cwS 2 hts (goodS kw_310 kw_42 kw_4 kw_43) rfl rfl rfl (by decide +kernel) ⟨Nat.le_of_ble_eq_true rfl, Nat.le_of_ble_eq_true rfl⟩) (xpreS hK hP hD hN [8] rfl rfl) rfl rfl hl.1 rfl (lv_room (Nat.le_of_ble_eq_true rfl)) dNamedForm_forgetAll_5 ⟨Nat.le_of_ble_eq_true rfl, Nat.le_of_ble_eq_true rfl⟩) hP hD hS hA [8] [0, 1, 2, 3, 4, 5, 6, 7, 9, 10, 11, 12, 13, 14, 15] rfl rfl rfl rfl [0, 1, 2, 3, 4, 5, 6, 7, 15, 8, 9, 10, 11, 12, 13, 14] rfl (fun _ => rfl) (fun meetingNames_5 H locs hw hP hD hS => ?_)
  try dsimp only at hw
  have hP : va_P D vwCl (wdNamedForm_forgetAll cA ad N stepCount kind target orderSize reached frontiers order meetingNames_5 meetingUses stepNames firstUses secondUses endUses namesOf homeBlock) H := hP
  have hD : va_D A (wdNamedForm_forgetAll cA ad N stepCount kind target orderSize reached frontiers order meetingNames_5 meetingUses stepNames firstUses secondUses endUses namesOf homeBlock) := hD
  refine lv_aload_n hx hb dNamedForm_forgetAll_8 rfl (lv_at hl 0 rfl) ?_
  refine va_get (D := D) (ci := 3) (v := .ref (ad 20)) (C := "OnceNamed$NamedForm") (T := TX3) (N := 14) hx hb hts (fun w h => List.mem_cons_of_mem _ (inX3 w h)) hown hK hP 7 rfl rfl 4 (by decide) (hts _ (List.mem_cons_of_mem _ kw_124)) (fun _ h9 => h9) rfl dNamedForm_forgetAll_9 ?_
  refine lv_iconst (v := (-1)) hx hb dNamedForm_forgetAll_12 (by decide) ?_
  refine xcv (va_runS ⟨hx, hb, hml, hown, hts⟩ (ktArrays_fill l D cA ad N (ad 20) (N * 6 * (N + 1)) _ meetingUses (-1) _ hw) (va_cwS 2 hts (goodS kw_310 kw_42 kw_4 kw_43) rfl rfl rfl (by decide +kernel) ⟨Nat.le_of_ble_eq_true rfl, Nat.le_of_ble_eq_true rfl⟩) (xpreS hK hP hD hN [9] rfl rfl) rfl rfl hl.1 rfl (lv_room (Nat.le_of_ble_eq_true rfl)) dNamedForm_forgetAll_13 ⟨Nat.le_of_ble_eq_true rfl, Nat.le_of_ble_eq_true rfl⟩) hP hD hS hA [9] [0, 1, 2, 3, 4, 5, 6, 7, 8, 10, 11, 12, 13, 14, 15] rfl rfl rfl rfl [0, 1, 2, 3, 4, 5, 6, 7, 8, 15, 9, 10, 11, 12, 13, 14] rfl (fun _ => rfl) (fun meetingUses_13 H locs hw hP hD hS => ?_)
  try dsimp only at hw
  have hP : va_P D vwCl (wdNamedForm_forgetAll cA ad N stepCount kind target orderSize reached frontiers order meetingNames_5 meetingUses_13 stepNames firstUses secondUses endUses namesOf homeBlock) H := hP
  have hD : va_D A (wdNamedForm_forgetAll cA ad N stepCount kind target orderSize reached frontiers order meetingNames_5 meetingUses_13 stepNames firstUses secondUses endUses namesOf homeBlock) := hD
  refine lv_aload_n hx hb dNamedForm_forgetAll_16 rfl (lv_at hl 0 rfl) ?_
  refine va_get (D := D) (ci := 3) (v := .ref (ad 21)) (C := "OnceNamed$NamedForm") (T := TX3) (N := 14) hx hb hts (fun w h => List.mem_cons_of_mem _ (inX3 w h)) hown hK hP 7 rfl rfl 5 (by decide) (hts _ (List.mem_cons_of_mem _ kw_125)) (fun _ h9 => h9) rfl dNamedForm_forgetAll_17 ?_
  refine lv_iconst (v := (-1)) hx hb dNamedForm_forgetAll_20 (by decide) ?_
  refine xcv (va_runS ⟨hx, hb, hml, hown, hts⟩ (ktArrays_fill l D cA ad N (ad 21) (N * 6) _ stepNames (-1) _ hw) (va_cwS 2 hts (goodS kw_310 kw_42 kw_4 kw_43) rfl rfl rfl (by decide +kernel) ⟨Nat.le_of_ble_eq_true rfl, Nat.le_of_ble_eq_true rfl⟩) (xpreS hK hP hD hN [10] rfl rfl) rfl rfl hl.1 rfl (lv_room (Nat.le_of_ble_eq_true rfl)) dNamedForm_forgetAll_21 ⟨Nat.le_of_ble_eq_true rfl, Nat.le_of_ble_eq_true rfl⟩) hP hD hS hA [10] [0, 1, 2, 3, 4, 5, 6, 7, 8, 9, 11, 12, 13, 14, 15] rfl rfl rfl rfl [0, 1, 2, 3, 4, 5, 6, 7, 8, 9, 15, 10, 11, 12, 13, 14] rfl (fun _ => rfl) (fun stepNames_21 H locs hw hP hD hS => ?_)
  try dsimp only at hw
  have hP : va_P D vwCl (wdNamedForm_forgetAll cA ad N stepCount kind target orderSize reached frontiers order meetingNames_5 meetingUses_13 stepNames_21 firstUses secondUses endUses namesOf homeBlock) H := hP
  have hD : va_D A (wdNamedForm_forgetAll cA ad N stepCount kind target orderSize reached frontiers order meetingNames_5 meetingUses_13 stepNames_21 firstUses secondUses endUses namesOf homeBlock) := hD
  refine lv_aload_n hx hb dNamedForm_forgetAll_24 rfl (lv_at hl 0 rfl) ?_
  refine va_get (D := D) (ci := 3) (v := .ref (ad 22)) (C := "OnceNamed$NamedForm") (T := TX3) (N := 14) hx hb hts (fun w h => List.mem_cons_of_mem _ (inX3 w h)) hown hK hP 7 rfl rfl 6 (by decide) (hts _ (List.mem_cons_of_mem _ kw_126)) (fun _ h9 => h9) rfl dNamedForm_forgetAll_25 ?_
  refine lv_iconst (v := (-1)) hx hb dNamedForm_forgetAll_28 (by decide) ?_
  refine xcv (va_runS ⟨hx, hb, hml, hown, hts⟩ (ktArrays_fill l D cA ad N (ad 22) (N * 6) _ firstUses (-1) _ hw) (va_cwS 2 hts (goodS kw_310 kw_42 kw_4 kw_43) rfl rfl rfl (by decide +kernel) ⟨Nat.le_of_ble_eq_true rfl, Nat.le_of_ble_eq_true rfl⟩) (xpreS hK hP hD hN [11] rfl rfl) rfl rfl hl.1 rfl (lv_room (Nat.le_of_ble_eq_true rfl)) dNamedForm_forgetAll_29 ⟨Nat.le_of_ble_eq_true rfl, Nat.le_of_ble_eq_true rfl⟩) hP hD hS hA [11] [0, 1, 2, 3, 4, 5, 6, 7, 8, 9, 10, 12, 13, 14, 15] rfl rfl rfl rfl [0, 1, 2, 3, 4, 5, 6, 7, 8, 9, 10, 15, 11, 12, 13, 14] rfl (fun _ => rfl) (fun firstUses_29 H locs hw hP hD hS => ?_)
  try dsimp only at hw
  have hP : va_P D vwCl (wdNamedForm_forgetAll cA ad N stepCount kind target orderSize reached frontiers order meetingNames_5 meetingUses_13 stepNames_21 firstUses_29 secondUses endUses namesOf homeBlock) H := hP
  have hD : va_D A (wdNamedForm_forgetAll cA ad N stepCount kind target orderSize reached frontiers order meetingNames_5 meetingUses_13 stepNames_21 firstUses_29 secondUses endUses namesOf homeBlock) := hD
  refine lv_aload_n hx hb dNamedForm_forgetAll_32 rfl (lv_at hl 0 rfl) ?_
  refine va_get (D := D) (ci := 3) (v := .ref (ad 23)) (C := "OnceNamed$NamedForm") (T := TX3) (N := 14) hx hb hts (fun w h => List.mem_cons_of_mem _ (inX3 w h)) hown hK hP 7 rfl rfl 7 (by decide) (hts _ (List.mem_cons_of_mem _ kw_127)) (fun _ h9 => h9) rfl dNamedForm_forgetAll_33 ?_
  refine lv_iconst (v := (-1)) hx hb dNamedForm_forgetAll_36 (by decide) ?_
  refine xcv (va_runS ⟨hx, hb, hml, hown, hts⟩ (ktArrays_fill l D cA ad N (ad 23) (N * 6) _ secondUses (-1) _ hw) (va_cwS 2 hts (goodS kw_310 kw_42 kw_4 kw_43) rfl rfl rfl (by decide +kernel) ⟨Nat.le_of_ble_eq_true rfl, Nat.le_of_ble_eq_true rfl⟩) (xpreS hK hP hD hN [12] rfl rfl) rfl rfl hl.1 rfl (lv_room (Nat.le_of_ble_eq_true rfl)) dNamedForm_forgetAll_37 ⟨Nat.le_of_ble_eq_true rfl, Nat.le_of_ble_eq_true rfl⟩) hP hD hS hA [12] [0, 1, 2, 3, 4, 5, 6, 7, 8, 9, 10, 11, 13, 14, 15] rfl rfl rfl rfl [0, 1, 2, 3, 4, 5, 6, 7, 8, 9, 10, 11, 15, 12, 13, 14] rfl (fun _ => rfl) (fun secondUses_37 H locs hw hP hD hS => ?_)
  try dsimp only at hw
  have hP : va_P D vwCl (wdNamedForm_forgetAll cA ad N stepCount kind target orderSize reached frontiers order meetingNames_5 meetingUses_13 stepNames_21 firstUses_29 secondUses_37 endUses namesOf homeBlock) H := hP
  have hD : va_D A (wdNamedForm_forgetAll cA ad N stepCount kind target orderSize reached frontiers order meetingNames_5 meetingUses_13 stepNames_21 firstUses_29 secondUses_37 endUses namesOf homeBlock) := hD
  refine lv_aload_n hx hb dNamedForm_forgetAll_40 rfl (lv_at hl 0 rfl) ?_
  refine va_get (D := D) (ci := 3) (v := .ref (ad 24)) (C := "OnceNamed$NamedForm") (T := TX3) (N := 14) hx hb hts (fun w h => List.mem_cons_of_mem _ (inX3 w h)) hown hK hP 7 rfl rfl 8 (by decide) (hts _ (List.mem_cons_of_mem _ kw_128)) (fun _ h9 => h9) rfl dNamedForm_forgetAll_41 ?_
  refine lv_iconst (v := (-1)) hx hb dNamedForm_forgetAll_44 (by decide) ?_
  refine xcv (va_runS ⟨hx, hb, hml, hown, hts⟩ (ktArrays_fill l D cA ad N (ad 24) N _ endUses (-1) _ hw) (va_cwS 2 hts (goodS kw_310 kw_42 kw_4 kw_43) rfl rfl rfl (by decide +kernel) ⟨Nat.le_of_ble_eq_true rfl, Nat.le_of_ble_eq_true rfl⟩) (xpreS hK hP hD hN [13] rfl rfl) rfl rfl hl.1 rfl (lv_room (Nat.le_of_ble_eq_true rfl)) dNamedForm_forgetAll_45 ⟨Nat.le_of_ble_eq_true rfl, Nat.le_of_ble_eq_true rfl⟩) hP hD hS hA [13] [0, 1, 2, 3, 4, 5, 6, 7, 8, 9, 10, 11, 12, 14, 15] rfl rfl rfl rfl [0, 1, 2, 3, 4, 5, 6, 7, 8, 9, 10, 11, 12, 15, 13, 14] rfl (fun _ => rfl) (fun endUses_45 H locs hw hP hD hS => ?_)
  try dsimp only at hw
  have hP : va_P D vwCl (wdNamedForm_forgetAll cA ad N stepCount kind target orderSize reached frontiers order meetingNames_5 meetingUses_13 stepNames_21 firstUses_29 secondUses_37 endUses_45 namesOf homeBlock) H := hP
  have hD : va_D A (wdNamedForm_forgetAll cA ad N stepCount kind target orderSize reached frontiers order meetingNames_5 meetingUses_13 stepNames_21 firstUses_29 secondUses_37 endUses_45 namesOf homeBlock) := hD
  refine lv_aload_n hx hb dNamedForm_forgetAll_48 rfl (lv_at hl 0 rfl) ?_
  refine va_get (D := D) (ci := 3) (v := .ref (ad 26)) (C := "OnceNamed$NamedForm") (T := TX3) (N := 14) hx hb hts (fun w h => List.mem_cons_of_mem _ (inX3 w h)) hown hK hP 7 rfl rfl 10 (by decide) (hts _ (List.mem_cons_of_mem _ kw_130)) (fun _ h9 => h9) rfl dNamedForm_forgetAll_49 ?_
  refine lv_iconst (v := 0) hx hb dNamedForm_forgetAll_52 (by decide) ?_
  refine xcv (va_runS ⟨hx, hb, hml, hown, hts⟩ (ktArrays_fill l D cA ad N (ad 26) 6 _ namesOf 0 _ hw) (va_cwS 2 hts (goodS kw_310 kw_42 kw_4 kw_43) rfl rfl rfl (by decide +kernel) ⟨Nat.le_of_ble_eq_true rfl, Nat.le_of_ble_eq_true rfl⟩) (xpreS hK hP hD hN [14] rfl rfl) rfl rfl hl.1 rfl (lv_room (Nat.le_of_ble_eq_true rfl)) dNamedForm_forgetAll_53 ⟨Nat.le_of_ble_eq_true rfl, Nat.le_of_ble_eq_true rfl⟩) hP hD hS hA [14] [0, 1, 2, 3, 4, 5, 6, 7, 8, 9, 10, 11, 12, 13, 15] rfl rfl rfl rfl [0, 1, 2, 3, 4, 5, 6, 7, 8, 9, 10, 11, 12, 13, 15, 14] rfl (fun _ => rfl) (fun namesOf_53 H locs hw hP hD hS => ?_)
  try dsimp only at hw
  have hP : va_P D vwCl (wdNamedForm_forgetAll cA ad N stepCount kind target orderSize reached frontiers order meetingNames_5 meetingUses_13 stepNames_21 firstUses_29 secondUses_37 endUses_45 namesOf_53 homeBlock) H := hP
  have hD : va_D A (wdNamedForm_forgetAll cA ad N stepCount kind target orderSize reached frontiers order meetingNames_5 meetingUses_13 stepNames_21 firstUses_29 secondUses_37 endUses_45 namesOf_53 homeBlock) := hD
  refine lv_aload_n hx hb dNamedForm_forgetAll_56 rfl (lv_at hl 0 rfl) ?_
  refine va_get (D := D) (ci := 3) (v := .ref (ad 27)) (C := "OnceNamed$NamedForm") (T := TX3) (N := 14) hx hb hts (fun w h => List.mem_cons_of_mem _ (inX3 w h)) hown hK hP 7 rfl rfl 11 (by decide) (hts _ (List.mem_cons_of_mem _ kw_131)) (fun _ h9 => h9) rfl dNamedForm_forgetAll_57 ?_
  refine lv_iconst (v := (-1)) hx hb dNamedForm_forgetAll_60 (by decide) ?_
  refine xcv (va_runS ⟨hx, hb, hml, hown, hts⟩ (ktArrays_fill l D cA ad N (ad 27) 600 _ homeBlock (-1) _ hw) (va_cwS 2 hts (goodS kw_310 kw_42 kw_4 kw_43) rfl rfl rfl (by decide +kernel) ⟨Nat.le_of_ble_eq_true rfl, Nat.le_of_ble_eq_true rfl⟩) (xpreS hK hP hD hN [15] rfl rfl) rfl rfl hl.1 rfl (lv_room (Nat.le_of_ble_eq_true rfl)) dNamedForm_forgetAll_61 ⟨Nat.le_of_ble_eq_true rfl, Nat.le_of_ble_eq_true rfl⟩) hP hD hS hA [15] [0, 1, 2, 3, 4, 5, 6, 7, 8, 9, 10, 11, 12, 13, 14] rfl rfl rfl rfl [0, 1, 2, 3, 4, 5, 6, 7, 8, 9, 10, 11, 12, 13, 14, 15] rfl (fun _ => rfl) (fun homeBlock_61 H locs hw hP hD hS => ?_)
  try dsimp only at hw
  have hP : va_P D vwCl (wdNamedForm_forgetAll cA ad N stepCount kind target orderSize reached frontiers order meetingNames_5 meetingUses_13 stepNames_21 firstUses_29 secondUses_37 endUses_45 namesOf_53 homeBlock_61) H := hP
  have hD : va_D A (wdNamedForm_forgetAll cA ad N stepCount kind target orderSize reached frontiers order meetingNames_5 meetingUses_13 stepNames_21 firstUses_29 secondUses_37 endUses_45 namesOf_53 homeBlock_61) := hD
  refine lv_iconst (v := 0) hx hb dNamedForm_forgetAll_64 (by decide) ?_
  refine lv_istore_n (lv' := [(1, .int 0), (0, .ref (ad 18))]) hx hb dNamedForm_forgetAll_65 rfl hl (by decide) rfl (fun ls hl => ?_)
  obtain ⟨k66, hw⟩ := hw
  have hlp66 : ∀ (k : Nat), ∀ (v1_L66 : Int32) (meetingNames_L66 : Nat → Int32) (ls : Array Slot) (H : Heap) (locs : List Loc), lv_has ls 2 [(0, .ref (ad 18)), (1, .int v1_L66)] → va_P D vwCl (wdNamedForm_forgetAll cA ad N stepCount kind target orderSize reached frontiers order meetingNames_L66 meetingUses_13 stepNames_21 firstUses_29 secondUses_37 endUses_45 namesOf_53 homeBlock_61) H → va_D A (wdNamedForm_forgetAll cA ad N stepCount kind target orderSize reached frontiers order meetingNames_L66 meetingUses_13 stepNames_21 firstUses_29 secondUses_37 endUses_45 namesOf_53 homeBlock_61) → va_S A s.heap H locs → lpNamedForm_forgetAll_66 N stepCount kind target orderSize frontiers order meetingUses_13 stepNames_21 firstUses_29 secondUses_37 endUses_45 namesOf_53 homeBlock_61 post k v1_L66 meetingNames_L66 → W p l e (headSpec (Cond.code yNamedForm_forgetAll cNamedForm_forgetAll 2 none :: xW) rmNamedForm_forgetAll).room s m ([.ref (ad 18)] : List Value).toArray below meth c H locs 0 0 Q (F0 m 66 ls []) := by
    intro k
    induction k with
    | zero => intro v1_L66 meetingNames_L66 ls H locs hl hP hD hS hw; exact False.elim hw
    | succ k ih =>
      intro v1_L66 meetingNames_L66 ls H locs hl hP hD hS hw
      refine lv_iload_n hx hb dNamedForm_forgetAll_66 rfl (lv_at hl 1 rfl) ?_
      refine lv_bipush (v := 6) hx hb dNamedForm_forgetAll_67 (by decide) ?_
      refine lv_icmp_ge (tgt := 83) hx hb dNamedForm_forgetAll_69 rfl (fun hc => ?_) (fun hc => ?_)
      · have hw := hw.1 hc
        exact hend meetingNames_L66 meetingUses_13 stepNames_21 firstUses_29 secondUses_37 endUses_45 namesOf_53 homeBlock_61 _ _ _ _ dNamedForm_forgetAll_83 hP hD hS hw
      · have hw := hw.2 hc
        refine lv_aload_n hx hb dNamedForm_forgetAll_72 rfl (lv_at hl 0 rfl) ?_
        refine lv_iload_n hx hb dNamedForm_forgetAll_73 rfl (lv_at hl 1 rfl) ?_
        refine xcv (va_runV ⟨hx, hb, hml, hown, hts⟩ (ktNamedForm_markMeetings l D cA ad N _ stepCount kind target orderSize reached frontiers order meetingNames_L66 v1_L66 _ hw) (cwV 1 hts (goodV kw_311 kw_313 ks_1_6 kw_6 kw_314) rfl rfl rfl (by decide +kernel) ⟨Nat.le_of_ble_eq_true rfl, Nat.le_of_ble_eq_true rfl⟩) (xpreV hK hP hD hN [0, 1, 2, 3, 4, 5, 6, 7, 8] rfl rfl 7 rfl rfl) rfl rfl hl.1 rfl (lv_room (Nat.le_of_ble_eq_true rfl)) dNamedForm_forgetAll_74 ⟨Nat.le_of_ble_eq_true rfl, Nat.le_of_ble_eq_true rfl⟩) hP hD hS hA [0, 1, 2, 3, 4, 5, 6, 7, 8] [9, 10, 11, 12, 13, 14, 15] rfl rfl rfl rfl [7, 8, 9, 10, 11, 12, 13, 14, 15, 0, 1, 2, 3, 4, 5, 6] rfl (fun _ => rfl) (fun meetingNames_74 H locs hw hP hD hS => ?_)
        try dsimp only at hw
        have hP : va_P D vwCl (wdNamedForm_forgetAll cA ad N stepCount kind target orderSize reached frontiers order meetingNames_74 meetingUses_13 stepNames_21 firstUses_29 secondUses_37 endUses_45 namesOf_53 homeBlock_61) H := hP
        have hD : va_D A (wdNamedForm_forgetAll cA ad N stepCount kind target orderSize reached frontiers order meetingNames_74 meetingUses_13 stepNames_21 firstUses_29 secondUses_37 endUses_45 namesOf_53 homeBlock_61) := hD
        refine lv_iinc (k := 1) (v := (v1_L66 + 1)) (lv' := [(1, .int (v1_L66 + 1)), (0, .ref (ad 18))]) hx hb dNamedForm_forgetAll_77 hl rfl rfl (by decide) rfl (fun ls hl => ?_)
        refine lv_goto (tgt := 66) hx hb dNamedForm_forgetAll_80 rfl ?_
        exact ih (v1_L66 + 1) meetingNames_74 _ _ _ (lv_sub hl [1, 0] rfl) hP hD hS hw
  refine hlp66 k66 0 meetingNames_5 _ _ _ (lv_sub hl [1, 0] rfl) hP hD hS hw
abbrev wdNamedForm_useOfMeeting (cA : ClassId) (ad : Nat → Nat) (N : Nat)  : va_W := [((ad 18), .inr (3, [.ref (ad 1), .ref (ad 11), .int (nI N), .ref (ad 19), .ref (ad 20), .ref (ad 21), .ref (ad 22), .ref (ad 23), .ref (ad 24), .ref (ad 25), .ref (ad 26), .ref (ad 27), .ref (ad 28), .ref (ad 29)]))]
abbrev qcNamedForm_useOfMeeting (D : va_G) (cA : ClassId) (ad : Nat → Nat) (N : Nat)  (post : Int32 → Prop) (A : Nat → Prop) : Array Value → State → Outcome → State → Prop := va_Qi (S := Unit) (fun r u => post r ) (fun u t => xB D [(cA, .int)] A (wdNamedForm_useOfMeeting cA ad N) t) A
abbrev rmNamedForm_useOfMeeting : Room := { frames := 0, cells := 0, slots := 0, locals := 0 }
set_option maxHeartbeats 4000000 in
set_option maxRecDepth 100000 in
theorem ktNamedForm_useOfMeeting (l : Launch) (D : va_G) (cA : ClassId) (ad : Nat → Nat) (N : Nat) (sz : Nat)  (v1 : Int32) (v2 : Int32) (v3 : Int32) (post : Int32 → Prop) (hw : wpNamedForm_useOfMeeting N v1 v2 v3 post) : Met l yNamedForm_useOfMeeting (Cond.code yNamedForm_useOfMeeting cNamedForm_useOfMeeting 4 (some .int) :: xW) rmNamedForm_useOfMeeting (va_Pc [.ref (ad 18), .int v1, .int v2, .int v3] (xPc D [(cA, .int)] (wdNamedForm_useOfMeeting cA ad N) sz)) (qcNamedForm_useOfMeeting D cA ad N  post (va_A (wdNamedForm_useOfMeeting cA ad N) sz)) 0 0 (va_A (wdNamedForm_useOfMeeting cA ad N) sz) := by
  refine Met.ofW (cc := cNamedForm_useOfMeeting) (maxL := 4) (ret := (some .int)) (by decide) rfl ?_
  intro p e s m args below meth c s₁ B hml hv
  obtain ⟨rfl, hsz, hP, hK, hD0, hN⟩ := hv
  have hx := B.exec
  have hb := B.bytes
  have hr := B.returns
  have hts := atoms_spec (ws := (Cond.code yNamedForm_useOfMeeting cNamedForm_useOfMeeting 4 (some .int) :: xW)) B.pre
  have hown : s.vm.findClass "OnceNamed$NamedForm" = some m.cls := findClass_of_methodNamed B.named
  have hlocks := B.notSynchronized
  subst hsz
  have hD := hD0.self (sz := s.heap.size)
  generalize hAe : va_A (wdNamedForm_useOfMeeting cA ad N) s.heap.size = A at hD ⊢
  have hA : ∀ q : Nat, s.heap.size ≤ q → A q := fun q h => by rw [← hAe]; exact Or.inr h
  have hS : va_S A s.heap s.heap [] := va_S.rf
  have hend : ∀ (r : Int32)  (H : Heap) (locs : List Loc) (pc : Nat) (ls : Array Slot), decode cNamedForm_useOfMeeting pc = .ok (.ireturn, 1) → va_P D vwCl (wdNamedForm_useOfMeeting cA ad N) H → va_D A (wdNamedForm_useOfMeeting cA ad N) → va_S A s.heap H locs → post r  → W p l e (headSpec (Cond.code yNamedForm_useOfMeeting cNamedForm_useOfMeeting 4 (some .int) :: xW) rmNamedForm_useOfMeeting).room s m ([.ref (ad 18), .int v1, .int v2, .int v3] : List Value).toArray below meth c H locs 0 0 (MQ below (qcNamedForm_useOfMeeting D cA ad N  post A) ([.ref (ad 18), .int v1, .int v2, .int v3] : List Value).toArray s 0 0 A) (F0 m pc ls [.int r]) := fun r  H locs pc ls hd hP hD hS hw => W.iret (v := r) hx hb hr (fun t ht hW => ⟨⟨r, (), rfl, hw, ⟨by rw [ht]; exact hP, va_K.moved hW.alike hK, hD⟩⟩, hS.F ht⟩) hS.2.2 hd
  generalize hQ : MQ below (qcNamedForm_useOfMeeting D cA ad N  post A) ([.ref (ad 18), .int v1, .int v2, .int v3] : List Value).toArray s 0 0 A = Q at hend ⊢
  have hl := lv_entry ([.ref (ad 18), .int v1, .int v2, .int v3]) (n := 4) (Nat.le_of_ble_eq_true rfl)
  rw [lg_entry_eq]
  generalize (lg_sl ([.ref (ad 18), .int v1, .int v2, .int v3]) ++ List.replicate (4 - (lg_sl ([.ref (ad 18), .int v1, .int v2, .int v3])).length) Slot.unset).toArray = ls at hl ⊢
  have hl : lv_has ls 4 [(0, .ref (ad 18)), (1, .int v1), (2, .int v2), (3, .int v3)] := hl
  unfold wpNamedForm_useOfMeeting at hw
  refine lv_iload_n hx hb dNamedForm_useOfMeeting_0 rfl (lv_at hl 1 rfl) ?_
  refine lv_bipush (v := 6) hx hb dNamedForm_useOfMeeting_1 (by decide) ?_
  refine lv_imul hx hb dNamedForm_useOfMeeting_3 ?_
  refine lv_iload_n hx hb dNamedForm_useOfMeeting_4 rfl (lv_at hl 2 rfl) ?_
  refine lv_iadd hx hb dNamedForm_useOfMeeting_5 ?_
  refine lv_aload_n hx hb dNamedForm_useOfMeeting_6 rfl (lv_at hl 0 rfl) ?_
  refine va_get (D := D) (ci := 3) (v := .int (nI N)) (C := "OnceNamed$NamedForm") (T := TX3) (N := 14) hx hb hts (fun w h => List.mem_cons_of_mem _ (inX3 w h)) hown hK hP 0 rfl rfl 2 (by decide) (hts _ (List.mem_cons_of_mem _ kw_122)) (fun _ h9 => h9) rfl dNamedForm_useOfMeeting_7 ?_
  refine lv_iconst (v := 1) hx hb dNamedForm_useOfMeeting_10 (by decide) ?_
  refine lv_iadd hx hb dNamedForm_useOfMeeting_11 ?_
  refine lv_imul hx hb dNamedForm_useOfMeeting_12 ?_
  refine lv_iload_n hx hb dNamedForm_useOfMeeting_13 rfl (lv_at hl 3 rfl) ?_
  refine lv_iadd hx hb dNamedForm_useOfMeeting_14 ?_
  exact hend ((((v1 * 6) + v2) * ((nI N) + 1)) + v3) _ _ _ _ dNamedForm_useOfMeeting_15 hP hD hS hw
abbrev wdNamedForm_lastName (cA : ClassId) (ad : Nat → Nat) (N : Nat) (lastNames : Nat → Int32) : va_W := [((ad 18), .inr (3, [.ref (ad 1), .ref (ad 11), .int (nI N), .ref (ad 19), .ref (ad 20), .ref (ad 21), .ref (ad 22), .ref (ad 23), .ref (ad 24), .ref (ad 25), .ref (ad 26), .ref (ad 27), .ref (ad 28), .ref (ad 29)])), ((ad 25), .inl (cA, (N + 1) * 6, .inl lastNames))]
abbrev qcNamedForm_lastName (D : va_G) (cA : ClassId) (ad : Nat → Nat) (N : Nat) (lastNames : Nat → Int32) (post : Int32 → Prop) (A : Nat → Prop) : Array Value → State → Outcome → State → Prop := va_Qi (S := Unit) (fun r u => post r ) (fun u t => xB D [(cA, .int)] A (wdNamedForm_lastName cA ad N lastNames) t) A
abbrev rmNamedForm_lastName : Room := { frames := 0, cells := 0, slots := 0, locals := 0 }
set_option maxHeartbeats 4000000 in
set_option maxRecDepth 100000 in
theorem ktNamedForm_lastName (l : Launch) (D : va_G) (cA : ClassId) (ad : Nat → Nat) (N : Nat) (sz : Nat) (lastNames : Nat → Int32) (v1 : Int32) (v2 : Int32) (post : Int32 → Prop) (hw : wpNamedForm_lastName N lastNames v1 v2 post) : Met l yNamedForm_lastName (Cond.code yNamedForm_lastName cNamedForm_lastName 3 (some .int) :: xW) rmNamedForm_lastName (va_Pc [.ref (ad 18), .int v1, .int v2] (xPc D [(cA, .int)] (wdNamedForm_lastName cA ad N lastNames) sz)) (qcNamedForm_lastName D cA ad N lastNames post (va_A (wdNamedForm_lastName cA ad N lastNames) sz)) 0 0 (va_A (wdNamedForm_lastName cA ad N lastNames) sz) := by
  refine Met.ofW (cc := cNamedForm_lastName) (maxL := 3) (ret := (some .int)) (by decide) rfl ?_
  intro p e s m args below meth c s₁ B hml hv
  obtain ⟨rfl, hsz, hP, hK, hD0, hN⟩ := hv
  have hx := B.exec
  have hb := B.bytes
  have hr := B.returns
  have hts := atoms_spec (ws := (Cond.code yNamedForm_lastName cNamedForm_lastName 3 (some .int) :: xW)) B.pre
  have hown : s.vm.findClass "OnceNamed$NamedForm" = some m.cls := findClass_of_methodNamed B.named
  have hlocks := B.notSynchronized
  subst hsz
  have hD := hD0.self (sz := s.heap.size)
  generalize hAe : va_A (wdNamedForm_lastName cA ad N lastNames) s.heap.size = A at hD ⊢
  have hA : ∀ q : Nat, s.heap.size ≤ q → A q := fun q h => by rw [← hAe]; exact Or.inr h
  have hS : va_S A s.heap s.heap [] := va_S.rf
  have hend : ∀ (r : Int32)  (H : Heap) (locs : List Loc) (pc : Nat) (ls : Array Slot), decode cNamedForm_lastName pc = .ok (.ireturn, 1) → va_P D vwCl (wdNamedForm_lastName cA ad N lastNames) H → va_D A (wdNamedForm_lastName cA ad N lastNames) → va_S A s.heap H locs → post r  → W p l e (headSpec (Cond.code yNamedForm_lastName cNamedForm_lastName 3 (some .int) :: xW) rmNamedForm_lastName).room s m ([.ref (ad 18), .int v1, .int v2] : List Value).toArray below meth c H locs 0 0 (MQ below (qcNamedForm_lastName D cA ad N lastNames post A) ([.ref (ad 18), .int v1, .int v2] : List Value).toArray s 0 0 A) (F0 m pc ls [.int r]) := fun r  H locs pc ls hd hP hD hS hw => W.iret (v := r) hx hb hr (fun t ht hW => ⟨⟨r, (), rfl, hw, ⟨by rw [ht]; exact hP, va_K.moved hW.alike hK, hD⟩⟩, hS.F ht⟩) hS.2.2 hd
  generalize hQ : MQ below (qcNamedForm_lastName D cA ad N lastNames post A) ([.ref (ad 18), .int v1, .int v2] : List Value).toArray s 0 0 A = Q at hend ⊢
  have hl := lv_entry ([.ref (ad 18), .int v1, .int v2]) (n := 3) (Nat.le_of_ble_eq_true rfl)
  rw [lg_entry_eq]
  generalize (lg_sl ([.ref (ad 18), .int v1, .int v2]) ++ List.replicate (3 - (lg_sl ([.ref (ad 18), .int v1, .int v2])).length) Slot.unset).toArray = ls at hl ⊢
  have hl : lv_has ls 3 [(0, .ref (ad 18)), (1, .int v1), (2, .int v2)] := hl
  unfold wpNamedForm_lastName at hw
  refine lv_iload_n hx hb dNamedForm_lastName_0 rfl (lv_at hl 2 rfl) ?_
  refine lv_iconst (v := (-1)) hx hb dNamedForm_lastName_1 (by decide) ?_
  refine lv_icmp_ne (tgt := 9) hx hb dNamedForm_lastName_2 rfl (fun hc => ?_) (fun hc => ?_)
  · have hw := hw.1 hc
    refine lv_aload_n hx hb dNamedForm_lastName_9 rfl (lv_at hl 0 rfl) ?_
    refine va_get (D := D) (ci := 3) (v := .ref (ad 25)) (C := "OnceNamed$NamedForm") (T := TX3) (N := 14) hx hb hts (fun w h => List.mem_cons_of_mem _ (inX3 w h)) hown hK hP 0 rfl rfl 9 (by decide) (hts _ (List.mem_cons_of_mem _ kw_129)) (fun _ h9 => h9) rfl dNamedForm_lastName_10 ?_
    refine lv_iload_n hx hb dNamedForm_lastName_13 rfl (lv_at hl 1 rfl) ?_
    refine lv_bipush (v := 6) hx hb dNamedForm_lastName_14 (by decide) ?_
    refine lv_imul hx hb dNamedForm_lastName_16 ?_
    refine lv_iload_n hx hb dNamedForm_lastName_17 rfl (lv_at hl 2 rfl) ?_
    refine lv_iadd hx hb dNamedForm_lastName_18 ?_
    have ho := hw.1
    have hw := hw.2
    refine va_iald hx hb hK hP 1 0 rfl rfl ho dNamedForm_lastName_19 ?_
    exact hend (lastNames (Int32.toNatClampNeg ((v1 * 6) + v2))) _ _ _ _ dNamedForm_lastName_20 hP hD hS hw
  · have hw := hw.2 hc
    refine lv_iconst (v := (-1)) hx hb dNamedForm_lastName_5 (by decide) ?_
    refine lv_goto (tgt := 20) hx hb dNamedForm_lastName_6 rfl ?_
    exact hend (-1) _ _ _ _ dNamedForm_lastName_20 hP hD hS hw
abbrev wdNamedForm_findUsesOfMeeting (cA : ClassId) (ad : Nat → Nat) (N : Nat) (orderSize : Int32) (reached : Int32) (forerunners : Nat → Int32) (meetingUses : Nat → Int32) (lastNames : Nat → Int32) : va_W := [((ad 11), .inr (2, [.int (nI N), .ref (ad 12), .ref (ad 13), .ref (ad 14), .ref (ad 15), .ref (ad 16), .ref (ad 17), .int orderSize, .int reached])), ((ad 12), .inl (cA, N, .inl forerunners)), ((ad 18), .inr (3, [.ref (ad 1), .ref (ad 11), .int (nI N), .ref (ad 19), .ref (ad 20), .ref (ad 21), .ref (ad 22), .ref (ad 23), .ref (ad 24), .ref (ad 25), .ref (ad 26), .ref (ad 27), .ref (ad 28), .ref (ad 29)])), ((ad 20), .inl (cA, N * 6 * (N + 1), .inl meetingUses)), ((ad 25), .inl (cA, (N + 1) * 6, .inl lastNames))]
abbrev qcNamedForm_findUsesOfMeeting (D : va_G) (cA : ClassId) (ad : Nat → Nat) (N : Nat) (orderSize : Int32) (reached : Int32) (forerunners : Nat → Int32) (meetingUses : Nat → Int32) (lastNames : Nat → Int32) (post : (Nat → Int32) → Prop) (A : Nat → Prop) : Array Value → State → Outcome → State → Prop := va_Qv (S := (Nat → Int32)) (fun u => post u) (fun u t => xB D [(cA, .int)] A (wdNamedForm_findUsesOfMeeting cA ad N orderSize reached forerunners u lastNames) t) A
abbrev rmNamedForm_findUsesOfMeeting : Room := { frames := 2, cells := 0, slots := 0, locals := 43 }
set_option maxHeartbeats 4000000 in
set_option maxRecDepth 100000 in
theorem ktNamedForm_findUsesOfMeeting (l : Launch) (D : va_G) (cA : ClassId) (ad : Nat → Nat) (N : Nat) (sz : Nat) (orderSize : Int32) (reached : Int32) (forerunners : Nat → Int32) (meetingUses : Nat → Int32) (lastNames : Nat → Int32) (v1 : Int32) (v2 : Int32) (post : (Nat → Int32) → Prop) (hw : wpNamedForm_findUsesOfMeeting N forerunners meetingUses lastNames v1 v2 post) : Met l yNamedForm_findUsesOfMeeting (Cond.code yNamedForm_findUsesOfMeeting cNamedForm_findUsesOfMeeting 4 none :: xW) rmNamedForm_findUsesOfMeeting (va_Pc [.ref (ad 18), .int v1, .int v2] (xPc D [(cA, .int)] (wdNamedForm_findUsesOfMeeting cA ad N orderSize reached forerunners meetingUses lastNames) sz)) (qcNamedForm_findUsesOfMeeting D cA ad N orderSize reached forerunners meetingUses lastNames post (va_A (wdNamedForm_findUsesOfMeeting cA ad N orderSize reached forerunners meetingUses lastNames) sz)) 0 0 (va_A (wdNamedForm_findUsesOfMeeting cA ad N orderSize reached forerunners meetingUses lastNames) sz) := by
  refine Met.ofW (cc := cNamedForm_findUsesOfMeeting) (maxL := 4) (ret := none) (by decide) rfl ?_
  intro p e s m args below meth c s₁ B hml hv
  obtain ⟨rfl, hsz, hP, hK, hD0, hN⟩ := hv
  have hx := B.exec
  have hb := B.bytes
  have hr := B.returns
  have hts := atoms_spec (ws := (Cond.code yNamedForm_findUsesOfMeeting cNamedForm_findUsesOfMeeting 4 none :: xW)) B.pre
  have hown : s.vm.findClass "OnceNamed$NamedForm" = some m.cls := findClass_of_methodNamed B.named
  have hlocks := B.notSynchronized
  subst hsz
  have hD := hD0.self (sz := s.heap.size)
  generalize hAe : va_A (wdNamedForm_findUsesOfMeeting cA ad N orderSize reached forerunners meetingUses lastNames) s.heap.size = A at hD ⊢
  have hA : ∀ q : Nat, s.heap.size ≤ q → A q := fun q h => by rw [← hAe]; exact Or.inr h
  have hS : va_S A s.heap s.heap [] := va_S.rf
  have hend : ∀ (u0 : Nat → Int32) (H : Heap) (locs : List Loc) (pc : Nat) (ls : Array Slot), decode cNamedForm_findUsesOfMeeting pc = .ok (.return_, 1) → va_P D vwCl (wdNamedForm_findUsesOfMeeting cA ad N orderSize reached forerunners u0 lastNames) H → va_D A (wdNamedForm_findUsesOfMeeting cA ad N orderSize reached forerunners u0 lastNames) → va_S A s.heap H locs → post u0 → W p l e (headSpec (Cond.code yNamedForm_findUsesOfMeeting cNamedForm_findUsesOfMeeting 4 none :: xW) rmNamedForm_findUsesOfMeeting).room s m ([.ref (ad 18), .int v1, .int v2] : List Value).toArray below meth c H locs 0 0 (MQ below (qcNamedForm_findUsesOfMeeting D cA ad N orderSize reached forerunners meetingUses lastNames post A) ([.ref (ad 18), .int v1, .int v2] : List Value).toArray s 0 0 A) (F0 m pc ls []) := fun u0 H locs pc ls hd hP hD hS hw => W.vret hx hb hr (fun t ht hW => ⟨⟨u0, rfl, hw, ⟨by rw [ht]; exact hP, va_K.moved hW.alike hK, hD⟩⟩, hS.F ht⟩) hS.2.2 hd
  generalize hQ : MQ below (qcNamedForm_findUsesOfMeeting D cA ad N orderSize reached forerunners meetingUses lastNames post A) ([.ref (ad 18), .int v1, .int v2] : List Value).toArray s 0 0 A = Q at hend ⊢
  have hl := lv_entry ([.ref (ad 18), .int v1, .int v2]) (n := 4) (Nat.le_of_ble_eq_true rfl)
  rw [lg_entry_eq]
  generalize (lg_sl ([.ref (ad 18), .int v1, .int v2]) ++ List.replicate (4 - (lg_sl ([.ref (ad 18), .int v1, .int v2])).length) Slot.unset).toArray = ls at hl ⊢
  have hl : lv_has ls 4 [(0, .ref (ad 18)), (1, .int v1), (2, .int v2)] := hl
  unfold wpNamedForm_findUsesOfMeeting at hw
  refine lv_iconst (v := 0) hx hb dNamedForm_findUsesOfMeeting_0 (by decide) ?_
  refine lv_istore_n (lv' := [(3, .int 0), (0, .ref (ad 18)), (1, .int v1), (2, .int v2)]) hx hb dNamedForm_findUsesOfMeeting_1 rfl hl (by decide) rfl (fun ls hl => ?_)
  obtain ⟨k2, hw⟩ := hw
  have hlp2 : ∀ (k : Nat), ∀ (v3_L2 : Int32) (meetingUses_L2 : Nat → Int32) (ls : Array Slot) (H : Heap) (locs : List Loc), lv_has ls 4 [(0, .ref (ad 18)), (1, .int v1), (2, .int v2), (3, .int v3_L2)] → va_P D vwCl (wdNamedForm_findUsesOfMeeting cA ad N orderSize reached forerunners meetingUses_L2 lastNames) H → va_D A (wdNamedForm_findUsesOfMeeting cA ad N orderSize reached forerunners meetingUses_L2 lastNames) → va_S A s.heap H locs → lpNamedForm_findUsesOfMeeting_2 N v1 v2 forerunners lastNames post k v3_L2 meetingUses_L2 → W p l e (headSpec (Cond.code yNamedForm_findUsesOfMeeting cNamedForm_findUsesOfMeeting 4 none :: xW) rmNamedForm_findUsesOfMeeting).room s m ([.ref (ad 18), .int v1, .int v2] : List Value).toArray below meth c H locs 0 0 Q (F0 m 2 ls []) := by
    intro k
    induction k with
    | zero => intro v3_L2 meetingUses_L2 ls H locs hl hP hD hS hw; exact False.elim hw
    | succ k ih =>
      intro v3_L2 meetingUses_L2 ls H locs hl hP hD hS hw
      refine lv_iload_n hx hb dNamedForm_findUsesOfMeeting_2 rfl (lv_at hl 3 rfl) ?_
      refine lv_aload_n hx hb dNamedForm_findUsesOfMeeting_3 rfl (lv_at hl 0 rfl) ?_
      refine va_get (D := D) (ci := 3) (v := .int (nI N)) (C := "OnceNamed$NamedForm") (T := TX3) (N := 14) hx hb hts (fun w h => List.mem_cons_of_mem _ (inX3 w h)) hown hK hP 2 rfl rfl 2 (by decide) (hts _ (List.mem_cons_of_mem _ kw_122)) (fun _ h9 => h9) rfl dNamedForm_findUsesOfMeeting_4 ?_
      refine lv_icmp_gt (tgt := 46) hx hb dNamedForm_findUsesOfMeeting_7 rfl (fun hc => ?_) (fun hc => ?_)
      · have hw := hw.1 hc
        exact hend meetingUses_L2 _ _ _ _ dNamedForm_findUsesOfMeeting_46 hP hD hS hw
      · have hw := hw.2 hc
        refine lv_aload_n hx hb dNamedForm_findUsesOfMeeting_10 rfl (lv_at hl 0 rfl) ?_
        refine va_get (D := D) (ci := 3) (v := .ref (ad 11)) (C := "OnceNamed$NamedForm") (T := TX3) (N := 14) hx hb hts (fun w h => List.mem_cons_of_mem _ (inX3 w h)) hown hK hP 2 rfl rfl 1 (by decide) (hts _ (List.mem_cons_of_mem _ kw_121)) (fun _ h9 => h9) rfl dNamedForm_findUsesOfMeeting_11 ?_
        refine lv_iload_n hx hb dNamedForm_findUsesOfMeeting_14 rfl (lv_at hl 3 rfl) ?_
        refine lv_iload_n hx hb dNamedForm_findUsesOfMeeting_15 rfl (lv_at hl 1 rfl) ?_
        refine xci (va_runV ⟨hx, hb, hml, hown, hts⟩ (ktGraph_leadsTo l D cA ad N _ orderSize reached forerunners v3_L2 v1 _ hw) (cwV 2 hts (goodV kw_393 kw_394 kw_395 kw_5 kw_396) rfl rfl rfl (by decide +kernel) ⟨Nat.le_of_ble_eq_true rfl, Nat.le_of_ble_eq_true rfl⟩) (xpreV hK hP hD hN [0, 1] rfl rfl 0 rfl rfl) rfl rfl hl.1 rfl (lv_room (Nat.le_of_ble_eq_true rfl)) dNamedForm_findUsesOfMeeting_16 ⟨Nat.le_of_ble_eq_true rfl, Nat.le_of_ble_eq_true rfl⟩) hP hD hS hA [0, 1] [2, 3, 4] rfl rfl rfl rfl [3, 4, 0, 1, 2] rfl (fun _ => rfl) (fun r16 u H locs hw hP hD hS => ?_)
        obtain ⟨r16, rfl, hw⟩ := hw
        have hP : va_P D vwCl (wdNamedForm_findUsesOfMeeting cA ad N orderSize reached forerunners meetingUses_L2 lastNames) H := hP
        have hD : va_D A (wdNamedForm_findUsesOfMeeting cA ad N orderSize reached forerunners meetingUses_L2 lastNames) := hD
        refine lv_if_eq (tgt := 40) hx hb dNamedForm_findUsesOfMeeting_19 rfl (fun hc => ?_) (fun hc => ?_)
        · have hw := hw.1 (bI_0 hc)
          refine lv_iinc (k := 3) (v := (v3_L2 + 1)) (lv' := [(3, .int (v3_L2 + 1)), (0, .ref (ad 18)), (1, .int v1), (2, .int v2)]) hx hb dNamedForm_findUsesOfMeeting_40 hl rfl rfl (by decide) rfl (fun ls hl => ?_)
          refine lv_goto (tgt := 2) hx hb dNamedForm_findUsesOfMeeting_43 rfl ?_
          exact ih (v3_L2 + 1) meetingUses_L2 _ _ _ (lv_sub hl [1, 2, 3, 0] rfl) hP hD hS hw
        · have hw := hw.2 (bI_1 hc)
          refine lv_aload_n hx hb dNamedForm_findUsesOfMeeting_22 rfl (lv_at hl 0 rfl) ?_
          refine va_get (D := D) (ci := 3) (v := .ref (ad 20)) (C := "OnceNamed$NamedForm") (T := TX3) (N := 14) hx hb hts (fun w h => List.mem_cons_of_mem _ (inX3 w h)) hown hK hP 2 rfl rfl 4 (by decide) (hts _ (List.mem_cons_of_mem _ kw_124)) (fun _ h9 => h9) rfl dNamedForm_findUsesOfMeeting_23 ?_
          refine lv_aload_n hx hb dNamedForm_findUsesOfMeeting_26 rfl (lv_at hl 0 rfl) ?_
          refine lv_iload_n hx hb dNamedForm_findUsesOfMeeting_27 rfl (lv_at hl 1 rfl) ?_
          refine lv_iload_n hx hb dNamedForm_findUsesOfMeeting_28 rfl (lv_at hl 2 rfl) ?_
          refine lv_iload_n hx hb dNamedForm_findUsesOfMeeting_29 rfl (lv_at hl 3 rfl) ?_
          refine xci (va_runV ⟨hx, hb, hml, hown, hts⟩ (ktNamedForm_useOfMeeting l D cA ad N _ v1 v2 v3_L2 _ hw) (cwV 3 hts (goodV kw_397 kw_399 ks_1_13 kw_6 kw_400) rfl rfl rfl (by decide +kernel) ⟨Nat.le_of_ble_eq_true rfl, Nat.le_of_ble_eq_true rfl⟩) (xpreV hK hP hD hN [2] rfl rfl 2 rfl rfl) rfl rfl hl.1 rfl (lv_room (Nat.le_of_ble_eq_true rfl)) dNamedForm_findUsesOfMeeting_30 ⟨Nat.le_of_ble_eq_true rfl, Nat.le_of_ble_eq_true rfl⟩) hP hD hS hA [2] [0, 1, 3, 4] rfl rfl rfl rfl [0, 1, 4, 2, 3] rfl (fun _ => rfl) (fun r30 u H locs hw hP hD hS => ?_)
          have hP : va_P D vwCl (wdNamedForm_findUsesOfMeeting cA ad N orderSize reached forerunners meetingUses_L2 lastNames) H := hP
          have hD : va_D A (wdNamedForm_findUsesOfMeeting cA ad N orderSize reached forerunners meetingUses_L2 lastNames) := hD
          refine lv_aload_n hx hb dNamedForm_findUsesOfMeeting_33 rfl (lv_at hl 0 rfl) ?_
          refine lv_iload_n hx hb dNamedForm_findUsesOfMeeting_34 rfl (lv_at hl 3 rfl) ?_
          refine lv_iload_n hx hb dNamedForm_findUsesOfMeeting_35 rfl (lv_at hl 2 rfl) ?_
          refine xci (va_runV ⟨hx, hb, hml, hown, hts⟩ (ktNamedForm_lastName l D cA ad N _ lastNames v3_L2 v2 _ hw) (cwV 2 hts (goodV kw_369 kw_371 ks_1_10 kw_6 kw_372) rfl rfl rfl (by decide +kernel) ⟨Nat.le_of_ble_eq_true rfl, Nat.le_of_ble_eq_true rfl⟩) (xpreV hK hP hD hN [2, 4] rfl rfl 2 rfl rfl) rfl rfl hl.1 rfl (lv_room (Nat.le_of_ble_eq_true rfl)) dNamedForm_findUsesOfMeeting_36 ⟨Nat.le_of_ble_eq_true rfl, Nat.le_of_ble_eq_true rfl⟩) hP hD hS hA [2, 4] [0, 1, 3] rfl rfl rfl rfl [0, 1, 3, 2, 4] rfl (fun _ => rfl) (fun r36 u H locs hw hP hD hS => ?_)
          have hP : va_P D vwCl (wdNamedForm_findUsesOfMeeting cA ad N orderSize reached forerunners meetingUses_L2 lastNames) H := hP
          have hD : va_D A (wdNamedForm_findUsesOfMeeting cA ad N orderSize reached forerunners meetingUses_L2 lastNames) := hD
          have ho := hw.1
          have hw := hw.2
          refine va_iast hx hb hK hP hD hS 3 0 rfl rfl ho dNamedForm_findUsesOfMeeting_39 (fun H locs hP hD hS => ?_)
          have hP : va_P D vwCl (wdNamedForm_findUsesOfMeeting cA ad N orderSize reached forerunners (upd meetingUses_L2 (Int32.toNatClampNeg r30) r36) lastNames) H := hP
          have hD : va_D A (wdNamedForm_findUsesOfMeeting cA ad N orderSize reached forerunners (upd meetingUses_L2 (Int32.toNatClampNeg r30) r36) lastNames) := hD
          refine lv_iinc (k := 3) (v := (v3_L2 + 1)) (lv' := [(3, .int (v3_L2 + 1)), (0, .ref (ad 18)), (1, .int v1), (2, .int v2)]) hx hb dNamedForm_findUsesOfMeeting_40 hl rfl rfl (by decide) rfl (fun ls hl => ?_)
          refine lv_goto (tgt := 2) hx hb dNamedForm_findUsesOfMeeting_43 rfl ?_
          exact ih (v3_L2 + 1) (upd meetingUses_L2 (Int32.toNatClampNeg r30) r36) _ _ _ (lv_sub hl [1, 2, 3, 0] rfl) hP hD hS hw
  refine hlp2 k2 0 meetingUses _ _ _ (lv_sub hl [1, 2, 3, 0] rfl) hP hD hS hw
abbrev wdNamedForm_findMeetingUses (cA : ClassId) (ad : Nat → Nat) (N : Nat) (orderSize : Int32) (reached : Int32) (forerunners : Nat → Int32) (meetingNames : Nat → Int32) (meetingUses : Nat → Int32) (lastNames : Nat → Int32) : va_W := [((ad 11), .inr (2, [.int (nI N), .ref (ad 12), .ref (ad 13), .ref (ad 14), .ref (ad 15), .ref (ad 16), .ref (ad 17), .int orderSize, .int reached])), ((ad 12), .inl (cA, N, .inl forerunners)), ((ad 18), .inr (3, [.ref (ad 1), .ref (ad 11), .int (nI N), .ref (ad 19), .ref (ad 20), .ref (ad 21), .ref (ad 22), .ref (ad 23), .ref (ad 24), .ref (ad 25), .ref (ad 26), .ref (ad 27), .ref (ad 28), .ref (ad 29)])), ((ad 19), .inl (cA, N * 6, .inl meetingNames)), ((ad 20), .inl (cA, N * 6 * (N + 1), .inl meetingUses)), ((ad 25), .inl (cA, (N + 1) * 6, .inl lastNames))]
abbrev qcNamedForm_findMeetingUses (D : va_G) (cA : ClassId) (ad : Nat → Nat) (N : Nat) (orderSize : Int32) (reached : Int32) (forerunners : Nat → Int32) (meetingNames : Nat → Int32) (meetingUses : Nat → Int32) (lastNames : Nat → Int32) (post : (Nat → Int32) → Prop) (A : Nat → Prop) : Array Value → State → Outcome → State → Prop := va_Qv (S := (Nat → Int32)) (fun u => post u) (fun u t => xB D [(cA, .int)] A (wdNamedForm_findMeetingUses cA ad N orderSize reached forerunners meetingNames u lastNames) t) A
abbrev rmNamedForm_findMeetingUses : Room := { frames := 3, cells := 0, slots := 0, locals := 66 }
set_option maxHeartbeats 4000000 in
set_option maxRecDepth 100000 in
theorem ktNamedForm_findMeetingUses (l : Launch) (D : va_G) (cA : ClassId) (ad : Nat → Nat) (N : Nat) (sz : Nat) (orderSize : Int32) (reached : Int32) (forerunners : Nat → Int32) (meetingNames : Nat → Int32) (meetingUses : Nat → Int32) (lastNames : Nat → Int32)  (post : (Nat → Int32) → Prop) (hw : wpNamedForm_findMeetingUses N forerunners meetingNames meetingUses lastNames post) : Met l yNamedForm_findMeetingUses (Cond.code yNamedForm_findMeetingUses cNamedForm_findMeetingUses 3 none :: xW) rmNamedForm_findMeetingUses (va_Pc [.ref (ad 18)] (xPc D [(cA, .int)] (wdNamedForm_findMeetingUses cA ad N orderSize reached forerunners meetingNames meetingUses lastNames) sz)) (qcNamedForm_findMeetingUses D cA ad N orderSize reached forerunners meetingNames meetingUses lastNames post (va_A (wdNamedForm_findMeetingUses cA ad N orderSize reached forerunners meetingNames meetingUses lastNames) sz)) 0 0 (va_A (wdNamedForm_findMeetingUses cA ad N orderSize reached forerunners meetingNames meetingUses lastNames) sz) := by
  refine Met.ofW (cc := cNamedForm_findMeetingUses) (maxL := 3) (ret := none) (by decide) rfl ?_
  intro p e s m args below meth c s₁ B hml hv
  obtain ⟨rfl, hsz, hP, hK, hD0, hN⟩ := hv
  have hx := B.exec
  have hb := B.bytes
  have hr := B.returns
  have hts := atoms_spec (ws := (Cond.code yNamedForm_findMeetingUses cNamedForm_findMeetingUses 3 none :: xW)) B.pre
  have hown : s.vm.findClass "OnceNamed$NamedForm" = some m.cls := findClass_of_methodNamed B.named
  have hlocks := B.notSynchronized
  subst hsz
  have hD := hD0.self (sz := s.heap.size)
  generalize hAe : va_A (wdNamedForm_findMeetingUses cA ad N orderSize reached forerunners meetingNames meetingUses lastNames) s.heap.size = A at hD ⊢
  have hA : ∀ q : Nat, s.heap.size ≤ q → A q := fun q h => by rw [← hAe]; exact Or.inr h
  have hS : va_S A s.heap s.heap [] := va_S.rf
  have hend : ∀ (u0 : Nat → Int32) (H : Heap) (locs : List Loc) (pc : Nat) (ls : Array Slot), decode cNamedForm_findMeetingUses pc = .ok (.return_, 1) → va_P D vwCl (wdNamedForm_findMeetingUses cA ad N orderSize reached forerunners meetingNames u0 lastNames) H → va_D A (wdNamedForm_findMeetingUses cA ad N orderSize reached forerunners meetingNames u0 lastNames) → va_S A s.heap H locs → post u0 → W p l e (headSpec (Cond.code yNamedForm_findMeetingUses cNamedForm_findMeetingUses 3 none :: xW) rmNamedForm_findMeetingUses).room s m ([.ref (ad 18)] : List Value).toArray below meth c H locs 0 0 (MQ below (qcNamedForm_findMeetingUses D cA ad N orderSize reached forerunners meetingNames meetingUses lastNames post A) ([.ref (ad 18)] : List Value).toArray s 0 0 A) (F0 m pc ls []) := fun u0 H locs pc ls hd hP hD hS hw => W.vret hx hb hr (fun t ht hW => ⟨⟨u0, rfl, hw, ⟨by rw [ht]; exact hP, va_K.moved hW.alike hK, hD⟩⟩, hS.F ht⟩) hS.2.2 hd
  generalize hQ : MQ below (qcNamedForm_findMeetingUses D cA ad N orderSize reached forerunners meetingNames meetingUses lastNames post A) ([.ref (ad 18)] : List Value).toArray s 0 0 A = Q at hend ⊢
  have hl := lv_entry ([.ref (ad 18)]) (n := 3) (Nat.le_of_ble_eq_true rfl)
  rw [lg_entry_eq]
  generalize (lg_sl ([.ref (ad 18)]) ++ List.replicate (3 - (lg_sl ([.ref (ad 18)])).length) Slot.unset).toArray = ls at hl ⊢
  have hl : lv_has ls 3 [(0, .ref (ad 18))] := hl
  unfold wpNamedForm_findMeetingUses at hw
  refine lv_iconst (v := 0) hx hb dNamedForm_findMeetingUses_0 (by decide) ?_
  refine lv_istore_n (lv' := [(1, .int 0), (0, .ref (ad 18))]) hx hb dNamedForm_findMeetingUses_1 rfl hl (by decide) rfl (fun ls hl => ?_)
  obtain ⟨k2, hw⟩ := hw
  have hlp2 : ∀ (k : Nat), ∀ (v1_L2 : Int32) (meetingUses_L2 : Nat → Int32) (ls : Array Slot) (H : Heap) (locs : List Loc), lv_has ls 3 [(0, .ref (ad 18)), (1, .int v1_L2)] → va_P D vwCl (wdNamedForm_findMeetingUses cA ad N orderSize reached forerunners meetingNames meetingUses_L2 lastNames) H → va_D A (wdNamedForm_findMeetingUses cA ad N orderSize reached forerunners meetingNames meetingUses_L2 lastNames) → va_S A s.heap H locs → lpNamedForm_findMeetingUses_2 N forerunners meetingNames lastNames post k v1_L2 meetingUses_L2 → W p l e (headSpec (Cond.code yNamedForm_findMeetingUses cNamedForm_findMeetingUses 3 none :: xW) rmNamedForm_findMeetingUses).room s m ([.ref (ad 18)] : List Value).toArray below meth c H locs 0 0 Q (F0 m 2 ls []) := by
    intro k
    induction k with
    | zero => intro v1_L2 meetingUses_L2 ls H locs hl hP hD hS hw; exact False.elim hw
    | succ k ih =>
      intro v1_L2 meetingUses_L2 ls H locs hl hP hD hS hw
      refine lv_iload_n hx hb dNamedForm_findMeetingUses_2 rfl (lv_at hl 1 rfl) ?_
      refine lv_aload_n hx hb dNamedForm_findMeetingUses_3 rfl (lv_at hl 0 rfl) ?_
      refine va_get (D := D) (ci := 3) (v := .int (nI N)) (C := "OnceNamed$NamedForm") (T := TX3) (N := 14) hx hb hts (fun w h => List.mem_cons_of_mem _ (inX3 w h)) hown hK hP 2 rfl rfl 2 (by decide) (hts _ (List.mem_cons_of_mem _ kw_122)) (fun _ h9 => h9) rfl dNamedForm_findMeetingUses_4 ?_
      refine lv_icmp_ge (tgt := 51) hx hb dNamedForm_findMeetingUses_7 rfl (fun hc => ?_) (fun hc => ?_)
      · have hw := hw.1 hc
        exact hend meetingUses_L2 _ _ _ _ dNamedForm_findMeetingUses_51 hP hD hS hw
      · have hw := hw.2 hc
        refine lv_iconst (v := 0) hx hb dNamedForm_findMeetingUses_10 (by decide) ?_
        refine lv_istore_n (lv' := [(2, .int 0), (0, .ref (ad 18)), (1, .int v1_L2)]) hx hb dNamedForm_findMeetingUses_11 rfl hl (by decide) rfl (fun ls hl => ?_)
        obtain ⟨k12, hw⟩ := hw
        have hlp12 : ∀ (K45 : Int32 → (Nat → Int32) → Prop), (∀ (v2_x45 : Int32) (meetingUses_x45 : Nat → Int32) (ls : Array Slot) (H : Heap) (locs : List Loc), lv_has ls 3 [(0, .ref (ad 18)), (1, .int v1_L2), (2, .int v2_x45)] → va_P D vwCl (wdNamedForm_findMeetingUses cA ad N orderSize reached forerunners meetingNames meetingUses_x45 lastNames) H → va_D A (wdNamedForm_findMeetingUses cA ad N orderSize reached forerunners meetingNames meetingUses_x45 lastNames) → va_S A s.heap H locs → K45 v2_x45 meetingUses_x45 → W p l e (headSpec (Cond.code yNamedForm_findMeetingUses cNamedForm_findMeetingUses 3 none :: xW) rmNamedForm_findMeetingUses).room s m ([.ref (ad 18)] : List Value).toArray below meth c H locs 0 0 Q (F0 m 45 ls [])) → ∀ (k : Nat), ∀ (v2_L12 : Int32) (meetingUses_L12 : Nat → Int32) (ls : Array Slot) (H : Heap) (locs : List Loc), lv_has ls 3 [(0, .ref (ad 18)), (1, .int v1_L2), (2, .int v2_L12)] → va_P D vwCl (wdNamedForm_findMeetingUses cA ad N orderSize reached forerunners meetingNames meetingUses_L12 lastNames) H → va_D A (wdNamedForm_findMeetingUses cA ad N orderSize reached forerunners meetingNames meetingUses_L12 lastNames) → va_S A s.heap H locs → lpNamedForm_findMeetingUses_12 N v1_L2 forerunners meetingNames lastNames K45 k v2_L12 meetingUses_L12 → W p l e (headSpec (Cond.code yNamedForm_findMeetingUses cNamedForm_findMeetingUses 3 none :: xW) rmNamedForm_findMeetingUses).room s m ([.ref (ad 18)] : List Value).toArray below meth c H locs 0 0 Q (F0 m 12 ls []) := by
          intro K45 hK45 k
          induction k with
          | zero => intro v2_L12 meetingUses_L12 ls H locs hl hP hD hS hw; exact False.elim hw
          | succ k ih =>
            intro v2_L12 meetingUses_L12 ls H locs hl hP hD hS hw
            refine lv_iload_n hx hb dNamedForm_findMeetingUses_12 rfl (lv_at hl 2 rfl) ?_
            refine lv_bipush (v := 6) hx hb dNamedForm_findMeetingUses_13 (by decide) ?_
            refine lv_icmp_ge (tgt := 45) hx hb dNamedForm_findMeetingUses_15 rfl (fun hc => ?_) (fun hc => ?_)
            · have hw := hw.1 hc
              exact hK45 v2_L12 meetingUses_L12 _ _ _ (lv_sub hl [0, 1, 2] rfl) hP hD hS hw
            · have hw := hw.2 hc
              refine lv_aload_n hx hb dNamedForm_findMeetingUses_18 rfl (lv_at hl 0 rfl) ?_
              refine va_get (D := D) (ci := 3) (v := .ref (ad 19)) (C := "OnceNamed$NamedForm") (T := TX3) (N := 14) hx hb hts (fun w h => List.mem_cons_of_mem _ (inX3 w h)) hown hK hP 2 rfl rfl 3 (by decide) (hts _ (List.mem_cons_of_mem _ kw_123)) (fun _ h9 => h9) rfl dNamedForm_findMeetingUses_19 ?_
              refine lv_iload_n hx hb dNamedForm_findMeetingUses_22 rfl (lv_at hl 1 rfl) ?_
              refine lv_bipush (v := 6) hx hb dNamedForm_findMeetingUses_23 (by decide) ?_
              refine lv_imul hx hb dNamedForm_findMeetingUses_25 ?_
              refine lv_iload_n hx hb dNamedForm_findMeetingUses_26 rfl (lv_at hl 2 rfl) ?_
              refine lv_iadd hx hb dNamedForm_findMeetingUses_27 ?_
              have ho := hw.1
              have hw := hw.2
              refine va_iald hx hb hK hP 3 0 rfl rfl ho dNamedForm_findMeetingUses_28 ?_
              refine lv_iconst (v := (-1)) hx hb dNamedForm_findMeetingUses_29 (by decide) ?_
              refine lv_icmp_eq (tgt := 39) hx hb dNamedForm_findMeetingUses_30 rfl (fun hc => ?_) (fun hc => ?_)
              · have hw := hw.1 hc
                refine lv_iinc (k := 2) (v := (v2_L12 + 1)) (lv' := [(2, .int (v2_L12 + 1)), (0, .ref (ad 18)), (1, .int v1_L2)]) hx hb dNamedForm_findMeetingUses_39 hl rfl rfl (by decide) rfl (fun ls hl => ?_)
                refine lv_goto (tgt := 12) hx hb dNamedForm_findMeetingUses_42 rfl ?_
                exact ih (v2_L12 + 1) meetingUses_L12 _ _ _ (lv_sub hl [1, 2, 0] rfl) hP hD hS hw
              · have hw := hw.2 hc
                refine lv_aload_n hx hb dNamedForm_findMeetingUses_33 rfl (lv_at hl 0 rfl) ?_
                refine lv_iload_n hx hb dNamedForm_findMeetingUses_34 rfl (lv_at hl 1 rfl) ?_
                refine lv_iload_n hx hb dNamedForm_findMeetingUses_35 rfl (lv_at hl 2 rfl) ?_
                refine xcv (va_runV ⟨hx, hb, hml, hown, hts⟩ (ktNamedForm_findUsesOfMeeting l D cA ad N _ orderSize reached forerunners meetingUses_L12 lastNames v1_L2 v2_L12 _ hw) (cwV 2 hts (goodV kw_389 kw_391 ks_1_12 kw_6 kw_392) rfl rfl rfl (by decide +kernel) ⟨Nat.le_of_ble_eq_true rfl, Nat.le_of_ble_eq_true rfl⟩) (xpreV hK hP hD hN [0, 1, 2, 4, 5] rfl rfl 2 rfl rfl) rfl rfl hl.1 rfl (lv_room (Nat.le_of_ble_eq_true rfl)) dNamedForm_findMeetingUses_36 ⟨Nat.le_of_ble_eq_true rfl, Nat.le_of_ble_eq_true rfl⟩) hP hD hS hA [0, 1, 2, 4, 5] [3] rfl rfl rfl rfl [1, 2, 3, 0, 4, 5] rfl (fun _ => rfl) (fun meetingUses_36 H locs hw hP hD hS => ?_)
                try dsimp only at hw
                have hP : va_P D vwCl (wdNamedForm_findMeetingUses cA ad N orderSize reached forerunners meetingNames meetingUses_36 lastNames) H := hP
                have hD : va_D A (wdNamedForm_findMeetingUses cA ad N orderSize reached forerunners meetingNames meetingUses_36 lastNames) := hD
                refine lv_iinc (k := 2) (v := (v2_L12 + 1)) (lv' := [(2, .int (v2_L12 + 1)), (0, .ref (ad 18)), (1, .int v1_L2)]) hx hb dNamedForm_findMeetingUses_39 hl rfl rfl (by decide) rfl (fun ls hl => ?_)
                refine lv_goto (tgt := 12) hx hb dNamedForm_findMeetingUses_42 rfl ?_
                exact ih (v2_L12 + 1) meetingUses_36 _ _ _ (lv_sub hl [1, 2, 0] rfl) hP hD hS hw
        refine hlp12 _ ?_ k12 0 meetingUses_L2 _ _ _ (lv_sub hl [1, 2, 0] rfl) hP hD hS hw
        intro v2_x45 meetingUses_x45 ls H locs hl hP hD hS hw
        try dsimp only at hw
        refine lv_iinc (k := 1) (v := (v1_L2 + 1)) (lv' := [(1, .int (v1_L2 + 1)), (0, .ref (ad 18)), (2, .int v2_x45)]) hx hb dNamedForm_findMeetingUses_45 hl rfl rfl (by decide) rfl (fun ls hl => ?_)
        refine lv_goto (tgt := 2) hx hb dNamedForm_findMeetingUses_48 rfl ?_
        exact ih (v1_L2 + 1) meetingUses_x45 _ _ _ (lv_sub hl [1, 0] rfl) hP hD hS hw
  refine hlp2 k2 0 meetingUses _ _ _ (lv_sub hl [1, 0] rfl) hP hD hS hw
abbrev wdNamedForm_newName (cA : ClassId) (ad : Nat → Nat) (N : Nat) (lastNames : Nat → Int32) (namesOf : Nat → Int32) (homeBlock : Nat → Int32) (homePlace : Nat → Int32) : va_W := [((ad 18), .inr (3, [.ref (ad 1), .ref (ad 11), .int (nI N), .ref (ad 19), .ref (ad 20), .ref (ad 21), .ref (ad 22), .ref (ad 23), .ref (ad 24), .ref (ad 25), .ref (ad 26), .ref (ad 27), .ref (ad 28), .ref (ad 29)])), ((ad 25), .inl (cA, (N + 1) * 6, .inl lastNames)), ((ad 26), .inl (cA, 6, .inl namesOf)), ((ad 27), .inl (cA, 600, .inl homeBlock)), ((ad 28), .inl (cA, 600, .inl homePlace))]
abbrev qcNamedForm_newName (D : va_G) (cA : ClassId) (ad : Nat → Nat) (N : Nat) (lastNames : Nat → Int32) (namesOf : Nat → Int32) (homeBlock : Nat → Int32) (homePlace : Nat → Int32) (post : Int32 → (Nat → Int32) → (Nat → Int32) → (Nat → Int32) → (Nat → Int32) → Prop) (A : Nat → Prop) : Array Value → State → Outcome → State → Prop := va_Qi (S := (Nat → Int32) × (Nat → Int32) × (Nat → Int32) × (Nat → Int32)) (fun r u => post r u.1 u.2.1 u.2.2.1 u.2.2.2) (fun u t => xB D [(cA, .int)] A (wdNamedForm_newName cA ad N u.1 u.2.1 u.2.2.1 u.2.2.2) t) A
abbrev rmNamedForm_newName : Room := { frames := 0, cells := 0, slots := 0, locals := 0 }
set_option maxHeartbeats 4000000 in
set_option maxRecDepth 100000 in
theorem ktNamedForm_newName (l : Launch) (D : va_G) (cA : ClassId) (ad : Nat → Nat) (N : Nat) (sz : Nat) (lastNames : Nat → Int32) (namesOf : Nat → Int32) (homeBlock : Nat → Int32) (homePlace : Nat → Int32) (v1 : Int32) (v2 : Int32) (v3 : Int32) (post : Int32 → (Nat → Int32) → (Nat → Int32) → (Nat → Int32) → (Nat → Int32) → Prop) (hw : wpNamedForm_newName N lastNames namesOf homeBlock homePlace v1 v2 v3 post) : Met l yNamedForm_newName (Cond.code yNamedForm_newName cNamedForm_newName 5 (some .int) :: xW) rmNamedForm_newName (va_Pc [.ref (ad 18), .int v1, .int v2, .int v3] (xPc D [(cA, .int)] (wdNamedForm_newName cA ad N lastNames namesOf homeBlock homePlace) sz)) (qcNamedForm_newName D cA ad N lastNames namesOf homeBlock homePlace post (va_A (wdNamedForm_newName cA ad N lastNames namesOf homeBlock homePlace) sz)) 0 0 (va_A (wdNamedForm_newName cA ad N lastNames namesOf homeBlock homePlace) sz) := by
  refine Met.ofW (cc := cNamedForm_newName) (maxL := 5) (ret := (some .int)) (by decide) rfl ?_
  intro p e s m args below meth c s₁ B hml hv
  obtain ⟨rfl, hsz, hP, hK, hD0, hN⟩ := hv
  have hx := B.exec
  have hb := B.bytes
  have hr := B.returns
  have hts := atoms_spec (ws := (Cond.code yNamedForm_newName cNamedForm_newName 5 (some .int) :: xW)) B.pre
  have hown : s.vm.findClass "OnceNamed$NamedForm" = some m.cls := findClass_of_methodNamed B.named
  have hlocks := B.notSynchronized
  subst hsz
  have hD := hD0.self (sz := s.heap.size)
  generalize hAe : va_A (wdNamedForm_newName cA ad N lastNames namesOf homeBlock homePlace) s.heap.size = A at hD ⊢
  have hA : ∀ q : Nat, s.heap.size ≤ q → A q := fun q h => by rw [← hAe]; exact Or.inr h
  have hS : va_S A s.heap s.heap [] := va_S.rf
  have hend : ∀ (r : Int32) (u0 : Nat → Int32) (u1 : Nat → Int32) (u2 : Nat → Int32) (u3 : Nat → Int32) (H : Heap) (locs : List Loc) (pc : Nat) (ls : Array Slot), decode cNamedForm_newName pc = .ok (.ireturn, 1) → va_P D vwCl (wdNamedForm_newName cA ad N u0 u1 u2 u3) H → va_D A (wdNamedForm_newName cA ad N u0 u1 u2 u3) → va_S A s.heap H locs → post r u0 u1 u2 u3 → W p l e (headSpec (Cond.code yNamedForm_newName cNamedForm_newName 5 (some .int) :: xW) rmNamedForm_newName).room s m ([.ref (ad 18), .int v1, .int v2, .int v3] : List Value).toArray below meth c H locs 0 0 (MQ below (qcNamedForm_newName D cA ad N lastNames namesOf homeBlock homePlace post A) ([.ref (ad 18), .int v1, .int v2, .int v3] : List Value).toArray s 0 0 A) (F0 m pc ls [.int r]) := fun r u0 u1 u2 u3 H locs pc ls hd hP hD hS hw => W.iret (v := r) hx hb hr (fun t ht hW => ⟨⟨r, (u0, u1, u2, u3), rfl, hw, ⟨by rw [ht]; exact hP, va_K.moved hW.alike hK, hD⟩⟩, hS.F ht⟩) hS.2.2 hd
  generalize hQ : MQ below (qcNamedForm_newName D cA ad N lastNames namesOf homeBlock homePlace post A) ([.ref (ad 18), .int v1, .int v2, .int v3] : List Value).toArray s 0 0 A = Q at hend ⊢
  have hl := lv_entry ([.ref (ad 18), .int v1, .int v2, .int v3]) (n := 5) (Nat.le_of_ble_eq_true rfl)
  rw [lg_entry_eq]
  generalize (lg_sl ([.ref (ad 18), .int v1, .int v2, .int v3]) ++ List.replicate (5 - (lg_sl ([.ref (ad 18), .int v1, .int v2, .int v3])).length) Slot.unset).toArray = ls at hl ⊢
  have hl : lv_has ls 5 [(0, .ref (ad 18)), (1, .int v1), (2, .int v2), (3, .int v3)] := hl
  unfold wpNamedForm_newName at hw
  refine lv_bipush (v := 100) hx hb dNamedForm_newName_0 (by decide) ?_
  refine lv_iload_n hx hb dNamedForm_newName_2 rfl (lv_at hl 1 rfl) ?_
  refine lv_imul hx hb dNamedForm_newName_3 ?_
  refine lv_aload_n hx hb dNamedForm_newName_4 rfl (lv_at hl 0 rfl) ?_
  refine va_get (D := D) (ci := 3) (v := .ref (ad 26)) (C := "OnceNamed$NamedForm") (T := TX3) (N := 14) hx hb hts (fun w h => List.mem_cons_of_mem _ (inX3 w h)) hown hK hP 0 rfl rfl 10 (by decide) (hts _ (List.mem_cons_of_mem _ kw_130)) (fun _ h9 => h9) rfl dNamedForm_newName_5 ?_
  refine lv_iload_n hx hb dNamedForm_newName_8 rfl (lv_at hl 1 rfl) ?_
  have ho := hw.1
  have hw := hw.2
  refine va_iald hx hb hK hP 2 0 rfl rfl ho dNamedForm_newName_9 ?_
  refine lv_iadd hx hb dNamedForm_newName_10 ?_
  refine lv_topi (fun v4_11 e_v4_11 => ?_)
  have hw := hw v4_11 e_v4_11
  refine lv_istore (lv' := [(4, .int v4_11), (0, .ref (ad 18)), (1, .int v1), (2, .int v2), (3, .int v3)]) hx hb dNamedForm_newName_11 hl (by decide) rfl (fun ls hl => ?_)
  refine lv_aload_n hx hb dNamedForm_newName_13 rfl (lv_at hl 1 rfl) ?_
  refine va_get (D := D) (ci := 3) (v := .ref (ad 26)) (C := "OnceNamed$NamedForm") (T := TX3) (N := 14) hx hb hts (fun w h => List.mem_cons_of_mem _ (inX3 w h)) hown hK hP 0 rfl rfl 10 (by decide) (hts _ (List.mem_cons_of_mem _ kw_130)) (fun _ h9 => h9) rfl dNamedForm_newName_14 ?_
  refine lv_iload_n hx hb dNamedForm_newName_17 rfl (lv_at hl 2 rfl) ?_
  refine lv_dup2_11 hx hb dNamedForm_newName_18 rfl rfl ?_
  have ho := hw.1
  have hw := hw.2
  refine va_iald hx hb hK hP 2 0 rfl rfl ho dNamedForm_newName_19 ?_
  refine lv_iconst (v := 1) hx hb dNamedForm_newName_20 (by decide) ?_
  refine lv_iadd hx hb dNamedForm_newName_21 ?_
  have ho := hw.1
  have hw := hw.2
  refine va_iast hx hb hK hP hD hS 2 0 rfl rfl ho dNamedForm_newName_22 (fun H locs hP hD hS => ?_)
  have hP : va_P D vwCl (wdNamedForm_newName cA ad N lastNames (upd namesOf (Int32.toNatClampNeg v1) ((namesOf (Int32.toNatClampNeg v1)) + 1)) homeBlock homePlace) H := hP
  have hD : va_D A (wdNamedForm_newName cA ad N lastNames (upd namesOf (Int32.toNatClampNeg v1) ((namesOf (Int32.toNatClampNeg v1)) + 1)) homeBlock homePlace) := hD
  refine lv_aload_n hx hb dNamedForm_newName_23 rfl (lv_at hl 1 rfl) ?_
  refine va_get (D := D) (ci := 3) (v := .ref (ad 27)) (C := "OnceNamed$NamedForm") (T := TX3) (N := 14) hx hb hts (fun w h => List.mem_cons_of_mem _ (inX3 w h)) hown hK hP 0 rfl rfl 11 (by decide) (hts _ (List.mem_cons_of_mem _ kw_131)) (fun _ h9 => h9) rfl dNamedForm_newName_24 ?_
  refine lv_iload hx hb dNamedForm_newName_27 (lv_at hl 0 rfl) ?_
  refine lv_iload_n hx hb dNamedForm_newName_29 rfl (lv_at hl 3 rfl) ?_
  have ho := hw.1
  have hw := hw.2
  refine va_iast hx hb hK hP hD hS 3 0 rfl rfl ho dNamedForm_newName_30 (fun H locs hP hD hS => ?_)
  have hP : va_P D vwCl (wdNamedForm_newName cA ad N lastNames (upd namesOf (Int32.toNatClampNeg v1) ((namesOf (Int32.toNatClampNeg v1)) + 1)) (upd homeBlock (Int32.toNatClampNeg v4_11) v2) homePlace) H := hP
  have hD : va_D A (wdNamedForm_newName cA ad N lastNames (upd namesOf (Int32.toNatClampNeg v1) ((namesOf (Int32.toNatClampNeg v1)) + 1)) (upd homeBlock (Int32.toNatClampNeg v4_11) v2) homePlace) := hD
  refine lv_aload_n hx hb dNamedForm_newName_31 rfl (lv_at hl 1 rfl) ?_
  refine va_get (D := D) (ci := 3) (v := .ref (ad 28)) (C := "OnceNamed$NamedForm") (T := TX3) (N := 14) hx hb hts (fun w h => List.mem_cons_of_mem _ (inX3 w h)) hown hK hP 0 rfl rfl 12 (by decide) (hts _ (List.mem_cons_of_mem _ kw_132)) (fun _ h9 => h9) rfl dNamedForm_newName_32 ?_
  refine lv_iload hx hb dNamedForm_newName_35 (lv_at hl 0 rfl) ?_
  refine lv_iload_n hx hb dNamedForm_newName_37 rfl (lv_at hl 4 rfl) ?_
  have ho := hw.1
  have hw := hw.2
  refine va_iast hx hb hK hP hD hS 4 0 rfl rfl ho dNamedForm_newName_38 (fun H locs hP hD hS => ?_)
  have hP : va_P D vwCl (wdNamedForm_newName cA ad N lastNames (upd namesOf (Int32.toNatClampNeg v1) ((namesOf (Int32.toNatClampNeg v1)) + 1)) (upd homeBlock (Int32.toNatClampNeg v4_11) v2) (upd homePlace (Int32.toNatClampNeg v4_11) v3)) H := hP
  have hD : va_D A (wdNamedForm_newName cA ad N lastNames (upd namesOf (Int32.toNatClampNeg v1) ((namesOf (Int32.toNatClampNeg v1)) + 1)) (upd homeBlock (Int32.toNatClampNeg v4_11) v2) (upd homePlace (Int32.toNatClampNeg v4_11) v3)) := hD
  refine lv_aload_n hx hb dNamedForm_newName_39 rfl (lv_at hl 1 rfl) ?_
  refine va_get (D := D) (ci := 3) (v := .ref (ad 25)) (C := "OnceNamed$NamedForm") (T := TX3) (N := 14) hx hb hts (fun w h => List.mem_cons_of_mem _ (inX3 w h)) hown hK hP 0 rfl rfl 9 (by decide) (hts _ (List.mem_cons_of_mem _ kw_129)) (fun _ h9 => h9) rfl dNamedForm_newName_40 ?_
  refine lv_iload_n hx hb dNamedForm_newName_43 rfl (lv_at hl 3 rfl) ?_
  refine lv_bipush (v := 6) hx hb dNamedForm_newName_44 (by decide) ?_
  refine lv_imul hx hb dNamedForm_newName_46 ?_
  refine lv_iload_n hx hb dNamedForm_newName_47 rfl (lv_at hl 2 rfl) ?_
  refine lv_iadd hx hb dNamedForm_newName_48 ?_
  refine lv_iload hx hb dNamedForm_newName_49 (lv_at hl 0 rfl) ?_
  have ho := hw.1
  have hw := hw.2
  refine va_iast hx hb hK hP hD hS 1 0 rfl rfl ho dNamedForm_newName_51 (fun H locs hP hD hS => ?_)
  have hP : va_P D vwCl (wdNamedForm_newName cA ad N (upd lastNames (Int32.toNatClampNeg ((v2 * 6) + v1)) v4_11) (upd namesOf (Int32.toNatClampNeg v1) ((namesOf (Int32.toNatClampNeg v1)) + 1)) (upd homeBlock (Int32.toNatClampNeg v4_11) v2) (upd homePlace (Int32.toNatClampNeg v4_11) v3)) H := hP
  have hD : va_D A (wdNamedForm_newName cA ad N (upd lastNames (Int32.toNatClampNeg ((v2 * 6) + v1)) v4_11) (upd namesOf (Int32.toNatClampNeg v1) ((namesOf (Int32.toNatClampNeg v1)) + 1)) (upd homeBlock (Int32.toNatClampNeg v4_11) v2) (upd homePlace (Int32.toNatClampNeg v4_11) v3)) := hD
  refine lv_iload hx hb dNamedForm_newName_52 (lv_at hl 0 rfl) ?_
  exact hend v4_11 (upd lastNames (Int32.toNatClampNeg ((v2 * 6) + v1)) v4_11) (upd namesOf (Int32.toNatClampNeg v1) ((namesOf (Int32.toNatClampNeg v1)) + 1)) (upd homeBlock (Int32.toNatClampNeg v4_11) v2) (upd homePlace (Int32.toNatClampNeg v4_11) v3) _ _ _ _ dNamedForm_newName_54 hP hD hS hw
