/-! the law's entry facts and its end: what is left is J -/
theorem xin_0 : Cond.instantiable "OnceNamed" 10 ∈ lw_tbl := by decide +kernel
theorem xin_1 : Cond.instantiable "OnceNamed$Program" 10 ∈ lw_tbl := by decide +kernel
theorem xin_2 : Cond.instantiable "OnceNamed$Graph" 9 ∈ lw_tbl := by decide +kernel
theorem xin_3 : Cond.instantiable "OnceNamed$NamedForm" 14 ∈ lw_tbl := by decide +kernel
theorem xin_4 : Cond.instantiable "OnceNamed$CopyPlan" 6 ∈ lw_tbl := by decide +kernel
theorem xin_5 : Cond.instantiable "OnceNamed$Runner" 6 ∈ lw_tbl := by decide +kernel
theorem xin_6 : Cond.instantiable "OnceNamed$Talk" 3 ∈ lw_tbl := by decide +kernel
theorem xin_7 : Cond.instantiable "OnceNamedModel" 34 ∈ lw_tbl := by decide +kernel
theorem xar_A : Cond.arrayClass .int ∈ lw_tbl := by decide +kernel
theorem xar_B : Cond.arrayClass .boolean ∈ lw_tbl := by decide +kernel
theorem xar_L : Cond.arrayClass .long ∈ lw_tbl := by decide +kernel
theorem xarK {ty : FieldType} {args : Array Value} {s : State} (hty : ty = .int ∨ ty = .boolean ∨ ty = .long) (h : (Cond.arrayClass ty).before args s = true) : ∃ cA : ClassId, ArrOfT s cA ty ∧ va_RA s cA ty := by
  obtain ⟨cA, kA, comp, h1, h2, h3⟩ := Cond.arrayClass_spec h
  refine ⟨cA, fun n z => ⟨fun k h => (by cases h), kA, h2, comp, h3⟩, ?_⟩
  rcases hty with rfl | rfl | rfl <;> exact h1
theorem xKall {b : Nat} {s : State} (hts : ∀ w ∈ lw_tbl, w.before #[Value.ref b] s = true) : ∃ (D : va_G) (cA cB cL : ClassId), va_K D vwCl [(cA, .int), (cB, .boolean), (cL, .long)] s := by
  have hts2 : ∀ w ∈ xW, w.before #[Value.ref b] s = true := fun w h => hts w (xW_in w h)
  have hk : ∀ c : Nat, ∃ d : ClassId × (Nat → Nat), ∀ q : vw_C, vwCl[c]? = some q → u_Kn s q.1 q.2.1 q.2.2 d.1 d.2 := by
    intro c
    by_cases h0 : c = 0
    · subst h0
      obtain ⟨x, y, h⟩ := u_known (C := "OnceNamed") (T := TX0) (N := 10) hts2 inX0 (hts _ xin_0)
      exact ⟨(x, y), fun q hq => by cases hq; exact h⟩
    by_cases h1 : c = 1
    · subst h1
      obtain ⟨x, y, h⟩ := u_known (C := "OnceNamed$Program") (T := TX1) (N := 10) hts2 inX1 (hts _ xin_1)
      exact ⟨(x, y), fun q hq => by cases hq; exact h⟩
    by_cases h2 : c = 2
    · subst h2
      obtain ⟨x, y, h⟩ := u_known (C := "OnceNamed$Graph") (T := TX2) (N := 9) hts2 inX2 (hts _ xin_2)
      exact ⟨(x, y), fun q hq => by cases hq; exact h⟩
    by_cases h3 : c = 3
    · subst h3
      obtain ⟨x, y, h⟩ := u_known (C := "OnceNamed$NamedForm") (T := TX3) (N := 14) hts2 inX3 (hts _ xin_3)
      exact ⟨(x, y), fun q hq => by cases hq; exact h⟩
    by_cases h4 : c = 4
    · subst h4
      obtain ⟨x, y, h⟩ := u_known (C := "OnceNamed$CopyPlan") (T := TX4) (N := 6) hts2 inX4 (hts _ xin_4)
      exact ⟨(x, y), fun q hq => by cases hq; exact h⟩
    by_cases h5 : c = 5
    · subst h5
      obtain ⟨x, y, h⟩ := u_known (C := "OnceNamed$Runner") (T := TX5) (N := 6) hts2 inX5 (hts _ xin_5)
      exact ⟨(x, y), fun q hq => by cases hq; exact h⟩
    by_cases h6 : c = 6
    · subst h6
      obtain ⟨x, y, h⟩ := u_known (C := "OnceNamed$Talk") (T := TX6) (N := 3) hts2 inX6 (hts _ xin_6)
      exact ⟨(x, y), fun q hq => by cases hq; exact h⟩
    by_cases h7 : c = 7
    · subst h7
      obtain ⟨x, y, h⟩ := u_known (C := "OnceNamedModel") (T := TX7) (N := 34) hts2 inX7 (hts _ xin_7)
      exact ⟨(x, y), fun q hq => by cases hq; exact h⟩
    exact ⟨(default, fun _ => 0), fun q hq => by
      have := (List.getElem?_eq_some_iff.mp hq).1
      have : c < 8 := this
      omega⟩
  obtain ⟨f, hf⟩ := Classical.axiomOfChoice hk
  obtain ⟨cA, a1, a2⟩ := xarK (Or.inl rfl) (hts _ xar_A)
  obtain ⟨cB, b1, b2⟩ := xarK (Or.inr (Or.inl rfl)) (hts _ xar_B)
  obtain ⟨cL, l1, l2⟩ := xarK (Or.inr (Or.inr rfl)) (hts _ xar_L)
  refine ⟨(fun c => (f c).1, fun c => (f c).2), cA, cB, cL, fun c q hq => hf c q hq, fun k q hq => ?_⟩
  match k, hq with
  | 0, hq => cases hq; exact ⟨a1, a2⟩
  | 1, hq => cases hq; exact ⟨b1, b2⟩
  | 2, hq => cases hq; exact ⟨l1, l2⟩
  | k + 3, hq => simp at hq
theorem xNNof {b : Nat} {s : State} (hts : ∀ w ∈ lw_tbl, w.before #[Value.ref b] s = true) : xNN s := ⟨va_Nw.of rfl (hts _ (by decide +kernel)), va_Nw.of rfl (hts _ (by decide +kernel))⟩
theorem xnar {w : Cond} (h : w ∈ flatC narrow_1) : w ∈ flatC (Jvm.Cond.and given_1 narrow_1) := List.mem_append_right _ h
theorem xNcI (i : Nat) (hi : i < 5) (j : Nat) (hj : j < 5) (h : i ≠ j) : Cond.not (.castable (xEx i) (xEx j)) ∈ flatC narrow_1 := by
  have key : ∀ i : Fin 5, ∀ j : Fin 5, i ≠ j → Cond.not (.castable (xEx i.1) (xEx j.1)) ∈ flatC narrow_1 := by decide +kernel
  exact key ⟨i, hi⟩ ⟨j, hj⟩ (fun q => h (congrArg Fin.val q))
theorem xNcof {args : Array Value} {s : State} (h : (Jvm.Cond.and given_1 narrow_1).before args s = true) : xNc s := fun i j hi hj hij => va_Nc.of (flat_of_before _ h _ (xnar (xNcI i hi j hj hij)))
theorem xStrs_in : ∀ q ∈ xStrs, Cond.stringRef "OnceNamed" q.1 q.2 ∈ lw_tbl := by decide +kernel
theorem xKd_in : ∀ w ∈ xKd, w ∈ lw_tbl := by decide +kernel
theorem xKd_on : ∀ w ∈ xKd, w.onTables = true := by decide +kernel
theorem xEEof {b : Nat} {s : State} {A : Nat → Prop} {c0 : ClassId} (hcl : s.vm.findClass "OnceNamed" = some c0) (hts : ∀ w ∈ lw_tbl, w.before #[Value.ref b] s = true) (hgv : (Jvm.Cond.and given_1 narrow_1).before #[Value.ref b] s = true) (hA : ∀ a : Nat, a < s.heap.size → ¬ A a) : xEE A s s.heap := by
  have hn : ∀ w ∈ flatC narrow_1, w.before #[Value.ref b] s = true := fun w hw => flat_of_before _ hgv w (xnar hw)
  refine ⟨va_Zqof (hts _ (by decide +kernel)) (hts _ (by decide +kernel)) (hn _ (by decide +kernel)) hA, va_Zqof (hts _ (by decide +kernel)) (hts _ (by decide +kernel)) (hn _ (by decide +kernel)) hA, fun q hq => ?_, xLs.of hA (hts _ (by decide +kernel)), xLs.of hA (hts _ (by decide +kernel)), fun w hw => va_tabs (xKd_on w hw) rfl (hts w (xKd_in w hw))⟩
  have h := hts _ (xStrs_in q hq)
  obtain ⟨k, cf, i, a, -, -, -, -, -, hev⟩ := Cond.stringRef_spec hcl h
  exact ⟨a, vk_R.of h hev⟩
set_option maxHeartbeats 8000000 in
set_option maxRecDepth 100000 in
theorem lw_all {p : Program} {e : Env} {s : State} {m : MethodId} {below : List Frame} {meth : Method} {c : Code} (l : Launch) (hfl : l.flags = Jvm.pinnedFlags ++ [Jvm.noTraceFlag]) {b L : Nat} {xs : Nat → Int32} (hL : L ≤ 3073) (hx : p.tables.exec = Jvm.exec) (hb : c.code = code) (hml : c.maxLocals = 7) (hown : s.vm.findClass "OnceNamedLaw" = some m.cls) (hts : ∀ w ∈ lw_tbl, w.before #[Value.ref b] s = true) (hX : va_X b L xs s s.heap) (hbl : b < s.heap.size) (hgv : (Jvm.Cond.and given_1 narrow_1).before #[Value.ref b] s = true) {Q : State → Prop}
    (J : Nat → Bool → (Nat → Int32) → (Nat → Int32) → (Nat → Int32) → (Nat → Int32) → (Nat → Int32) → (Nat → Int32) → (Nat → Int32) → (Nat → Int32) → (Nat → Int32) → Int32 → Int32 → (Nat → Int32) → (Nat → Int32) → (Nat → Int32) → (Nat → Int32) → (Nat → Int32) → (Nat → Int32) → (Nat → Int32) → (Nat → Int32) → (Nat → Int32) → (Nat → Int32) → (Nat → Int32) → (Nat → Int32) → (Nat → Int32) → (Nat → Int32) → (Nat → Int32) → (Nat → Int32) → (Nat → Int32) → Int32 → Int32 → (Nat → Int32) → (Nat → Int32) → (Nat → Int32) → (Nat → Int32) → Int32 → (Nat → Int32) → (Nat → Int32) → Int32 → Int32 → (Nat → Int32) → Int32 → Int32 → (Nat → Int32) → Int32 → Int32 → (Nat → Int32) → (Nat → Int64) → Int32 → Int32 → Bool → Int32 → Bool → (Nat → Int32) → (Nat → Int32) → (Nat → Int32) → (Nat → Int32) → (Nat → Int32) → (Nat → Int32) → (Nat → Int32) → (Nat → Int32) → (Nat → Int32) → (Nat → Int32) → (Nat → Int32) → (Nat → Int32) → (Nat → Int32) → (Nat → Int32) → (Nat → Int32) → (Nat → Int32) → (Nat → Int32) → (Nat → Bool) → (Nat → Bool) → (Nat → Int32) → (Nat → Int32) → (Nat → Int32) → (Nat → Int32) → (Nat → Int32) → (Nat → Int32) → (Nat → Int32) → (Nat → Int32) → (Nat → Int32) → Prop) (hJ0 : ∀ V : Int32, wpOn_init (xclN V) (fun a0_ a1_ a2_ a3_ a4_ a5_ a6_ a7_ a8_ a9_ a10_ => J (xclN V) false (fun _ => 0) (fun _ => 0) (fun _ => 0) (fun _ => 0) (fun _ => 0) a0_ a1_ a2_ (fun _ => 0) a3_ a4_ a5_ a6_ a7_ a8_ a9_ a10_ (fun _ => 0) (fun _ => 0) (fun _ => 0) (fun _ => 0) (fun _ => 0) (fun _ => 0) (fun _ => 0) (fun _ => 0) (fun _ => 0) (fun _ => 0) (fun _ => 0) 0 0 (fun _ => 0) (fun _ => 0) (fun _ => 0) (fun _ => 0) 0 (fun _ => 0) (fun _ => 0) 0 0 (fun _ => 0) 0 0 (fun _ => 0) 0 0 (fun _ => 0) (fun _ => 0) 0 0 false 0 false (fun _ => 0) (fun _ => 0) (fun _ => 0) (fun _ => 0) (fun _ => 0) (fun _ => 0) (fun _ => 0) (fun _ => 0) (fun _ => 0) (fun _ => 0) (fun _ => 0) (fun _ => 0) (fun _ => 0) (fun _ => 0) (fun _ => 0) (fun _ => 0) (fun _ => 0) (fun _ => false) (fun _ => false) (fun _ => 0) (fun _ => 0) (fun _ => 0) (fun _ => 0) (fun _ => 0) (fun _ => 0) (fun _ => 0) (fun _ => 0) (fun _ => 0))) (hJ1 : ∀ V : Int32, lwOk (xclN V) L xs (J (xclN V)))
    (hend : ∀ (ls : Array Slot) (H : Heap), W p l e room_1 s m #[Value.ref b] below meth c H [] 601024 7293000 Q (F0 m 1460 ls [.int 1])) : W p l e room_1 s m #[Value.ref b] below meth c s.heap [] 0 0 Q (entryFrame m ([Value.ref b] : List Value).toArray 7) := by
  obtain ⟨D, cA, cB, cL, hK⟩ := xKall hts
  have hcl : s.vm.findClass "OnceNamed" = some (D.1 0) := (hK.1 0 _ rfl).2.1
  have hN := xNNof hts
  have hNc := xNcof hgv
  have hA : ∀ q, s.heap.size ≤ q → (fun q => s.heap.size ≤ q) q := fun q h => h
  have hE : xEE (fun q => s.heap.size ≤ q) s s.heap := xEEof hcl hts hgv (fun a h1 h2 => absurd h1 (by omega))
  have hbA : ¬ (fun q => s.heap.size ≤ q) b := by show ¬ s.heap.size ≤ b; omega
  have htsW : ∀ w ∈ (Cond.tt :: xW), w.before #[Value.ref b] s = true := fun w hw => by
    rcases List.mem_cons.mp hw with rfl | hw
    · rfl
    · exact hts w (xW_in w hw)
  have hAb : ∀ q, (fun q => s.heap.size ≤ q) q → s.heap.size ≤ q := fun q h => h
  generalize (fun q => s.heap.size ≤ q) = A at hA hE hbA hAb
  have hl := lv_entry ([.ref b]) (n := 7) (Nat.le_of_ble_eq_true rfl)
  rw [lg_entry_eq]
  generalize (lg_sl ([.ref b]) ++ List.replicate (7 - (lg_sl ([.ref b])).length) Slot.unset).toArray = ls at hl ⊢
  have hl : lv_has ls 7 [(0, .ref b)] := hl
  refine lw_start l D cA cB cL b L xs hx hb hml hown htsW hK hN hA hX hbl hbA hL _ rfl _ (hJ0 (if L = 0 then 0 else xs 0)) (fun ad bd oa a0_ a1_ a2_ a3_ a4_ a5_ a6_ a7_ a8_ a9_ a10_ ls H locs cells slots hl hP hD hS hc hs hj => ?_) ls hl
  refine lw_loop l hfl D cA cB cL ad bd oa _ b L xs hx hb hml hown htsW hK hN hE hNc hA hX hbl hbA _ (hJ1 (if L = 0 then 0 else xs 0)) hL ?_ 513 1 _ _ _ _ _ _ _ _ _ _ _ _ _ _ _ _ _ _ _ _ _ _ _ _ _ _ _ _ _ _ _ _ _ _ _ _ _ _ _ _ _ _ _ _ _ _ _ _ _ _ _ _ _ _ _ _ _ _ _ _ _ _ _ _ _ _ _ _ _ _ _ _ _ _ _ _ _ _ _ _ _ cells slots ls H locs (by decide) (by decide) ?_ (by omega) (by omega) hl hP hD hS hj
  · intros
    rename_i ls H locs cells slots _ _ hS hc hs _
    refine va_forget (fun q hq => ?_) ?_
    · exact hAb _ (hS.2.2 q hq)
    refine W.widen hc hs ?_
    refine lv_iconst (v := 1) hx hb dlaw_1459 (by decide) ?_
    exact hend ls H
  · show (L : Int) - 6 < (1 : Int32).toInt + 6 * (513 : Nat)
    have : (1 : Int32).toInt = 1 := rfl
    omega
