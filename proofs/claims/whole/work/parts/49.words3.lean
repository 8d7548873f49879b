abbrev cProgram_init : ByteArray := prog_5_method_1_code
abbrev yProgram_init : MethodName := ⟨"OnceNamed$Program", "<init>", "(I)V"⟩
abbrev cGraph_init : ByteArray := prog_3_method_1_code
abbrev yGraph_init : MethodName := ⟨"OnceNamed$Graph", "<init>", "(I)V"⟩
abbrev cNamedForm_init : ByteArray := prog_4_method_1_code
abbrev yNamedForm_init : MethodName := ⟨"OnceNamed$NamedForm", "<init>", "(LOnceNamed$Program;LOnceNamed$Graph;)V"⟩
abbrev cCopyPlan_init : ByteArray := prog_2_method_1_code
abbrev yCopyPlan_init : MethodName := ⟨"OnceNamed$CopyPlan", "<init>", "()V"⟩
abbrev cRunner_init : ByteArray := prog_6_method_1_code
abbrev yRunner_init : MethodName := ⟨"OnceNamed$Runner", "<init>", "(LOnceNamed$Program;LOnceNamed$NamedForm;LOnceNamed$CopyPlan;)V"⟩
abbrev cTalk_init : ByteArray := prog_7_method_1_code
abbrev yTalk_init : MethodName := ⟨"OnceNamed$Talk", "<init>", "()V"⟩
abbrev cOn_init : ByteArray := prog_1_method_1_code
abbrev yOn_init : MethodName := ⟨"OnceNamed", "<init>", "(I)V"⟩
abbrev cMd_init : ByteArray := prog_9_method_1_code
abbrev yMd_init : MethodName := ⟨"OnceNamedModel", "<init>", "(I)V"⟩
theorem kw_39 : Cond.code yProgram_init cProgram_init 2 none ∈ xW := List.mem_filter.mpr ⟨List.mem_append_right _ (List.mem_append_left _ (List.mem_of_getElem? (i := 39) rfl)), rfl⟩
theorem kw_40 : Cond.methodLink "OnceNamed$Program" 3 objectInit ∈ xW := List.mem_filter.mpr ⟨List.mem_append_right _ (List.mem_append_left _ (List.mem_of_getElem? (i := 40) rfl)), rfl⟩
theorem kw_27 : Cond.instanceMethod objectInit ∈ xW := List.mem_filter.mpr ⟨List.mem_append_right _ (List.mem_append_left _ (List.mem_of_getElem? (i := 27) rfl)), rfl⟩
theorem kw_28 : Cond.code objectInit ⟨#[0xb1]⟩ 1 none ∈ xW := List.mem_filter.mpr ⟨List.mem_append_right _ (List.mem_append_left _ (List.mem_of_getElem? (i := 28) rfl)), rfl⟩
theorem kw_75 : Cond.arrayClass .int ∈ xW := List.mem_filter.mpr ⟨List.mem_append_right _ (List.mem_append_left _ (List.mem_of_getElem? (i := 75) rfl)), rfl⟩
theorem kw_41 : Cond.methodLink "OnceNamed$Program" 43 yArrays_fill ∈ xW := List.mem_filter.mpr ⟨List.mem_append_right _ (List.mem_append_left _ (List.mem_of_getElem? (i := 41) rfl)), rfl⟩
theorem kw_80 : Cond.code yGraph_init cGraph_init 2 none ∈ xW := List.mem_filter.mpr ⟨List.mem_append_right _ (List.mem_append_left _ (List.mem_of_getElem? (i := 80) rfl)), rfl⟩
theorem kw_81 : Cond.methodLink "OnceNamed$Graph" 3 objectInit ∈ xW := List.mem_filter.mpr ⟨List.mem_append_right _ (List.mem_append_left _ (List.mem_of_getElem? (i := 81) rfl)), rfl⟩
theorem kw_114 : Cond.code yNamedForm_init cNamedForm_init 3 none ∈ xW := List.mem_filter.mpr ⟨List.mem_append_right _ (List.mem_append_left _ (List.mem_of_getElem? (i := 114) rfl)), rfl⟩
theorem kw_115 : Cond.methodLink "OnceNamed$NamedForm" 5 objectInit ∈ xW := List.mem_filter.mpr ⟨List.mem_append_right _ (List.mem_append_left _ (List.mem_of_getElem? (i := 115) rfl)), rfl⟩
theorem kw_116 : Cond.methodLink "OnceNamed$NamedForm" 19 yProgram_blockCount ∈ xW := List.mem_filter.mpr ⟨List.mem_append_right _ (List.mem_append_left _ (List.mem_of_getElem? (i := 116) rfl)), rfl⟩
theorem kw_167 : Cond.code yCopyPlan_init cCopyPlan_init 1 none ∈ xW := List.mem_filter.mpr ⟨List.mem_append_right _ (List.mem_append_left _ (List.mem_of_getElem? (i := 167) rfl)), rfl⟩
theorem kw_168 : Cond.methodLink "OnceNamed$CopyPlan" 5 objectInit ∈ xW := List.mem_filter.mpr ⟨List.mem_append_right _ (List.mem_append_left _ (List.mem_of_getElem? (i := 168) rfl)), rfl⟩
theorem kw_192 : Cond.code yRunner_init cRunner_init 4 none ∈ xW := List.mem_filter.mpr ⟨List.mem_append_right _ (List.mem_append_left _ (List.mem_of_getElem? (i := 192) rfl)), rfl⟩
theorem kw_193 : Cond.methodLink "OnceNamed$Runner" 3 objectInit ∈ xW := List.mem_filter.mpr ⟨List.mem_append_right _ (List.mem_append_left _ (List.mem_of_getElem? (i := 193) rfl)), rfl⟩
theorem kw_217 : Cond.code yTalk_init cTalk_init 1 none ∈ xW := List.mem_filter.mpr ⟨List.mem_append_right _ (List.mem_append_left _ (List.mem_of_getElem? (i := 217) rfl)), rfl⟩
theorem kw_218 : Cond.methodLink "OnceNamed$Talk" 1 objectInit ∈ xW := List.mem_filter.mpr ⟨List.mem_append_right _ (List.mem_append_left _ (List.mem_of_getElem? (i := 218) rfl)), rfl⟩
theorem kw_25 : Cond.code yOn_init cOn_init 2 none ∈ xW := List.mem_filter.mpr ⟨List.mem_append_right _ (List.mem_append_left _ (List.mem_of_getElem? (i := 25) rfl)), rfl⟩
theorem kw_26 : Cond.methodLink "OnceNamed" 1 objectInit ∈ xW := List.mem_filter.mpr ⟨List.mem_append_right _ (List.mem_append_left _ (List.mem_of_getElem? (i := 26) rfl)), rfl⟩
theorem kw_29 : Cond.methodLink "OnceNamed" 9 Lib.Math.min.name ∈ xW := List.mem_filter.mpr ⟨List.mem_append_right _ (List.mem_append_left _ (List.mem_of_getElem? (i := 29) rfl)), rfl⟩
theorem kw_30 : Cond.static Lib.Math.min.name ∈ xW := List.mem_filter.mpr ⟨List.mem_append_right _ (List.mem_append_left _ (List.mem_of_getElem? (i := 30) rfl)), rfl⟩
theorem kw_2 : Cond.initialized "java/lang/Math" ∈ xW := List.mem_filter.mpr ⟨List.mem_append_right _ (List.mem_append_left _ (List.mem_of_getElem? (i := 2) rfl)), rfl⟩
theorem kw_31 : Cond.code Lib.Math.min.name Lib.Math.min.code 2 (some .int) ∈ xW := List.mem_filter.mpr ⟨List.mem_append_right _ (List.mem_append_left _ (List.mem_of_getElem? (i := 31) rfl)), rfl⟩
theorem kw_32 : Cond.methodLink "OnceNamed" 15 Lib.Math.max.name ∈ xW := List.mem_filter.mpr ⟨List.mem_append_right _ (List.mem_append_left _ (List.mem_of_getElem? (i := 32) rfl)), rfl⟩
theorem kw_33 : Cond.static Lib.Math.max.name ∈ xW := List.mem_filter.mpr ⟨List.mem_append_right _ (List.mem_append_left _ (List.mem_of_getElem? (i := 33) rfl)), rfl⟩
theorem kw_34 : Cond.code Lib.Math.max.name Lib.Math.max.code 2 (some .int) ∈ xW := List.mem_filter.mpr ⟨List.mem_append_right _ (List.mem_append_left _ (List.mem_of_getElem? (i := 34) rfl)), rfl⟩
theorem kw_35 : Cond.classLink "OnceNamed" 22 "OnceNamed$Program" ∈ xW := List.mem_filter.mpr ⟨List.mem_append_right _ (List.mem_append_left _ (List.mem_of_getElem? (i := 35) rfl)), rfl⟩
theorem kw_36 : Cond.instantiable "OnceNamed$Program" 10 ∈ xW := List.mem_filter.mpr ⟨List.mem_append_right _ (List.mem_append_left _ (List.mem_of_getElem? (i := 36) rfl)), rfl⟩
theorem kw_37 : Cond.methodLink "OnceNamed" 24 yProgram_init ∈ xW := List.mem_filter.mpr ⟨List.mem_append_right _ (List.mem_append_left _ (List.mem_of_getElem? (i := 37) rfl)), rfl⟩
theorem kw_38 : Cond.instanceMethod yProgram_init ∈ xW := List.mem_filter.mpr ⟨List.mem_append_right _ (List.mem_append_left _ (List.mem_of_getElem? (i := 38) rfl)), rfl⟩
theorem kw_76 : Cond.classLink "OnceNamed" 31 "OnceNamed$Graph" ∈ xW := List.mem_filter.mpr ⟨List.mem_append_right _ (List.mem_append_left _ (List.mem_of_getElem? (i := 76) rfl)), rfl⟩
theorem kw_77 : Cond.instantiable "OnceNamed$Graph" 9 ∈ xW := List.mem_filter.mpr ⟨List.mem_append_right _ (List.mem_append_left _ (List.mem_of_getElem? (i := 77) rfl)), rfl⟩
theorem kw_78 : Cond.methodLink "OnceNamed" 33 yGraph_init ∈ xW := List.mem_filter.mpr ⟨List.mem_append_right _ (List.mem_append_left _ (List.mem_of_getElem? (i := 78) rfl)), rfl⟩
theorem kw_79 : Cond.instanceMethod yGraph_init ∈ xW := List.mem_filter.mpr ⟨List.mem_append_right _ (List.mem_append_left _ (List.mem_of_getElem? (i := 79) rfl)), rfl⟩
theorem kw_110 : Cond.classLink "OnceNamed" 38 "OnceNamed$NamedForm" ∈ xW := List.mem_filter.mpr ⟨List.mem_append_right _ (List.mem_append_left _ (List.mem_of_getElem? (i := 110) rfl)), rfl⟩
theorem kw_111 : Cond.instantiable "OnceNamed$NamedForm" 14 ∈ xW := List.mem_filter.mpr ⟨List.mem_append_right _ (List.mem_append_left _ (List.mem_of_getElem? (i := 111) rfl)), rfl⟩
theorem kw_112 : Cond.methodLink "OnceNamed" 40 yNamedForm_init ∈ xW := List.mem_filter.mpr ⟨List.mem_append_right _ (List.mem_append_left _ (List.mem_of_getElem? (i := 112) rfl)), rfl⟩
theorem kw_113 : Cond.instanceMethod yNamedForm_init ∈ xW := List.mem_filter.mpr ⟨List.mem_append_right _ (List.mem_append_left _ (List.mem_of_getElem? (i := 113) rfl)), rfl⟩
theorem kw_163 : Cond.classLink "OnceNamed" 47 "OnceNamed$CopyPlan" ∈ xW := List.mem_filter.mpr ⟨List.mem_append_right _ (List.mem_append_left _ (List.mem_of_getElem? (i := 163) rfl)), rfl⟩
theorem kw_164 : Cond.instantiable "OnceNamed$CopyPlan" 6 ∈ xW := List.mem_filter.mpr ⟨List.mem_append_right _ (List.mem_append_left _ (List.mem_of_getElem? (i := 164) rfl)), rfl⟩
theorem kw_165 : Cond.methodLink "OnceNamed" 49 yCopyPlan_init ∈ xW := List.mem_filter.mpr ⟨List.mem_append_right _ (List.mem_append_left _ (List.mem_of_getElem? (i := 165) rfl)), rfl⟩
theorem kw_166 : Cond.instanceMethod yCopyPlan_init ∈ xW := List.mem_filter.mpr ⟨List.mem_append_right _ (List.mem_append_left _ (List.mem_of_getElem? (i := 166) rfl)), rfl⟩
theorem kw_188 : Cond.classLink "OnceNamed" 54 "OnceNamed$Runner" ∈ xW := List.mem_filter.mpr ⟨List.mem_append_right _ (List.mem_append_left _ (List.mem_of_getElem? (i := 188) rfl)), rfl⟩
theorem kw_189 : Cond.instantiable "OnceNamed$Runner" 6 ∈ xW := List.mem_filter.mpr ⟨List.mem_append_right _ (List.mem_append_left _ (List.mem_of_getElem? (i := 189) rfl)), rfl⟩
theorem kw_190 : Cond.methodLink "OnceNamed" 56 yRunner_init ∈ xW := List.mem_filter.mpr ⟨List.mem_append_right _ (List.mem_append_left _ (List.mem_of_getElem? (i := 190) rfl)), rfl⟩
theorem kw_191 : Cond.instanceMethod yRunner_init ∈ xW := List.mem_filter.mpr ⟨List.mem_append_right _ (List.mem_append_left _ (List.mem_of_getElem? (i := 191) rfl)), rfl⟩
theorem kw_213 : Cond.classLink "OnceNamed" 63 "OnceNamed$Talk" ∈ xW := List.mem_filter.mpr ⟨List.mem_append_right _ (List.mem_append_left _ (List.mem_of_getElem? (i := 213) rfl)), rfl⟩
theorem kw_214 : Cond.instantiable "OnceNamed$Talk" 3 ∈ xW := List.mem_filter.mpr ⟨List.mem_append_right _ (List.mem_append_left _ (List.mem_of_getElem? (i := 214) rfl)), rfl⟩
theorem kw_215 : Cond.methodLink "OnceNamed" 65 yTalk_init ∈ xW := List.mem_filter.mpr ⟨List.mem_append_right _ (List.mem_append_left _ (List.mem_of_getElem? (i := 215) rfl)), rfl⟩
theorem kw_216 : Cond.instanceMethod yTalk_init ∈ xW := List.mem_filter.mpr ⟨List.mem_append_right _ (List.mem_append_left _ (List.mem_of_getElem? (i := 216) rfl)), rfl⟩
theorem kw_983 : Cond.code yMd_init cMd_init 2 none ∈ xW := List.mem_filter.mpr ⟨List.mem_append_right _ (List.mem_append_right _ (List.mem_append_right _ (List.mem_append_right _ (List.mem_append_right _ (List.mem_append_left _ (List.mem_of_getElem? (i := 23) rfl)))))), rfl⟩
theorem kw_984 : Cond.methodLink "OnceNamedModel" 1 objectInit ∈ xW := List.mem_filter.mpr ⟨List.mem_append_right _ (List.mem_append_right _ (List.mem_append_right _ (List.mem_append_right _ (List.mem_append_right _ (List.mem_append_left _ (List.mem_of_getElem? (i := 24) rfl)))))), rfl⟩
theorem kw_1088 : Cond.arrayClass .boolean ∈ xW := List.mem_filter.mpr ⟨List.mem_append_right _ (List.mem_append_right _ (List.mem_append_right _ (List.mem_append_right _ (List.mem_append_right _ (List.mem_append_left _ (List.mem_of_getElem? (i := 128) rfl)))))), rfl⟩
/-! making: arrays of one class, addresses as a list, the number of blocks -/
def xAd (l : List Nat) : Nat → Nat := fun k => l.getD k 0
def xclN (v : Int32) : Nat := if v < 1 then 1 else if 12 < v then 12 else v.toNatClampNeg
theorem xcl_lo (v : Int32) : 1 ≤ xclN v ∧ xclN v ≤ 12 := by
  unfold xclN
  by_cases h1 : v < 1
  · rw [if_pos h1]; omega
  · rw [if_neg h1]
    by_cases h2 : 12 < v
    · rw [if_pos h2]; omega
    · rw [if_neg h2]
      have a1 : ¬ v.toInt < 1 := fun h => h1 (Int32.lt_iff_toInt_lt.mpr h)
      have a2 : ¬ 12 < v.toInt := fun h => h2 (Int32.lt_iff_toInt_lt.mpr h)
      show 1 ≤ v.toInt.toNat ∧ v.toInt.toNat ≤ 12
      omega
theorem xcl_1 {v : Int32} (h : v < 1) : (1 : Int32) = nI (xclN v) := by
  unfold xclN; rw [if_pos h]; rfl
theorem xcl_12 {v : Int32} (h1 : ¬ v < 1) (h : 12 < v) : (12 : Int32) = nI (xclN v) := by
  unfold xclN; rw [if_neg h1, if_pos h]; rfl
theorem xcl_v {v : Int32} (h1 : ¬ v < 1) (h : ¬ 12 < v) : v = nI (xclN v) := by
  have hl := xcl_lo v
  unfold xclN at hl ⊢
  rw [if_neg h1, if_neg h] at hl ⊢
  have a1 : ¬ v.toInt < 1 := fun h => h1 (Int32.lt_iff_toInt_lt.mpr h)
  refine Int32.toInt_inj.mp ?_
  rw [nI_toInt (by omega)]
  show v.toInt = ((v.toInt.toNat : Nat) : Int)
  omega
theorem xcl_mm (v : Int32) : (if (1 : Int32) < (if v < 12 then v else 12) then (if v < 12 then v else 12) else 1) = nI (xclN v) := by
  by_cases h1 : v < 1
  · have h2 : v < 12 := Int32.lt_iff_toInt_lt.mpr (Int.lt_trans (Int32.lt_iff_toInt_lt.mp h1) (by decide))
    rw [if_pos h2, if_neg (fun h => Int32.lt_asymm h h1)]
    exact xcl_1 h1
  · by_cases h2 : 12 < v
    · rw [if_neg (fun h => Int32.lt_asymm h h2), if_pos (by decide)]
      exact xcl_12 h1 h2
    · have e := xcl_v h1 h2
      by_cases h3 : v < 12
      · rw [if_pos h3]
        by_cases h4 : 1 < v
        · rw [if_pos h4]; exact e
        · rw [if_neg h4]
          have a1 : ¬ v.toInt < 1 := fun h => h1 (Int32.lt_iff_toInt_lt.mpr h)
          have a2 : ¬ 1 < v.toInt := fun h => h4 (Int32.lt_iff_toInt_lt.mpr h)
          have e1 : v = 1 := Int32.toInt_inj.mp (by show v.toInt = 1; omega)
          rw [e1] at e ⊢; exact e
      · rw [if_neg h3, if_pos (by decide)]
        have a1 : ¬ 12 < v.toInt := fun h => h2 (Int32.lt_iff_toInt_lt.mpr h)
        have a2 : ¬ v.toInt < 12 := fun h => h3 (Int32.lt_iff_toInt_lt.mpr h)
        have e1 : v = 12 := Int32.toInt_inj.mp (by show v.toInt = 12; omega)
        rw [e1] at e ⊢; exact e
theorem xNN_le {N : Nat} (h : N ≤ 12) : N * 6 * (N + 1) ≤ 936 := by
  have := Nat.mul_le_mul (Nat.mul_le_mul h (Nat.le_refl 6)) (Nat.add_le_add h (Nat.le_refl 1))
  exact this
theorem xlen {n N : Nat} (e : n = N) (h : N < 2 ^ 31) : ¬ nI n < 0 ∧ (nI n).toNatClampNeg = N := by subst e; exact ⟨nI_pos h, nI_clamp h⟩
section XNA
variable {p : Program} {l : Launch} {e : Env} {R : Room} {s : State} {m : MethodId} {args : Array Value} {below : List Frame} {meth : Method} {c : Code} {H : Heap} {locs : List Loc} {cells slots : Nat} {Q : State → Prop}
variable {cc : ByteArray} {pc : Nat} {ls : Array Slot} {rest : List Value} {D : va_G} {A : Nat → Prop} {tys : List (ClassId × FieldType)} {ws : va_W} {H0 : Heap}
theorem xsameA {t0 : Nat} {c1 c2 : ClassId} {ty : FieldType} (hty : ty = .int ∨ ty = .boolean ∨ ty = .long) (hK : va_K D vwCl (tys ++ [(c2, ty)]) s) (ht : tys[t0]? = some (c1, ty)) : c2 = c1 := by
  have hl := (List.getElem?_eq_some_iff.mp ht).1
  have h1 := (hK.2 t0 (c1, ty) (by rw [List.getElem?_append_left hl]; exact ht)).2
  have h2 := (hK.2 tys.length (c2, ty) (by simp)).2
  rcases hty with rfl | rfl | rfl <;> exact Option.some.inj (h2.symm.trans h1)
theorem xnewi (hexec : p.tables.exec = Jvm.exec) (hb : c.code = cc) (harr : (Cond.arrayClass .int).before args s = true) (hK : va_K D vwCl tys s) {cA : ClassId} (t0 : Nat) (ht : tys[t0]? = some (cA, .int)) (hP : va_P D vwCl ws H) (hD : va_D A ws) (hS : va_S A H0 H locs) (hA : ∀ q, H0.size ≤ q → A q)
    {n : Int32} {N' : Nat} (hn : ¬ n < 0 ∧ n.toNatClampNeg = N') (hbytes : N' ≤ 10000) (hcells : cells + 1 ≤ R.cells) (hslots : slots + N' ≤ R.slots) (hdg : decode cc pc = .ok (.newarray .int, 2))
    (kk : ∀ (q : Nat) (H1 : Heap), va_P D vwCl (ws ++ [(q, .inl (cA, N', .inl (fun _ => 0)))]) H1 → va_D A (ws ++ [(q, .inl (cA, N', .inl (fun _ => 0)))]) → va_S A H0 H1 locs → W p l e R s m args below meth c H1 locs (cells + 1) (slots + N') Q (F0 m (pc + 2) ls (.ref q :: rest))) : W p l e R s m args below meth c H locs cells slots Q (F0 m pc ls (.int n :: rest)) := by
  refine va_newa (atype := .int) (a0 := (N', .inl (fun _ => 0))) hexec hb harr rfl hK hP hD hS hA (fun _ => rfl) hn.1 hn.2 (by show N' * 4 ≤ _; omega) hcells hslots hdg (fun q cA' H1 hK' hP' hD' hS' => ?_)
  have e1 := xsameA (Or.inl rfl) hK' ht
  subst e1
  exact kk q H1 hP' hD' hS'
theorem xnewz (hexec : p.tables.exec = Jvm.exec) (hb : c.code = cc) (harr : (Cond.arrayClass .boolean).before args s = true) (hK : va_K D vwCl tys s) {cA : ClassId} (t0 : Nat) (ht : tys[t0]? = some (cA, .boolean)) (hP : va_P D vwCl ws H) (hD : va_D A ws) (hS : va_S A H0 H locs) (hA : ∀ q, H0.size ≤ q → A q)
    {n : Int32} {N' : Nat} (hn : ¬ n < 0 ∧ n.toNatClampNeg = N') (hbytes : N' ≤ 10000) (hcells : cells + 1 ≤ R.cells) (hslots : slots + N' ≤ R.slots) (hdg : decode cc pc = .ok (.newarray .boolean, 2))
    (kk : ∀ (q : Nat) (H1 : Heap), va_P D vwCl (ws ++ [(q, .inl (cA, N', .inl (fun j => bI ((fun _ => false) j))))]) H1 → va_D A (ws ++ [(q, .inl (cA, N', .inl (fun j => bI ((fun _ => false) j))))]) → va_S A H0 H1 locs → W p l e R s m args below meth c H1 locs (cells + 1) (slots + N') Q (F0 m (pc + 2) ls (.ref q :: rest))) : W p l e R s m args below meth c H locs cells slots Q (F0 m pc ls (.int n :: rest)) := by
  refine va_newa (atype := .boolean) (a0 := (N', .inl (fun j => bI ((fun _ => false) j)))) hexec hb harr rfl hK hP hD hS hA (fun _ => rfl) hn.1 hn.2 (by show N' * 1 ≤ _; omega) hcells hslots hdg (fun q cA' H1 hK' hP' hD' hS' => ?_)
  have e1 := xsameA (Or.inr (Or.inl rfl)) hK' ht
  subst e1
  exact kk q H1 hP' hD' hS'
end XNA
abbrev wdAll (cA : ClassId) (ad : Nat → Nat) (N : Nat) (formStands : Bool) (stepCount : Nat → Int32) (kind : Nat → Int32) (target : Nat → Int32) (first : Nat → Int32) (second : Nat → Int32) (forkVariable : Nat → Int32) (yes : Nat → Int32) (no : Nat → Int32) (starts : Nat → Int32) (orderSize : Int32) (reached : Int32) (forerunners : Nat → Int32) (blw : Nat → Int32) (frontiers : Nat → Int32) (parents : Nat → Int32) (order : Nat → Int32) (waiting : Nat → Int32) (meetingNames : Nat → Int32) (meetingUses : Nat → Int32) (stepNames : Nat → Int32) (firstUses : Nat → Int32) (secondUses : Nat → Int32) (endUses : Nat → Int32) (lastNames : Nat → Int32) (namesOf : Nat → Int32) (homeBlock : Nat → Int32) (homePlace : Nat → Int32) (standsFor : Nat → Int32) (pending : Int32) (length : Int32) (pendingTo : Nat → Int32) (pendingFrom : Nat → Int32) (copyTo : Nat → Int32) (copyFrom : Nat → Int32) (way : Int32) (values : Nat → Int32) (arriving : Nat → Int32) (T0size : Int32) (T0out : Int32) (T0num : Nat → Int32) (T1size : Int32) (T1out : Int32) (T1num : Nat → Int32) (T2size : Int32) (T2out : Int32) (T2num : Nat → Int32) : va_W := [((ad 0), .inr (0, [.int (nI N), .ref (ad 1), .ref (ad 11), .ref (ad 18), .ref (ad 30), .ref (ad 35), .ref (ad 38), .ref (ad 40), .ref (ad 42), .int (bI formStands)])), ((ad 1), .inr (1, [.int (nI N), .ref (ad 2), .ref (ad 3), .ref (ad 4), .ref (ad 5), .ref (ad 6), .ref (ad 7), .ref (ad 8), .ref (ad 9), .ref (ad 10)])), ((ad 2), .inl (cA, N, .inl stepCount)), ((ad 3), .inl (cA, N * 6, .inl kind)), ((ad 4), .inl (cA, N * 6, .inl target)), ((ad 5), .inl (cA, N * 6, .inl first)), ((ad 6), .inl (cA, N * 6, .inl second)), ((ad 7), .inl (cA, N, .inl forkVariable)), ((ad 8), .inl (cA, N, .inl yes)), ((ad 9), .inl (cA, N, .inl no)), ((ad 10), .inl (cA, 6, .inl starts)), ((ad 11), .inr (2, [.int (nI N), .ref (ad 12), .ref (ad 13), .ref (ad 14), .ref (ad 15), .ref (ad 16), .ref (ad 17), .int orderSize, .int reached])), ((ad 12), .inl (cA, N, .inl forerunners)), ((ad 13), .inl (cA, N, .inl blw)), ((ad 14), .inl (cA, N, .inl frontiers)), ((ad 15), .inl (cA, N, .inl parents)), ((ad 16), .inl (cA, N, .inl order)), ((ad 17), .inl (cA, N, .inl waiting)), ((ad 18), .inr (3, [.ref (ad 1), .ref (ad 11), .int (nI N), .ref (ad 19), .ref (ad 20), .ref (ad 21), .ref (ad 22), .ref (ad 23), .ref (ad 24), .ref (ad 25), .ref (ad 26), .ref (ad 27), .ref (ad 28), .ref (ad 29)])), ((ad 19), .inl (cA, N * 6, .inl meetingNames)), ((ad 20), .inl (cA, N * 6 * (N + 1), .inl meetingUses)), ((ad 21), .inl (cA, N * 6, .inl stepNames)), ((ad 22), .inl (cA, N * 6, .inl firstUses)), ((ad 23), .inl (cA, N * 6, .inl secondUses)), ((ad 24), .inl (cA, N, .inl endUses)), ((ad 25), .inl (cA, (N + 1) * 6, .inl lastNames)), ((ad 26), .inl (cA, 6, .inl namesOf)), ((ad 27), .inl (cA, 600, .inl homeBlock)), ((ad 28), .inl (cA, 600, .inl homePlace)), ((ad 29), .inl (cA, 600, .inl standsFor)), ((ad 30), .inr (4, [.ref (ad 31), .ref (ad 32), .ref (ad 33), .ref (ad 34), .int pending, .int length])), ((ad 31), .inl (cA, 6, .inl pendingTo)), ((ad 32), .inl (cA, 6, .inl pendingFrom)), ((ad 33), .inl (cA, 9, .inl copyTo)), ((ad 34), .inl (cA, 9, .inl copyFrom)), ((ad 35), .inr (5, [.ref (ad 1), .ref (ad 18), .ref (ad 30), .ref (ad 36), .ref (ad 37), .int way])), ((ad 36), .inl (cA, 601, .inl values)), ((ad 37), .inl (cA, 6, .inl arriving)), ((ad 38), .inr (6, [.ref (ad 39), .int T0size, .int T0out])), ((ad 39), .inl (cA, 50, .inl T0num)), ((ad 40), .inr (6, [.ref (ad 41), .int T1size, .int T1out])), ((ad 41), .inl (cA, 50, .inl T1num)), ((ad 42), .inr (6, [.ref (ad 43), .int T2size, .int T2out])), ((ad 43), .inl (cA, 50, .inl T2num))]
abbrev wdMd (cA : ClassId) (cB : ClassId) (bd : Nat → Nat) (N : Nat) (mThrown : Int32) (mReached : Int32) (mForm : Bool) (mSlot : Int32) (mOver : Bool) (mMany : Nat → Int32) (mKinds : Nat → Int32) (mVs : Nat → Int32) (mWs : Nat → Int32) (mXs : Nat → Int32) (mEnds : Nat → Int32) (mEndVariable : Nat → Int32) (mYes : Nat → Int32) (mNo : Nat → Int32) (mStarts : Nat → Int32) (mDominators : Nat → Int32) (mMeets : Nat → Int32) (mSources : Nat → Int32) (mSet : Nat → Int32) (mUseW : Nat → Int32) (mUseX : Nat → Int32) (mEndUse : Nat → Int32) (mGone : Nat → Bool) (mIsName : Nat → Bool) (mNameBlock : Nat → Int32) (mNameStep : Nat → Int32) (mNumbers : Nat → Int32) (mSaid : Nat → Int32) (mSaidCount : Nat → Int32) (mFailed : Nat → Int32) (mValues : Nat → Int32) (mNextValues : Nat → Int32) (mOpen : Nat → Int32) : va_W := [((bd 0), .inr (7, [.int mThrown, .int (nI N), .ref (bd 1), .ref (bd 2), .ref (bd 3), .ref (bd 4), .ref (bd 5), .ref (bd 6), .ref (bd 7), .ref (bd 8), .ref (bd 9), .ref (bd 10), .int mReached, .ref (bd 11), .int (bI mForm), .ref (bd 12), .ref (bd 13), .ref (bd 14), .ref (bd 15), .ref (bd 16), .ref (bd 17), .ref (bd 18), .ref (bd 19), .ref (bd 20), .ref (bd 21), .ref (bd 22), .ref (bd 23), .ref (bd 24), .ref (bd 25), .ref (bd 26), .ref (bd 27), .ref (bd 28), .int mSlot, .int (bI mOver)])), ((bd 1), .inl (cA, 12, .inl mMany)), ((bd 2), .inl (cA, 72, .inl mKinds)), ((bd 3), .inl (cA, 72, .inl mVs)), ((bd 4), .inl (cA, 72, .inl mWs)), ((bd 5), .inl (cA, 72, .inl mXs)), ((bd 6), .inl (cA, 12, .inl mEnds)), ((bd 7), .inl (cA, 12, .inl mEndVariable)), ((bd 8), .inl (cA, 12, .inl mYes)), ((bd 9), .inl (cA, 12, .inl mNo)), ((bd 10), .inl (cA, 6, .inl mStarts)), ((bd 11), .inl (cA, 12, .inl mDominators)), ((bd 12), .inl (cA, 72, .inl mMeets)), ((bd 13), .inl (cA, 936, .inl mSources)), ((bd 14), .inl (cA, 72, .inl mSet)), ((bd 15), .inl (cA, 72, .inl mUseW)), ((bd 16), .inl (cA, 72, .inl mUseX)), ((bd 17), .inl (cA, 12, .inl mEndUse)), ((bd 18), .inl (cB, 72, .inl (fun j => bI (mGone j)))), ((bd 19), .inl (cB, 600, .inl (fun j => bI (mIsName j)))), ((bd 20), .inl (cA, 600, .inl mNameBlock)), ((bd 21), .inl (cA, 600, .inl mNameStep)), ((bd 22), .inl (cA, 6, .inl mNumbers)), ((bd 23), .inl (cA, 150, .inl mSaid)), ((bd 24), .inl (cA, 3, .inl mSaidCount)), ((bd 25), .inl (cA, 3, .inl mFailed)), ((bd 26), .inl (cA, 600, .inl mValues)), ((bd 27), .inl (cA, 6, .inl mNextValues)), ((bd 28), .inl (cA, 80, .inl mOpen))]
