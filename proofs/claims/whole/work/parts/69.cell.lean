/-! the law's reading of a cell of the script -/
abbrev cLw_cell : ByteArray := method_2_code
abbrev yLw_cell : MethodName := ⟨"OnceNamedLaw", "cell", "([II)I"⟩
theorem dLw_cell_0 : decode cLw_cell 0 = .ok (.iload_n 1, 1) := by decide +kernel
theorem dLw_cell_1 : decode cLw_cell 1 = .ok (.aload_n 0, 1) := by decide +kernel
theorem dLw_cell_2 : decode cLw_cell 2 = .ok (.arraylength, 1) := by decide +kernel
theorem dLw_cell_3 : decode cLw_cell 3 = .ok (.if_icmp .ge 9, 3) := by decide +kernel
theorem dLw_cell_6 : decode cLw_cell 6 = .ok (.aload_n 0, 1) := by decide +kernel
theorem dLw_cell_7 : decode cLw_cell 7 = .ok (.iload_n 1, 1) := by decide +kernel
theorem dLw_cell_8 : decode cLw_cell 8 = .ok (.iaload, 1) := by decide +kernel
theorem dLw_cell_9 : decode cLw_cell 9 = .ok (.goto 4, 3) := by decide +kernel
theorem dLw_cell_12 : decode cLw_cell 12 = .ok (.iconst 0, 1) := by decide +kernel
theorem dLw_cell_13 : decode cLw_cell 13 = .ok (.ireturn, 1) := by decide +kernel
/-- a world, and the script beside it -/
def xPcX (D : va_G) (tys : List (ClassId × FieldType)) (WD : va_W) (sz b L : Nat) (xs : Nat → Int32) (U : State) : Prop := xPc D tys WD sz U ∧ va_X b L xs U U.heap ∧ b < sz
theorem xblindX {D : va_G} {tys : List (ClassId × FieldType)} {WD : va_W} {sz b L : Nat} {xs : Nat → Int32} {av : List Value} : FrameBlind (va_Pc av (xPcX D tys WD sz b L xs)) := by
  intro a U g mk q
  obtain ⟨q0, q1, q2, q3⟩ := q
  have h := xblind (D := D) (tys := tys) (WD := WD) (sz := sz) (av := av) a U g mk ⟨q0, q1⟩
  exact ⟨h.1, h.2, va_X.moved (u := U) (U := U.calling g mk a) (Vm.Alike.refl U.vm) q2, q3⟩
theorem xpreSX {s : State} {H : Heap} {D : va_G} {tys : List (ClassId × FieldType)} {WD wc : va_W} {A : Nat → Prop} {As : List Value} {b L : Nat} {xs : Nat → Int32} (hX : va_X b L xs s H) (hbl : b < H.size) (hK : va_K D vwCl tys s) (hP : va_P D vwCl WD H) (hD : va_D A WD) (hN : xNN s) (isC : List Nat) (hC : isC.map (fun i => WD[i]?) = wc.map some) (hn : va_nd isC = true) : PreS s H (va_Pc As (xPcX D tys wc H.size b L xs)) As := by
  have h := xpreS (As := As) hK hP hD hN isC hC hn
  exact ⟨xblindX, fun U hU hW => ⟨rfl, (h.2 U hU hW).2, by rw [hU]; exact va_X.moved hW.alike hX, hbl⟩⟩
abbrev qcLw_cell (D : va_G) (cA : ClassId) (post : Int32 → Prop) (A : Nat → Prop) : Array Value → State → Outcome → State → Prop := va_Qi (S := Unit) (fun r u => post r) (fun u t => xB D [(cA, .int)] A [] t) A
abbrev rmLw_cell : Room := { frames := 0, cells := 0, slots := 0, locals := 0 }
set_option maxHeartbeats 4000000 in
set_option maxRecDepth 100000 in
theorem ktLw_cell (l : Launch) (D : va_G) (cA : ClassId) (sz b L : Nat) (xs : Nat → Int32) (hL : L ≤ 3073) (post : Int32 → Prop) (hw : post (if L = 0 then 0 else xs 0)) : Met l yLw_cell (Cond.code yLw_cell cLw_cell 2 (some .int) :: xW) rmLw_cell (va_Pc [.ref b, .int 0] (xPcX D [(cA, .int)] [] sz b L xs)) (qcLw_cell D cA post (va_A [] sz)) 0 0 (va_A [] sz) := by
  refine va_MetF (cc := cLw_cell) (maxL := 2) (ret := (some .int)) (by decide) rfl ?_
  intro p e s m args below meth c s₁ B hml hv
  obtain ⟨rfl, ⟨hsz, hP, hK, hD0, hN⟩, hX, hbl⟩ := hv
  have hx := B.exec
  have hb := B.bytes
  have hr := B.returns
  have hlocks := B.notSynchronized
  subst hsz
  have hD := hD0.self (sz := s.heap.size)
  have hbA : ¬ va_A [] s.heap.size b := by
    intro h
    rcases h with ⟨k, e, h⟩ | h
    · simp at h
    · omega
  generalize hAe : va_A [] s.heap.size = A at hD hbA ⊢
  have hS : va_S A s.heap s.heap [] := va_S.rf
  have hend : ∀ (r : Int32) (H : Heap) (locs : List Loc) (pc : Nat) (ls : Array Slot), decode cLw_cell pc = .ok (.ireturn, 1) → va_P D vwCl [] H → va_D A [] → va_S A s.heap H locs → post r → W p l e (headSpec (Cond.code yLw_cell cLw_cell 2 (some .int) :: xW) rmLw_cell).room s m ([.ref b, .int 0] : List Value).toArray below meth c H locs 0 0 (MQ below (qcLw_cell D cA post A) ([.ref b, .int 0] : List Value).toArray s 0 0 A) (F0 m pc ls [.int r]) := fun r H locs pc ls hd hP hD hS hw => W.iret (v := r) hx hb hr (fun t ht hW => ⟨⟨r, (), rfl, hw, ⟨by rw [ht]; exact hP, va_K.moved hW.alike hK, hD⟩⟩, hS.F ht⟩) hS.2.2 hd
  generalize hQ : MQ below (qcLw_cell D cA post A) ([.ref b, .int 0] : List Value).toArray s 0 0 A = Q at hend ⊢
  have hl := lv_entry ([.ref b, .int 0]) (n := 2) (Nat.le_of_ble_eq_true rfl)
  rw [lg_entry_eq]
  generalize (lg_sl ([.ref b, .int 0]) ++ List.replicate (2 - (lg_sl ([.ref b, .int 0])).length) Slot.unset).toArray = ls at hl ⊢
  have hl : lv_has ls 2 [(0, .ref b), (1, .int 0)] := hl
  have h1 : (Int32.ofNat L).toInt = (L : Int) := Int32.toInt_ofNat_of_lt (by omega)
  have h0 : (0 : Int32).toInt = 0 := rfl
  refine lv_iload_n hx hb dLw_cell_0 rfl (lv_at hl 1 rfl) ?_
  refine lv_aload_n hx hb dLw_cell_1 rfl (lv_at hl 0 rfl) ?_
  refine va_slen hx hb hX hbl hbA hS dLw_cell_2 ?_
  refine lv_icmp_ge (tgt := 12) hx hb dLw_cell_3 rfl (fun hc => ?_) (fun hc => ?_)
  · rw [Int32.le_iff_toInt_le, h1, h0] at hc
    rw [if_pos (by omega)] at hw
    refine lv_iconst (v := 0) hx hb dLw_cell_12 (by decide) ?_
    exact hend 0 _ _ _ _ dLw_cell_13 hP hD hS hw
  · rw [Int32.le_iff_toInt_le, h1, h0] at hc
    rw [if_neg (by omega)] at hw
    refine lv_aload_n hx hb dLw_cell_6 rfl (lv_at hl 0 rfl) ?_
    refine lv_iload_n hx hb dLw_cell_7 rfl (lv_at hl 1 rfl) ?_
    have hin : vp_in (0 : Int32) L := by
      intro h
      rcases h with h | h
      · exact absurd h (by decide)
      · have h3 : (0 : Int32).toNatClampNeg = 0 := rfl
        omega
    refine va_sld hx hb hX hbl hbA hS hin dLw_cell_8 ?_
    refine lv_goto (tgt := 13) hx hb dLw_cell_9 rfl ?_
    exact hend (xs 0) _ _ _ _ dLw_cell_13 hP hD hS hw
