/-! a contract on a part of a world, said of the whole world -/
theorem xMetC {l : Launch} {y : MethodName} {ws : List Cond} {rm : Room} {Pc Pc' : Array Value → State → Prop} {Qc Qc' : Array Value → State → Outcome → State → Prop} {mc ms : Nat} {free free' : Addr → Prop} (h : Met l y ws rm Pc Qc mc ms free) (hp : ∀ a s, Pc' a s → Pc a s) (hq : ∀ a s o t, Pc' a s → Qc a s o t → s.WarmedH t.vm → Qc' a s o t) (hf : ∀ q, free q → free' q) : Met l y ws rm Pc' Qc' mc ms free' := by
  intro p e ha hc hk s m args below hfr happ hP hK
  obtain ⟨n, o, h1, h2, h3, hQ, L, hF, hL⟩ := h p e ha hc hk s m args below hfr happ (hp _ _ hP) trivial
  exact ⟨n, o, h1, h2, h3, hq _ _ _ _ hP hQ hF.2.1, L, hF, fun q hq' => hf _ (hL q hq')⟩
theorem xAsub {WD wc : va_W} {sz : Nat} {isC : List Nat} (hC : isC.map (fun i => WD[i]?) = wc.map some) : ∀ q, va_A wc sz q → va_A WD sz q := by
  intro q h
  rcases h with ⟨k, e, h⟩ | h
  · obtain ⟨i, e', h'⟩ := xMem_sub hC q ⟨k, e, h⟩
    exact Or.inl ⟨i, e', h'⟩
  · exact Or.inr h
theorem xjoin {D : va_G} {tys tys' : List (ClassId × FieldType)} {WD wc w1 : va_W} {s t : State} (hW : s.WarmedH t.vm) (hP : va_P D vwCl WD s.heap) (hK : va_K D vwCl tys' s) (hD : va_D (fun _ => True) WD) (isC isR : List Nat) (hC : isC.map (fun i => WD[i]?) = wc.map some) (hR : isR.map (fun i => WD[i]?) = (isR.filterMap (fun i => WD[i]?)).map some) (hn : va_nd isR = true) (hdis : (isR.all fun i => !isC.contains i) = true) (isP : List Nat) (hn2 : va_nd isP = true)
    (hP2 : isP.map (fun i => (isR.filterMap (fun i => WD[i]?) ++ w1)[i]?) = (isP.filterMap (fun i => (isR.filterMap (fun i => WD[i]?) ++ w1)[i]?)).map some) (hB : xB D tys (va_A wc s.heap.size) w1 t) (hF : va_F (va_A wc s.heap.size) s t) :
    xB D tys' (va_A WD s.heap.size) (isP.filterMap (fun i => (isR.filterMap (fun i => WD[i]?) ++ w1)[i]?)) t ∧ va_F (va_A WD s.heap.size) s t := by
  have hA := xAsub (sz := s.heap.size) hC
  obtain ⟨hP', hD'⟩ := va_join hP (hD.self (sz := s.heap.size)) isC isR hC hR hn (fun i hi hc => by
    have h1 := List.all_eq_true.mp hdis i hi
    simp at h1
    exact h1 hc) hF.2 hA hB.1 hB.2.2
  exact ⟨⟨hP'.sub isP rfl, va_K.moved hW.alike hK, hD'.sub isP hn2 hP2⟩, hF.1, fun q h1 h2 => hF.2 q h1 (fun z => h2 (hA q z))⟩
section XL
variable {l : Launch} {y : MethodName} {ws : List Cond} {rm : Room} {av : List Value} {D : va_G} {tys tys' : List (ClassId × FieldType)} {WD wc : va_W} {mc ms : Nat}
theorem xliftLi {S : Type} {post : Int32 → S → Prop} {w1 : S → va_W} {sz : Nat} (hM : Met l y ws rm (va_Pc av (xPcL D tys wc sz)) (va_Qi post (fun u t => xB D tys (va_A wc sz) (w1 u) t) (va_A wc sz)) mc ms (va_A wc sz)) (isT : List Nat) (hT : isT.filterMap (fun i => tys'[i]?) = tys) (isC isR : List Nat) (hC : isC.map (fun i => WD[i]?) = wc.map some) (hnC : va_nd isC = true) (hR : isR.map (fun i => WD[i]?) = (isR.filterMap (fun i => WD[i]?)).map some) (hn : va_nd isR = true) (hdis : (isR.all fun i => !isC.contains i) = true) (isP : List Nat) (hn2 : va_nd isP = true)
    (hP2 : ∀ u, isP.map (fun i => (isR.filterMap (fun i => WD[i]?) ++ w1 u)[i]?) = (isP.filterMap (fun i => (isR.filterMap (fun i => WD[i]?) ++ w1 u)[i]?)).map some) :
    Met l y ws rm (va_Pc av (xPcL D tys' WD sz)) (va_Qi post (fun u t => xB D tys' (va_A WD sz) (isP.filterMap (fun i => (isR.filterMap (fun i => WD[i]?) ++ w1 u)[i]?)) t) (va_A WD sz)) mc ms (va_A WD sz) := by
  refine xMetC hM ?_ ?_ (xAsub hC)
  · intro a s h
    obtain ⟨h0, ⟨⟨h1, h2, h3, h4, h5⟩, h6⟩, h7⟩ := h
    exact ⟨h0, ⟨⟨h1, xP_sub h2 hC, h3.sub isT hT, h4.sub isC hnC hC, h5⟩, xEE_moved (State.WarmedH.refl s) (xMem_sub hC) h6⟩, h7⟩
  · intro a s o t h hq hW
    obtain ⟨h0, ⟨⟨h1, h2, h3, h4, h5⟩, h6⟩, h7⟩ := h
    subst h1
    obtain ⟨⟨r, u, ho, hp, hB⟩, hF⟩ := hq
    obtain ⟨b1, b2⟩ := xjoin hW h2 h3 h4 isC isR hC hR hn hdis isP hn2 (hP2 u) hB hF
    exact ⟨⟨r, u, ho, hp, b1⟩, b2⟩
theorem xlifti {S : Type} {post : Int32 → S → Prop} {w1 : S → va_W} {sz : Nat} (hM : Met l y ws rm (va_Pc av (xPc D tys wc sz)) (va_Qi post (fun u t => xB D tys (va_A wc sz) (w1 u) t) (va_A wc sz)) mc ms (va_A wc sz)) (isT : List Nat) (hT : isT.filterMap (fun i => tys'[i]?) = tys) (isC isR : List Nat) (hC : isC.map (fun i => WD[i]?) = wc.map some) (hnC : va_nd isC = true) (hR : isR.map (fun i => WD[i]?) = (isR.filterMap (fun i => WD[i]?)).map some) (hn : va_nd isR = true) (hdis : (isR.all fun i => !isC.contains i) = true) (isP : List Nat) (hn2 : va_nd isP = true)
    (hP2 : ∀ u, isP.map (fun i => (isR.filterMap (fun i => WD[i]?) ++ w1 u)[i]?) = (isP.filterMap (fun i => (isR.filterMap (fun i => WD[i]?) ++ w1 u)[i]?)).map some) :
    Met l y ws rm (va_Pc av (xPc D tys' WD sz)) (va_Qi post (fun u t => xB D tys' (va_A WD sz) (isP.filterMap (fun i => (isR.filterMap (fun i => WD[i]?) ++ w1 u)[i]?)) t) (va_A WD sz)) mc ms (va_A WD sz) := by
  refine xMetC hM ?_ ?_ (xAsub hC)
  · intro a s h
    obtain ⟨h0, h1, h2, h3, h4, h5⟩ := h
    exact ⟨h0, h1, xP_sub h2 hC, h3.sub isT hT, h4.sub isC hnC hC, h5⟩
  · intro a s o t h hq hW
    obtain ⟨h0, h1, h2, h3, h4, h5⟩ := h
    subst h1
    obtain ⟨⟨r, u, ho, hp, hB⟩, hF⟩ := hq
    obtain ⟨b1, b2⟩ := xjoin hW h2 h3 h4 isC isR hC hR hn hdis isP hn2 (hP2 u) hB hF
    exact ⟨⟨r, u, ho, hp, b1⟩, b2⟩
theorem xliftv {S : Type} {post : S → Prop} {w1 : S → va_W} {sz : Nat} (hM : Met l y ws rm (va_Pc av (xPc D tys wc sz)) (va_Qv post (fun u t => xB D tys (va_A wc sz) (w1 u) t) (va_A wc sz)) mc ms (va_A wc sz)) (isT : List Nat) (hT : isT.filterMap (fun i => tys'[i]?) = tys) (isC isR : List Nat) (hC : isC.map (fun i => WD[i]?) = wc.map some) (hnC : va_nd isC = true) (hR : isR.map (fun i => WD[i]?) = (isR.filterMap (fun i => WD[i]?)).map some) (hn : va_nd isR = true) (hdis : (isR.all fun i => !isC.contains i) = true) (isP : List Nat) (hn2 : va_nd isP = true)
    (hP2 : ∀ u, isP.map (fun i => (isR.filterMap (fun i => WD[i]?) ++ w1 u)[i]?) = (isP.filterMap (fun i => (isR.filterMap (fun i => WD[i]?) ++ w1 u)[i]?)).map some) :
    Met l y ws rm (va_Pc av (xPc D tys' WD sz)) (va_Qv post (fun u t => xB D tys' (va_A WD sz) (isP.filterMap (fun i => (isR.filterMap (fun i => WD[i]?) ++ w1 u)[i]?)) t) (va_A WD sz)) mc ms (va_A WD sz) := by
  refine xMetC hM ?_ ?_ (xAsub hC)
  · intro a s h
    obtain ⟨h0, h1, h2, h3, h4, h5⟩ := h
    exact ⟨h0, h1, xP_sub h2 hC, h3.sub isT hT, h4.sub isC hnC hC, h5⟩
  · intro a s o t h hq hW
    obtain ⟨h0, h1, h2, h3, h4, h5⟩ := h
    subst h1
    obtain ⟨⟨u, ho, hp, hB⟩, hF⟩ := hq
    obtain ⟨b1, b2⟩ := xjoin hW h2 h3 h4 isC isR hC hR hn hdis isP hn2 (hP2 u) hB hF
    exact ⟨⟨u, ho, hp, b1⟩, b2⟩
end XL
section XLP
variable {l : Launch} {y : MethodName} {ws : List Cond} {rm : Room} {av : List Value} {D : va_G} {tys tys' : List (ClassId × FieldType)} {WD wc : va_W} {mc ms : Nat}
/-- the same, with the whole state behind it named -/
theorem xliftL {S S' : Type} {post : Int32 → S → Prop} {post' : Int32 → S' → Prop} {w1 : S → va_W} {WX : S' → va_W} {sz : Nat} (hM : Met l y ws rm (va_Pc av (xPcL D tys wc sz)) (va_Qi post (fun u t => xB D tys (va_A wc sz) (w1 u) t) (va_A wc sz)) mc ms (va_A wc sz)) (isT : List Nat) (hT : isT.filterMap (fun i => tys'[i]?) = tys) (isC isR : List Nat) (hC : isC.map (fun i => WD[i]?) = wc.map some) (hnC : va_nd isC = true) (hR : isR.map (fun i => WD[i]?) = (isR.filterMap (fun i => WD[i]?)).map some) (hn : va_nd isR = true) (hdis : (isR.all fun i => !isC.contains i) = true) (isP : List Nat) (hn2 : va_nd isP = true)
    (hP2 : ∀ u, isP.map (fun i => (isR.filterMap (fun i => WD[i]?) ++ w1 u)[i]?) = (isP.filterMap (fun i => (isR.filterMap (fun i => WD[i]?) ++ w1 u)[i]?)).map some) (φ : S → S') (hφ : ∀ u, isP.filterMap (fun i => (isR.filterMap (fun i => WD[i]?) ++ w1 u)[i]?) = WX (φ u)) (hpp : ∀ r u, post r u → post' r (φ u)) :
    Met l y ws rm (va_Pc av (xPcL D tys' WD sz)) (va_Qi post' (fun u t => xB D tys' (va_A WD sz) (WX u) t) (va_A WD sz)) mc ms (va_A WD sz) := by
  refine xMetC (xliftLi hM isT hT isC isR hC hnC hR hn hdis isP hn2 hP2) (fun _ _ h => h) ?_ (fun _ h => h)
  intro a s o t h hq hW
  obtain ⟨⟨r, u, ho, hp, hB⟩, hF⟩ := hq
  exact ⟨⟨r, φ u, ho, hpp r u hp, by show xB D tys' (va_A WD sz) (WX (φ u)) t; rw [← hφ u]; exact hB⟩, hF⟩
theorem xliftM {S S' : Type} {post : Int32 → S → Prop} {post' : Int32 → S' → Prop} {w1 : S → va_W} {WX : S' → va_W} {sz : Nat} (hM : Met l y ws rm (va_Pc av (xPc D tys wc sz)) (va_Qi post (fun u t => xB D tys (va_A wc sz) (w1 u) t) (va_A wc sz)) mc ms (va_A wc sz)) (isT : List Nat) (hT : isT.filterMap (fun i => tys'[i]?) = tys) (isC isR : List Nat) (hC : isC.map (fun i => WD[i]?) = wc.map some) (hnC : va_nd isC = true) (hR : isR.map (fun i => WD[i]?) = (isR.filterMap (fun i => WD[i]?)).map some) (hn : va_nd isR = true) (hdis : (isR.all fun i => !isC.contains i) = true) (isP : List Nat) (hn2 : va_nd isP = true)
    (hP2 : ∀ u, isP.map (fun i => (isR.filterMap (fun i => WD[i]?) ++ w1 u)[i]?) = (isP.filterMap (fun i => (isR.filterMap (fun i => WD[i]?) ++ w1 u)[i]?)).map some) (φ : S → S') (hφ : ∀ u, isP.filterMap (fun i => (isR.filterMap (fun i => WD[i]?) ++ w1 u)[i]?) = WX (φ u)) (hpp : ∀ r u, post r u → post' r (φ u)) :
    Met l y ws rm (va_Pc av (xPc D tys' WD sz)) (va_Qi post' (fun u t => xB D tys' (va_A WD sz) (WX u) t) (va_A WD sz)) mc ms (va_A WD sz) := by
  refine xMetC (xlifti hM isT hT isC isR hC hnC hR hn hdis isP hn2 hP2) (fun _ _ h => h) ?_ (fun _ h => h)
  intro a s o t h hq hW
  obtain ⟨⟨r, u, ho, hp, hB⟩, hF⟩ := hq
  exact ⟨⟨r, φ u, ho, hpp r u hp, by show xB D tys' (va_A WD sz) (WX (φ u)) t; rw [← hφ u]; exact hB⟩, hF⟩
theorem xliftMv {S S' : Type} {post : S → Prop} {post' : S' → Prop} {w1 : S → va_W} {WX : S' → va_W} {sz : Nat} (hM : Met l y ws rm (va_Pc av (xPc D tys wc sz)) (va_Qv post (fun u t => xB D tys (va_A wc sz) (w1 u) t) (va_A wc sz)) mc ms (va_A wc sz)) (isT : List Nat) (hT : isT.filterMap (fun i => tys'[i]?) = tys) (isC isR : List Nat) (hC : isC.map (fun i => WD[i]?) = wc.map some) (hnC : va_nd isC = true) (hR : isR.map (fun i => WD[i]?) = (isR.filterMap (fun i => WD[i]?)).map some) (hn : va_nd isR = true) (hdis : (isR.all fun i => !isC.contains i) = true) (isP : List Nat) (hn2 : va_nd isP = true)
    (hP2 : ∀ u, isP.map (fun i => (isR.filterMap (fun i => WD[i]?) ++ w1 u)[i]?) = (isP.filterMap (fun i => (isR.filterMap (fun i => WD[i]?) ++ w1 u)[i]?)).map some) (φ : S → S') (hφ : ∀ u, isP.filterMap (fun i => (isR.filterMap (fun i => WD[i]?) ++ w1 u)[i]?) = WX (φ u)) (hpp : ∀ u, post u → post' (φ u)) :
    Met l y ws rm (va_Pc av (xPc D tys' WD sz)) (va_Qv post' (fun u t => xB D tys' (va_A WD sz) (WX u) t) (va_A WD sz)) mc ms (va_A WD sz) := by
  refine xMetC (xliftv hM isT hT isC isR hC hnC hR hn hdis isP hn2 hP2) (fun _ _ h => h) ?_ (fun _ h => h)
  intro a s o t h hq hW
  obtain ⟨⟨u, ho, hp, hB⟩, hF⟩ := hq
  exact ⟨⟨φ u, ho, hpp u hp, by show xB D tys' (va_A WD sz) (WX (φ u)) t; rw [← hφ u]; exact hB⟩, hF⟩
end XLP
abbrev SX : Type := (Bool) × (Nat → Int32) × (Nat → Int32) × (Nat → Int32) × (Nat → Int32) × (Nat → Int32) × (Nat → Int32) × (Nat → Int32) × (Nat → Int32) × (Nat → Int32) × (Int32) × (Int32) × (Nat → Int32) × (Nat → Int32) × (Nat → Int32) × (Nat → Int32) × (Nat → Int32) × (Nat → Int32) × (Nat → Int32) × (Nat → Int32) × (Nat → Int32) × (Nat → Int32) × (Nat → Int32) × (Nat → Int32) × (Nat → Int32) × (Nat → Int32) × (Nat → Int32) × (Nat → Int32) × (Nat → Int32) × (Int32) × (Int32) × (Nat → Int32) × (Nat → Int32) × (Nat → Int32) × (Nat → Int32) × (Int32) × (Nat → Int32) × (Nat → Int32) × (Int32) × (Int32) × (Nat → Int32) × (Int32) × (Int32) × (Nat → Int32) × (Int32) × (Int32) × (Nat → Int32) × (Nat → Int64)
abbrev SM : Type := (Int32) × (Int32) × (Bool) × (Int32) × (Bool) × (Nat → Int32) × (Nat → Int32) × (Nat → Int32) × (Nat → Int32) × (Nat → Int32) × (Nat → Int32) × (Nat → Int32) × (Nat → Int32) × (Nat → Int32) × (Nat → Int32) × (Nat → Int32) × (Nat → Int32) × (Nat → Int32) × (Nat → Int32) × (Nat → Int32) × (Nat → Int32) × (Nat → Int32) × (Nat → Bool) × (Nat → Bool) × (Nat → Int32) × (Nat → Int32) × (Nat → Int32) × (Nat → Int32) × (Nat → Int32) × (Nat → Int32) × (Nat → Int32) × (Nat → Int32) × (Nat → Int32)
abbrev WX (cA cL : ClassId) (ad : Nat → Nat) (oa N : Nat) (u : SX) : va_W := wdAll cA ad N (u.1) (u.2.1) (u.2.2.1) (u.2.2.2.1) (u.2.2.2.2.1) (u.2.2.2.2.2.1) (u.2.2.2.2.2.2.1) (u.2.2.2.2.2.2.2.1) (u.2.2.2.2.2.2.2.2.1) (u.2.2.2.2.2.2.2.2.2.1) (u.2.2.2.2.2.2.2.2.2.2.1) (u.2.2.2.2.2.2.2.2.2.2.2.1) (u.2.2.2.2.2.2.2.2.2.2.2.2.1) (u.2.2.2.2.2.2.2.2.2.2.2.2.2.1) (u.2.2.2.2.2.2.2.2.2.2.2.2.2.2.1) (u.2.2.2.2.2.2.2.2.2.2.2.2.2.2.2.1) (u.2.2.2.2.2.2.2.2.2.2.2.2.2.2.2.2.1) (u.2.2.2.2.2.2.2.2.2.2.2.2.2.2.2.2.2.1) (u.2.2.2.2.2.2.2.2.2.2.2.2.2.2.2.2.2.2.1) (u.2.2.2.2.2.2.2.2.2.2.2.2.2.2.2.2.2.2.2.1) (u.2.2.2.2.2.2.2.2.2.2.2.2.2.2.2.2.2.2.2.2.1) (u.2.2.2.2.2.2.2.2.2.2.2.2.2.2.2.2.2.2.2.2.2.1) (u.2.2.2.2.2.2.2.2.2.2.2.2.2.2.2.2.2.2.2.2.2.2.1) (u.2.2.2.2.2.2.2.2.2.2.2.2.2.2.2.2.2.2.2.2.2.2.2.1) (u.2.2.2.2.2.2.2.2.2.2.2.2.2.2.2.2.2.2.2.2.2.2.2.2.1) (u.2.2.2.2.2.2.2.2.2.2.2.2.2.2.2.2.2.2.2.2.2.2.2.2.2.1) (u.2.2.2.2.2.2.2.2.2.2.2.2.2.2.2.2.2.2.2.2.2.2.2.2.2.2.1) (u.2.2.2.2.2.2.2.2.2.2.2.2.2.2.2.2.2.2.2.2.2.2.2.2.2.2.2.1) (u.2.2.2.2.2.2.2.2.2.2.2.2.2.2.2.2.2.2.2.2.2.2.2.2.2.2.2.2.1) (u.2.2.2.2.2.2.2.2.2.2.2.2.2.2.2.2.2.2.2.2.2.2.2.2.2.2.2.2.2.1) (u.2.2.2.2.2.2.2.2.2.2.2.2.2.2.2.2.2.2.2.2.2.2.2.2.2.2.2.2.2.2.1) (u.2.2.2.2.2.2.2.2.2.2.2.2.2.2.2.2.2.2.2.2.2.2.2.2.2.2.2.2.2.2.2.1) (u.2.2.2.2.2.2.2.2.2.2.2.2.2.2.2.2.2.2.2.2.2.2.2.2.2.2.2.2.2.2.2.2.1) (u.2.2.2.2.2.2.2.2.2.2.2.2.2.2.2.2.2.2.2.2.2.2.2.2.2.2.2.2.2.2.2.2.2.1) (u.2.2.2.2.2.2.2.2.2.2.2.2.2.2.2.2.2.2.2.2.2.2.2.2.2.2.2.2.2.2.2.2.2.2.1) (u.2.2.2.2.2.2.2.2.2.2.2.2.2.2.2.2.2.2.2.2.2.2.2.2.2.2.2.2.2.2.2.2.2.2.2.1) (u.2.2.2.2.2.2.2.2.2.2.2.2.2.2.2.2.2.2.2.2.2.2.2.2.2.2.2.2.2.2.2.2.2.2.2.2.1) (u.2.2.2.2.2.2.2.2.2.2.2.2.2.2.2.2.2.2.2.2.2.2.2.2.2.2.2.2.2.2.2.2.2.2.2.2.2.1) (u.2.2.2.2.2.2.2.2.2.2.2.2.2.2.2.2.2.2.2.2.2.2.2.2.2.2.2.2.2.2.2.2.2.2.2.2.2.2.1) (u.2.2.2.2.2.2.2.2.2.2.2.2.2.2.2.2.2.2.2.2.2.2.2.2.2.2.2.2.2.2.2.2.2.2.2.2.2.2.2.1) (u.2.2.2.2.2.2.2.2.2.2.2.2.2.2.2.2.2.2.2.2.2.2.2.2.2.2.2.2.2.2.2.2.2.2.2.2.2.2.2.2.1) (u.2.2.2.2.2.2.2.2.2.2.2.2.2.2.2.2.2.2.2.2.2.2.2.2.2.2.2.2.2.2.2.2.2.2.2.2.2.2.2.2.2.1) (u.2.2.2.2.2.2.2.2.2.2.2.2.2.2.2.2.2.2.2.2.2.2.2.2.2.2.2.2.2.2.2.2.2.2.2.2.2.2.2.2.2.2.1) (u.2.2.2.2.2.2.2.2.2.2.2.2.2.2.2.2.2.2.2.2.2.2.2.2.2.2.2.2.2.2.2.2.2.2.2.2.2.2.2.2.2.2.2.1) (u.2.2.2.2.2.2.2.2.2.2.2.2.2.2.2.2.2.2.2.2.2.2.2.2.2.2.2.2.2.2.2.2.2.2.2.2.2.2.2.2.2.2.2.2.1) (u.2.2.2.2.2.2.2.2.2.2.2.2.2.2.2.2.2.2.2.2.2.2.2.2.2.2.2.2.2.2.2.2.2.2.2.2.2.2.2.2.2.2.2.2.2.1) (u.2.2.2.2.2.2.2.2.2.2.2.2.2.2.2.2.2.2.2.2.2.2.2.2.2.2.2.2.2.2.2.2.2.2.2.2.2.2.2.2.2.2.2.2.2.2.1) ++ [(oa, .inl (cL, 1, .inr (.inl u.2.2.2.2.2.2.2.2.2.2.2.2.2.2.2.2.2.2.2.2.2.2.2.2.2.2.2.2.2.2.2.2.2.2.2.2.2.2.2.2.2.2.2.2.2.2.2)))]
abbrev WM (cA cB : ClassId) (bd : Nat → Nat) (N : Nat) (v : SM) : va_W := wdMd cA cB bd N (v.1) (v.2.1) (v.2.2.1) (v.2.2.2.1) (v.2.2.2.2.1) (v.2.2.2.2.2.1) (v.2.2.2.2.2.2.1) (v.2.2.2.2.2.2.2.1) (v.2.2.2.2.2.2.2.2.1) (v.2.2.2.2.2.2.2.2.2.1) (v.2.2.2.2.2.2.2.2.2.2.1) (v.2.2.2.2.2.2.2.2.2.2.2.1) (v.2.2.2.2.2.2.2.2.2.2.2.2.1) (v.2.2.2.2.2.2.2.2.2.2.2.2.2.1) (v.2.2.2.2.2.2.2.2.2.2.2.2.2.2.1) (v.2.2.2.2.2.2.2.2.2.2.2.2.2.2.2.1) (v.2.2.2.2.2.2.2.2.2.2.2.2.2.2.2.2.1) (v.2.2.2.2.2.2.2.2.2.2.2.2.2.2.2.2.2.1) (v.2.2.2.2.2.2.2.2.2.2.2.2.2.2.2.2.2.2.1) (v.2.2.2.2.2.2.2.2.2.2.2.2.2.2.2.2.2.2.2.1) (v.2.2.2.2.2.2.2.2.2.2.2.2.2.2.2.2.2.2.2.2.1) (v.2.2.2.2.2.2.2.2.2.2.2.2.2.2.2.2.2.2.2.2.2.1) (v.2.2.2.2.2.2.2.2.2.2.2.2.2.2.2.2.2.2.2.2.2.2.1) (v.2.2.2.2.2.2.2.2.2.2.2.2.2.2.2.2.2.2.2.2.2.2.2.1) (v.2.2.2.2.2.2.2.2.2.2.2.2.2.2.2.2.2.2.2.2.2.2.2.2.1) (v.2.2.2.2.2.2.2.2.2.2.2.2.2.2.2.2.2.2.2.2.2.2.2.2.2.1) (v.2.2.2.2.2.2.2.2.2.2.2.2.2.2.2.2.2.2.2.2.2.2.2.2.2.2.1) (v.2.2.2.2.2.2.2.2.2.2.2.2.2.2.2.2.2.2.2.2.2.2.2.2.2.2.2.1) (v.2.2.2.2.2.2.2.2.2.2.2.2.2.2.2.2.2.2.2.2.2.2.2.2.2.2.2.2.1) (v.2.2.2.2.2.2.2.2.2.2.2.2.2.2.2.2.2.2.2.2.2.2.2.2.2.2.2.2.2.1) (v.2.2.2.2.2.2.2.2.2.2.2.2.2.2.2.2.2.2.2.2.2.2.2.2.2.2.2.2.2.2.1) (v.2.2.2.2.2.2.2.2.2.2.2.2.2.2.2.2.2.2.2.2.2.2.2.2.2.2.2.2.2.2.2.1) (v.2.2.2.2.2.2.2.2.2.2.2.2.2.2.2.2.2.2.2.2.2.2.2.2.2.2.2.2.2.2.2.2)
