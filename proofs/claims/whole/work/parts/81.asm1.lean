/-! the class's assemble -/
noncomputable def parF (sc : Nat → Nat → Prop) (N c : Nat) : Nat := @Classical.epsilon Nat ⟨0⟩ (fun p => ParIs sc N c p)
theorem parF_is {sc : Nat → Nat → Prop} {N c p : Nat} (h : ParIs sc N c p) : parF sc N c = p := (Classical.epsilon_spec (p := fun p => ParIs sc N c p) ⟨p, h⟩ : ParIs sc N c (parF sc N c)).uniq h
def nsF (stepCount : Nat → Int32) (b : Nat) : Nat := min 6 (stepCount b).toNatClampNeg
theorem nsF_eq {stepCount : Nat → Int32} {b k : Nat} (hk : k ≤ 6) (h : stepCount b = nI k) : nsF stepCount b = k := by
  unfold nsF
  rw [h, jI_nat (by omega)]
  omega
/-- what a step's first use names; its second; the end's -/
def UW (ns : Nat → Nat) (kind first : Nat → Int32) (la : Nat → Nat → Nat → Nat) (c k : Nat) (x : Int32) : Prop := (k < ns c ∧ ¬ kind (c * 6 + k) = 0 ∧ ∃ w, w < 6 ∧ first (c * 6 + k) = nI w ∧ x = nI (la c w k)) ∨ ((¬ k < ns c ∨ kind (c * 6 + k) = 0) ∧ x = -1)
def UX (ns : Nat → Nat) (kind second : Nat → Int32) (la : Nat → Nat → Nat → Nat) (c k : Nat) (x : Int32) : Prop := (k < ns c ∧ (¬ kind (c * 6 + k) < 2 ∧ ¬ 6 < kind (c * 6 + k)) ∧ ∃ w, w < 6 ∧ second (c * 6 + k) = nI w ∧ x = nI (la c w k)) ∨ ((¬ k < ns c ∨ ¬ (¬ kind (c * 6 + k) < 2 ∧ ¬ 6 < kind (c * 6 + k))) ∧ x = -1)
def UE (ns : Nat → Nat) (forkVariable : Nat → Int32) (la : Nat → Nat → Nat → Nat) (c : Nat) (x : Int32) : Prop := (∃ v, v < 6 ∧ forkVariable c = nI v ∧ x = nI (la c v (ns c))) ∨ (forkVariable c = -1 ∧ x = -1)
theorem lastName_sp {N : Nat} (hN : N ≤ 12) {LN : Nat → Int32} {b v : Nat} (hb : b ≤ N) (hv : v < 6) {post : Int32 → Prop} (hp : post (LN (b * 6 + v))) : wpNamedForm_lastName N LN (nI b) (nI v) post := by
  unfold wpNamedForm_lastName
  rw [jt6, jI_mul, jI_add, jI_in (by omega), jI_nat (by omega)]
  exact ⟨fun _ => ⟨by omega, hp⟩, fun q => absurd q (jI_m1 (by omega))⟩
theorem lastName_no {N : Nat} {LN : Nat → Int32} {b : Int32} {post : Int32 → Prop} (hp : post (-1)) : wpNamedForm_lastName N LN b (-1) post := ⟨fun q => absurd rfl q, fun _ => hp⟩
theorem newName_sp {N : Nat} (hN : N ≤ 12) {LN num hb hp : Nat → Int32} {v b c : Nat} {pl : Int32} (hv : v < 6) (hbN : b ≤ N) (hc : c < 100) (e : num v = nI c) {post : Int32 → (Nat → Int32) → (Nat → Int32) → (Nat → Int32) → (Nat → Int32) → Prop} (h : post (nI (100 * v + c)) (upd LN (b * 6 + v) (nI (100 * v + c))) (upd num v (nI (c + 1))) (upd hb (100 * v + c) (nI b)) (upd hp (100 * v + c) pl)) : wpNamedForm_newName N LN num hb hp (nI v) (nI b) pl post := by
  unfold wpNamedForm_newName
  rw [jI_in (by omega), jI_nat (by omega)]
  refine ⟨hv, fun x hx => ?_⟩
  rw [e, show (100 : Int32) = nI 100 from rfl, jI_mul, jI_add] at hx
  subst hx
  rw [jI_in (by omega), jI_nat (by omega), jt6, jI_mul, jI_add, jI_in (by omega), jI_nat (by omega), e, jI_one]
  exact ⟨hv, hv, by omega, by omega, by omega, h⟩
section NBL
variable {N : Nat} {stepCount kind target first second forkVariable yes no starts mMany mKinds mVs mWs mXs mEnds mEndVariable mYes mNo mStarts : Nat → Int32}
theorem firstVariable_sp (hN : N ≤ 12) {b k : Nat} (hb : b < N) (hk : k < 6) {post : Int32 → Prop} (h1 : kind (b * 6 + k) = 0 → post (-1)) (h2 : ¬ kind (b * 6 + k) = 0 → post (first (b * 6 + k))) : wpProgram_firstVariable N kind first (nI b) (nI k) post := by
  intro v hv
  rw [jt6, jI_mul, jI_add] at hv
  subst hv
  rw [jI_in (by omega), jI_nat (by omega)]
  exact ⟨by omega, fun q => ⟨fun _ => h1 q, fun z => by (cases z)⟩, fun q => ⟨fun z => by (cases z), fun _ => ⟨by omega, h2 q⟩⟩⟩
theorem secondVariable_sp (hN : N ≤ 12) {b k : Nat} (hb : b < N) (hk : k < 6) {post : Int32 → Prop} (h1 : ¬ (¬ kind (b * 6 + k) < 2 ∧ ¬ 6 < kind (b * 6 + k)) → post (-1)) (h2 : (¬ kind (b * 6 + k) < 2 ∧ ¬ 6 < kind (b * 6 + k)) → post (second (b * 6 + k))) : wpProgram_secondVariable N kind second (nI b) (nI k) post := by
  intro v hv
  rw [jt6, jI_mul, jI_add] at hv
  subst hv
  rw [jI_in (by omega), jI_nat (by omega)]
  exact ⟨by omega, fun q => ⟨fun _ => h1 fun z => z.1 q, fun z => by (cases z)⟩, fun q => ⟨fun q2 => ⟨fun _ => h1 fun z => z.2 q2, fun z => by (cases z)⟩, fun q2 => ⟨fun z => by (cases z), fun _ => ⟨by omega, h2 ⟨q, q2⟩⟩⟩⟩⟩
theorem st_var (hP : PR N stepCount kind target first second forkVariable yes no starts mMany mKinds mVs mWs mXs mEnds mEndVariable mYes mNo mStarts) {b k : Nat} (hb : b < N) (hk : k < nsF stepCount b) : nI k < stepCount b ∧ k < 6 ∧ ((kind (b * 6 + k) = 7 ∧ ∀ v, ¬ sets kind target b k v) ∨ (¬ kind (b * 6 + k) = 7 ∧ ∃ v, v < 6 ∧ target (b * 6 + k) = nI v ∧ sets kind target b k v)) := by
  obtain ⟨n, hn, en, -⟩ := hP.ct b hb
  rw [nsF_eq hn en] at hk
  have hlt : nI k < stepCount b := by rw [en, jI_lt (by omega) (by omega)]; exact hk
  refine ⟨hlt, by omega, ?_⟩
  by_cases e : kind (b * 6 + k) = 7
  · exact Or.inl ⟨e, fun v h => h.1 e⟩
  · obtain ⟨v, hv, e2⟩ := (hP.st b hb k (by omega) hlt).2.2.2.2.2.2.1 e
    exact Or.inr ⟨e, v, hv, e2, e, e2⟩
theorem sets_uni {b k v v' : Nat} (hv : v < 6) (hv' : v' < 6) (h : sets kind target b k v) (h' : sets kind target b k v') : v = v' := (jI_eq (by omega) (by omega)).mp (h.2.symm.trans h'.2)
end NBL
section NB2
variable {N : Nat} {stepCount kind target first second forkVariable yes no starts mMany mKinds mVs mWs mXs mEnds mEndVariable mYes mNo mStarts : Nat → Int32} {ord vis rest : List Nat} {mt : Nat → Nat → Prop} {par : Nat → Nat} {b : Nat}
/-- the class names the meetings of b -/
theorem nb_meets (hx : NX N ord (nsF stepCount) (sets kind target)) (ho : ord = vis ++ b :: rest) {x : Nat → Nat} {LN0 sn : Nat → Int32} {K : Int32 → (Nat → Int32) → (Nat → Int32) → (Nat → Int32) → (Nat → Int32) → (Nat → Int32) → Prop} (hK : ∀ mn LN num hb hp, NS N ord (nsF stepCount) (sets kind target) mt vis b 6 0 mn sn hb hp num (fun m => ¬ hb m = -1) → (∀ j, (∀ v, v < 6 → j ≠ b * 6 + v) → LN j = LN0 j) → (∀ v, v < 6 → LN (b * 6 + v) = nI (lst ord (nsF stepCount) (sets kind target) mt b v (x v) 0)) → ∀ y, K y mn LN num hb hp) :
    ∀ (d i : Nat) (mn LN num hb hp : Nat → Int32), i + d = 6 → NS N ord (nsF stepCount) (sets kind target) mt vis b i 0 mn sn hb hp num (fun m => ¬ hb m = -1) → (∀ j, (∀ v, v < 6 → j ≠ b * 6 + v) → LN j = LN0 j) → (∀ v, v < 6 → LN (b * 6 + v) = nI (cif (v < i) (lst ord (nsF stepCount) (sets kind target) mt b v (x v) 0) (x v))) → lpNamedForm_nameBlock_32 N (nI b) K (d + 1) (nI i) mn LN num hb hp := by
  intro d
  induction d with
  | zero =>
    intro i mn LN num hb hp hi h h2 h3
    have : i = 6 := by omega
    subst this
    refine ⟨fun _ => hK mn LN num hb hp h h2 (fun v hv => by rw [h3 v hv, cif_pos hv]) _, fun q => absurd (Int32.le_refl _) q⟩
  | succ d ih =>
    intro i mn LN num hb hp hi h h2 h3
    obtain ⟨o1, o2, o3⟩ := ordb hx ho
    have hN := hx.1
    refine ⟨fun q => ?_, fun _ => ?_⟩
    · rw [jt6, jI_le (by omega) (by omega)] at q; omega
    · rw [jt6, jI_mul, jI_add, jI_in (by omega), jI_nat (by omega), jI_one]
      have hmn := h.2.1 b o2 i (by omega)
      have hnd : ¬ mD vis b i b i := by
        rintro (z | z)
        · exact o1 z
        · omega
      refine ⟨by omega, fun q => ?_, fun q => ?_⟩
      · have hm : ¬ mt b i := fun z => by rw [hmn.2.1 z hnd] at q; exact absurd q (by decide)
        refine ih (i + 1) mn LN num hb hp (by omega) (h.meetSkip hm) h2 fun v hv => ?_
        rw [h3 v hv]
        by_cases e : v = i
        · subst e
          rw [cif_neg (by omega), cif_pos (by omega)]
          simp only [lst]
          rw [cif_neg hm]
        · by_cases e2 : v < i
          · rw [cif_pos e2, cif_pos (by omega)]
          · rw [cif_neg e2, cif_neg (by omega)]
      · have hm : mt b i := Classical.byContradiction fun z => q (hmn.2.2 z)
        have hcl := cur_lt (mt := mt) (i := i) (k := 0) hx ho (by omega) i
        obtain ⟨n1, n2, n3⟩ := h.meet hx ho (by omega) hm (nm' := fun m => ¬ upd hb (mNm ord (nsF stepCount) (sets kind target) mt b i) (nI b) m = -1) (fun m => by
          by_cases e : m = mNm ord (nsF stepCount) (sets kind target) mt b i
          · subst e
            rw [upd_same]
            exact ⟨fun _ => Or.inl rfl, fun _ => jI_m1 (by omega)⟩
          · rw [upd_other _ _ e]
            exact ⟨Or.inr, fun z => z.resolve_left e⟩)
        refine newName_sp hN (by omega) (by omega) (by omega) n1 ⟨by omega, ?_⟩
        rw [← n2]
        refine ih (i + 1) _ _ _ _ _ (by omega) n3 (fun j hj => ?_) (fun v hv => ?_)
        · rw [upd_other _ _ (hj i (by omega))]; exact h2 j hj
        · by_cases e : v = i
          · subst e
            rw [upd_same, cif_pos (by omega)]
            simp only [lst]
            rw [cif_pos hm]
          · rw [upd_other _ _ (by omega), h3 v hv]
            by_cases e2 : v < i
            · rw [cif_pos e2, cif_pos (by omega)]
            · rw [cif_neg e2, cif_neg (by omega)]
/-- the class names the steps of b -/
theorem nb_steps (hx : NX N ord (nsF stepCount) (sets kind target)) (ho : ord = vis ++ b :: rest) (hP : PR N stepCount kind target first second forkVariable yes no starts mMany mKinds mVs mWs mXs mEnds mEndVariable mYes mNo mStarts) {LN0 mn fu0 su0 : Nat → Int32} {K : Int32 → (Nat → Int32) → (Nat → Int32) → (Nat → Int32) → (Nat → Int32) → (Nat → Int32) → (Nat → Int32) → (Nat → Int32) → Prop}
    (hK : ∀ sn fu su LN num hb hp, NS N ord (nsF stepCount) (sets kind target) mt vis b 6 (nsF stepCount b) mn sn hb hp num (fun m => ¬ hb m = -1) → (∀ j, (∀ v, v < 6 → j ≠ b * 6 + v) → LN j = LN0 j) → (∀ v, v < 6 → LN (b * 6 + v) = nI (lat N ord (nsF stepCount) (sets kind target) mt par b v (nsF stepCount b))) → (∀ j, (∀ k, k < 6 → j ≠ b * 6 + k) → fu j = fu0 j ∧ su j = su0 j) → (∀ k, k < nsF stepCount b → UW (nsF stepCount) kind first (lat N ord (nsF stepCount) (sets kind target) mt par) b k (fu (b * 6 + k)) ∧ UX (nsF stepCount) kind second (lat N ord (nsF stepCount) (sets kind target) mt par) b k (su (b * 6 + k))) → (∀ k, k < 6 → nsF stepCount b ≤ k → fu (b * 6 + k) = fu0 (b * 6 + k) ∧ su (b * 6 + k) = su0 (b * 6 + k)) → ∀ y, K y sn fu su LN num hb hp) :
    ∀ (d i : Nat) (sn fu su LN num hb hp : Nat → Int32), i + d = nsF stepCount b → NS N ord (nsF stepCount) (sets kind target) mt vis b 6 i mn sn hb hp num (fun m => ¬ hb m = -1) → (∀ j, (∀ v, v < 6 → j ≠ b * 6 + v) → LN j = LN0 j) → (∀ v, v < 6 → LN (b * 6 + v) = nI (lat N ord (nsF stepCount) (sets kind target) mt par b v i)) → (∀ j, (∀ k, k < 6 → j ≠ b * 6 + k) → fu j = fu0 j ∧ su j = su0 j) → (∀ k, k < i → UW (nsF stepCount) kind first (lat N ord (nsF stepCount) (sets kind target) mt par) b k (fu (b * 6 + k)) ∧ UX (nsF stepCount) kind second (lat N ord (nsF stepCount) (sets kind target) mt par) b k (su (b * 6 + k))) → (∀ k, k < 6 → i ≤ k → fu (b * 6 + k) = fu0 (b * 6 + k) ∧ su (b * 6 + k) = su0 (b * 6 + k)) → lpNamedForm_nameBlock_79 N (nI b) stepCount kind target first second K (d + 1) (nI i) sn fu su LN num hb hp := by
  obtain ⟨o1, o2, o3⟩ := ordb hx ho
  have hN := hx.1
  obtain ⟨n, hn, en, -⟩ := hP.ct b o2
  have hns := nsF_eq hn en
  intro d
  induction d with
  | zero =>
    intro i sn fu su LN num hb hp hi h h2 h3 h4 h5 h6
    have : i = nsF stepCount b := by omega
    subst this
    unfold lpNamedForm_nameBlock_79 wpProgram_stepsOf
    rw [jI_in (by omega), jI_nat (by omega), en, hns]
    rw [hns] at h h3 h5 h6
    refine ⟨o2, fun _ => ?_, fun q => absurd (Int32.le_refl _) q⟩
    have := hK sn fu su LN num hb hp
    rw [hns] at this
    exact this h h2 h3 h4 h5 h6 _
  | succ d ih =>
    intro i sn fu su LN num hb hp hi h h2 h3 h4 h5 h6
    have hin : i < nsF stepCount b := by omega
    obtain ⟨hlt, hi6, hvar⟩ := st_var hP o2 hin
    have st := (hP.st b o2 i hi6 hlt).2.2.2.2
    unfold lpNamedForm_nameBlock_79 wpProgram_stepsOf
    rw [jI_in (by omega), jI_nat (by omega), en]
    refine ⟨o2, fun q => ?_, fun _ => ?_⟩
    · rw [jI_le (by omega) (by omega)] at q; omega
    rw [jI_one]
    intro v3 hv3
    rw [jt6, jI_mul, jI_add] at hv3
    subst hv3
    rw [jI_in (by omega), jI_nat (by omega)]
    -- behind the two uses
    have fin : ∀ r23 r43 : Int32, UW (nsF stepCount) kind first (lat N ord (nsF stepCount) (sets kind target) mt par) b i r23 → UX (nsF stepCount) kind second (lat N ord (nsF stepCount) (sets kind target) mt par) b i r43 → wpProgram_variableSet N kind target (nI b) (nI i) (fun (r53 : Int32) => ((r53 = (-1) → (lpNamedForm_nameBlock_79 N (nI b) stepCount kind target first second K (d + 1) (nI (i + 1)) sn (upd fu (b * 6 + i) r23) (upd su (b * 6 + i) r43) LN num hb hp)) ∧ (¬ r53 = (-1) → wpNamedForm_newName N LN num hb hp r53 (nI b) (nI i) (fun (r74 : Int32) (lastNames_74 : Nat → Int32) (namesOf_74 : Nat → Int32) (homeBlock_74 : Nat → Int32) (homePlace_74 : Nat → Int32) => b * 6 + i < N * 6 ∧ (lpNamedForm_nameBlock_79 N (nI b) stepCount kind target first second K (d + 1) (nI (i + 1)) (upd sn (b * 6 + i) r74) (upd fu (b * 6 + i) r23) (upd su (b * 6 + i) r43) lastNames_74 namesOf_74 homeBlock_74 homePlace_74))))) := by
      intro r23 r43 hU1 hU2
      have g4 : ∀ j, (∀ k, k < 6 → j ≠ b * 6 + k) → upd fu (b * 6 + i) r23 j = fu0 j ∧ upd su (b * 6 + i) r43 j = su0 j := fun j hj => by
        rw [upd_other _ _ (hj i hi6), upd_other _ _ (hj i hi6)]; exact h4 j hj
      have g5 : ∀ k, k < i + 1 → UW (nsF stepCount) kind first (lat N ord (nsF stepCount) (sets kind target) mt par) b k (upd fu (b * 6 + i) r23 (b * 6 + k)) ∧ UX (nsF stepCount) kind second (lat N ord (nsF stepCount) (sets kind target) mt par) b k (upd su (b * 6 + i) r43 (b * 6 + k)) := fun k hk => by
        by_cases e : k = i
        · subst e; rw [upd_same, upd_same]; exact ⟨hU1, hU2⟩
        · rw [upd_other _ _ (by omega), upd_other _ _ (by omega)]; exact h5 k (by omega)
      have g6 : ∀ k, k < 6 → i + 1 ≤ k → upd fu (b * 6 + i) r23 (b * 6 + k) = fu0 (b * 6 + k) ∧ upd su (b * 6 + i) r43 (b * 6 + k) = su0 (b * 6 + k) := fun k hk hik => by
        rw [upd_other _ _ (by omega), upd_other _ _ (by omega)]; exact h6 k hk (by omega)
      rcases hvar with ⟨q, hno⟩ | ⟨q, v, hv, et, hs⟩
      · refine variableSet_sp hN o2 hi6 (fun _ => ⟨fun _ => ih (i + 1) sn _ _ LN num hb hp (by omega) (h.stepSkip fun v _ => hno v) h2 (fun v hv => ?_) g4 g5 g6, fun z => absurd rfl z⟩) (fun z => absurd q z)
        rw [h3 v hv]
        unfold lat
        simp only [lst]
        rw [cif_neg (hno v)]
      · refine variableSet_sp hN o2 hi6 (fun z => absurd z q) (fun _ => ?_)
        rw [et]
        refine ⟨fun z => absurd z (jI_m1 (by omega)), fun _ => ?_⟩
        have hcl := cur_lt (mt := mt) (i := 6) (k := i) hx ho (by omega) v
        obtain ⟨n1, n2, n3⟩ := h.step hx ho hin hv hs (nm' := fun m => ¬ upd hb (sNm ord (nsF stepCount) (sets kind target) mt b i v) (nI b) m = -1) (fun m => by
          by_cases e : m = sNm ord (nsF stepCount) (sets kind target) mt b i v
          · subst e
            rw [upd_same]
            exact ⟨fun _ => Or.inl rfl, fun _ => jI_m1 (by omega)⟩
          · rw [upd_other _ _ e]
            exact ⟨Or.inr, fun z => z.resolve_left e⟩)
        refine newName_sp hN hv (by omega) (by omega) n1 ⟨by omega, ?_⟩
        rw [← n2]
        refine ih (i + 1) _ _ _ _ _ _ _ (by omega) n3 (fun j hj => ?_) (fun w hw => ?_) g4 g5 g6
        · rw [upd_other _ _ (hj v hv)]; exact h2 j hj
        · unfold lat
          simp only [lst]
          by_cases e : w = v
          · subst e; rw [upd_same, cif_pos hs]
          · rw [upd_other _ _ (by omega), h3 w hw, cif_neg (fun z => e (sets_uni hw hv z hs))]
            rfl
    have sec : ∀ r23 : Int32, UW (nsF stepCount) kind first (lat N ord (nsF stepCount) (sets kind target) mt par) b i r23 → wpProgram_secondVariable N kind second (nI b) (nI i) (fun (r40 : Int32) => wpNamedForm_lastName N LN (nI b) r40 (fun (r43 : Int32) => b * 6 + i < N * 6 ∧ wpProgram_variableSet N kind target (nI b) (nI i) (fun (r53 : Int32) => ((r53 = (-1) → (lpNamedForm_nameBlock_79 N (nI b) stepCount kind target first second K (d + 1) (nI (i + 1)) sn (upd fu (b * 6 + i) r23) (upd su (b * 6 + i) r43) LN num hb hp)) ∧ (¬ r53 = (-1) → wpNamedForm_newName N LN num hb hp r53 (nI b) (nI i) (fun (r74 : Int32) (lastNames_74 : Nat → Int32) (namesOf_74 : Nat → Int32) (homeBlock_74 : Nat → Int32) (homePlace_74 : Nat → Int32) => b * 6 + i < N * 6 ∧ (lpNamedForm_nameBlock_79 N (nI b) stepCount kind target first second K (d + 1) (nI (i + 1)) (upd sn (b * 6 + i) r74) (upd fu (b * 6 + i) r23) (upd su (b * 6 + i) r43) lastNames_74 namesOf_74 homeBlock_74 homePlace_74))))))) := by
      intro r23 hU1
      refine secondVariable_sp hN o2 hi6 (fun q => lastName_no ⟨by omega, fin r23 _ hU1 (Or.inr ⟨Or.inr q, rfl⟩)⟩) (fun q => ?_)
      obtain ⟨w, hw, ew⟩ := st.2.2.2.2 q.1 q.2
      rw [ew]
      refine lastName_sp hN (by omega) hw ⟨by omega, fin r23 _ hU1 (Or.inl ⟨hin, q, w, hw, ew, h3 w hw⟩)⟩
    refine firstVariable_sp hN o2 hi6 (fun q => lastName_no ⟨by omega, sec _ (Or.inr ⟨Or.inr q, rfl⟩)⟩) (fun q => ?_)
    obtain ⟨w, hw, ew⟩ := st.2.2.2.1 q
    rw [ew]
    exact lastName_sp hN (by omega) hw ⟨by omega, sec _ (Or.inl ⟨hin, q, w, hw, ew, h3 w hw⟩)⟩
end NB2
