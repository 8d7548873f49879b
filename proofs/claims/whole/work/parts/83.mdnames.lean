/-! the reference's names -/
section NEWN
variable {N : Nat} {ord : List Nat} {ns : Nat → Nat} {st : Nat → Nat → Nat → Prop} {mt : Nat → Nat → Prop} {vis rest : List Nat} {b i k : Nat} {mn sn hb hp num : Nat → Int32} {nm : Nat → Prop}
theorem NS.meetNew (hx : NX N ord ns st) (ho : ord = vis ++ b :: rest) (h : NS N ord ns st mt vis b i 0 mn sn hb hp num nm) (hi : i < 6) : ¬ nm (100 * i + cur ns st mt vis b i 0 i) := by
  have hc := cur_lt (mt := mt) (i := i) (k := 0) hx ho (by omega) i
  refine h.2.2.2.2 _ (by omega) fun c pl a => ?_
  obtain ⟨v, x, h1, h2, h3⟩ := a.bound ho hx.2.1 (Or.inl rfl)
  have := cur_lt (mt := mt) (i := i) (k := 0) hx ho (by omega) v
  have e4 : v = i := by omega
  subst e4
  omega
theorem NS.stepNew (hx : NX N ord ns st) (ho : ord = vis ++ b :: rest) (h : NS N ord ns st mt vis b 6 k mn sn hb hp num nm) (hk : k < ns b) {v : Nat} (hv : v < 6) : ¬ nm (100 * v + cur ns st mt vis b 6 k v) := by
  have hc := cur_lt (mt := mt) (i := 6) (k := k) hx ho (by omega) v
  refine h.2.2.2.2 _ (by omega) fun c pl a => ?_
  obtain ⟨w, x, h1, h2, h3⟩ := a.bound ho hx.2.1 (Or.inr rfl)
  have := cur_lt (mt := mt) (i := 6) (k := k) hx ho (by omega) w
  have e4 : w = v := by omega
  subst e4
  omega
end NEWN
def cntB (g : Nat → Bool) : Nat → Nat
  | 0 => 0
  | n + 1 => cntB g n + (if g n = true then 1 else 0)
theorem updB_same (g : Nat → Bool) (k : Nat) (z : Bool) : updB g k z k = z := by simp [updB]
theorem updB_other (g : Nat → Bool) {k j : Nat} (z : Bool) (h : j ≠ k) : updB g k z j = g j := by simp [updB, h]
theorem cntB_upd {g : Nat → Bool} {k : Nat} (h : ¬ g k = true) (n : Nat) : cntB (updB g k true) n = cntB g n + (if k < n then 1 else 0) := by
  induction n with
  | zero => rfl
  | succ n ih =>
    simp only [cntB, ih]
    by_cases e : n = k
    · subst e
      rw [updB_same, if_pos rfl, if_neg h, if_neg (by omega), if_pos (by omega)]
    · rw [updB_other _ _ e]
      by_cases e2 : k < n
      · rw [if_pos e2, if_pos (show k < n + 1 by omega)]; omega
      · rw [if_neg e2, if_neg (show ¬ k < n + 1 by omega)]; omega
/-- the sum of the counters -/
def sm (num : Nat → Int32) : Nat := sumN (fun v => (num v).toNatClampNeg) 6
theorem sumN_upd {f g : Nat → Nat} {v : Nat} (h1 : g v = f v + 1) (h2 : ∀ w, w ≠ v → g w = f w) (n : Nat) : sumN g n = sumN f n + (if v < n then 1 else 0) := by
  induction n with
  | zero => rfl
  | succ n ih =>
    simp only [sumN, ih]
    by_cases e : n = v
    · subst e
      rw [h1, if_neg (by omega), if_pos (by omega)]; omega
    · rw [h2 n e]
      by_cases e2 : v < n
      · rw [if_pos e2, if_pos (by omega)]; omega
      · rw [if_neg e2, if_neg (by omega)]; omega
theorem sm_upd {num : Nat → Int32} {v c : Nat} (hv : v < 6) (hc : c < 1000) (e : num v = nI c) : sm (upd num v (nI (c + 1))) = sm num + 1 := by
  unfold sm
  rw [sumN_upd (f := fun v => (num v).toNatClampNeg) (g := fun w => (upd num v (nI (c + 1)) w).toNatClampNeg) (v := v) (by
    show (upd num v (nI (c + 1)) v).toNatClampNeg = (num v).toNatClampNeg + 1
    rw [upd_same, e, jI_nat (by omega), jI_nat (by omega)]) (fun w hw => by
    show (upd num v (nI (c + 1)) w).toNatClampNeg = (num w).toNatClampNeg
    rw [upd_other _ _ hw]), if_pos hv]
theorem mdNewName_sp {isn : Nat → Bool} {nb nst num : Nat → Int32} {v c : Nat} {x pl : Int32} (hv : v < 6) (hc : c < 100) (e : num v = nI c) {post : Int32 → (Nat → Bool) → (Nat → Int32) → (Nat → Int32) → (Nat → Int32) → Prop} (h : post (nI (100 * v + c)) (updB isn (100 * v + c) true) (upd nb (100 * v + c) x) (upd nst (100 * v + c) pl) (upd num v (nI (c + 1)))) : wpMd_newName isn nb nst num (nI v) x pl post := by
  unfold wpMd_newName
  rw [jI_in (by omega), jI_nat (by omega)]
  refine ⟨hv, fun y hy => ?_⟩
  rw [e, show (100 : Int32) = nI 100 from rfl, jI_mul, jI_add] at hy
  subst hy
  rw [jI_in (by omega), jI_nat (by omega), e, jI_one]
  exact ⟨hv, hv, by omega, by omega, by omega, h⟩
section MB
variable {N : Nat} {stepCount kind target first second forkVariable yes no starts mMany mKinds mVs mWs mXs mEnds mEndVariable mYes mNo mStarts : Nat → Int32} {ord vis rest : List Nat} {mt : Nat → Nat → Prop} {b : Nat}
theorem mb_meets (hx : NX N ord (nsF stepCount) (sets kind target)) (ho : ord = vis ++ b :: rest) {sn : Nat → Int32} {K : Int32 → (Nat → Int32) → (Nat → Bool) → (Nat → Int32) → (Nat → Int32) → (Nat → Int32) → Prop} (hK : ∀ mn isn nb nst num, NS N ord (nsF stepCount) (sets kind target) mt vis b 6 0 mn sn nb nst num (fun m => isn m = true) → cntB isn 600 = sm num → ∀ y, K y mn isn nb nst num) :
    ∀ (d i : Nat) (mn : Nat → Int32) (isn : Nat → Bool) (nb nst num : Nat → Int32), i + d = 6 → NS N ord (nsF stepCount) (sets kind target) mt vis b i 0 mn sn nb nst num (fun m => isn m = true) → cntB isn 600 = sm num → lpMd_nameBlockOf_2 (nI b) K (d + 1) (nI i) mn isn nb nst num := by
  intro d
  induction d with
  | zero =>
    intro i mn isn nb nst num hi h h2
    have : i = 6 := by omega
    subst this
    exact ⟨fun _ => hK mn isn nb nst num h h2 _, fun q => absurd (Int32.le_refl _) q⟩
  | succ d ih =>
    intro i mn isn nb nst num hi h h2
    obtain ⟨o1, o2, o3⟩ := ordb hx ho
    have hN := hx.1
    refine ⟨fun q => ?_, fun _ => ?_⟩
    · rw [jt6, jI_le (by omega) (by omega)] at q; omega
    · rw [jt6, jI_mul, jI_add, jI_in (by omega), jI_nat (by omega), jI_one, show 6 * b + i = b * 6 + i by omega]
      have hmn := h.2.1 b o2 i (by omega)
      have hnd : ¬ mD vis b i b i := by
        rintro (z | z)
        · exact o1 z
        · omega
      refine ⟨by omega, fun q => ?_, fun q => ?_⟩
      · have hm : ¬ mt b i := fun z => by rw [hmn.2.1 z hnd] at q; exact absurd q (by decide)
        exact ih (i + 1) mn isn nb nst num (by omega) (h.meetSkip hm) h2
      · have hm : mt b i := Classical.byContradiction fun z => q (by rw [hmn.2.2 z]; decide)
        have hcl := cur_lt (mt := mt) (i := i) (k := 0) hx ho (by omega) i
        have hnew := h.meetNew hx ho (by omega)
        obtain ⟨n1, n2, n3⟩ := h.meet hx ho (by omega) hm (nm' := fun m => updB isn (mNm ord (nsF stepCount) (sets kind target) mt b i) true m = true) (fun m => by
          by_cases e : m = mNm ord (nsF stepCount) (sets kind target) mt b i
          · subst e
            rw [updB_same]
            exact ⟨fun _ => Or.inl rfl, fun _ => rfl⟩
          · rw [updB_other _ _ e]
            exact ⟨Or.inr, fun z => z.resolve_left e⟩)
        refine mdNewName_sp (by omega) (by omega) n1 ⟨by omega, ?_⟩
        rw [← n2]
        refine ih (i + 1) _ _ _ _ _ (by omega) n3 ?_
        rw [n2, cntB_upd hnew, if_pos (by omega), sm_upd (by omega) (by omega) n1, h2]
theorem mb_steps (hx : NX N ord (nsF stepCount) (sets kind target)) (ho : ord = vis ++ b :: rest) (hP : PR N stepCount kind target first second forkVariable yes no starts mMany mKinds mVs mWs mXs mEnds mEndVariable mYes mNo mStarts) {mn : Nat → Int32} {post : (Nat → Int32) → (Nat → Int32) → (Nat → Bool) → (Nat → Int32) → (Nat → Int32) → (Nat → Int32) → Prop} {sn0 : Nat → Int32} (hpp : ∀ sn isn nb nst num, NS N ord (nsF stepCount) (sets kind target) mt vis b 6 (nsF stepCount b) mn sn nb nst num (fun m => isn m = true) → cntB isn 600 = sm num → (∀ j, (∀ k, k < nsF stepCount b → j ≠ b * 6 + k) → sn j = sn0 j) → post mn sn isn nb nst num) :
    ∀ (d i : Nat) (sn : Nat → Int32) (isn : Nat → Bool) (nb nst num : Nat → Int32), i + d = nsF stepCount b → NS N ord (nsF stepCount) (sets kind target) mt vis b 6 i mn sn nb nst num (fun m => isn m = true) → cntB isn 600 = sm num → (∀ j, (∀ k, k < nsF stepCount b → j ≠ b * 6 + k) → sn j = sn0 j) → lpMd_nameBlockOf_48 (nI b) mMany mKinds mVs mn post (d + 1) (nI i) sn isn nb nst num := by
  obtain ⟨o1, o2, o3⟩ := ordb hx ho
  have hN := hx.1
  obtain ⟨n, hn, en, em⟩ := hP.ct b o2
  have hns := nsF_eq hn en
  intro d
  induction d with
  | zero =>
    intro i sn isn nb nst num hi h h2 h3
    have e : i = n := by omega
    subst e
    unfold lpMd_nameBlockOf_48
    rw [jI_in (by omega), jI_nat (by omega), em]
    rw [← hns] at h
    exact ⟨by omega, fun _ => hpp sn isn nb nst num h h2 h3, fun q => absurd (Int32.le_refl _) q⟩
  | succ d ih =>
    intro i sn isn nb nst num hi h h2 h3
    have hin : i < nsF stepCount b := by omega
    obtain ⟨hlt, hi6, hvar⟩ := st_var hP o2 hin
    have st := hP.st b o2 i hi6 hlt
    unfold lpMd_nameBlockOf_48
    rw [jI_in (by omega), jI_nat (by omega), em, jI_one]
    refine ⟨by omega, fun q => ?_, fun _ v hv => ?_⟩
    · rw [jI_le (by omega) (by omega)] at q; omega
    rw [jt6, jI_mul, jI_add, show 6 * b + i = b * 6 + i by omega] at hv
    subst hv
    rw [jI_in (by omega), jI_nat (by omega), ← st.1, ← st.2.1, kind7 st.2.2.2.2]
    refine ⟨by omega, fun q => ⟨by omega, ?_⟩, fun q => ⟨by omega, ?_⟩⟩
    · rcases hvar with ⟨-, hno⟩ | ⟨z, -⟩
      · have hold : sn (b * 6 + i) = -1 := (h.2.2.1 b o2 i hi6).2 (Or.inr (Or.inr fun v _ => hno v))
        have e : upd sn (b * 6 + i) (-1) = sn := by
          funext j
          by_cases e : j = b * 6 + i
          · subst e; rw [upd_same, hold]
          · rw [upd_other _ _ e]
        rw [e]
        exact ih (i + 1) sn isn nb nst num (by omega) (h.stepSkip fun v _ => hno v) h2 h3
      · exact absurd q z
    · rcases hvar with ⟨z, -⟩ | ⟨-, v, hv, et, hs⟩
      · exact absurd z q
      rw [et]
      have hcl := cur_lt (mt := mt) (i := 6) (k := i) hx ho (by omega) v
      have hnew := h.stepNew hx ho hin hv
      obtain ⟨n1, n2, n3⟩ := h.step hx ho hin hv hs (nm' := fun m => updB isn (sNm ord (nsF stepCount) (sets kind target) mt b i v) true m = true) (fun m => by
        by_cases e : m = sNm ord (nsF stepCount) (sets kind target) mt b i v
        · subst e
          rw [updB_same]
          exact ⟨fun _ => Or.inl rfl, fun _ => rfl⟩
        · rw [updB_other _ _ e]
          exact ⟨Or.inr, fun z => z.resolve_left e⟩)
      refine mdNewName_sp hv (by omega) n1 ⟨by omega, ?_⟩
      rw [← n2]
      refine ih (i + 1) _ _ _ _ _ (by omega) n3 ?_ (fun j hj => ?_)
      · rw [n2, cntB_upd hnew, if_pos (by omega), sm_upd hv (by omega) n1, h2]
      · rw [upd_other _ _ (hj i hin)]; exact h3 j hj
theorem nameBlockOf_sp (hx : NX N ord (nsF stepCount) (sets kind target)) (ho : ord = vis ++ b :: rest) (hP : PR N stepCount kind target first second forkVariable yes no starts mMany mKinds mVs mWs mXs mEnds mEndVariable mYes mNo mStarts) {mn sn : Nat → Int32} {isn : Nat → Bool} {nb nst num : Nat → Int32} (h : NS N ord (nsF stepCount) (sets kind target) mt vis b 0 0 mn sn nb nst num (fun m => isn m = true)) (h2 : cntB isn 600 = sm num) {post : (Nat → Int32) → (Nat → Int32) → (Nat → Bool) → (Nat → Int32) → (Nat → Int32) → (Nat → Int32) → Prop} (hp : ∀ mn sn' isn nb nst num, (∀ b', NS N ord (nsF stepCount) (sets kind target) mt (vis ++ [b]) b' 0 0 mn sn' nb nst num (fun m => isn m = true)) → cntB isn 600 = sm num → (∀ j, (∀ k, k < nsF stepCount b → j ≠ b * 6 + k) → sn' j = sn j) → post mn sn' isn nb nst num) : wpMd_nameBlockOf mMany mKinds mVs mn sn isn nb nst num (nI b) post := by
  refine ⟨6 + 1, mb_meets hx ho (fun mn isn nb nst num h h2 y => ⟨nsF stepCount b + 1, ?_⟩) 6 0 mn isn nb nst num (by omega) h h2⟩
  exact mb_steps hx ho hP (sn0 := sn) (fun sn' isn nb nst num h h2 h3 => hp _ _ _ _ _ _ (fun b' => h.next hx b') h2 h3) (nsF stepCount b) 0 sn isn nb nst num (by omega) h h2 (fun j _ => rfl)
end MB
/-! the reference goes through the tree; the last names as it finds them -/
theorem kid_root {sc : Nat → Nat → Prop} {N : Nat} (hN0 : 0 < N) : kid sc N N = [0] := by
  have hm : ∀ x, x ∈ kid sc N N ↔ x = 0 := by
    intro x
    rw [kid_mem]
    constructor
    · rintro ⟨h1, h2, h3⟩
      refine Classical.byContradiction fun e => ?_
      have := (h3.lt h2 e).1
      omega
    · rintro rfl
      exact ⟨hN0, .zero trivial, ParIs.zero⟩
  have hn : (kid sc N N).Nodup := kids_nodup N (Nat.le_refl _)
  cases hk : kid sc N N with
  | nil => have := (hm 0).mpr rfl; rw [hk] at this; cases this
  | cons x l =>
    have hx : x = 0 := (hm x).mp (by rw [hk]; simp)
    subst hx
    cases l with
    | nil => rfl
    | cons y l =>
      have hy : y = 0 := (hm y).mp (by rw [hk]; simp)
      subst hy
      rw [hk] at hn
      simp at hn
section GN
variable {N : Nat} {stepCount kind target first second forkVariable yes no starts mMany mKinds mVs mWs mXs mEnds mEndVariable mYes mNo mStarts : Nat → Int32} {mt : Nat → Nat → Prop}
theorem gn_in (hN0 : 0 < N) (hN : N ≤ 12) {R : Int32} (hR : ∀ c, bt R c = true ↔ Rch (gsc N yes no) okT c) {D : Nat → Int32} (hD : ∀ c, c < N → ∀ x, bt (D c) x = true ↔ Dm (gsc N yes no) x c) {b : Nat} (hb : b ≤ N) {st : List Nat} (hlen : st.length ≤ N) {K : Int32 → Int32 → (Nat → Int32) → Prop} (hK : ∀ W, Stk W (kid (gsc N yes no) N b ++ st) → K (nI (kid (gsc N yes no) N b ++ st).length) (-1) W) :
    ∀ (d i : Nat) (W : Nat → Int32), i + d = N → Stk W (kids (chd (gsc N yes no) N b) N d ++ st) → lpMd_giveNames_128 N (nI b) R D K (i + 1) (nI (kids (chd (gsc N yes no) N b) N d ++ st).length) (if i = 0 then -1 else nI (i - 1)) W := by
  intro d i
  induction i generalizing d with
  | zero =>
    intro W hi h
    have : d = N := by omega
    subst this
    exact ⟨fun _ => hK W h, fun q => absurd (by decide) q⟩
  | succ i ih =>
    intro W hi h
    rw [if_neg (by omega), show i + 1 - 1 = i by omega]
    refine ⟨fun q => absurd q (jI_neg (by omega)), fun _ => ?_⟩
    have e1 : nI i + (-1) = if i = 0 then -1 else nI (i - 1) := by
      by_cases e : i = 0
      · subst e; rfl
      · rw [if_neg e, jI_pred (by omega)]
    rw [e1]
    have e2 : N - (d + 1) = i := by omega
    have hkl : ∀ d', (kids (chd (gsc N yes no) N b) N d').length ≤ d' := by
      intro d'
      induction d' with
      | zero => exact Nat.le_refl _
      | succ k ih =>
        by_cases z : chd (gsc N yes no) N b (N - (k + 1))
        · rw [kids_pos z, List.length_cons]; omega
        · rw [kids_neg z]; omega
    have skip : ¬ chd (gsc N yes no) N b i → lpMd_giveNames_128 N (nI b) R D K (i + 1) (nI (kids (chd (gsc N yes no) N b) N d ++ st).length) (if i = 0 then -1 else nI (i - 1)) W := by
      intro hn
      have e3 : kids (chd (gsc N yes no) N b) N (d + 1) = kids (chd (gsc N yes no) N b) N d := kids_neg (by rw [e2]; exact hn)
      rw [← e3]
      exact ih (d + 1) W (by omega) (by rw [e3]; exact h)
    refine md_has (by omega) ⟨fun q => skip fun z => ?_, fun q => md_parent hN0 hN hD (show i < N by omega) fun p hp => ?_⟩
    · rw [(hR i).mpr z.1] at q; cases q
    · have hpN : p ≤ N := by rcases hp with z | z <;> omega
      rw [jI_eq (by omega) (by omega)]
      refine ⟨fun q2 => skip fun z => q2 (hp.uniq z.2), fun q2 => ?_⟩
      subst q2
      have hn : chd (gsc N yes no) N p i := ⟨(hR i).mp q, hp⟩
      have e3 : kids (chd (gsc N yes no) N p) N (d + 1) = i :: kids (chd (gsc N yes no) N p) N d := by
        rw [kids_pos (by rw [e2]; exact hn), e2]
      have h4 := hkl d
      have h5 : (kids (chd (gsc N yes no) N p) N d ++ st).length < 80 := by
        rw [List.length_append]; omega
      rw [jI_in (by omega), jI_nat (by omega), jI_one]
      refine ⟨h5, ?_⟩
      have := ih (d + 1) (upd W (kids (chd (gsc N yes no) N p) N d ++ st).length (nI i)) (by omega) (by
        rw [e3]
        exact ⟨upd_same _ _ _, h.upd (Nat.le_refl _)⟩)
      rw [e3] at this
      exact this
theorem gn_loop (hN0 : 0 < N) (hN : N ≤ 12) (hP : PR N stepCount kind target first second forkVariable yes no starts mMany mKinds mVs mWs mXs mEnds mEndVariable mYes mNo mStarts) (hPar : HasPar (gsc N yes no) N) {R : Int32} (hR : ∀ c, bt R c = true ↔ Rch (gsc N yes no) okT c) {D : Nat → Int32} (hD : ∀ c, c < N → ∀ x, bt (D c) x = true ↔ Dm (gsc N yes no) x c) {gone : Nat → Bool} {post : (Nat → Int32) → (Nat → Int32) → (Nat → Bool) → (Nat → Bool) → (Nat → Int32) → (Nat → Int32) → (Nat → Int32) → (Nat → Int32) → Prop} {sn0 : Nat → Int32}
    (hp : ∀ mn sn isn nb nst num op, (∀ b', NS N (ordOf (gsc N yes no) N) (nsF stepCount) (sets kind target) mt (ordOf (gsc N yes no) N) b' 0 0 mn sn nb nst num (fun m => isn m = true)) → cntB isn 600 = sm num → (∀ j, (∀ c, c < N → ∀ k, k < nsF stepCount c → j ≠ c * 6 + k) → sn j = sn0 j) → post mn sn gone isn nb nst num op) :
    ∀ (f : Nat) (st vis : List Nat) (mn sn : Nat → Int32) (isn : Nat → Bool) (nb nst num op : Nat → Int32), N - vis.length ≤ f → Tr (gsc N yes no) N st vis → Stk op st → (∀ b', NS N (ordOf (gsc N yes no) N) (nsF stepCount) (sets kind target) mt vis b' 0 0 mn sn nb nst num (fun m => isn m = true)) → cntB isn 600 = sm num → (∀ j, (∀ c, c < N → ∀ k, k < nsF stepCount c → j ≠ c * 6 + k) → sn j = sn0 j) → lpMd_giveNames_94 N R mMany mKinds mVs D gone post (f + 1) (nI st.length) mn sn isn nb nst num op := by
  have hx := NX.of (stepCount := stepCount) (kind := kind) (target := target) hN0 hN hPar
  intro f
  induction f with
  | zero =>
    intro st vis mn sn isn nb nst num op hf hT hW h h2 h3
    have hl := hT.len hN0 gsc_lt
    have : st = [] := List.eq_nil_of_length_eq_zero (by omega)
    subst this
    rw [hT.done] at h
    exact ⟨fun _ => hp mn sn isn nb nst num op h h2 h3, fun q => absurd (by decide) q⟩
  | succ f ih =>
    intro st vis mn sn isn nb nst num op hf hT hW h h2 h3
    have hl := hT.len hN0 gsc_lt
    cases st with
    | nil =>
      rw [hT.done] at h
      exact ⟨fun _ => hp mn sn isn nb nst num op h h2 h3, fun q => absurd (by decide) q⟩
    | cons x st =>
      simp only [List.length_cons] at hl
      have hxN : x < N := (hT.re x (by simp)).lt hN0 gsc_lt
      refine ⟨fun q => ?_, fun _ => ?_⟩
      · rw [jt0, jI_le (by simp only [List.length_cons]; omega) (by omega)] at q
        simp only [List.length_cons] at q
        omega
      · rw [List.length_cons, jI_pred (by omega), show st.length + 1 - 1 = st.length by omega, jI_in (by omega), jI_nat (by omega)]
        refine ⟨by omega, fun v hv => ?_⟩
        have e1 : v = nI x := hv.trans hW.1
        subst e1
        have ho : ∃ rest, ordOf (gsc N yes no) N = vis ++ x :: rest := by
          have := hT.od
          rw [show N - vis.length = (N - vis.length - 1) + 1 by omega] at this
          exact ⟨_, this.symm⟩
        obtain ⟨rest, ho⟩ := ho
        have hT' := hT.step hN0 gsc_lt
        refine ⟨fun mn sn isn nb nst num => (∀ b', NS N (ordOf (gsc N yes no) N) (nsF stepCount) (sets kind target) mt (vis ++ [x]) b' 0 0 mn sn nb nst num (fun m => isn m = true)) ∧ cntB isn 600 = sm num ∧ (∀ j, (∀ c, c < N → ∀ k, k < nsF stepCount c → j ≠ c * 6 + k) → sn j = sn0 j), fun mn sn isn nb nst num ⟨g1, g2, g3⟩ v3 hv3 => ⟨N + 1, ?_⟩, fun q => ?_, fun q => ?_⟩
        · have e4 : v3 = if N = 0 then -1 else nI (N - 1) := by
            rw [if_neg (by omega), hv3, show (1 : Int32) = nI 1 from rfl, jI_sub (by omega)]
          subst e4
          have := gn_in (yes := yes) (no := no) hN0 hN hR hD (b := x) (by omega) (st := st) (by omega) (K := fun v1_x169 v3_x169 mOpen_x169 => (lpMd_giveNames_94 N R mMany mKinds mVs D gone post (f + 1) v1_x169 mn sn isn nb nst num mOpen_x169)) (fun W' hW' => ih _ (vis ++ [x]) mn sn isn nb nst num W' (by rw [List.length_append, List.length_singleton]; omega) hT' hW' g1 g2 g3) 0 N op (by omega) hW.2
          exact this
        · rw [jI_le (by omega) (by omega)] at q; omega
        · refine nameBlockOf_sp hx ho hP (h x) h2 fun mn sn' isn nb nst num g1 g2 g3 => ⟨g1, g2, fun j hj => ?_⟩
          rw [g3 j fun k hk => hj x hxN k hk]
          exact h3 j hj
end GN
/-! the reference's giveNames and latest -/
section GN2
variable {N : Nat} {stepCount kind target first second forkVariable yes no starts mMany mKinds mVs mWs mXs mEnds mEndVariable mYes mNo mStarts : Nat → Int32}
theorem giveNames_sp (hN0 : 0 < N) (hN : N ≤ 12) (hP : PR N stepCount kind target first second forkVariable yes no starts mMany mKinds mVs mWs mXs mEnds mEndVariable mYes mNo mStarts) (hPar : HasPar (gsc N yes no) N) {R : Int32} (hR : ∀ c, bt R c = true ↔ Rch (gsc N yes no) okT c) {D : Nat → Int32} (hD : ∀ c, c < N → ∀ x, bt (D c) x = true ↔ Dm (gsc N yes no) x c) {mn : Nat → Int32} (hmk : MkIs N yes no stepCount kind target mn) {a2 : Nat → Int32} {a3 a4 : Nat → Bool} {a5 a6 a7 a8 : Nat → Int32} {post : (Nat → Int32) → (Nat → Int32) → (Nat → Bool) → (Nat → Bool) → (Nat → Int32) → (Nat → Int32) → (Nat → Int32) → (Nat → Int32) → Prop}
    (hp : ∀ mn sn gone isn nb nst num op, NSA N yes no stepCount kind target mn sn nb nst num (fun m => isn m = true) → cntB isn 600 = sm num → (∀ i, i < 72 → gone i = false) → (∀ j, j < 72 → (∀ c, c < N → ∀ k, k < nsF stepCount c → j ≠ c * 6 + k) → sn j = -1) → post mn sn gone isn nb nst num op) : wpMd_giveNames N R mMany mKinds mVs D mn a2 a3 a4 a5 a6 a7 a8 post := by
  have l1 : ∀ (K : Int32 → (Nat → Bool) → Prop), (∀ isn : Nat → Bool, (∀ i, i < 600 → isn i = false) → ∀ x, K x isn) → ∀ (d i : Nat) (isn : Nat → Bool), i + d = 600 → (∀ j, j < i → isn j = false) → lpMd_giveNames_2 K (d + 1) (nI i) isn := by
    intro K hK d
    induction d with
    | zero =>
      intro i isn hi h
      have : i = 600 := by omega
      subst this
      exact ⟨fun _ => hK isn h _, fun q => absurd (Int32.le_refl _) q⟩
    | succ d ih =>
      intro i isn hi h
      refine ⟨fun q => ?_, fun _ => ?_⟩
      · rw [show (600 : Int32) = nI 600 from rfl, jI_le (by omega) (by omega)] at q; omega
      · rw [jI_in (by omega), jI_one, jI_nat (by omega)]
        refine ⟨by omega, ih (i + 1) _ (by omega) fun c hc => ?_⟩
        by_cases e : c = i
        · subst e; rw [updB_same]
        · rw [updB_other _ _ e]; exact h c (by omega)
  have l2 : ∀ (K : Int32 → (Nat → Int32) → (Nat → Bool) → Prop), (∀ (sn : Nat → Int32) (gone : Nat → Bool), (∀ i, i < 72 → sn i = -1) → (∀ i, i < 72 → gone i = false) → ∀ x, K x sn gone) → ∀ (d i : Nat) (sn : Nat → Int32) (gone : Nat → Bool), i + d = 72 → (∀ j, j < i → sn j = -1) → (∀ j, j < i → gone j = false) → lpMd_giveNames_24 K (d + 1) (nI i) sn gone := by
    intro K hK d
    induction d with
    | zero =>
      intro i sn gone hi h h2
      have : i = 72 := by omega
      subst this
      exact ⟨fun _ => hK sn gone h h2 _, fun q => absurd (Int32.le_refl _) q⟩
    | succ d ih =>
      intro i sn gone hi h h2
      refine ⟨fun q => ?_, fun _ => ?_⟩
      · rw [show (72 : Int32) = nI 72 from rfl, jI_le (by omega) (by omega)] at q; omega
      · rw [jI_in (by omega), jI_one, jI_nat (by omega)]
        refine ⟨by omega, by omega, ih (i + 1) _ _ (by omega) (fun c hc => ?_) fun c hc => ?_⟩
        · by_cases e : c = i
          · subst e; rw [upd_same]
          · rw [upd_other _ _ e]; exact h c (by omega)
        · by_cases e : c = i
          · subst e; rw [updB_same]
          · rw [updB_other _ _ e]; exact h2 c (by omega)
  have l3 : ∀ (K : Int32 → (Nat → Bool) → (Nat → Int32) → (Nat → Int32) → (Nat → Int32) → Prop), (∀ (isn : Nat → Bool) (nb nst num : Nat → Int32), (∀ v, v < 6 → num v = nI 1) → (∀ v, v < 6 → isn (100 * v) = true ∧ nb (100 * v) = nI N ∧ nst (100 * v) = -1) → (∀ m, m < 600 → (∀ v, v < 6 → m ≠ 100 * v) → isn m = false) → cntB isn 600 = 6 → ∀ x, K x isn nb nst num) → ∀ (d i : Nat) (isn : Nat → Bool) (nb nst num : Nat → Int32), i + d = 6 → (∀ v, v < i → num v = nI 1) → (∀ v, v < i → isn (100 * v) = true ∧ nb (100 * v) = nI N ∧ nst (100 * v) = -1) → (∀ m, m < 600 → (∀ v, v < i → m ≠ 100 * v) → isn m = false) → cntB isn 600 = i → lpMd_giveNames_52 N K (d + 1) (nI i) isn nb nst num := by
    intro K hK d
    induction d with
    | zero =>
      intro i isn nb nst num hi g1 g2 g3 g4
      have : i = 6 := by omega
      subst this
      exact ⟨fun _ => hK isn nb nst num g1 g2 g3 g4 _, fun q => absurd (Int32.le_refl _) q⟩
    | succ d ih =>
      intro i isn nb nst num hi g1 g2 g3 g4
      refine ⟨fun q => ?_, fun _ => ?_⟩
      · rw [jt6, jI_le (by omega) (by omega)] at q; omega
      · rw [jI_one, jI_in (by omega), jI_nat (by omega)]
        refine ⟨by omega, mdNewName_sp (by omega) (c := 0) (by omega) (by rw [upd_same]; rfl) ?_⟩
        simp only [Nat.add_zero]
        refine ih (i + 1) _ _ _ _ (by omega) (fun v hv => ?_) (fun v hv => ?_) (fun m hm hv => ?_) ?_
        · by_cases e : v = i
          · subst e; rw [upd_same]
          · rw [upd_other _ _ e, upd_other _ _ e]; exact g1 v (by omega)
        · by_cases e : v = i
          · subst e; rw [updB_same, upd_same, upd_same]; exact ⟨rfl, rfl, rfl⟩
          · rw [updB_other _ _ (by omega), upd_other _ _ (by omega), upd_other _ _ (by omega)]; exact g2 v (by omega)
        · rw [updB_other _ _ (hv i (by omega))]
          exact g3 m hm fun v h => hv v (by omega)
        · rw [cntB_upd (by rw [g3 (100 * i) (by omega) fun v hv => by omega]; decide), if_pos (by omega), g4]
  have h080 : vp_in 0 80 := by rw [jt0, jI_in (by omega)]; omega
  refine ⟨600 + 1, l1 _ (fun isn hisn _ => ⟨72 + 1, l2 _ (fun sn gone hsn hgone _ => ⟨6 + 1, l3 _ (fun isn nb nst num g1 g2 g3 g4 _ => ⟨h080, N + 1 + 1, ?_⟩) 6 0 isn a5 a6 a7 (by omega) (fun v hv => by omega) (fun v hv => by omega) (fun m hm _ => hisn m hm) ?_⟩) 72 0 a2 a3 (by omega) (fun j hj => by omega) (fun j hj => by omega)⟩) 600 0 a4 (by omega) (fun j hj => by omega)⟩
  · have : ∀ n, n ≤ 600 → cntB isn n = 0 := by
      intro n
      induction n with
      | zero => intro _; rfl
      | succ n ih => intro hn; simp only [cntB]; rw [ih (by omega), hisn n (by omega)]; rfl
    exact this 600 (by omega)
  · have hsm : cntB isn 600 = sm num := by
      rw [g4]
      unfold sm
      simp only [sumN]
      rw [g1 0 (by omega), g1 1 (by omega), g1 2 (by omega), g1 3 (by omega), g1 4 (by omega), g1 5 (by omega)]
      rfl
    refine ⟨fun q => absurd q (by decide), fun _ => ?_⟩
    rw [show (1 : Int32) + (-1) = nI 0 from rfl, jI_in (by omega), jI_nat (by omega)]
    refine ⟨by omega, fun v hv => ?_⟩
    rw [show (Int32.toNatClampNeg 0) = 0 from rfl, upd_same] at hv
    subst hv
    refine ⟨fun mn' sn' isn' nb' nst' num' => mn' = mn ∧ sn' = sn ∧ isn' = isn ∧ nb' = nb ∧ nst' = nst ∧ num' = num, ?_, fun _ => ⟨rfl, rfl, rfl, rfl, rfl, rfl⟩, fun q => absurd (Int32.le_refl _) q⟩
    rintro mn' sn' isn' nb' nst' num' ⟨e1, e2, e3, e4, e5, e6⟩ v3 hv3
    rw [e1, e2, e3, e4, e5, e6]
    clear e1 e2 e3 e4 e5 e6
    refine ⟨N + 1, ?_⟩
    have e4 : v3 = if N = 0 then -1 else nI (N - 1) := by
      rw [if_neg (by omega), hv3, show (1 : Int32) = nI 1 from rfl, jI_sub (by omega)]
    subst e4
    have hinit : ∀ b', NS N (ordOf (gsc N yes no) N) (nsF stepCount) (sets kind target) (MT N yes no stepCount kind target) [] b' 0 0 mn sn nb nst num (fun m => isn m = true) := fun b' => NS.init b' g1 hmk (fun c hc j hj => hsn _ (by omega)) g2 (fun m hm hv z => by rw [g3 m hm hv] at z; cases z)
    have := gn_in (yes := yes) (no := no) hN0 hN hR hD (b := N) (Nat.le_refl _) (st := []) (by simp) (K := fun v1_x169 v3_x169 mOpen_x169 => (lpMd_giveNames_94 N R mMany mKinds mVs D gone post (N + 1) v1_x169 mn sn isn nb nst num mOpen_x169)) (fun W' hW' => ?_) 0 N (upd a8 (Int32.toNatClampNeg 0) (nI N)) (by omega) trivial
    · exact this
    · rw [List.append_nil, kid_root hN0] at hW' ⊢
      refine gn_loop hN0 hN hP hPar hR hD (mt := MT N yes no stepCount kind target) (sn0 := sn) (fun mn sn' isn nb nst num op w1 w2 w3 => hp mn sn' gone isn nb nst num op (w1 0) w2 hgone fun j hj hj2 => ?_) N [0] [] mn sn isn nb nst num W' (by simp) Tr.init hW' hinit hsm (fun _ _ => rfl)
      rw [w3 j hj2]; exact hsn j hj
theorem NSA.stp {mn sn hb hp num : Nat → Int32} {nm : Nat → Prop} (h : NSA N yes no stepCount kind target mn sn hb hp num nm) {b k v : Nat} (hb : b < N) (hm : b ∈ ordOf (gsc N yes no) N) (hk : k < nsF stepCount b) (hk6 : k < 6) (hv : v < 6) (hs : sets kind target b k v) : sn (b * 6 + k) = nI (sNm (ordOf (gsc N yes no) N) (nsF stepCount) (sets kind target) (MT N yes no stepCount kind target) b k v) := (h.2.2.1 b hb k hk6).1 v hv (Or.inl hm) hk hs
theorem NSA.mtp {mn sn hb hp num : Nat → Int32} {nm : Nat → Prop} (h : NSA N yes no stepCount kind target mn sn hb hp num nm) {b v : Nat} (hb : b < N) (hm : b ∈ ordOf (gsc N yes no) N) (hv : v < 6) : (MT N yes no stepCount kind target b v → mn (b * 6 + v) = nI (mNm (ordOf (gsc N yes no) N) (nsF stepCount) (sets kind target) (MT N yes no stepCount kind target) b v)) ∧ (¬ MT N yes no stepCount kind target b v → mn (b * 6 + v) = -1) := ⟨fun z => (h.2.1 b hb v hv).1 z (Or.inl hm), (h.2.1 b hb v hv).2.2⟩
theorem mNm_lt (hN0 : 0 < N) (hN : N ≤ 12) (hPar : HasPar (gsc N yes no) N) {b : Nat} (hm : b ∈ ordOf (gsc N yes no) N) (v : Nat) : mNm (ordOf (gsc N yes no) N) (nsF stepCount) (sets kind target) (MT N yes no stepCount kind target) b v < 100 * v + 98 := by
  have hx := NX.of (stepCount := stepCount) (kind := kind) (target := target) hN0 hN hPar
  have h1 := cN_pre (ord := ordOf (gsc N yes no) N) (ns := nsF stepCount) (st := sets kind target) (mt := MT N yes no stepCount kind target) (vis := ordOf (gsc N yes no) N) (tl := []) (by simp) hm v
  have h2 := tot_le (st := sets kind target) (mt := MT N yes no stepCount kind target) hx.2.2.2.2.1 v (ordOf (gsc N yes no) N)
  have h3 := hx.2.2.1
  unfold mNm
  unfold cN at *
  omega
theorem lat_down (hN0 : 0 < N) (hN : N ≤ 12) (hP : PR N stepCount kind target first second forkVariable yes no starts mMany mKinds mVs mWs mXs mEnds mEndVariable mYes mNo mStarts) (hPar : HasPar (gsc N yes no) N) {mn sn hb hp num : Nat → Int32} {nm : Nat → Prop} (h : NSA N yes no stepCount kind target mn sn hb hp num nm) {v : Nat} (hv : v < 6) {post : Int32 → Prop} {b : Nat} (hb : Rch (gsc N yes no) okT b) (x : Nat) {K : Int32 → Prop} (hK : post (nI (lst (ordOf (gsc N yes no) N) (nsF stepCount) (sets kind target) (MT N yes no stepCount kind target) b v x 0)) → ∀ y, K y) : ∀ k, k ≤ nsF stepCount b → post (nI (lst (ordOf (gsc N yes no) N) (nsF stepCount) (sets kind target) (MT N yes no stepCount kind target) b v x k)) → lpMd_latest_21 (nI v) (nI b) mKinds mVs sn post K (k + 1) (if k = 0 then -1 else nI (k - 1)) := by
  have hbN := hb.lt hN0 gsc_lt
  have hbo := (ord_mem hN0 gsc_lt hPar b).mpr hb
  have hns6 : nsF stepCount b ≤ 6 := by unfold nsF; omega
  intro k
  induction k with
  | zero =>
    intro _ hpost
    exact ⟨fun _ => hK hpost _, fun q => absurd (by decide) q⟩
  | succ k ihk =>
    intro hk hpost
    rw [if_neg (by omega), show k + 1 - 1 = k by omega]
    obtain ⟨hlt, hk6, hvar⟩ := st_var hP hbN (show k < nsF stepCount b by omega)
    have st := hP.st b hbN k hk6 hlt
    have e1 : nI k + (-1) = if k = 0 then -1 else nI (k - 1) := by
      by_cases e : k = 0
      · subst e; rfl
      · rw [if_neg e, jI_pred (by omega)]
    refine ⟨fun q => absurd q (jI_neg (by omega)), fun _ => ?_⟩
    rw [jt6, jI_mul, jI_add, jI_in (by omega), jI_nat (by omega), show 6 * b + k = b * 6 + k by omega, ← st.1, ← st.2.1, kind7 st.2.2.2.2, e1]
    simp only [lst] at hpost
    have skip : ¬ sets kind target b k v → lpMd_latest_21 (nI v) (nI b) mKinds mVs sn post K (k + 1) (if k = 0 then -1 else nI (k - 1)) := fun hs => ihk (by omega) (by rw [cif_neg hs] at hpost; exact hpost)
    refine ⟨by omega, fun q => skip fun z => z.1 q, fun q => ⟨by omega, fun q2 => skip fun z => q2 z.2, fun q2 => ⟨by omega, ?_⟩⟩⟩
    have hs : sets kind target b k v := ⟨q, q2⟩
    rw [cif_pos hs] at hpost
    rw [h.stp hbN hbo (by omega) hk6 hv hs]
    exact hpost
theorem latest_sp (hN0 : 0 < N) (hN : N ≤ 12) (hP : PR N stepCount kind target first second forkVariable yes no starts mMany mKinds mVs mWs mXs mEnds mEndVariable mYes mNo mStarts) (hPar : HasPar (gsc N yes no) N) {D : Nat → Int32} (hD : ∀ c, c < N → ∀ x, bt (D c) x = true ↔ Dm (gsc N yes no) x c) {mn sn hb hp num : Nat → Int32} {nm : Nat → Prop} (h : NSA N yes no stepCount kind target mn sn hb hp num nm) {v : Nat} (hv : v < 6) {post : Int32 → Prop} : ∀ (f b : Nat), Rch (gsc N yes no) okT b → dcn (gsc N yes no) b N < f → ∀ k, k ≤ nsF stepCount b → post (nI (LA N yes no stepCount kind target b v k)) → lpMd_latest_6 N (nI v) mMany mKinds mVs D mn sn post (f + 1) (nI b) (nI k) := by
  have hmem := fun x => ord_mem hN0 gsc_lt hPar x
  intro f
  induction f with
  | zero => intro b _ h; omega
  | succ f ih =>
    intro b hb hf k hk hpost
    have hbN := hb.lt hN0 gsc_lt
    have hbo := (hmem b).mpr hb
    have hns6 : nsF stepCount b ≤ 6 := by unfold nsF; omega
    refine ⟨fun q => ?_, fun _ v6 hv6 => ⟨k + 1, ?_⟩⟩
    · rw [jI_le (by omega) (by omega)] at q; omega
    have e6 : v6 = if k = 0 then -1 else nI (k - 1) := by
      rw [hv6]
      by_cases e : k = 0
      · subst e; rfl
      · rw [if_neg e, show (1 : Int32) = nI 1 from rfl, jI_sub (by omega)]
    subst e6
    clear hv6
    unfold LA lat at hpost
    have hmt := h.mtp hbN hbo hv
    have hupe := up_eq (N := N) (ord := ordOf (gsc N yes no) N) (ns := nsF stepCount) (st := sets kind target) (mt := MT N yes no stepCount kind target) (Fal.of hN0 hPar) (b := b) hb (by have := dcn_le (gsc N yes no) b N; omega) v
    rw [hupe] at hpost
    refine lat_down hN0 hN hP hPar h hv hb _ (fun hpost y => ?_) k hk hpost
    clear hk
    rw [jt6, jI_mul, jI_add, jI_in (by omega), jI_nat (by omega), show 6 * b + v = b * 6 + v by omega]
    simp only [lst] at hpost
    refine ⟨by omega, fun q => ?_, fun q => ⟨by omega, ?_⟩⟩
    · have hm : ¬ MT N yes no stepCount kind target b v := fun z => by
        rw [hmt.1 z] at q
        have := mNm_lt (stepCount := stepCount) (kind := kind) (target := target) hN0 hN hPar hbo v
        exact absurd q (jI_neg (by omega))
      rw [cif_neg hm] at hpost
      refine md_parent hN0 hN hD hbN fun p hp => ?_
      rw [parF_is hp] at hpost
      have hpN : p ≤ N := by rcases hp with z | z <;> omega
      rw [jI_le (by omega) (by omega)]
      refine ⟨fun q2 => ?_, fun q2 => ?_⟩
      · have e : p = N := by omega
        subst e
        rw [if_pos rfl] at hpost
        refine ⟨fun _ => ?_, fun q => absurd (Int32.le_refl _) q⟩
        rw [show (100 : Int32) = nI 100 from rfl, jI_mul]
        exact hpost
      · rw [if_neg (by omega)] at hpost
        have hpp : IsPar (gsc N yes no) b p := by
          rcases hp with z | z
          · exact z.2
          · omega
        obtain ⟨n, hn, en, em⟩ := hP.ct p (by omega)
        rw [jI_in (by omega), jI_nat (by omega), em]
        refine ⟨by omega, fun w hw => ?_⟩
        subst hw
        have := dcn_lt hpp.2.1 hpp.1 hbN
        have hnn := nsF_eq hn en
        rw [hnn] at hpost
        exact ih p hpp.2.1.re1 (by omega) n (by omega) hpost
    · have hm : MT N yes no stepCount kind target b v := Classical.byContradiction fun z => q (by rw [hmt.2 z]; decide)
      rw [cif_pos hm] at hpost
      rw [hmt.1 hm]
      exact hpost
end GN2
