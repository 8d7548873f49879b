/-! run and same -/
theorem stp_oc {kd num to p1 p2 : Int32} {vals : Nat → Int32} {out : List Int32} : (stp kd num to p1 p2 vals out).2.2 = 0 ∨ (stp kd num to p1 p2 vals out).2.2 = 1 ∨ (stp kd num to p1 p2 vals out).2.2 = 2 := by
  unfold stp
  split
  · split
    · exact Or.inl rfl
    · exact Or.inr (Or.inr rfl)
  · split
    · exact Or.inr (Or.inl rfl)
    · split <;> exact Or.inl rfl
theorem sts_oc {kd fi TO P1 P2 : Nat → Int32} {b : Nat} : ∀ (d k : Nat) (vals : Nat → Int32) (out : List Int32), (sts kd fi TO P1 P2 b d k vals out).2.2 = 0 ∨ (sts kd fi TO P1 P2 b d k vals out).2.2 = 1 ∨ (sts kd fi TO P1 P2 b d k vals out).2.2 = 2 := by
  intro d
  induction d with
  | zero => intro k vals out; exact Or.inl rfl
  | succ d ih =>
    intro k vals out
    unfold sts
    split
    · exact ih _ _ _
    · exact stp_oc
theorem runF_oc {ns : Nat → Nat} {kd fi TO P1 P2 PE yes no : Nat → Int32} {meet : Nat → Nat → (Nat → Int32) → (Nat → Int32)} : ∀ (r c fr : Nat) (vals : Nat → Int32) (out : List Int32), (runF ns kd fi TO P1 P2 PE yes no meet r c fr vals out).2 = 0 ∨ (runF ns kd fi TO P1 P2 PE yes no meet r c fr vals out).2 = 1 ∨ (runF ns kd fi TO P1 P2 PE yes no meet r c fr vals out).2 = 2 := by
  intro r
  induction r with
  | zero => intro c fr vals out; exact Or.inr (Or.inr rfl)
  | succ r ih =>
    intro c fr vals out
    unfold runF
    split
    · split
      · exact Or.inl rfl
      · exact ih _ _ _ _
    · exact sts_oc _ _ _ _
theorem way_cases (v : Int32) : (v < 0 ∨ ¬ v ≤ 2) ∨ v = 0 ∨ v = 1 ∨ v = 2 := by
  by_cases h1 : v < 0
  · exact Or.inl (Or.inl h1)
  by_cases h2 : v ≤ 2
  · obtain ⟨k, hk, rfl⟩ := jI_of_le (n := 2) (by omega) h1 h2
    have : k = 0 ∨ k = 1 ∨ k = 2 := by omega
    rcases this with rfl | rfl | rfl
    · exact Or.inr (Or.inl rfl)
    · exact Or.inr (Or.inr (Or.inl rfl))
    · exact Or.inr (Or.inr (Or.inr rfl))
  · exact Or.inl (Or.inr h2)
theorem in03 : vp_in 0 3 := by rw [jt0, jI_in (by omega)]; omega
theorem in13 : vp_in 1 3 := by rw [jt1, jI_in (by omega)]; omega
theorem in23 : vp_in 2 3 := by rw [jt2, jI_in (by omega)]; omega
section RQ
variable {N : Nat} {stepCount kind target first second forkVariable yes no starts mMany mKinds mVs mWs mXs mEnds mEndVariable mYes mNo mStarts meetingNames meetingUses stepNames firstUses secondUses endUses homeBlock homePlace mMeets mSources mSet mUseW mUseX mEndUse : Nat → Int32} {mGone mIsName : Nat → Bool} {mNameBlock mNameStep : Nat → Int32} {named : Bool} {TO P1 P2 PE : Nat → Int32} {meet : Nat → Nat → (Nat → Int32) → (Nat → Int32)} {mForm mOver : Bool} {mSlot : Int32} {mSaid mSaidCount mFailed mValues mNextValues : Nat → Int32}
theorem md_run_bad {v : Int32} {post : Int32 → Int32 → Int32 → Bool → (Nat → Int32) → (Nat → Int32) → (Nat → Int32) → (Nat → Int32) → (Nat → Int32) → Prop} (hv : v < 0 ∨ ¬ v ≤ 2) (hp : post 0 1 mSlot mOver mSaid mSaidCount mFailed mValues mNextValues) : wpMd_run N mForm mSlot mOver mMany mKinds mVs mWs mXs mEnds mEndVariable mYes mNo mStarts mMeets mSources mSet mUseW mUseX mEndUse mGone mSaid mSaidCount mFailed mValues mNextValues v post :=
  ⟨fun t => t = 1, fun t ht => ⟨fun q => absurd (ht.symm.trans q) one_not, fun _ => by rw [ht]; exact hp⟩, True, fun _ => rfl, fun _ => trivial, fun q => ⟨fun q2 => absurd hv (fun z => z.elim q fun w => w q2), fun _ => trivial⟩⟩
theorem md_run_none {v : Int32} {post : Int32 → Int32 → Int32 → Bool → (Nat → Int32) → (Nat → Int32) → (Nat → Int32) → (Nat → Int32) → (Nat → Int32) → Prop} (hv : v = 1 ∨ v = 2) (hf : mForm = false) (hp : post 0 2 mSlot mOver mSaid mSaidCount mFailed mValues mNextValues) : wpMd_run N mForm mSlot mOver mMany mKinds mVs mWs mXs mEnds mEndVariable mYes mNo mStarts mMeets mSources mSet mUseW mUseX mEndUse mGone mSaid mSaidCount mFailed mValues mNextValues v post := by
  have h1 : ¬ v < 0 := by rcases hv with rfl | rfl <;> decide
  have h2 : v ≤ 2 := by rcases hv with rfl | rfl <;> decide
  have h3 : ¬ v ≤ 0 := by rcases hv with rfl | rfl <;> decide
  exact ⟨fun t => t = 2, fun t ht => ⟨fun q => absurd (ht.symm.trans q) two_not, fun _ => by rw [ht]; exact hp⟩, False, fun z => z.elim, fun q => absurd q h1, fun _ => ⟨fun _ => ⟨fun q => absurd q h3, fun _ => ⟨fun q => by (rw [hf] at q; cases q), fun _ => rfl⟩⟩, fun q => absurd h2 q⟩⟩
theorem md_run_go (hN0 : 0 < N) (hN : N ≤ 12) (hP : PR N stepCount kind target first second forkVariable yes no starts mMany mKinds mVs mWs mXs mEnds mEndVariable mYes mNo mStarts) (hW : WayR N stepCount kind target first second forkVariable yes no meetingNames meetingUses stepNames firstUses secondUses endUses named TO P1 P2 PE meet) (hF : named = true → FR N stepCount kind forkVariable yes no meetingNames meetingUses stepNames firstUses secondUses endUses homeBlock homePlace mMeets mSources mSet mUseW mUseX mEndUse mGone mIsName mNameBlock mNameStep) {v : Int32} (hway : (v = 0 ∧ named = false) ∨ ((v = 1 ∨ v = 2) ∧ named = true)) (hfm : named = true → mForm = true) {post : Int32 → Int32 → Int32 → Bool → (Nat → Int32) → (Nat → Int32) → (Nat → Int32) → (Nat → Int32) → (Nat → Int32) → Prop}
    (hp : ∀ over sa sc fa va nx, SI 0 mSaid mSaidCount mFailed sa sc fa (resF N stepCount kind first TO P1 P2 PE yes no starts meet).1 (resF N stepCount kind first TO P1 P2 PE yes no starts meet).2 → ((resF N stepCount kind first TO P1 P2 PE yes no starts meet).2 = 0 → post (sc 0) 0 (nI 0) over sa sc fa va nx) ∧ ((resF N stepCount kind first TO P1 P2 PE yes no starts meet).2 = 1 → post 0 3 (nI 0) over sa sc fa va nx) ∧ ((resF N stepCount kind first TO P1 P2 PE yes no starts meet).2 = 2 → post 0 4 (nI 0) over sa sc fa va nx)) : wpMd_run N mForm mSlot mOver mMany mKinds mVs mWs mXs mEnds mEndVariable mYes mNo mStarts mMeets mSources mSet mUseW mUseX mEndUse mGone mSaid mSaidCount mFailed mValues mNextValues v post := by
  have h1 : ¬ v < 0 := by rcases hway with ⟨rfl, -⟩ | ⟨rfl | rfl, -⟩ <;> decide
  have h2 : v ≤ 2 := by rcases hway with ⟨rfl, -⟩ | ⟨rfl | rfl, -⟩ <;> decide
  refine ⟨fun t => t = 0, fun t ht => ⟨fun _ => ⟨fun b => b = named, fun b hb => ?_, fun q => ?_, fun q => ?_⟩, fun q => absurd ht q⟩, False, fun z => z.elim, fun q => absurd q h1, fun _ => ⟨fun _ => ⟨fun _ => rfl, fun q => ⟨fun _ => rfl, fun w => ?_⟩⟩, fun q => absurd h2 q⟩⟩
  · rw [hb]
    refine md_runInto hN0 hN hP hW hF (s := 0) (by omega) fun over sa sc fa va nx hSI => ?_
    have oc : (resF N stepCount kind first TO P1 P2 PE yes no starts meet).2 = 0 ∨ (resF N stepCount kind first TO P1 P2 PE yes no starts meet).2 = 1 ∨ (resF N stepCount kind first TO P1 P2 PE yes no starts meet).2 = 2 := runF_oc _ _ _ _ _
    have hp := hp over sa sc fa va nx hSI
    have e3 := hSI.2.2.1
    refine ⟨in03, fun t => t = if fa 0 = 0 then 0 else fa 0 + 2, fun t ht => ?_, fun q => ⟨in03, ?_⟩, fun q => ?_⟩
    · rw [e3] at ht
      rcases oc with w | w | w
      · rw [if_pos w] at ht
        exact ⟨fun q => absurd ht q, fun _ => ⟨in03, by rw [ht]; exact hp.1 w⟩⟩
      · rw [if_neg (by rw [w]; exact one_not), w] at ht
        exact ⟨fun _ => by rw [ht]; exact hp.2.1 w, fun q => absurd (ht.symm.trans q) (by decide)⟩
      · rw [if_neg (by rw [w]; exact two_not), w] at ht
        exact ⟨fun _ => by rw [ht]; exact hp.2.2 w, fun q => absurd (ht.symm.trans q) (by decide)⟩
    · exact (if_neg q).symm
    · exact (if_pos q).symm
  · rcases hway with ⟨-, z⟩ | ⟨z, -⟩
    · exact z.symm
    · exfalso; rcases z with rfl | rfl <;> exact absurd q (by decide)
  · rcases hway with ⟨rfl, -⟩ | ⟨-, z⟩
    · exact absurd (by decide) q
    · exact z.symm
  · rcases hway with ⟨rfl, -⟩ | ⟨-, z⟩
    · exact absurd (by decide) q
    · rw [hfm z] at w; cases w
end RQ
theorem OutIs.two {n1 n2 : Nat → Int32} {o1 o2 : Nat} {out : List Int32} (h1 : OutIs n1 o1 out) (h2 : OutIs n2 o2 out) (i : Nat) (hi : i < out.length) : n1 (o1 + i) = n2 (o2 + i) := by
  have e := List.getElem?_eq_getElem hi
  rw [h1.2 i _ e, h2.2 i _ e]
theorem k_run {N L : Nat} {xs : Nat → Int32} {v4 : Int32} (hN0 : 0 < N) (hN : N ≤ 12) (hv : ∀ j, j < 6 → vp_in (v4 + nI j) L) (formStands : Bool) (stepCount : Nat → Int32) (kind : Nat → Int32) (target : Nat → Int32) (first : Nat → Int32) (second : Nat → Int32) (forkVariable : Nat → Int32) (yes : Nat → Int32) (no : Nat → Int32) (starts : Nat → Int32) (orderSize : Int32) (reached : Int32) (forerunners : Nat → Int32) (blw : Nat → Int32) (frontiers : Nat → Int32) (parents : Nat → Int32) (order : Nat → Int32) (waiting : Nat → Int32) (meetingNames : Nat → Int32) (meetingUses : Nat → Int32) (stepNames : Nat → Int32) (firstUses : Nat → Int32) (secondUses : Nat → Int32) (endUses : Nat → Int32) (lastNames : Nat → Int32) (namesOf : Nat → Int32) (homeBlock : Nat → Int32) (homePlace : Nat → Int32) (standsFor : Nat → Int32) (pending : Int32) (length : Int32) (pendingTo : Nat → Int32) (pendingFrom : Nat → Int32) (copyTo : Nat → Int32) (copyFrom : Nat → Int32) (way : Int32) (values : Nat → Int32) (arriving : Nat → Int32) (T0size : Int32) (T0out : Int32) (T0num : Nat → Int32) (T1size : Int32) (T1out : Int32) (T1num : Nat → Int32) (T2size : Int32) (T2out : Int32) (T2num : Nat → Int32) (outc : Nat → Int64) (mThrown : Int32) (mReached : Int32) (mForm : Bool) (mSlot : Int32) (mOver : Bool) (mMany : Nat → Int32) (mKinds : Nat → Int32) (mVs : Nat → Int32) (mWs : Nat → Int32) (mXs : Nat → Int32) (mEnds : Nat → Int32) (mEndVariable : Nat → Int32) (mYes : Nat → Int32) (mNo : Nat → Int32) (mStarts : Nat → Int32) (mDominators : Nat → Int32) (mMeets : Nat → Int32) (mSources : Nat → Int32) (mSet : Nat → Int32) (mUseW : Nat → Int32) (mUseX : Nat → Int32) (mEndUse : Nat → Int32) (mGone : Nat → Bool) (mIsName : Nat → Bool) (mNameBlock : Nat → Int32) (mNameStep : Nat → Int32) (mNumbers : Nat → Int32) (mSaid : Nat → Int32) (mSaidCount : Nat → Int32) (mFailed : Nat → Int32) (mValues : Nat → Int32) (mNextValues : Nat → Int32) (mOpen : Nat → Int32) (h : JJ N formStands stepCount kind target first second forkVariable yes no starts orderSize reached forerunners blw frontiers parents order waiting meetingNames meetingUses stepNames firstUses secondUses endUses lastNames namesOf homeBlock homePlace standsFor pending length pendingTo pendingFrom copyTo copyFrom way values arriving T0size T0out T0num T1size T1out T1num T2size T2out T2num outc mThrown mReached mForm mSlot mOver mMany mKinds mVs mWs mXs mEnds mEndVariable mYes mNo mStarts mDominators mMeets mSources mSet mUseW mUseX mEndUse mGone mIsName mNameBlock mNameStep mNumbers mSaid mSaidCount mFailed mValues mNextValues mOpen) : wpLc_run N L xs v4 formStands stepCount kind target first second forkVariable yes no starts orderSize reached forerunners blw frontiers parents order waiting meetingNames meetingUses stepNames firstUses secondUses endUses lastNames namesOf homeBlock homePlace standsFor pending length pendingTo pendingFrom copyTo copyFrom way values arriving T0size T0out T0num T1size T1out T1num T2size T2out T2num outc mThrown mReached mForm mSlot mOver mMany mKinds mVs mWs mXs mEnds mEndVariable mYes mNo mStarts mDominators mMeets mSources mSet mUseW mUseX mEndUse mGone mIsName mNameBlock mNameStep mNumbers mSaid mSaidCount mFailed mValues mNextValues mOpen (JJ N) := by
  obtain ⟨hP, hS, hT, hf, hF⟩ := h
  subst hf
  refine ⟨hv 1 (by omega), ?_⟩
  unfold wpLw_run wpOn_run wpOn_requireRunnable wpOn_requireForm wpTalk_outcome wpTalk_size
  generalize xs (Int32.toNatClampNeg (v4 + 1)) = v
  refine ⟨fun q => ⟨Or.inl rfl, fun _ => ⟨hv 1 (by omega), md_run_bad (Or.inl q) ⟨fun _ => ⟨fun _ => ⟨hP, hS, hT, rfl, hF⟩, fun q => absurd q one_not⟩, fun q => absurd rfl q⟩⟩, fun q => by omega, fun q => by omega, fun q => by omega⟩, fun q1 => ⟨fun q2 => ⟨fun q3 => ?_, fun q3 => ⟨fun hst => ?_, fun hst => ?_⟩⟩, fun q => ⟨Or.inl rfl, fun _ => ⟨hv 1 (by omega), md_run_bad (Or.inr q) ⟨fun _ => ⟨fun _ => ⟨hP, hS, hT, rfl, hF⟩, fun q => absurd q one_not⟩, fun q => absurd rfl q⟩⟩, fun q => by omega, fun q => by omega, fun q => by omega⟩⟩⟩
  · have hF0 : false = true → FR N stepCount kind forkVariable yes no meetingNames meetingUses stepNames firstUses secondUses endUses homeBlock homePlace mMeets mSources mSet mUseW mUseX mEndUse mGone mIsName mNameBlock mNameStep := fun w => by (cases w)
    refine perform_sp hN0 hN hP (Or.inl ⟨rfl, rfl, rfl, rfl, rfl, rfl⟩) hF0 (Or.inl ⟨q3, rfl⟩) fun _ _ _ _ _ _ _ _ num hO => ⟨fun n1 => ⟨fun n2 => ⟨out_in, hv 1 (by omega), md_run_go hN0 hN hP (Or.inl ⟨rfl, rfl, rfl, rfl, rfl, rfl⟩) hF0 (Or.inl ⟨q3, rfl⟩) (fun w => by (cases w)) fun over sa sc fa va nx hSI => ⟨fun _ => ⟨fun _ => ⟨fun q => absurd rfl q, fun _ => ⟨out_in, fun _ => ⟨hP, hS, ⟨_, hO.1, rfl, hSI.1, fun i hi => by have := hO.two hSI.2.1 i hi; rw [Nat.zero_add] at this; exact this⟩, rfl, hF⟩, fun q => q (by rw [out_at, hSI.1]; exact lg_same _)⟩⟩, fun q => absurd rfl q⟩, fun z => absurd z n1, fun z => absurd z n2⟩⟩, fun e2 => ⟨Or.inr (Or.inr (Or.inr rfl)), fun q => by omega, fun q => by omega, fun q => by omega, fun _ => ⟨hv 1 (by omega), md_run_go hN0 hN hP (Or.inl ⟨rfl, rfl, rfl, rfl, rfl, rfl⟩) hF0 (Or.inl ⟨q3, rfl⟩) (fun w => by (cases w)) fun over sa sc fa va nx hSI => ⟨fun z => absurd (e2.symm.trans z) two_not, fun z => absurd z n1, fun _ => ⟨fun _ => ⟨fun _ => ⟨hP, hS, ⟨_, hO.1, rfl, hSI.1, fun i hi => by have := hO.two hSI.2.1 i hi; rw [Nat.zero_add] at this; exact this⟩, rfl, hF⟩, fun q => absurd q (by decide)⟩, fun q => absurd rfl q⟩⟩⟩⟩⟩, fun e1 => ⟨Or.inr (Or.inr (Or.inl rfl)), fun q => by omega, fun q => by omega, fun _ => ⟨hv 1 (by omega), md_run_go hN0 hN hP (Or.inl ⟨rfl, rfl, rfl, rfl, rfl, rfl⟩) hF0 (Or.inl ⟨q3, rfl⟩) (fun w => by (cases w)) fun over sa sc fa va nx hSI => ⟨fun z => absurd (e1.symm.trans z) one_not, fun _ => ⟨fun _ => ⟨fun _ => ⟨hP, hS, ⟨_, hO.1, rfl, hSI.1, fun i hi => by have := hO.two hSI.2.1 i hi; rw [Nat.zero_add] at this; exact this⟩, rfl, hF⟩, fun q => absurd q (by decide)⟩, fun q => absurd rfl q⟩, fun z => absurd (e1.symm.trans z) (by decide)⟩⟩, fun q => by omega⟩⟩
  · have h12 : v = 1 ∨ v = 2 := by
      rcases way_cases v with (z | z) | z | z
      · exact absurd z q1
      · exact absurd q2 z
      · exact absurd z q3
      · exact z
    refine perform_sp hN0 hN hP (Or.inr ⟨rfl, rfl, rfl, rfl, rfl, rfl⟩) (fun _ => hF hst) (Or.inr ⟨h12, rfl⟩) fun _ _ _ _ _ _ _ _ num hO => ⟨fun n1 => ⟨fun n2 => ⟨out_in, hv 1 (by omega), md_run_go hN0 hN hP (Or.inr ⟨rfl, rfl, rfl, rfl, rfl, rfl⟩) (fun _ => hF hst) (Or.inr ⟨h12, rfl⟩) (fun _ => hst) fun over sa sc fa va nx hSI => ⟨fun _ => ⟨fun _ => ⟨fun q => absurd rfl q, fun _ => ⟨out_in, fun _ => ⟨hP, hS, ⟨_, hO.1, rfl, hSI.1, fun i hi => by have := hO.two hSI.2.1 i hi; rw [Nat.zero_add] at this; exact this⟩, rfl, hF⟩, fun q => q (by rw [out_at, hSI.1]; exact lg_same _)⟩⟩, fun q => absurd rfl q⟩, fun z => absurd z n1, fun z => absurd z n2⟩⟩, fun e2 => ⟨Or.inr (Or.inr (Or.inr rfl)), fun q => by omega, fun q => by omega, fun q => by omega, fun _ => ⟨hv 1 (by omega), md_run_go hN0 hN hP (Or.inr ⟨rfl, rfl, rfl, rfl, rfl, rfl⟩) (fun _ => hF hst) (Or.inr ⟨h12, rfl⟩) (fun _ => hst) fun over sa sc fa va nx hSI => ⟨fun z => absurd (e2.symm.trans z) two_not, fun z => absurd z n1, fun _ => ⟨fun _ => ⟨fun _ => ⟨hP, hS, ⟨_, hO.1, rfl, hSI.1, fun i hi => by have := hO.two hSI.2.1 i hi; rw [Nat.zero_add] at this; exact this⟩, rfl, hF⟩, fun q => absurd q (by decide)⟩, fun q => absurd rfl q⟩⟩⟩⟩⟩, fun e1 => ⟨Or.inr (Or.inr (Or.inl rfl)), fun q => by omega, fun q => by omega, fun _ => ⟨hv 1 (by omega), md_run_go hN0 hN hP (Or.inr ⟨rfl, rfl, rfl, rfl, rfl, rfl⟩) (fun _ => hF hst) (Or.inr ⟨h12, rfl⟩) (fun _ => hst) fun over sa sc fa va nx hSI => ⟨fun z => absurd (e1.symm.trans z) one_not, fun _ => ⟨fun _ => ⟨fun _ => ⟨hP, hS, ⟨_, hO.1, rfl, hSI.1, fun i hi => by have := hO.two hSI.2.1 i hi; rw [Nat.zero_add] at this; exact this⟩, rfl, hF⟩, fun q => absurd q (by decide)⟩, fun q => absurd rfl q⟩, fun z => absurd (e1.symm.trans z) (by decide)⟩⟩, fun q => by omega⟩⟩
  · have h12 : v = 1 ∨ v = 2 := by
      rcases way_cases v with (z | z) | z | z
      · exact absurd z q1
      · exact absurd q2 z
      · exact absurd z q3
      · exact z
    exact ⟨Or.inr (Or.inl rfl), fun q => by omega, fun _ => ⟨hv 1 (by omega), md_run_none h12 hst ⟨fun _ => ⟨fun _ => ⟨hP, hS, hT, rfl, hF⟩, fun q => absurd q (by decide)⟩, fun q => absurd rfl q⟩⟩, fun q => by omega, fun q => by omega⟩
/-! same -/
def sameB (a b : List Int32 × Int32) : Bool := decide (a = b)
theorem sameB_t {a b : List Int32 × Int32} (h : a = b) : sameB a b = true := by
  unfold sameB; exact decide_eq_true h
theorem sameB_f {a b : List Int32 × Int32} (h : ¬ a = b) : sameB a b = false := by
  unfold sameB; exact decide_eq_false h
/-- two lists of one length, alike up to k -/
def lk (a b : List Int32) (k : Nat) : Prop := ∀ i, i < k → a[i]? = b[i]?
theorem lk_all {a b : List Int32} (hl : a.length = b.length) (h : lk a b a.length) : a = b := by
  apply List.ext_getElem?
  intro i
  by_cases hi : i < a.length
  · exact h i hi
  · rw [List.getElem?_eq_none (by omega), List.getElem?_eq_none (by omega)]
theorem OutIs.get {n : Nat → Int32} {o : Nat} {out : List Int32} (h : OutIs n o out) {i : Nat} (hi : i < out.length) : out[i]? = some (n (o + i)) := by
  have e := List.getElem?_eq_getElem hi
  rw [h.2 i _ e]; exact e
theorem isLike_sp {a b : List Int32 × Int32} {n1 n2 : Nat → Int32} (h1 : OutIs n1 0 a.1) (h2 : OutIs n2 0 b.1) {post : Bool → Prop} (hp : post (sameB a b)) : wpTalk_isLike (nI a.1.length) a.2 n1 (nI b.1.length) b.2 n2 post := by
  have l1 := h1.1
  have l2 := h2.1
  unfold wpTalk_isLike
  rw [jI_eq (by omega) (by omega)]
  refine ⟨fun q => ?_, fun q => ⟨fun ql => ⟨a.1.length + 1, ?_⟩, fun ql => ?_⟩⟩
  · rw [sameB_f fun z => q (by rw [z])] at hp; exact hp
  · have key : ∀ (d k : Nat), k + d = a.1.length → lk a.1 b.1 k → lpTalk_isLike_26 (nI a.1.length) n1 n2 post (d + 1) (nI k) := by
      intro d
      induction d with
      | zero =>
        intro k hk hl
        have : k = a.1.length := by omega
        subst this
        refine ⟨fun _ => ?_, fun q => absurd (Int32.le_refl _) q⟩
        rw [sameB_t (Prod.ext (lk_all ql hl) q)] at hp; exact hp
      | succ d ih =>
        intro k hk hl
        refine ⟨fun q => ?_, fun _ => ?_⟩
        · rw [jI_le (by omega) (by omega)] at q; omega
        · rw [jI_in (by omega), jI_nat (by omega), jI_one]
          have g1 := h1.get (i := k) (by omega)
          have g2 := h2.get (i := k) (by omega)
          rw [Nat.zero_add] at g1 g2
          refine ⟨by omega, by omega, fun e => ih (k + 1) (by omega) fun i hi => ?_, fun e => ?_⟩
          · by_cases z : i = k
            · rw [z, g1, g2, e]
            · exact hl i (by omega)
          · rw [sameB_f fun z => ?_] at hp
            · exact hp
            · rw [z, g2] at g1
              exact e (Option.some.inj g1).symm
    exact key a.1.length 0 (by omega) fun i hi => by omega
  · rw [sameB_f fun z => ql (by rw [z])] at hp; exact hp
section SQ
variable {N : Nat} {stepCount kind target first second forkVariable yes no starts mMany mKinds mVs mWs mXs mEnds mEndVariable mYes mNo mStarts meetingNames meetingUses stepNames firstUses secondUses endUses homeBlock homePlace mMeets mSources mSet mUseW mUseX mEndUse : Nat → Int32} {mGone mIsName : Nat → Bool} {mNameBlock mNameStep : Nat → Int32} {named : Bool} {TO P1 P2 PE : Nat → Int32} {meet : Nat → Nat → (Nat → Int32) → (Nat → Int32)} {mForm mOver : Bool} {mSlot : Int32} {mSaid mSaidCount mFailed mValues mNextValues : Nat → Int32}
theorem md_same_bad {v : Int32} {post : Bool → Int32 → Int32 → Bool → (Nat → Int32) → (Nat → Int32) → (Nat → Int32) → (Nat → Int32) → (Nat → Int32) → Prop} (hv : v < 0 ∨ ¬ v ≤ 2) (hp : post false 1 mSlot mOver mSaid mSaidCount mFailed mValues mNextValues) : wpMd_same N mForm mSlot mOver mMany mKinds mVs mWs mXs mEnds mEndVariable mYes mNo mStarts mMeets mSources mSet mUseW mUseX mEndUse mGone mSaid mSaidCount mFailed mValues mNextValues v post :=
  ⟨fun t => t = 1, fun t ht => ⟨fun q => absurd (ht.symm.trans q) one_not, fun _ => by rw [ht]; exact hp⟩, True, fun _ => rfl, fun _ => trivial, fun q => ⟨fun q2 => absurd hv (fun z => z.elim q fun w => w q2), fun _ => trivial⟩⟩
theorem md_same_none {v : Int32} {post : Bool → Int32 → Int32 → Bool → (Nat → Int32) → (Nat → Int32) → (Nat → Int32) → (Nat → Int32) → (Nat → Int32) → Prop} (hv : v = 1 ∨ v = 2) (hf : mForm = false) (hp : post false 2 mSlot mOver mSaid mSaidCount mFailed mValues mNextValues) : wpMd_same N mForm mSlot mOver mMany mKinds mVs mWs mXs mEnds mEndVariable mYes mNo mStarts mMeets mSources mSet mUseW mUseX mEndUse mGone mSaid mSaidCount mFailed mValues mNextValues v post := by
  have h1 : ¬ v < 0 := by rcases hv with rfl | rfl <;> decide
  have h2 : v ≤ 2 := by rcases hv with rfl | rfl <;> decide
  have h3 : ¬ v ≤ 0 := by rcases hv with rfl | rfl <;> decide
  exact ⟨fun t => t = 2, fun t ht => ⟨fun q => absurd (ht.symm.trans q) two_not, fun _ => by rw [ht]; exact hp⟩, False, fun z => z.elim, fun q => absurd q h1, fun _ => ⟨fun _ => ⟨fun q => absurd q h3, fun _ => ⟨fun q => by (rw [hf] at q; cases q), fun _ => rfl⟩⟩, fun q => absurd h2 q⟩⟩
theorem md_same_loop {a b : List Int32 × Int32} {sa1 sc1 fa1 sa sc fa va nx : Nat → Int32} {th sl : Int32} {ov : Bool} (h1 : SI 1 mSaid mSaidCount mFailed sa1 sc1 fa1 a.1 a.2) (h2 : SI 2 sa1 sc1 fa1 sa sc fa b.1 b.2) {post : Bool → Int32 → Int32 → Bool → (Nat → Int32) → (Nat → Int32) → (Nat → Int32) → (Nat → Int32) → (Nat → Int32) → Prop} (hp : post (sameB a b) th sl ov sa sc fa va nx) : vp_in 1 3 ∧ vp_in 2 3 ∧ (∃ J97 : Bool → Prop, (∀ t97_0, (J97 t97_0) → (∃ k100 : Nat, lpMd_same_100 th sl ov sa sc fa va nx post k100 t97_0 0)) ∧ ∃ J96 : Prop, (J96 → (J97 false)) ∧ ((¬ (fa (Int32.toNatClampNeg 1)) = (fa (Int32.toNatClampNeg 2)) → (J96)) ∧ ((fa (Int32.toNatClampNeg 1)) = (fa (Int32.toNatClampNeg 2)) → vp_in 1 3 ∧ vp_in 2 3 ∧ ((¬ (sc (Int32.toNatClampNeg 1)) = (sc (Int32.toNatClampNeg 2)) → (J96)) ∧ ((sc (Int32.toNatClampNeg 1)) = (sc (Int32.toNatClampNeg 2)) → (J97 true)))))) := by
  have l1 := h1.2.1.1
  have l2 := h2.2.1.1
  have o1 : OutIs sa 50 a.1 := ⟨l1, fun i x hx => by
    have hi : i < a.1.length := (List.getElem?_eq_some_iff.mp hx).1
    rw [h2.2.2.2.1 (50 + i) (by omega)]; exact h1.2.1.2 i x hx⟩
  have o2 : OutIs sa 100 b.1 := h2.2.1
  have e1 : sc 1 = nI a.1.length := (h2.2.2.2.2 1 (by omega)).1.trans h1.1
  have e2 : fa 1 = a.2 := (h2.2.2.2.2 1 (by omega)).2.trans h1.2.2.1
  have n1 : Int32.toNatClampNeg 1 = 1 := rfl
  have n2 : Int32.toNatClampNeg 2 = 2 := rfl
  rw [n1, n2, e1, e2, h2.1, h2.2.2.1, jI_eq (by omega) (by omega)]
  refine ⟨in13, in23, fun t => (t = false ∧ ¬ a = b) ∨ (t = true ∧ a.2 = b.2 ∧ a.1.length = b.1.length), fun t ht => ?_, ¬ a = b, fun q => Or.inl ⟨rfl, q⟩, fun q z => q (by rw [z]), fun q => ⟨in13, in23, fun q2 z => q2 (by rw [z]), fun q2 => Or.inr ⟨rfl, q, q2⟩⟩⟩
  have fl : ∀ (k : Nat) (w : Int32), ¬ a = b → lpMd_same_100 th sl ov sa sc fa va nx post (k + 1) false w := by
    intro k w hne
    rw [sameB_f hne] at hp
    exact ⟨in13, fun _ => hp, fun _ => ⟨fun _ => hp, fun z => by (cases z)⟩⟩
  rcases ht with ⟨rfl, hne⟩ | ⟨rfl, q, ql⟩
  · exact ⟨0 + 1, fl 0 0 hne⟩
  · have key : ∀ (d k : Nat), k + d = a.1.length → lk a.1 b.1 k → lpMd_same_100 th sl ov sa sc fa va nx post (d + 1) true (nI k) := by
      intro d
      induction d with
      | zero =>
        intro k hk hl
        have : k = a.1.length := by omega
        subst this
        unfold lpMd_same_100
        rw [n1, e1]
        refine ⟨in13, fun _ => ?_, fun q => absurd (Int32.le_refl _) q⟩
        rw [sameB_t (Prod.ext (lk_all ql hl) q)] at hp; exact hp
      | succ d ih =>
        intro k hk hl
        unfold lpMd_same_100
        rw [n1, e1]
        refine ⟨in13, fun q => ?_, fun _ => ⟨fun z => by (cases z), fun _ => ?_⟩⟩
        · rw [jI_le (by omega) (by omega)] at q; omega
        · rw [show (50 : Int32) = nI 50 from rfl, show (100 : Int32) = nI 100 from rfl, jI_add, jI_add, jI_in (by omega), jI_nat (by omega), jI_in (by omega), jI_nat (by omega), jI_one]
          have g1 := o1.get (i := k) (by omega)
          have g2 := o2.get (i := k) (by omega)
          refine ⟨by omega, by omega, fun e => fl d _ fun z => ?_, fun e => ih (k + 1) (by omega) fun i hi => ?_⟩
          · rw [z, g2] at g1
            exact e (Option.some.inj g1).symm
          · by_cases z : i = k
            · rw [z, g1, g2, e]
            · exact hl i (by omega)
    exact ⟨a.1.length + 1, key a.1.length 0 (by omega) fun i hi => by omega⟩
theorem md_same_go (hN0 : 0 < N) (hN : N ≤ 12) (hP : PR N stepCount kind target first second forkVariable yes no starts mMany mKinds mVs mWs mXs mEnds mEndVariable mYes mNo mStarts) (hW : WayR N stepCount kind target first second forkVariable yes no meetingNames meetingUses stepNames firstUses secondUses endUses named TO P1 P2 PE meet) (hF0 : false = true → FR N stepCount kind forkVariable yes no meetingNames meetingUses stepNames firstUses secondUses endUses homeBlock homePlace mMeets mSources mSet mUseW mUseX mEndUse mGone mIsName mNameBlock mNameStep) (hF : named = true → FR N stepCount kind forkVariable yes no meetingNames meetingUses stepNames firstUses secondUses endUses homeBlock homePlace mMeets mSources mSet mUseW mUseX mEndUse mGone mIsName mNameBlock mNameStep) {v : Int32} (hway : (v = 0 ∧ named = false) ∨ ((v = 1 ∨ v = 2) ∧ named = true)) (hfm : named = true → mForm = true) {post : Bool → Int32 → Int32 → Bool → (Nat → Int32) → (Nat → Int32) → (Nat → Int32) → (Nat → Int32) → (Nat → Int32) → Prop}
    (hp : ∀ over sa sc fa va nx, sc 0 = mSaidCount 0 → (∀ j, j < 50 → sa j = mSaid j) → post (sameB (resF N stepCount kind first (TOu kind target) (P1u kind first) (P2u kind second) (PEu forkVariable) yes no starts (fun _ _ v => v)) (resF N stepCount kind first TO P1 P2 PE yes no starts meet)) 0 (nI 2) over sa sc fa va nx) : wpMd_same N mForm mSlot mOver mMany mKinds mVs mWs mXs mEnds mEndVariable mYes mNo mStarts mMeets mSources mSet mUseW mUseX mEndUse mGone mSaid mSaidCount mFailed mValues mNextValues v post := by
  have h1 : ¬ v < 0 := by rcases hway with ⟨rfl, -⟩ | ⟨rfl | rfl, -⟩ <;> decide
  have h2 : v ≤ 2 := by rcases hway with ⟨rfl, -⟩ | ⟨rfl | rfl, -⟩ <;> decide
  refine ⟨fun t => t = 0, fun t ht => ⟨fun _ => ?_, fun q => absurd ht q⟩, False, fun z => z.elim, fun q => absurd q h1, fun _ => ⟨fun _ => ⟨fun _ => rfl, fun q => ⟨fun _ => rfl, fun w => ?_⟩⟩, fun q => absurd h2 q⟩⟩
  · subst ht
    refine md_runInto hN0 hN hP (Or.inl ⟨rfl, rfl, rfl, rfl, rfl, rfl⟩) hF0 (s := 1) (by omega) fun over sa sc fa va nx hSI => ⟨fun b => b = named, fun b hb => ?_, fun q => ?_, fun q => ?_⟩
    · rw [hb]
      refine md_runInto hN0 hN hP hW hF (s := 2) (by omega) fun over2 sa2 sc2 fa2 va2 nx2 hSI2 => md_same_loop hSI hSI2 (hp _ _ _ _ _ _ ?_ fun j hj => ?_)
      · rw [(hSI2.2.2.2.2 0 (by omega)).1, (hSI.2.2.2.2 0 (by omega)).1]
      · rw [hSI2.2.2.2.1 j (by omega), hSI.2.2.2.1 j (by omega)]
    · rcases hway with ⟨-, z⟩ | ⟨z, -⟩
      · exact z.symm
      · exfalso; rcases z with rfl | rfl <;> exact absurd q (by decide)
    · rcases hway with ⟨rfl, -⟩ | ⟨-, z⟩
      · exact absurd (by decide) q
      · exact z.symm
  · rcases hway with ⟨rfl, -⟩ | ⟨-, z⟩
    · exact absurd (by decide) q
    · rw [hfm z] at w; cases w
end SQ
theorem k_same {N L : Nat} {xs : Nat → Int32} {v4 : Int32} (hN0 : 0 < N) (hN : N ≤ 12) (hv : ∀ j, j < 6 → vp_in (v4 + nI j) L) (formStands : Bool) (stepCount : Nat → Int32) (kind : Nat → Int32) (target : Nat → Int32) (first : Nat → Int32) (second : Nat → Int32) (forkVariable : Nat → Int32) (yes : Nat → Int32) (no : Nat → Int32) (starts : Nat → Int32) (orderSize : Int32) (reached : Int32) (forerunners : Nat → Int32) (blw : Nat → Int32) (frontiers : Nat → Int32) (parents : Nat → Int32) (order : Nat → Int32) (waiting : Nat → Int32) (meetingNames : Nat → Int32) (meetingUses : Nat → Int32) (stepNames : Nat → Int32) (firstUses : Nat → Int32) (secondUses : Nat → Int32) (endUses : Nat → Int32) (lastNames : Nat → Int32) (namesOf : Nat → Int32) (homeBlock : Nat → Int32) (homePlace : Nat → Int32) (standsFor : Nat → Int32) (pending : Int32) (length : Int32) (pendingTo : Nat → Int32) (pendingFrom : Nat → Int32) (copyTo : Nat → Int32) (copyFrom : Nat → Int32) (way : Int32) (values : Nat → Int32) (arriving : Nat → Int32) (T0size : Int32) (T0out : Int32) (T0num : Nat → Int32) (T1size : Int32) (T1out : Int32) (T1num : Nat → Int32) (T2size : Int32) (T2out : Int32) (T2num : Nat → Int32) (outc : Nat → Int64) (mThrown : Int32) (mReached : Int32) (mForm : Bool) (mSlot : Int32) (mOver : Bool) (mMany : Nat → Int32) (mKinds : Nat → Int32) (mVs : Nat → Int32) (mWs : Nat → Int32) (mXs : Nat → Int32) (mEnds : Nat → Int32) (mEndVariable : Nat → Int32) (mYes : Nat → Int32) (mNo : Nat → Int32) (mStarts : Nat → Int32) (mDominators : Nat → Int32) (mMeets : Nat → Int32) (mSources : Nat → Int32) (mSet : Nat → Int32) (mUseW : Nat → Int32) (mUseX : Nat → Int32) (mEndUse : Nat → Int32) (mGone : Nat → Bool) (mIsName : Nat → Bool) (mNameBlock : Nat → Int32) (mNameStep : Nat → Int32) (mNumbers : Nat → Int32) (mSaid : Nat → Int32) (mSaidCount : Nat → Int32) (mFailed : Nat → Int32) (mValues : Nat → Int32) (mNextValues : Nat → Int32) (mOpen : Nat → Int32) (h : JJ N formStands stepCount kind target first second forkVariable yes no starts orderSize reached forerunners blw frontiers parents order waiting meetingNames meetingUses stepNames firstUses secondUses endUses lastNames namesOf homeBlock homePlace standsFor pending length pendingTo pendingFrom copyTo copyFrom way values arriving T0size T0out T0num T1size T1out T1num T2size T2out T2num outc mThrown mReached mForm mSlot mOver mMany mKinds mVs mWs mXs mEnds mEndVariable mYes mNo mStarts mDominators mMeets mSources mSet mUseW mUseX mEndUse mGone mIsName mNameBlock mNameStep mNumbers mSaid mSaidCount mFailed mValues mNextValues mOpen) : wpLc_same N L xs v4 formStands stepCount kind target first second forkVariable yes no starts orderSize reached forerunners blw frontiers parents order waiting meetingNames meetingUses stepNames firstUses secondUses endUses lastNames namesOf homeBlock homePlace standsFor pending length pendingTo pendingFrom copyTo copyFrom way values arriving T0size T0out T0num T1size T1out T1num T2size T2out T2num outc mThrown mReached mForm mSlot mOver mMany mKinds mVs mWs mXs mEnds mEndVariable mYes mNo mStarts mDominators mMeets mSources mSet mUseW mUseX mEndUse mGone mIsName mNameBlock mNameStep mNumbers mSaid mSaidCount mFailed mValues mNextValues mOpen (JJ N) := by
  obtain ⟨hP, hS, hT, hf, hF⟩ := h
  subst hf
  refine ⟨hv 1 (by omega), ?_⟩
  unfold wpLw_same wpOn_same wpOn_requireRunnable wpOn_requireForm
  generalize xs (Int32.toNatClampNeg (v4 + 1)) = v
  have hF0 : false = true → FR N stepCount kind forkVariable yes no meetingNames meetingUses stepNames firstUses secondUses endUses homeBlock homePlace mMeets mSources mSet mUseW mUseX mEndUse mGone mIsName mNameBlock mNameStep := fun w => by (cases w)
  have tr : ∀ sa sc : Nat → Int32, sc 0 = mSaidCount 0 → (∀ j, j < 50 → sa j = mSaid j) → TR0 T0size T0num sa sc := by
    intro sa sc h1 h2
    obtain ⟨s, hs, e1, e2, e3⟩ := hT
    exact ⟨s, hs, e1, h1.trans e2, fun i hi => (e3 i hi).trans (h2 i (by omega)).symm⟩
  refine ⟨fun q => ⟨Or.inl rfl, fun _ => ⟨hv 1 (by omega), md_same_bad (Or.inl q) ⟨fun _ => ⟨fun _ => ⟨hP, hS, hT, rfl, hF⟩, fun q => absurd q one_not⟩, fun q => absurd rfl q⟩⟩, fun q => by omega⟩, fun q1 => ⟨fun q2 => ⟨fun q3 => ?_, fun q3 => ⟨fun hst => ?_, fun hst => ?_⟩⟩, fun q => ⟨Or.inl rfl, fun _ => ⟨hv 1 (by omega), md_same_bad (Or.inr q) ⟨fun _ => ⟨fun _ => ⟨hP, hS, hT, rfl, hF⟩, fun q => absurd q one_not⟩, fun q => absurd rfl q⟩⟩, fun q => by omega⟩⟩⟩
  · refine perform_sp hN0 hN hP (Or.inl ⟨rfl, rfl, rfl, rfl, rfl, rfl⟩) hF0 (Or.inl ⟨rfl, rfl⟩) fun _ _ _ _ _ _ _ _ num1 hO1 => perform_sp hN0 hN hP (Or.inl ⟨rfl, rfl, rfl, rfl, rfl, rfl⟩) hF0 (Or.inl ⟨q3, rfl⟩) fun _ _ _ _ _ _ _ _ num2 hO2 => isLike_sp hO1 hO2 ⟨fun e => ⟨out_in, hv 1 (by omega), md_same_go hN0 hN hP (Or.inl ⟨rfl, rfl, rfl, rfl, rfl, rfl⟩) hF0 hF0 (Or.inl ⟨q3, rfl⟩) (fun w => by (cases w)) fun over sa sc fa va nx z1 z2 => ⟨fun _ => ⟨fun q => absurd rfl q, fun _ => ⟨out_in, fun _ => ⟨fun _ => ⟨hP, hS, tr _ _ z1 z2, rfl, hF⟩, fun q => q (by rw [out_at]; exact lg_same _)⟩, fun w => by (rw [e] at w; cases w)⟩⟩, fun q => absurd rfl q⟩⟩, fun e => ⟨out_in, hv 1 (by omega), md_same_go hN0 hN hP (Or.inl ⟨rfl, rfl, rfl, rfl, rfl, rfl⟩) hF0 hF0 (Or.inl ⟨q3, rfl⟩) (fun w => by (cases w)) fun over sa sc fa va nx z1 z2 => ⟨fun _ => ⟨fun q => absurd rfl q, fun _ => ⟨out_in, fun w => by (rw [e] at w; cases w), fun _ => ⟨fun _ => ⟨hP, hS, tr _ _ z1 z2, rfl, hF⟩, fun q => q (by rw [out_at]; exact lg_same _)⟩⟩⟩, fun q => absurd rfl q⟩⟩⟩
  · have h12 : v = 1 ∨ v = 2 := by
      rcases way_cases v with (z | z) | z | z
      · exact absurd z q1
      · exact absurd q2 z
      · exact absurd z q3
      · exact z
    refine perform_sp hN0 hN hP (Or.inl ⟨rfl, rfl, rfl, rfl, rfl, rfl⟩) hF0 (Or.inl ⟨rfl, rfl⟩) fun _ _ _ _ _ _ _ _ num1 hO1 => perform_sp hN0 hN hP (Or.inr ⟨rfl, rfl, rfl, rfl, rfl, rfl⟩) (fun _ => hF hst) (Or.inr ⟨h12, rfl⟩) fun _ _ _ _ _ _ _ _ num2 hO2 => isLike_sp hO1 hO2 ⟨fun e => ⟨out_in, hv 1 (by omega), md_same_go hN0 hN hP (Or.inr ⟨rfl, rfl, rfl, rfl, rfl, rfl⟩) hF0 (fun _ => hF hst) (Or.inr ⟨h12, rfl⟩) (fun _ => hst) fun over sa sc fa va nx z1 z2 => ⟨fun _ => ⟨fun q => absurd rfl q, fun _ => ⟨out_in, fun _ => ⟨fun _ => ⟨hP, hS, tr _ _ z1 z2, rfl, hF⟩, fun q => q (by rw [out_at]; exact lg_same _)⟩, fun w => by (rw [e] at w; cases w)⟩⟩, fun q => absurd rfl q⟩⟩, fun e => ⟨out_in, hv 1 (by omega), md_same_go hN0 hN hP (Or.inr ⟨rfl, rfl, rfl, rfl, rfl, rfl⟩) hF0 (fun _ => hF hst) (Or.inr ⟨h12, rfl⟩) (fun _ => hst) fun over sa sc fa va nx z1 z2 => ⟨fun _ => ⟨fun q => absurd rfl q, fun _ => ⟨out_in, fun w => by (rw [e] at w; cases w), fun _ => ⟨fun _ => ⟨hP, hS, tr _ _ z1 z2, rfl, hF⟩, fun q => q (by rw [out_at]; exact lg_same _)⟩⟩⟩, fun q => absurd rfl q⟩⟩⟩
  · have h12 : v = 1 ∨ v = 2 := by
      rcases way_cases v with (z | z) | z | z
      · exact absurd z q1
      · exact absurd q2 z
      · exact absurd z q3
      · exact z
    exact ⟨Or.inr rfl, fun q => by omega, fun _ => ⟨hv 1 (by omega), md_same_none h12 hst ⟨fun _ => ⟨fun _ => ⟨hP, hS, hT, rfl, hF⟩, fun q => absurd q (by decide)⟩, fun q => absurd rfl q⟩⟩⟩
