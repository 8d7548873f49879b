/-! the law's owing, and the fresh objects -/
theorem xclN_pos (V : Int32) : 0 < xclN V := by
  unfold xclN
  split
  · omega
  · split
    · omega
    · rename_i h1 h2
      by_cases hz : V < 0
      · exact absurd (Int32.lt_trans hz (by decide)) h1
      · obtain ⟨k, hk, rfl⟩ := jI_of hz
        rw [jt1, jI_lt (by omega) (by omega)] at h1
        rw [jI_nat (by omega)]; omega
theorem xclN_le (V : Int32) : xclN V ≤ 12 := by
  unfold xclN
  split
  · omega
  · split
    · omega
    · rename_i h1 h2
      by_cases hz : V < 0
      · exact absurd (Int32.lt_trans hz (by decide)) h1
      · obtain ⟨k, hk, rfl⟩ := jI_of hz
        rw [show (12 : Int32) = nI 12 from rfl, jI_lt (by omega) (by omega)] at h2
        rw [jI_nat (by omega)]; omega
theorem law_owes {N L : Nat} (hN0 : 0 < N) (hN : N ≤ 12) (hL : L ≤ 3073) {xs : Nat → Int32} : lwOk N L xs (JJ N) := by
  intro v4 formStands stepCount kind target first second forkVariable yes no starts orderSize reached forerunners blw frontiers parents order waiting meetingNames meetingUses stepNames firstUses secondUses endUses lastNames namesOf homeBlock homePlace standsFor pending length pendingTo pendingFrom copyTo copyFrom way values arriving T0size T0out T0num T1size T1out T1num T2size T2out T2num outc mThrown mReached mForm mSlot mOver mMany mKinds mVs mWs mXs mEnds mEndVariable mYes mNo mStarts mDominators mMeets mSources mSet mUseW mUseX mEndUse mGone mIsName mNameBlock mNameStep mNumbers mSaid mSaidCount mFailed mValues mNextValues mOpen h1 h2 h
  have hv : ∀ j, j < 6 → vp_in (v4 + nI j) L := by
    intro j hj
    have hz : ¬ v4 < 0 := fun q => by
      rw [Int32.lt_iff_toInt_lt] at q
      have : (0 : Int32).toInt = 0 := rfl
      omega
    obtain ⟨k, hk, rfl⟩ := jI_of hz
    rw [jI_int hk] at h1 h2
    rw [jI_add, jI_in (by omega)]
    omega
  exact ⟨k_step hN0 hN hv _ _ _ _ _ _ _ _ _ _ _ _ _ _ _ _ _ _ _ _ _ _ _ _ _ _ _ _ _ _ _ _ _ _ _ _ _ _ _ _ _ _ _ _ _ _ _ _ _ _ _ _ _ _ _ _ _ _ _ _ _ _ _ _ _ _ _ _ _ _ _ _ _ _ _ _ _ _ _ _ _ h, k_go hN0 hN hv _ _ _ _ _ _ _ _ _ _ _ _ _ _ _ _ _ _ _ _ _ _ _ _ _ _ _ _ _ _ _ _ _ _ _ _ _ _ _ _ _ _ _ _ _ _ _ _ _ _ _ _ _ _ _ _ _ _ _ _ _ _ _ _ _ _ _ _ _ _ _ _ _ _ _ _ _ _ _ _ _ h, k_fork hN0 hN hv _ _ _ _ _ _ _ _ _ _ _ _ _ _ _ _ _ _ _ _ _ _ _ _ _ _ _ _ _ _ _ _ _ _ _ _ _ _ _ _ _ _ _ _ _ _ _ _ _ _ _ _ _ _ _ _ _ _ _ _ _ _ _ _ _ _ _ _ _ _ _ _ _ _ _ _ _ _ _ _ _ h, k_stop hN0 hN hv _ _ _ _ _ _ _ _ _ _ _ _ _ _ _ _ _ _ _ _ _ _ _ _ _ _ _ _ _ _ _ _ _ _ _ _ _ _ _ _ _ _ _ _ _ _ _ _ _ _ _ _ _ _ _ _ _ _ _ _ _ _ _ _ _ _ _ _ _ _ _ _ _ _ _ _ _ _ _ _ _ h, k_start hN0 hN hv _ _ _ _ _ _ _ _ _ _ _ _ _ _ _ _ _ _ _ _ _ _ _ _ _ _ _ _ _ _ _ _ _ _ _ _ _ _ _ _ _ _ _ _ _ _ _ _ _ _ _ _ _ _ _ _ _ _ _ _ _ _ _ _ _ _ _ _ _ _ _ _ _ _ _ _ _ _ _ _ _ h, k_build hN0 hN hv _ _ _ _ _ _ _ _ _ _ _ _ _ _ _ _ _ _ _ _ _ _ _ _ _ _ _ _ _ _ _ _ _ _ _ _ _ _ _ _ _ _ _ _ _ _ _ _ _ _ _ _ _ _ _ _ _ _ _ _ _ _ _ _ _ _ _ _ _ _ _ _ _ _ _ _ _ _ _ _ _ h, k_propagate hN0 hN hv _ _ _ _ _ _ _ _ _ _ _ _ _ _ _ _ _ _ _ _ _ _ _ _ _ _ _ _ _ _ _ _ _ _ _ _ _ _ _ _ _ _ _ _ _ _ _ _ _ _ _ _ _ _ _ _ _ _ _ _ _ _ _ _ _ _ _ _ _ _ _ _ _ _ _ _ _ _ _ _ _ h, k_parent hN0 hN hv _ _ _ _ _ _ _ _ _ _ _ _ _ _ _ _ _ _ _ _ _ _ _ _ _ _ _ _ _ _ _ _ _ _ _ _ _ _ _ _ _ _ _ _ _ _ _ _ _ _ _ _ _ _ _ _ _ _ _ _ _ _ _ _ _ _ _ _ _ _ _ _ _ _ _ _ _ _ _ _ _ h, k_dominates hN0 hN hv _ _ _ _ _ _ _ _ _ _ _ _ _ _ _ _ _ _ _ _ _ _ _ _ _ _ _ _ _ _ _ _ _ _ _ _ _ _ _ _ _ _ _ _ _ _ _ _ _ _ _ _ _ _ _ _ _ _ _ _ _ _ _ _ _ _ _ _ _ _ _ _ _ _ _ _ _ _ _ _ _ h, k_frontier hN0 hN hv _ _ _ _ _ _ _ _ _ _ _ _ _ _ _ _ _ _ _ _ _ _ _ _ _ _ _ _ _ _ _ _ _ _ _ _ _ _ _ _ _ _ _ _ _ _ _ _ _ _ _ _ _ _ _ _ _ _ _ _ _ _ _ _ _ _ _ _ _ _ _ _ _ _ _ _ _ _ _ _ _ h, k_meeting hN0 hN hv _ _ _ _ _ _ _ _ _ _ _ _ _ _ _ _ _ _ _ _ _ _ _ _ _ _ _ _ _ _ _ _ _ _ _ _ _ _ _ _ _ _ _ _ _ _ _ _ _ _ _ _ _ _ _ _ _ _ _ _ _ _ _ _ _ _ _ _ _ _ _ _ _ _ _ _ _ _ _ _ _ h, k_source hN0 hN hv _ _ _ _ _ _ _ _ _ _ _ _ _ _ _ _ _ _ _ _ _ _ _ _ _ _ _ _ _ _ _ _ _ _ _ _ _ _ _ _ _ _ _ _ _ _ _ _ _ _ _ _ _ _ _ _ _ _ _ _ _ _ _ _ _ _ _ _ _ _ _ _ _ _ _ _ _ _ _ _ _ h, k_sets hN0 hN hv _ _ _ _ _ _ _ _ _ _ _ _ _ _ _ _ _ _ _ _ _ _ _ _ _ _ _ _ _ _ _ _ _ _ _ _ _ _ _ _ _ _ _ _ _ _ _ _ _ _ _ _ _ _ _ _ _ _ _ _ _ _ _ _ _ _ _ _ _ _ _ _ _ _ _ _ _ _ _ _ _ h, k_use hN0 hN hv _ _ _ _ _ _ _ _ _ _ _ _ _ _ _ _ _ _ _ _ _ _ _ _ _ _ _ _ _ _ _ _ _ _ _ _ _ _ _ _ _ _ _ _ _ _ _ _ _ _ _ _ _ _ _ _ _ _ _ _ _ _ _ _ _ _ _ _ _ _ _ _ _ _ _ _ _ _ _ _ _ h, k_alter hN0 hN hv _ _ _ _ _ _ _ _ _ _ _ _ _ _ _ _ _ _ _ _ _ _ _ _ _ _ _ _ _ _ _ _ _ _ _ _ _ _ _ _ _ _ _ _ _ _ _ _ _ _ _ _ _ _ _ _ _ _ _ _ _ _ _ _ _ _ _ _ _ _ _ _ _ _ _ _ _ _ _ _ _ h, k_turn hN0 hN hv _ _ _ _ _ _ _ _ _ _ _ _ _ _ _ _ _ _ _ _ _ _ _ _ _ _ _ _ _ _ _ _ _ _ _ _ _ _ _ _ _ _ _ _ _ _ _ _ _ _ _ _ _ _ _ _ _ _ _ _ _ _ _ _ _ _ _ _ _ _ _ _ _ _ _ _ _ _ _ _ _ h, k_valid hN0 hN hv _ _ _ _ _ _ _ _ _ _ _ _ _ _ _ _ _ _ _ _ _ _ _ _ _ _ _ _ _ _ _ _ _ _ _ _ _ _ _ _ _ _ _ _ _ _ _ _ _ _ _ _ _ _ _ _ _ _ _ _ _ _ _ _ _ _ _ _ _ _ _ _ _ _ _ _ _ _ _ _ _ h, k_copies hN0 hN hv _ _ _ _ _ _ _ _ _ _ _ _ _ _ _ _ _ _ _ _ _ _ _ _ _ _ _ _ _ _ _ _ _ _ _ _ _ _ _ _ _ _ _ _ _ _ _ _ _ _ _ _ _ _ _ _ _ _ _ _ _ _ _ _ _ _ _ _ _ _ _ _ _ _ _ _ _ _ _ _ _ h, k_run hN0 hN hv _ _ _ _ _ _ _ _ _ _ _ _ _ _ _ _ _ _ _ _ _ _ _ _ _ _ _ _ _ _ _ _ _ _ _ _ _ _ _ _ _ _ _ _ _ _ _ _ _ _ _ _ _ _ _ _ _ _ _ _ _ _ _ _ _ _ _ _ _ _ _ _ _ _ _ _ _ _ _ _ _ h, k_said hN0 hN hv _ _ _ _ _ _ _ _ _ _ _ _ _ _ _ _ _ _ _ _ _ _ _ _ _ _ _ _ _ _ _ _ _ _ _ _ _ _ _ _ _ _ _ _ _ _ _ _ _ _ _ _ _ _ _ _ _ _ _ _ _ _ _ _ _ _ _ _ _ _ _ _ _ _ _ _ _ _ _ _ _ h, k_same hN0 hN hv _ _ _ _ _ _ _ _ _ _ _ _ _ _ _ _ _ _ _ _ _ _ _ _ _ _ _ _ _ _ _ _ _ _ _ _ _ _ _ _ _ _ _ _ _ _ _ _ _ _ _ _ _ _ _ _ _ _ _ _ _ _ _ _ _ _ _ _ _ _ _ _ _ _ _ _ _ _ _ _ _ h⟩
theorem fresh_J {N : Nat} (hN0 : 0 < N) (hN : N ≤ 12) : wpOn_init N (fun a0_ a1_ a2_ a3_ a4_ a5_ a6_ a7_ a8_ a9_ a10_ => JJ N false (fun _ => 0) (fun _ => 0) (fun _ => 0) (fun _ => 0) (fun _ => 0) a0_ a1_ a2_ (fun _ => 0) a3_ a4_ a5_ a6_ a7_ a8_ a9_ a10_ (fun _ => 0) (fun _ => 0) (fun _ => 0) (fun _ => 0) (fun _ => 0) (fun _ => 0) (fun _ => 0) (fun _ => 0) (fun _ => 0) (fun _ => 0) (fun _ => 0) 0 0 (fun _ => 0) (fun _ => 0) (fun _ => 0) (fun _ => 0) 0 (fun _ => 0) (fun _ => 0) 0 0 (fun _ => 0) 0 0 (fun _ => 0) 0 0 (fun _ => 0) (fun _ => 0) 0 0 false 0 false (fun _ => 0) (fun _ => 0) (fun _ => 0) (fun _ => 0) (fun _ => 0) (fun _ => 0) (fun _ => 0) (fun _ => 0) (fun _ => 0) (fun _ => 0) (fun _ => 0) (fun _ => 0) (fun _ => 0) (fun _ => 0) (fun _ => 0) (fun _ => 0) (fun _ => 0) (fun _ => false) (fun _ => false) (fun _ => 0) (fun _ => 0) (fun _ => 0) (fun _ => 0) (fun _ => 0) (fun _ => 0) (fun _ => 0) (fun _ => 0) (fun _ => 0)) := by
  unfold wpOn_init wpProgram_init
  refine fill_sp (by omega) fun fv hfv => fill_sp (by omega) fun y hy => fill_sp (by omega) fun n hn => ?_
  refine survey_sp hN0 hN (fun b hb => ?_) fun orderSize reached forerunners blw frontiers parents order waiting hS => ⟨PR.mk (fun b _ => ⟨0, by omega, rfl, rfl⟩) (fun b _ k _ q => ?_) (fun b hb => Or.inl ⟨rfl, hfv b hb, hy b hb, hn b hb⟩) fun _ _ => rfl, hS, ⟨0, by omega, rfl, rfl, fun i hi => by omega⟩, rfl, fun q => by (cases q)⟩
  · exact Or.inl ⟨hy b hb, hn b hb⟩
  · exact absurd q (jI_neg (by omega))
