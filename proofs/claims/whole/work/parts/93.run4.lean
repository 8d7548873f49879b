/-! running in the reference: meetings and the whole run -/
theorem jI_nn {a : Nat} (h : a < 2147483648) : ¬ nI a < 0 := by rw [jt0, jI_lt h (by omega)]; omega
section MM
variable {N : Nat} {stepCount kind target first second forkVariable yes no starts mMany mKinds mVs mWs mXs mEnds mEndVariable mYes mNo mStarts meetingNames meetingUses stepNames firstUses secondUses endUses homeBlock homePlace mMeets mSources mSet mUseW mUseX mEndUse : Nat → Int32} {mGone mIsName : Nat → Bool} {mNameBlock mNameStep : Nat → Int32} {named : Bool} {TO P1 P2 PE : Nat → Int32} {meet : Nat → Nat → (Nat → Int32) → (Nat → Int32)}
theorem md_meet (hN0 : 0 < N) (hN : N ≤ 12) (F : FR N stepCount kind forkVariable yes no meetingNames meetingUses stepNames firstUses secondUses endUses homeBlock homePlace mMeets mSources mSet mUseW mUseX mEndUse mGone mIsName mNameBlock mNameStep) {c fr : Nat} (hc : c < N) (hfr : fr ≤ N) {values vals arr : Nat → Int32} (hA : Ag values vals) {post : (Nat → Int32) → (Nat → Int32) → Prop} (hp : ∀ values' arr', Ag values' (meetF N meetingNames meetingUses c fr vals) → post values' arr') : wpMd_meet mMeets mSources values arr (nI c) (nI fr) post := by
  have l2 : ∀ (ar : Nat → Int32), (∀ v, v < 6 → ar v = vOf vals (meetingUses ((c * 6 + v) * (N + 1) + fr))) → ∀ (d j : Nat) (va : Nat → Int32), j + d = 6 → (∀ i, i < 600 → va i = if i / 100 < j ∧ meetingNames (c * 6 + i / 100) = nI i then vOf vals (meetingUses ((c * 6 + i / 100) * (N + 1) + fr)) else vals i) → lpMd_meet_47 (nI c) mMeets ar post (d + 1) (nI j) va := by
    intro ar har d
    induction d with
    | zero =>
      intro j va hj h
      have : j = 6 := by omega
      subst this
      refine ⟨fun _ => hp va ar fun i hi => ?_, fun q => absurd (Int32.le_refl _) q⟩
      rw [h i hi]
      unfold meetF
      by_cases z : meetingNames (c * 6 + i / 100) = nI i
      · rw [if_pos ⟨by omega, z⟩, if_pos ⟨hi, z⟩]
      · rw [if_neg fun w => z w.2, if_neg fun w => z w.2]
    | succ d ih =>
      intro j va hj h
      refine ⟨fun q => ?_, fun _ => ?_⟩
      · rw [jt6, jI_le (by omega) (by omega)] at q; omega
      · rw [jt6, jI_mul, jI_add, show 6 * c + j = c * 6 + j by omega, jI_in (by omega), jI_nat (by omega), jI_one, (F.mt c hc j (by omega)).1]
        have mt := (F.mv hN hc (Nat.zero_le N) (v := j) (by omega)).2
        refine ⟨by omega, fun q => ih (j + 1) va (by omega) fun i hi => ?_, fun q => ⟨by omega, ?_⟩⟩
        · have q : meetingNames (c * 6 + j) = -1 := by
            rcases mt with z | ⟨z, z2, -⟩
            · exact z
            · rw [z] at q; exact absurd q (jI_nn (by omega))
          rw [h i hi]
          by_cases e : i / 100 = j
          · rw [if_neg (by omega), if_neg fun w => ?_]
            rw [e, q] at w
            exact jI_m1 (by omega) w.2.symm
          · by_cases z : meetingNames (c * 6 + i / 100) = nI i
            · by_cases e2 : i / 100 < j
              · rw [if_pos ⟨e2, z⟩, if_pos ⟨by omega, z⟩]
              · rw [if_neg (by omega), if_neg (by omega)]
            · rw [if_neg fun w => z w.2, if_neg fun w => z w.2]
        · rcases mt with z | ⟨e1, e2, e3⟩
          · rw [z] at q; exact absurd (by decide) q
          rw [e1, jI_in (by omega), jI_in (by omega), jI_nat (by omega), jI_nat (by omega)]
          refine ⟨by omega, by omega, ih (j + 1) _ (by omega) fun i hi => ?_⟩
          by_cases e : i = tmF meetingNames c j
          · rw [e, upd_same, if_pos ⟨by omega, by rw [e3]; exact e1⟩, e3]; exact har j (by omega)
          · rw [upd_other _ _ e, h i hi]
            by_cases e4 : i / 100 = j
            · rw [if_neg (by omega), if_neg fun w => ?_]
              rw [e4, e1] at w
              exact e ((jI_eq (by omega) (by omega)).mp w.2).symm
            · by_cases z : meetingNames (c * 6 + i / 100) = nI i
              · by_cases e5 : i / 100 < j
                · rw [if_pos ⟨e5, z⟩, if_pos ⟨by omega, z⟩]
                · rw [if_neg (by omega), if_neg (by omega)]
              · rw [if_neg fun w => z w.2, if_neg fun w => z w.2]
  have l1 : ∀ (d j : Nat) (ar : Nat → Int32), j + d = 6 → (∀ v, v < j → ar v = vOf vals (meetingUses ((c * 6 + v) * (N + 1) + fr))) → lpMd_meet_2 (nI c) (nI fr) mMeets mSources values (fun v3_x45 mNextValues_x45 => (∃ k47 : Nat, lpMd_meet_47 (nI c) mMeets mNextValues_x45 post k47 0 values)) (d + 1) (nI j) ar := by
    intro d
    induction d with
    | zero =>
      intro j ar hj h
      have : j = 6 := by omega
      subst this
      refine ⟨fun _ => ⟨6 + 1, l2 ar h 6 0 values (by omega) fun i hi => ?_⟩, fun q => absurd (Int32.le_refl _) q⟩
      rw [if_neg (by omega)]; exact hA i hi
    | succ d ih =>
      intro j ar hj h
      refine ⟨fun q => ?_, fun _ => ?_⟩
      · rw [jt6, jI_le (by omega) (by omega)] at q; omega
      · rw [jI_one]
        have go : ∀ x, x = vOf vals (meetingUses ((c * 6 + j) * (N + 1) + fr)) → lpMd_meet_2 (nI c) (nI fr) mMeets mSources values (fun v3_x45 mNextValues_x45 => (∃ k47 : Nat, lpMd_meet_47 (nI c) mMeets mNextValues_x45 post k47 0 values)) (d + 1) (nI (j + 1)) (upd ar j x) := by
          rintro x rfl
          refine ih (j + 1) _ (by omega) fun v hv => ?_
          by_cases e : v = j
          · subst e; rw [upd_same]
          · rw [upd_other _ _ e]; exact h v (by omega)
        refine sourceOf_sp hN F hc (by omega) hfr ?_
        rw [jI_in (show j < 2147483648 by omega), jI_nat (show j < 2147483648 by omega)]
        rcases (F.so c hc j (by omega) fr hfr).2.2.2.pv with z | ⟨m, hm, z⟩
        · refine ⟨fun q => ?_, fun _ => ⟨by omega, go 0 (by rw [z]; rfl)⟩⟩
          rw [z] at q; exact absurd q (by decide)
        · refine ⟨fun _ => ?_, fun q => ?_⟩
          · rw [z, jI_in (by omega), jI_nat (by omega)]
            exact ⟨hm, by omega, go _ (by rw [z, vOf_at hm]; exact hA m hm)⟩
          · rw [z] at q
            exact absurd (by rw [jt0, jI_le (by omega) (by omega)]; omega) q
  exact ⟨6 + 1, l1 6 0 arr (by omega) (fun v hv => by omega)⟩
theorem md_loop (hN0 : 0 < N) (hN : N ≤ 12) (hP : PR N stepCount kind target first second forkVariable yes no starts mMany mKinds mVs mWs mXs mEnds mEndVariable mYes mNo mStarts) (hW : WayR N stepCount kind target first second forkVariable yes no meetingNames meetingUses stepNames firstUses secondUses endUses named TO P1 P2 PE meet) (hF : named = true → FR N stepCount kind forkVariable yes no meetingNames meetingUses stepNames firstUses secondUses endUses homeBlock homePlace mMeets mSources mSet mUseW mUseX mEndUse mGone mIsName mNameBlock mNameStep) {s : Nat} (hs : s < 3) {said0 sc0 fa0 : Nat → Int32} {post : Int32 → Bool → (Nat → Int32) → (Nat → Int32) → (Nat → Int32) → (Nat → Int32) → (Nat → Int32) → Prop} {res : List Int32 × Int32} (hp : ∀ over said' sc' fa' values' nx', SI s said0 sc0 fa0 said' sc' fa' res.1 res.2 → post (nI s) over said' sc' fa' values' nx') :
    ∀ (r c fr : Nat) (said sc fa values nx vals : Nat → Int32) (out : List Int32), r ≤ 100 → c < N → fr ≤ N → (named = true → Rch (gsc N yes no) okT c ∧ Lead N yes no fr c) → Ag values vals → SI s said0 sc0 fa0 said sc fa out 0 → runF (nsF stepCount) kind first TO P1 P2 PE yes no meet r c fr vals out = res → lpMd_runInto_86 named (nI s) mMany mKinds mVs mWs mXs mEnds mEndVariable mYes mNo mMeets mSources mSet mUseW mUseX mEndUse mGone post (r + 1) (nI fr) (nI c) (nI (100 - r)) false said sc fa values nx := by
  intro r
  induction r with
  | zero =>
    intro c fr said sc fa values nx vals out hr hc hfr hinv hA hSI hres
    have : res = (out, 2) := hres.symm
    subst this
    unfold lpMd_runInto_86 wpMd_fail
    refine ⟨fun q => absurd q (jI_nn (by omega)), fun _ => ⟨fun q => by (cases q), fun _ => ⟨fun q => ?_, fun _ => ?_⟩⟩⟩
    · rw [jI_one, show (100 : Int32) = nI 100 from rfl, jI_le (by omega) (by omega)] at q; omega
    · rw [jI_in (by omega), jI_nat (by omega)]
      exact ⟨hs, hp _ _ _ _ _ _ (hSI.fail 2)⟩
  | succ r ih =>
    intro c fr said sc fa values nx vals out hr hc hfr hinv hA hSI hres
    obtain ⟨n, hn, en, -⟩ := hP.ct c hc
    have hns := nsF_eq hn en
    have hres2 : runF (nsF stepCount) kind first TO P1 P2 PE yes no meet (r + 1) c fr vals out = if (sts kind first TO P1 P2 c (nsF stepCount c) 0 (meet c fr vals) out).2.2 = 0 then (if nbF PE yes no c (sts kind first TO P1 P2 c (nsF stepCount c) 0 (meet c fr vals) out).1 = -1 then ((sts kind first TO P1 P2 c (nsF stepCount c) 0 (meet c fr vals) out).2.1, 0) else runF (nsF stepCount) kind first TO P1 P2 PE yes no meet r (nbF PE yes no c (sts kind first TO P1 P2 c (nsF stepCount c) 0 (meet c fr vals) out).1).toNatClampNeg c (sts kind first TO P1 P2 c (nsF stepCount c) 0 (meet c fr vals) out).1 (sts kind first TO P1 P2 c (nsF stepCount c) 0 (meet c fr vals) out).2.1) else (sts kind first TO P1 P2 c (nsF stepCount c) 0 (meet c fr vals) out).2 := rfl
    rw [hres2, hns] at hres
    unfold lpMd_runInto_86
    refine ⟨fun q => absurd q (jI_nn (by omega)), fun _ => ⟨fun q => by (cases q), fun _ => ⟨fun _ => ?_, fun q => ?_⟩⟩⟩
    · rw [jI_one, show 100 - (r + 1) + 1 = 100 - r by omega, jI_in (show c < 2147483648 by omega), jI_nat (show c < 2147483648 by omega)]
      refine ⟨fun va _ => Ag va (meet c fr vals), fun va nx2 hva => ?_, fun hnm => ?_, fun hnm => ?_⟩
      · intro v3 hv3
        rw [jt6, jI_mul] at hv3
        subst hv3
        refine ⟨n + 1, md_steps hN0 hN hP hW hF hs hc (fun w => (hinv w).1) hn en n 0 said sc fa va (meet c fr vals) out (by omega) hva hSI fun over said' sc' fa' va' ho hA' hSI' => ?_⟩
        generalize sts kind first TO P1 P2 c n 0 (meet c fr vals) out = S at hres ho hA' hSI'
        have fin : ∀ w, w = nbF PE yes no c S.1 → lpMd_runInto_86 named (nI s) mMany mKinds mVs mWs mXs mEnds mEndVariable mYes mNo mMeets mSources mSet mUseW mUseX mEndUse mGone post (r + 1) (nI c) w (nI (100 - r)) over said' sc' fa' va' nx2 := by
          intro w hw
          have done : S.2 = res → post (nI s) over said' sc' fa' va' nx2 := fun e => hp _ _ _ _ _ _ (by rw [← e]; exact hSI')
          by_cases z : S.2.2 = 0
          · have ho2 : over = false := by
              cases over with
              | false => rfl
              | true => exact absurd z (ho.mp rfl)
            subst ho2
            rw [if_pos z] at hres
            rw [z] at hSI'
            rcases nb_next (PE := PE) (vals := S.1) hN hP hc with e | ⟨c', hc', e, hg⟩
            · rw [if_pos e] at hres
              subst hres
              rw [hw, e]
              exact ⟨fun _ => hp _ _ _ _ _ _ hSI', fun q => absurd (by decide) q⟩
            · rw [if_neg (by rw [e]; exact jI_m1 (by omega)), e, jI_nat (by omega)] at hres
              rw [hw, e]
              exact ih c' c said' sc' fa' va' nx2 S.1 S.2.1 (by omega) hc' (by omega) (fun hn => ⟨.step (hinv hn).1 hg trivial, Or.inl ⟨(hinv hn).1, hg⟩⟩) hA' hSI' hres
          · have ho2 : over = true := ho.mpr z
            subst ho2
            rw [if_neg z] at hres
            exact ⟨fun _ => done hres, fun _ => ⟨fun _ => done hres, fun q => by (cases q)⟩⟩
        have pe : ∀ v, v < 6 → mEndVariable c = nI v → forkVariable c = nI v → (named = false → vp_in (100 * mEndVariable c) 600 ∧ va' (Int32.toNatClampNeg (100 * mEndVariable c)) = vOf S.1 (PE c)) ∧ (named = true → vp_in (mEndUse c) 600 ∧ va' (Int32.toNatClampNeg (mEndUse c)) = vOf S.1 (PE c)) := by
          intro v hv e1 e2
          rcases hW with ⟨w0, w1, w2, w3, w4, w5⟩ | ⟨w0, w1, w2, w3, w4, w5⟩
          · refine ⟨fun _ => ?_, fun q => by (rw [w0] at q; cases q)⟩
            rw [w4]
            unfold PEu
            rw [e2, if_neg (jI_m1 (by omega)), e1, show (100 : Int32) = nI 100 from rfl, jI_mul, vOf_at (by omega), jI_in (by omega), jI_nat (by omega)]
            exact ⟨by omega, hA' _ (by omega)⟩
          · refine ⟨fun q => by (rw [w0] at q; cases q), fun _ => ?_⟩
            have eu := (hF w0).eu c hc
            rw [w4, eu.1]
            rcases eu.2.1.pv with z | ⟨m, hm, z⟩
            · exact absurd z (eu.2.2.2 (hinv w0).1 (by rw [e2]; exact jI_m1 (by omega)))
            · rw [z, vOf_at hm, jI_in (by omega), jI_nat (by omega)]
              exact ⟨hm, hA' m hm⟩
        rcases hP.en c hc with ⟨e0, -, e1, e2⟩ | ⟨y, z, hy, hz, e1, e2, e3, e4, h4⟩
        · rw [e0]
          refine ⟨by omega, fun _ => True, fun t _ => ⟨by omega, fun q => absurd rfl q, fun _ => fin (-1) ?_⟩, fun _ => trivial, fun q => absurd q (by decide)⟩
          unfold nbF; rw [e1, e2]; split <;> rfl
        · rcases h4 with ⟨e0, ef, rfl⟩ | ⟨e0, v, hv, ef, ev⟩
          · rw [e0, e3, e4]
            have en : nI y = nbF PE yes no c S.1 := by unfold nbF; rw [e1, e2]; split <;> rfl
            exact ⟨by omega, fun _ => True, fun t _ => ⟨by omega, fun _ => ⟨fun _ => ⟨by omega, fun w hw => fin w (hw.trans en)⟩, fun _ => ⟨by omega, fun w hw => fin w (hw.trans en)⟩⟩, fun q => absurd q (by decide)⟩, fun _ => trivial, fun q => absurd q (by decide)⟩
          · have pe := pe v hv ev ef
            rw [e0, e3, e4]
            refine ⟨by omega, fun t => t = vOf S.1 (PE c), fun t ht => ⟨by omega, fun _ => ⟨fun q => ⟨by omega, fun w hw => fin w ?_⟩, fun q => ⟨by omega, fun w hw => fin w ?_⟩⟩, fun q => absurd q (by decide)⟩, fun q => absurd rfl q, fun _ => ⟨fun hnm => ⟨by omega, (pe.1 hnm).1, (pe.1 hnm).2⟩, fun hnm => ⟨by omega, (pe.2 hnm).1, (pe.2 hnm).2⟩⟩⟩
            · unfold nbF; rw [← ht, if_pos q, e2]; exact hw
            · unfold nbF; rw [← ht, if_neg q, e1]; exact hw
      · rcases hW with ⟨w0, w1, w2, w3, w4, w5⟩ | ⟨w0, w1, w2, w3, w4, w5⟩
        · rw [w5]; exact hA
        · rw [w0] at hnm; cases hnm
      · rcases hW with ⟨w0, w1, w2, w3, w4, w5⟩ | ⟨w0, w1, w2, w3, w4, w5⟩
        · rw [w0] at hnm; cases hnm
        · rw [w5]
          exact md_meet hN0 hN (hF w0) hc hfr hA fun va _ hva => hva
    · exact absurd (by rw [jI_one, show (100 : Int32) = nI 100 from rfl, jI_le (by omega) (by omega)]; omega) q
theorem md_runInto (hN0 : 0 < N) (hN : N ≤ 12) (hP : PR N stepCount kind target first second forkVariable yes no starts mMany mKinds mVs mWs mXs mEnds mEndVariable mYes mNo mStarts) (hW : WayR N stepCount kind target first second forkVariable yes no meetingNames meetingUses stepNames firstUses secondUses endUses named TO P1 P2 PE meet) (hF : named = true → FR N stepCount kind forkVariable yes no meetingNames meetingUses stepNames firstUses secondUses endUses homeBlock homePlace mMeets mSources mSet mUseW mUseX mEndUse mGone mIsName mNameBlock mNameStep) {s : Nat} (hs : s < 3) {said0 sc0 fa0 values nx : Nat → Int32} {post : Int32 → Bool → (Nat → Int32) → (Nat → Int32) → (Nat → Int32) → (Nat → Int32) → (Nat → Int32) → Prop} (hp : ∀ over said' sc' fa' values' nx', SI s said0 sc0 fa0 said' sc' fa' (resF N stepCount kind first TO P1 P2 PE yes no starts meet).1 (resF N stepCount kind first TO P1 P2 PE yes no starts meet).2 → post (nI s) over said' sc' fa' values' nx') : wpMd_runInto N mMany mKinds mVs mWs mXs mEnds mEndVariable mYes mNo mStarts mMeets mSources mSet mUseW mUseX mEndUse mGone said0 sc0 fa0 values nx (nI s) named post := by
  unfold wpMd_runInto
  rw [jI_in (by omega), jI_nat (by omega)]
  refine ⟨hs, hs, 600 + 1, ?_⟩
  have l2 : ∀ (d i : Nat) (va : Nat → Int32), i + d = 6 → (∀ j, j < 600 → va j = if j % 100 = 0 ∧ j / 100 < i then starts (j / 100) else 0) → lpMd_runInto_48 mStarts (fun v3_x75 mValues_x75 => ∀ v3_79 : Int32, v3_79 = (nI N) → (∃ k86 : Nat, lpMd_runInto_86 named (nI s) mMany mKinds mVs mWs mXs mEnds mEndVariable mYes mNo mMeets mSources mSet mUseW mUseX mEndUse mGone post k86 v3_79 0 0 false said0 (upd sc0 s 0) (upd fa0 s 0) mValues_x75 nx)) (d + 1) (nI i) va := by
    intro d
    induction d with
    | zero =>
      intro i va hi h
      have : i = 6 := by omega
      subst this
      refine ⟨fun _ w hw => ⟨100 + 1, ?_⟩, fun q => absurd (Int32.le_refl _) q⟩
      subst hw
      refine md_loop hN0 hN hP hW hF hs (res := resF N stepCount kind first TO P1 P2 PE yes no starts meet) hp 100 0 N said0 _ _ va nx (vals0 starts) [] (by omega) hN0 (Nat.le_refl _) (fun _ => ⟨.zero trivial, Or.inr ⟨rfl, rfl⟩⟩) (fun j hj => ?_) ⟨by rw [upd_same]; rfl, ⟨by simp, fun i x hx => by simp at hx⟩, upd_same _ _ _, fun j _ => rfl, fun j hj => ⟨upd_other _ _ hj, upd_other _ _ hj⟩⟩ rfl
      rw [h j hj]
      unfold vals0
      by_cases z : j % 100 = 0
      · rw [if_pos ⟨z, by omega⟩, if_pos z]
      · rw [if_neg fun w => z w.1, if_neg z]
    | succ d ih =>
      intro i va hi h
      refine ⟨fun q => ?_, fun _ => ?_⟩
      · rw [jt6, jI_le (by omega) (by omega)] at q; omega
      · rw [jI_in (by omega), jI_nat (by omega), jI_one, show (100 : Int32) = nI 100 from rfl, jI_mul, jI_in (by omega), jI_nat (by omega), ← hP.sa i (by omega)]
        refine ⟨by omega, by omega, ih (i + 1) _ (by omega) fun j hj => ?_⟩
        by_cases e : j = 100 * i
        · rw [e, upd_same, if_pos ⟨by omega, by omega⟩, show 100 * i / 100 = i by omega]
        · rw [upd_other _ _ e, h j hj]
          by_cases z : j % 100 = 0 ∧ j / 100 < i
          · rw [if_pos z, if_pos ⟨z.1, by omega⟩]
          · rw [if_neg z, if_neg fun w => z ⟨w.1, by omega⟩]
  have l1 : ∀ (d i : Nat) (va : Nat → Int32), i + d = 600 → (∀ j, j < i → va j = 0) → lpMd_runInto_26 (fun v3_x46 mValues_x46 => (∃ k48 : Nat, lpMd_runInto_48 mStarts (fun v3_x75 mValues_x75 => ∀ v3_79 : Int32, v3_79 = (nI N) → (∃ k86 : Nat, lpMd_runInto_86 named (nI s) mMany mKinds mVs mWs mXs mEnds mEndVariable mYes mNo mMeets mSources mSet mUseW mUseX mEndUse mGone post k86 v3_79 0 0 false said0 (upd sc0 s 0) (upd fa0 s 0) mValues_x75 nx)) k48 0 mValues_x46)) (d + 1) (nI i) va := by
    intro d
    induction d with
    | zero =>
      intro i va hi h
      have : i = 600 := by omega
      subst this
      refine ⟨fun _ => ⟨6 + 1, l2 6 0 va (by omega) fun j hj => ?_⟩, fun q => absurd (Int32.le_refl _) q⟩
      rw [if_neg (by omega)]; exact h j hj
    | succ d ih =>
      intro i va hi h
      refine ⟨fun q => ?_, fun _ => ?_⟩
      · rw [show (600 : Int32) = nI 600 from rfl, jI_le (by omega) (by omega)] at q; omega
      · rw [jI_in (by omega), jI_nat (by omega), jI_one]
        refine ⟨by omega, ih (i + 1) _ (by omega) fun j hj => ?_⟩
        by_cases e : j = i
        · rw [e, upd_same]
        · rw [upd_other _ _ e]; exact h j (by omega)
  exact l1 600 0 values (by omega) fun j hj => by omega
end MM
