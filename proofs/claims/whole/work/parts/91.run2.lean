/-! running in the class: the meetings, and a whole run -/
def meetF (N : Nat) (mn mu : Nat → Int32) (c fr : Nat) (vals : Nat → Int32) : Nat → Int32 := fun i => if i < 600 ∧ mn (c * 6 + i / 100) = nI i then vOf vals (mu ((c * 6 + i / 100) * (N + 1) + fr)) else vals i
theorem useOK.pv {hb : Nat → Int32} {u : Int32} (h : useOK hb u) : PV u := by
  rcases h with h | ⟨m, hm, e, -⟩
  · exact Or.inl h
  · exact Or.inr ⟨m, hm, e⟩
section RM2
variable {N : Nat} {stepCount kind forkVariable yes no meetingNames meetingUses stepNames firstUses secondUses endUses homeBlock homePlace mMeets mSources mSet mUseW mUseX mEndUse : Nat → Int32} {mGone mIsName : Nat → Bool} {mNameBlock mNameStep : Nat → Int32}
theorem setAtOnce_sp (hN0 : 0 < N) (hN : N ≤ 12) (F : FR N stepCount kind forkVariable yes no meetingNames meetingUses stepNames firstUses secondUses endUses homeBlock homePlace mMeets mSources mSet mUseW mUseX mEndUse mGone mIsName mNameBlock mNameStep) {c fr : Nat} (hc : c < N) (hfr : fr ≤ N) {values vals arr : Nat → Int32} (hA : Ag values vals) {post : (Nat → Int32) → (Nat → Int32) → Prop} (hp : ∀ values' arr', Ag values' (meetF N meetingNames meetingUses c fr vals) → post values' arr') : wpRunner_setAtOnce N meetingNames meetingUses values arr (nI c) (nI fr) post := by
  have l2 : ∀ (ar : Nat → Int32), (∀ v, v < 6 → ar v = vOf vals (meetingUses ((c * 6 + v) * (N + 1) + fr))) → ∀ (d j : Nat) (va : Nat → Int32), j + d = 6 → (∀ i, i < 600 → va i = if i / 100 < j ∧ meetingNames (c * 6 + i / 100) = nI i then vOf vals (meetingUses ((c * 6 + i / 100) * (N + 1) + fr)) else vals i) → lpRunner_setAtOnce_36 N (nI c) meetingNames ar post (d + 1) (nI j) va := by
    intro ar har d
    induction d with
    | zero =>
      intro j va hj h
      have : j = 6 := by omega
      subst this
      refine ⟨fun _ => hp va ar fun i hi => ?_, fun q => absurd (Int32.le_refl _) q⟩
      rw [h i hi]
      unfold meetF
      by_cases z : meetingNames (c * 6 + i / 100) = nI i
      · rw [if_pos ⟨by omega, z⟩, if_pos ⟨hi, z⟩]
      · rw [if_neg fun w => z w.2, if_neg fun w => z w.2]
    | succ d ih =>
      intro j va hj h
      refine ⟨fun q => ?_, fun _ => ?_⟩
      · rw [jt6, jI_le (by omega) (by omega)] at q; omega
      · rw [jI_one]
        have mt := (F.mv hN hc (Nat.zero_le N) (v := j) (by omega)).2
        refine meetingName_sp hN hc (by omega) ⟨fun q => ih (j + 1) va (by omega) fun i hi => ?_, fun q => meetingName_sp hN hc (by omega) ?_⟩
        · rw [h i hi]
          by_cases e : i / 100 = j
          · rw [if_neg (by omega), if_neg fun w => ?_]
            rw [e, q] at w
            exact jI_m1 (by omega) w.2.symm
          · by_cases z : meetingNames (c * 6 + i / 100) = nI i
            · by_cases e2 : i / 100 < j
              · rw [if_pos ⟨e2, z⟩, if_pos ⟨by omega, z⟩]
              · rw [if_neg (by omega), if_neg (by omega)]
            · rw [if_neg fun w => z w.2, if_neg fun w => z w.2]
        · rcases mt with z | ⟨e1, e2, e3⟩
          · exact absurd z q
          rw [e1, jI_in (by omega), jI_in (by omega), jI_nat (by omega), jI_nat (by omega)]
          refine ⟨by omega, by omega, ih (j + 1) _ (by omega) fun i hi => ?_⟩
          by_cases e : i = tmF meetingNames c j
          · rw [e, upd_same, if_pos ⟨by omega, by rw [e3]; exact e1⟩, e3]; exact har j (by omega)
          · rw [upd_other _ _ e, h i hi]
            by_cases e4 : i / 100 = j
            · rw [if_neg (by omega), if_neg fun w => ?_]
              rw [e4, e1] at w
              exact e ((jI_eq (by omega) (by omega)).mp w.2).symm
            · by_cases z : meetingNames (c * 6 + i / 100) = nI i
              · by_cases e5 : i / 100 < j
                · rw [if_pos ⟨e5, z⟩, if_pos ⟨by omega, z⟩]
                · rw [if_neg (by omega), if_neg (by omega)]
              · rw [if_neg fun w => z w.2, if_neg fun w => z w.2]
  have l1 : ∀ (d j : Nat) (ar : Nat → Int32), j + d = 6 → (∀ v, v < j → ar v = vOf vals (meetingUses ((c * 6 + v) * (N + 1) + fr))) → lpRunner_setAtOnce_2 N (nI c) (nI fr) meetingUses values (fun v3_x34 arriving_x34 => (∃ k36 : Nat, lpRunner_setAtOnce_36 N (nI c) meetingNames arriving_x34 post k36 0 values)) (d + 1) (nI j) ar := by
    intro d
    induction d with
    | zero =>
      intro j ar hj h
      have : j = 6 := by omega
      subst this
      refine ⟨fun _ => ⟨6 + 1, l2 ar h 6 0 values (by omega) fun i hi => ?_⟩, fun q => absurd (Int32.le_refl _) q⟩
      rw [if_neg (by omega)]; exact hA i hi
    | succ d ih =>
      intro j ar hj h
      refine ⟨fun q => ?_, fun _ => ?_⟩
      · rw [jt6, jI_le (by omega) (by omega)] at q; omega
      · rw [jI_one]
        refine useOfMeeting_sp hN hc (by omega) hfr (valueOf_sp hA (F.so c hc j (by omega) fr hfr).2.2.2.pv ?_)
        rw [jI_in (by omega), jI_nat (by omega)]
        refine ⟨by omega, ih (j + 1) _ (by omega) fun v hv => ?_⟩
        by_cases e : v = j
        · subst e; rw [upd_same]
        · rw [upd_other _ _ e]; exact h v (by omega)
  exact ⟨6 + 1, l1 6 0 arr (by omega) (fun v hv => by omega)⟩
theorem setByCopies_sp (hN0 : 0 < N) (hN : N ≤ 12) (F : FR N stepCount kind forkVariable yes no meetingNames meetingUses stepNames firstUses secondUses endUses homeBlock homePlace mMeets mSources mSet mUseW mUseX mEndUse mGone mIsName mNameBlock mNameStep) {c fr : Nat} (hc : c < N) (hfr : fr ≤ N) (hl : Lead N yes no fr c) {values vals : Nat → Int32} (hA : Ag values vals) {a1 a2 a3 a4 : Nat → Int32} {post : Int32 → Int32 → (Nat → Int32) → (Nat → Int32) → (Nat → Int32) → (Nat → Int32) → (Nat → Int32) → Prop} (hp : ∀ x1 x2 x3 x4 x5 x6 values', Ag values' (meetF N meetingNames meetingUses c fr vals) → post x1 x2 x3 x4 x5 x6 values') : wpRunner_setByCopies N meetingNames meetingUses a1 a2 a3 a4 values (nI c) (nI fr) post := by
  refine draw_sp hN0 hN F hc hfr fun a src pT pF cT cF hD htt => ?_
  generalize ttF (mvF N meetingNames meetingUses c fr) (tmF meetingNames c) (s0F N meetingUses c fr) = tt at hD htt
  have key : ∀ (d k : Nat), k + d = tt → lpRunner_setByCopies_15 (nI 0) (nI tt) pT pF cT cF post (d + 1) (nI k) (exN values cT cF k) := by
    intro d
    induction d with
    | zero =>
      intro k hk
      have : k = tt := by omega
      subst this
      refine ⟨fun _ => hp _ _ _ _ _ _ _ fun i hi => ?_, fun q => absurd (Int32.le_refl _) q⟩
      have hv := hD.2.2.2 values
      have nal : ∀ v, ¬ alv 0 a v := fun v ⟨j, hj, _⟩ => by omega
      unfold meetF
      by_cases z : meetingNames (c * 6 + i / 100) = nI i
      · rw [if_pos ⟨hi, z⟩]
        have hv6 : i / 100 < 6 := by omega
        have so := F.so c hc (i / 100) hv6 fr hfr
        have hne : ¬ meetingNames (c * 6 + i / 100) = -1 := by rw [z]; exact jI_m1 (by omega)
        have hmu := (so.2.1 hne).2 hl
        have mvv := F.mv hN hc hfr hv6
        have etm : tmF meetingNames c (i / 100) = i := by unfold tmF; rw [z, jI_nat (by omega)]
        rcases mvv.1 with w | ⟨w1, w2, -⟩
        · exact absurd w hmu
        have vv : vOf vals (meetingUses ((c * 6 + i / 100) * (N + 1) + fr)) = vals (s0F N meetingUses c fr (i / 100)) := by
          unfold vOf
          rw [if_neg hmu, w1, jI_nat (by omega)]
        rw [vv]
        by_cases hm : mvF N meetingNames meetingUses c fr (i / 100)
        · have := hv.2.1 _ hm (nal _)
          rw [etm] at this
          rw [this]
          exact hA _ w2
        · have hself : meetingUses ((c * 6 + i / 100) * (N + 1) + fr) = meetingNames (c * 6 + i / 100) := Classical.byContradiction fun w => hm ⟨hv6, hmu, w⟩
          have es : s0F N meetingUses c fr (i / 100) = i := by unfold s0F; rw [hself, z, jI_nat (by omega)]
          rw [es, hv.2.2 i hi fun v hmv _ e => ?_]
          · exact hA i hi
          · have h2 := F.mv hN hc hfr hmv.1
            rcases h2.1 with w | ⟨-, -, w3⟩
            · exact hmv.2.1 w
            rcases h2.2 with w | ⟨-, -, w6⟩
            · exact w3 w
            · rw [← e] at w6
              rw [w6] at hm
              exact hm hmv
      · rw [if_neg fun w => z w.2, hv.2.2 i hi fun v hmv _ e => ?_]
        · exact hA i hi
        · have h2 := F.mv hN hc hfr hmv.1
          rcases h2.1 with w | ⟨-, -, w3⟩
          · exact hmv.2.1 w
          rcases h2.2 with w | ⟨w4, -, w6⟩
          · exact w3 w
          · rw [← e] at w4 w6
            rw [w6] at z
            exact z w4
    | succ d ih =>
      intro k hk
      obtain ⟨x, y, hx, hy, e1, e2⟩ := hD.2.2.1 k (by omega)
      unfold lpRunner_setByCopies_15 wpCopyPlan_length wpCopyPlan_to wpCopyPlan_from
      refine ⟨fun q => ?_, fun _ => ?_⟩
      · rw [jI_le (by omega) (by omega)] at q; omega
      · rw [jI_in (by omega), jI_nat (by omega), jI_one]
        refine ⟨by omega, by omega, ?_⟩
        have := ih (k + 1) (by omega)
        simp only [exN] at this
        rw [e1, e2] at this ⊢
        dsimp only
        rw [jI_in (show y < 2147483648 by omega), jI_in (show x < 2147483648 by omega)]
        exact ⟨by omega, by omega, this⟩
  exact ⟨tt + 1, key tt 0 (by omega)⟩
end RM2
section RP
variable {N : Nat} {stepCount kind target first second forkVariable yes no starts mMany mKinds mVs mWs mXs mEnds mEndVariable mYes mNo mStarts meetingNames meetingUses stepNames firstUses secondUses endUses homeBlock homePlace mMeets mSources mSet mUseW mUseX mEndUse : Nat → Int32} {mGone mIsName : Nat → Bool} {mNameBlock mNameStep : Nat → Int32}
/-- the places of a run by its way: of the program, or of the form -/
def WayR (N : Nat) (stepCount kind target first second forkVariable yes no meetingNames meetingUses stepNames firstUses secondUses endUses : Nat → Int32) (named : Bool) (TO P1 P2 PE : Nat → Int32) (meet : Nat → Nat → (Nat → Int32) → (Nat → Int32)) : Prop := (named = false ∧ TO = TOu kind target ∧ P1 = P1u kind first ∧ P2 = P2u kind second ∧ PE = PEu forkVariable ∧ meet = fun _ _ v => v) ∨ (named = true ∧ TO = stepNames ∧ P1 = firstUses ∧ P2 = secondUses ∧ PE = endUses ∧ meet = meetF N meetingNames meetingUses)
theorem nb_next (hN : N ≤ 12) (hP : PR N stepCount kind target first second forkVariable yes no starts mMany mKinds mVs mWs mXs mEnds mEndVariable mYes mNo mStarts) {PE vals : Nat → Int32} {c : Nat} (hc : c < N) : nbF PE yes no c vals = -1 ∨ ∃ c', c' < N ∧ nbF PE yes no c vals = nI c' ∧ gsc N yes no c c' := by
  unfold nbF
  rcases hP.en c hc with ⟨-, -, e1, e2⟩ | ⟨y, z, hy, hz, e1, e2, -⟩
  · rw [e1, e2]; split <;> exact Or.inl rfl
  · split
    · exact Or.inr ⟨z, hz, e2, hc, hz, Or.inr e2⟩
    · exact Or.inr ⟨y, hy, e1, hc, hy, Or.inl e1⟩
theorem perform_loop (hN0 : 0 < N) (hN : N ≤ 12) (hP : PR N stepCount kind target first second forkVariable yes no starts mMany mKinds mVs mWs mXs mEnds mEndVariable mYes mNo mStarts) {named : Bool} {TO P1 P2 PE : Nat → Int32} {meet : Nat → Nat → (Nat → Int32) → (Nat → Int32)} (hW : WayR N stepCount kind target first second forkVariable yes no meetingNames meetingUses stepNames firstUses secondUses endUses named TO P1 P2 PE meet) (hF : named = true → FR N stepCount kind forkVariable yes no meetingNames meetingUses stepNames firstUses secondUses endUses homeBlock homePlace mMeets mSources mSet mUseW mUseX mEndUse mGone mIsName mNameBlock mNameStep) {way : Int32} (hway : (way = 0 ∧ named = false) ∨ ((way = 1 ∨ way = 2) ∧ named = true)) {post : Int32 → Int32 → (Nat → Int32) → (Nat → Int32) → (Nat → Int32) → (Nat → Int32) → Int32 → (Nat → Int32) → (Nat → Int32) → Int32 → Int32 → (Nat → Int32) → Prop} {K : Int32 → Int32 → Int32 → Int32 → Int32 → (Nat → Int32) → (Nat → Int32) → (Nat → Int32) → (Nat → Int32) → (Nat → Int32) → (Nat → Int32) → Int32 → Int32 → (Nat → Int32) → Prop} {res : List Int32 × Int32}
    (hp : ∀ x1 x2 x3 x4 x5 x6 x7 x8 num, OutIs num 0 res.1 → post x1 x2 x3 x4 x5 x6 way x7 x8 (nI res.1.length) res.2 num) (hKf : ∀ y1 y2 y3 x1 x2 x3 x4 x5 x6 x7 x8 num, OutIs num 0 res.1 → res.2 = 2 → K y1 y2 y3 x1 x2 x3 x4 x5 x6 x7 x8 (nI res.1.length) 0 num) :
    ∀ (r c fr : Nat) (x1 x2 : Int32) (x3 x4 x5 x6 values arr vals num : Nat → Int32) (out : List Int32), r ≤ 100 → c < N → fr ≤ N → (named = true → Rch (gsc N yes no) okT c ∧ Lead N yes no fr c) → Ag values vals → OutIs num 0 out → runF (nsF stepCount) kind first TO P1 P2 PE yes no meet r c fr vals out = res → lpRunner_perform_27 N stepCount kind target first second forkVariable yes no meetingNames meetingUses stepNames firstUses secondUses endUses way post K (r + 1) (nI fr) (nI c) (nI (100 - r)) x1 x2 x3 x4 x5 x6 values arr (nI out.length) 0 num := by
  intro r
  induction r with
  | zero =>
    intro c fr x1 x2 x3 x4 x5 x6 values arr vals num out hr hc hfr hinv hA hO hres
    have : res = (out, 2) := hres.symm
    subst this
    exact ⟨fun _ => hKf _ _ _ _ _ _ _ _ _ _ _ _ hO rfl, fun q => absurd (Int32.le_refl _) q⟩
  | succ r ih =>
    intro c fr x1 x2 x3 x4 x5 x6 values arr vals num out hr hc hfr hinv hA hO hres
    obtain ⟨n, hn, en, -⟩ := hP.ct c hc
    have hns := nsF_eq hn en
    refine ⟨fun q => ?_, fun _ => ?_⟩
    · rw [show (100 : Int32) = nI 100 from rfl, jI_le (by omega) (by omega)] at q; omega
    rw [jI_one]
    refine ⟨fun _ _ _ _ _ _ va _ => Ag va (meet c fr vals), fun y1 y2 y3 y4 y5 y6 va y8 hva => ⟨n + 1, ?_⟩, fun q => ⟨fun q2 => ?_, fun q2 => ?_⟩, fun q => ?_⟩
    · have hres2 : runF (nsF stepCount) kind first TO P1 P2 PE yes no meet (r + 1) c fr vals out = if (sts kind first TO P1 P2 c (nsF stepCount c) 0 (meet c fr vals) out).2.2 = 0 then (if nbF PE yes no c (sts kind first TO P1 P2 c (nsF stepCount c) 0 (meet c fr vals) out).1 = -1 then ((sts kind first TO P1 P2 c (nsF stepCount c) 0 (meet c fr vals) out).2.1, 0) else runF (nsF stepCount) kind first TO P1 P2 PE yes no meet r (nbF PE yes no c (sts kind first TO P1 P2 c (nsF stepCount c) 0 (meet c fr vals) out).1).toNatClampNeg c (sts kind first TO P1 P2 c (nsF stepCount c) 0 (meet c fr vals) out).1 (sts kind first TO P1 P2 c (nsF stepCount c) 0 (meet c fr vals) out).2.1) else (sts kind first TO P1 P2 c (nsF stepCount c) 0 (meet c fr vals) out).2 := rfl
      rw [hres2, hns] at hres
      refine doSteps_sp hN hP (TO := TO) (P1 := P1) (P2 := P2) hc ?_ hn en n 0 va (meet c fr vals) num out (by omega) hva hO fun va2 num2 hA2 hO2 => ?_
      · rcases hW with ⟨w0, w1, w2, w3, w4, w5⟩ | ⟨w0, w1, w2, w3, w4, w5⟩
        · refine Or.inl ⟨?_, w1, w2, w3⟩
          rcases hway with z | z
          · exact z.1
          · rw [w0] at z; cases z.2
        · refine Or.inr ⟨?_, w1, w2, w3, fun k hk hlt => ?_⟩
          · rcases hway with z | z
            · rw [w0] at z; cases z.2
            · rcases z.1 with z | z <;> rw [z] <;> decide
          · have F := hF w0
            have us := F.us c hc k hk
            refine ⟨?_, us.2.2.1.pv, us.2.2.2.1.pv⟩
            rcases (F.se c hc k hk hlt).2 with z | ⟨m, hm, e, -⟩
            · exact Or.inl z
            · exact Or.inr ⟨m, hm, e⟩
      · generalize sts kind first TO P1 P2 c n 0 (meet c fr vals) out = S at hres hA2 hO2 ⊢
        unfold wpTalk_outcome
        refine ⟨fun z => ?_, fun z => ?_⟩
        · rw [if_pos z] at hres
          refine nextBlock_sp hN hP (PE := PE) hc ?_ hA2 ⟨fun z2 => ?_, fun z2 => ?_⟩
          · rcases hW with ⟨w0, w1, w2, w3, w4, w5⟩ | ⟨w0, w1, w2, w3, w4, w5⟩
            · refine Or.inl ⟨?_, w4⟩
              rcases hway with z | z
              · exact z.1
              · rw [w0] at z; cases z.2
            · refine Or.inr ⟨?_, w4, ((hF w0).eu c hc).2.1.pv⟩
              rcases hway with z | z
              · rw [w0] at z; cases z.2
              · rcases z.1 with z | z <;> rw [z] <;> decide
          · rw [if_neg z2] at hres
            rcases nb_next (PE := PE) (vals := S.1) hN hP hc with w | ⟨c', hc', w, hg⟩
            · exact absurd w z2
            · rw [w] at hres ⊢
              rw [jI_nat (by omega)] at hres
              rw [show 100 - (r + 1) + 1 = 100 - r by omega, z]
              exact ih c' c _ _ _ _ _ _ va2 _ S.1 num2 S.2.1 (by omega) hc' (by omega) (fun hn => ⟨.step (hinv hn).1 hg trivial, Or.inl ⟨(hinv hn).1, hg⟩⟩) hA2 hO2 hres
          · rw [if_pos z2] at hres
            subst hres
            rw [z]
            exact hp _ _ _ _ _ _ _ _ _ hO2
        · rw [if_neg z] at hres
          subst hres
          exact hp _ _ _ _ _ _ _ _ _ hO2
    · rcases hW with ⟨w0, w1, w2, w3, w4, w5⟩ | ⟨w0, w1, w2, w3, w4, w5⟩
      · rw [w5]; exact hA
      · rcases hway with z | z
        · rw [w0] at z; cases z.2
        · rcases z.1 with z | z
          · exact absurd z q
          · exact absurd z q2
    · rcases hW with ⟨w0, w1, w2, w3, w4, w5⟩ | ⟨w0, w1, w2, w3, w4, w5⟩
      · rcases hway with z | z
        · rw [z.1] at q2; exact absurd q2 (by decide)
        · rw [w0] at z; cases z.2
      · rw [w5]
        exact setByCopies_sp hN0 hN (hF w0) hc hfr (hinv w0).2 hA fun _ _ _ _ _ _ va hva => hva
    · rcases hW with ⟨w0, w1, w2, w3, w4, w5⟩ | ⟨w0, w1, w2, w3, w4, w5⟩
      · rcases hway with z | z
        · rw [z.1] at q; exact absurd q (by decide)
        · rw [w0] at z; cases z.2
      · rw [w5]
        exact setAtOnce_sp hN0 hN (hF w0) hc hfr hA fun va _ hva => hva
/-- the values at the beginning -/
def vals0 (starts : Nat → Int32) (i : Nat) : Int32 := if i % 100 = 0 then starts (i / 100) else 0
noncomputable def resF (N : Nat) (stepCount kind first TO P1 P2 PE yes no starts : Nat → Int32) (meet : Nat → Nat → (Nat → Int32) → (Nat → Int32)) : List Int32 × Int32 := runF (nsF stepCount) kind first TO P1 P2 PE yes no meet 100 0 N (vals0 starts) []
theorem perform_sp (hN0 : 0 < N) (hN : N ≤ 12) (hP : PR N stepCount kind target first second forkVariable yes no starts mMany mKinds mVs mWs mXs mEnds mEndVariable mYes mNo mStarts) {named : Bool} {TO P1 P2 PE : Nat → Int32} {meet : Nat → Nat → (Nat → Int32) → (Nat → Int32)} (hW : WayR N stepCount kind target first second forkVariable yes no meetingNames meetingUses stepNames firstUses secondUses endUses named TO P1 P2 PE meet) (hF : named = true → FR N stepCount kind forkVariable yes no meetingNames meetingUses stepNames firstUses secondUses endUses homeBlock homePlace mMeets mSources mSet mUseW mUseX mEndUse mGone mIsName mNameBlock mNameStep) {way : Int32} (hway : (way = 0 ∧ named = false) ∨ ((way = 1 ∨ way = 2) ∧ named = true)) {x1 x2 : Int32} {x3 x4 x5 x6 values arr num0 : Nat → Int32} {post : Int32 → Int32 → (Nat → Int32) → (Nat → Int32) → (Nat → Int32) → (Nat → Int32) → Int32 → (Nat → Int32) → (Nat → Int32) → Int32 → Int32 → (Nat → Int32) → Prop}
    (hp : ∀ x1 x2 x3 x4 x5 x6 x7 x8 num, OutIs num 0 (resF N stepCount kind first TO P1 P2 PE yes no starts meet).1 → post x1 x2 x3 x4 x5 x6 way x7 x8 (nI (resF N stepCount kind first TO P1 P2 PE yes no starts meet).1.length) (resF N stepCount kind first TO P1 P2 PE yes no starts meet).2 num) : wpRunner_perform N stepCount kind target first second forkVariable yes no starts meetingNames meetingUses stepNames firstUses secondUses endUses x1 x2 x3 x4 x5 x6 values arr num0 way post := by
  unfold wpRunner_perform wpTalk_begin wpRunner_enterProgram
  refine fill_sp (by omega) fun v0 hv0 => ⟨6 + 1, ?_⟩
  have key : ∀ (d i : Nat) (va : Nat → Int32), i + d = 6 → (∀ j, j < 600 → va j = if j % 100 = 0 ∧ j / 100 < i then starts (j / 100) else 0) → lpRunner_enterProgram_10 starts (fun values_10 => wpProgram_blockCount N (fun r17 => (∃ k27 : Nat, lpRunner_perform_27 N stepCount kind target first second forkVariable yes no meetingNames meetingUses stepNames firstUses secondUses endUses way post (fun v3_x105 v4_x105 v5_x105 pending_x105 length_x105 pendingTo_x105 pendingFrom_x105 copyTo_x105 copyFrom_x105 values_x105 arriving_x105 R2size_x105 R2out_x105 R2num_x105 => wpTalk_fail 2 (fun R2out_107 => (post pending_x105 length_x105 pendingTo_x105 pendingFrom_x105 copyTo_x105 copyFrom_x105 way values_x105 arriving_x105 R2size_x105 R2out_107 R2num_x105))) k27 r17 0 0 x1 x2 x3 x4 x5 x6 values_10 arr 0 0 num0))) (d + 1) (nI i) va := by
    intro d
    induction d with
    | zero =>
      intro i va hi h
      have : i = 6 := by omega
      subst this
      refine ⟨fun _ => ⟨100 + 1, ?_⟩, fun q => absurd (Int32.le_refl _) q⟩
      refine perform_loop hN0 hN hP hW hF hway (res := resF N stepCount kind first TO P1 P2 PE yes no starts meet) hp (fun _ _ _ z1 z2 z3 z4 z5 z6 z7 z8 num hO e2 => ?_) 100 0 N x1 x2 x3 x4 x5 x6 va arr (vals0 starts) num0 [] (by omega) hN0 (Nat.le_refl _) (fun _ => ⟨.zero trivial, Or.inr ⟨rfl, rfl⟩⟩) (fun j hj => ?_) ⟨by simp, fun i x hx => by simp at hx⟩ rfl
      · have := hp z1 z2 z3 z4 z5 z6 z7 z8 num hO
        rw [e2] at this
        exact this
      · rw [h j hj]
        unfold vals0
        by_cases z : j % 100 = 0
        · rw [if_pos ⟨z, by omega⟩, if_pos z]
        · rw [if_neg fun w => z w.1, if_neg z]
    | succ d ih =>
      intro i va hi h
      refine ⟨fun q => ?_, fun _ => ?_⟩
      · rw [jt6, jI_le (by omega) (by omega)] at q; omega
      · unfold wpNamedForm_entryName wpProgram_startOf
        rw [jI_in (by omega), jI_nat (by omega), jI_one, show (100 : Int32) = nI 100 from rfl, jI_mul]
        dsimp only
        rw [jI_in (by omega), jI_nat (by omega)]
        refine ⟨by omega, by omega, ih (i + 1) _ (by omega) fun j hj => ?_⟩
        by_cases e : j = 100 * i
        · rw [e, upd_same, if_pos ⟨by omega, by omega⟩, show 100 * i / 100 = i by omega]
        · rw [upd_other _ _ e, h j hj]
          by_cases z : j % 100 = 0 ∧ j / 100 < i
          · rw [if_pos z, if_pos ⟨z.1, by omega⟩]
          · rw [if_neg z, if_neg fun w => z ⟨w.1, by omega⟩]
  refine key 6 0 v0 (by omega) fun j hj => ?_
  rw [if_neg (by omega)]; exact hv0 j (by omega)
end RP
