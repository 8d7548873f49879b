/-! what is asked of the callers' numbers, in class and reference -/
def gB (n : Nat) (v : Int32) : Prop := ∃ k, k < n ∧ v = nI k
theorem gB_iff {n : Nat} (hn : n < 2147483648) {v : Int32} : gB n v ↔ ¬ v < 0 ∧ v < nI n := by
  constructor
  · rintro ⟨k, hk, rfl⟩
    exact ⟨jI_neg (by omega), by rw [jI_lt (by omega) hn]; exact hk⟩
  · rintro ⟨h1, h2⟩
    exact jI_of_lt hn h1 h2
theorem jt6 : (6 : Int32) = nI 6 := rfl
theorem jt7 : (7 : Int32) = nI 7 := rfl
theorem jt8 : (8 : Int32) = nI 8 := rfl
theorem jt5 : (5 : Int32) = nI 5 := rfl
theorem jt2 : (2 : Int32) = nI 2 := rfl
theorem jt1 : (1 : Int32) = nI 1 := rfl
theorem jt0 : (0 : Int32) = nI 0 := rfl
theorem requireBlock_sp {N : Nat} (hN : N ≤ 12) {v : Int32} {post : Prop} {postX : Nat → Prop} (h1 : gB N v → post) (h2 : ¬ gB N v → postX 0) : wpOn_requireBlock N v post postX := by
  have e := @gB_iff N (by omega) v
  refine ⟨fun q => h2 fun z => (e.mp z).1 q, fun q => ⟨fun q2 => h1 (e.mpr ⟨q, q2⟩), fun q2 => h2 fun z => q2 (e.mp z).2⟩⟩
theorem requireVariable_sp {v : Int32} {post : Prop} {postX : Nat → Prop} (h1 : gB 6 v → post) (h2 : ¬ gB 6 v → postX 0) : wpOn_requireVariable v post postX := by
  have e := @gB_iff 6 (by omega) v
  refine ⟨fun q => h2 fun z => (e.mp z).1 q, fun q => ⟨fun q2 => h1 (e.mpr ⟨q, q2⟩), fun q2 => h2 fun z => q2 (e.mp z).2⟩⟩
theorem jI_le_succ {n : Nat} (hn : n < 1000) {v : Int32} (h : ¬ v < 0) : v ≤ nI n ↔ v < nI (n + 1) := by
  obtain ⟨k, hk, rfl⟩ := jI_of h
  rw [jI_le hk (by omega), jI_lt hk (by omega)]
  omega
theorem requireBE_sp {N : Nat} (hN : N ≤ 12) {v : Int32} {post : Prop} {postX : Nat → Prop} (h1 : gB (N + 1) v → post) (h2 : ¬ gB (N + 1) v → postX 0) : wpOn_requireBlockOrEntry N v post postX := by
  have e := @gB_iff (N + 1) (by omega) v
  refine ⟨fun q => h2 fun z => (e.mp z).1 q, fun q => ⟨fun q2 => h1 (e.mpr ⟨q, (jI_le_succ (by omega) q).mp q2⟩), fun q2 => h2 fun z => q2 ((jI_le_succ (by omega) q).mpr (e.mp z).2)⟩⟩
theorem noBlock_sp {N : Nat} (hN : N ≤ 12) {v : Int32} {post : Bool → Prop} (h1 : gB N v → post false) (h2 : ¬ gB N v → post true) : wpMd_noBlock N v post := by
  have e := @gB_iff N (by omega) v
  refine ⟨fun q => h2 fun z => (e.mp z).1 q, fun q => ⟨fun q2 => h1 (e.mpr ⟨q, q2⟩), fun q2 => h2 fun z => q2 (e.mp z).2⟩⟩
theorem noVariable_sp {v : Int32} {post : Bool → Prop} (h1 : gB 6 v → post false) (h2 : ¬ gB 6 v → post true) : wpMd_noVariable v post := by
  have e := @gB_iff 6 (by omega) v
  refine ⟨fun q => h2 fun z => (e.mp z).1 q, fun q => ⟨fun q2 => h1 (e.mpr ⟨q, (jI_le_succ (n := 5) (by omega) q).mp q2⟩), fun q2 => h2 fun z => q2 ((jI_le_succ (n := 5) (by omega) q).mpr (e.mp z).2)⟩⟩
def SP (v0 v1 v2 v3 : Int32) : Prop := gB 8 v0 ∧ (v0 = 0 → ¬ v2 < -999 ∧ v2 ≤ 999) ∧ (¬ v0 = 7 → gB 6 v1) ∧ (¬ v0 = 0 → gB 6 v2) ∧ (¬ v0 < 2 → ¬ 6 < v0 → gB 6 v3)
theorem requireStepParts_sp {v0 v1 v2 v3 : Int32} {post : Prop} {postX : Nat → Prop} (h1 : SP v0 v1 v2 v3 → post) (h2 : ¬ SP v0 v1 v2 v3 → postX 0) : wpOn_requireStepParts v0 v1 v2 v3 post postX := by
  have e := @gB_iff 8 (by omega) v0
  refine ⟨fun q => h2 fun z => (e.mp z.1).1 q, fun q => ⟨fun q2 => ?_, fun q2 => h2 fun z => q2 (e.mp z.1).2⟩⟩
  have g0 : gB 8 v0 := e.mpr ⟨q, q2⟩
  refine ⟨(v0 = 0 → ¬ v2 < -999 ∧ v2 ≤ 999), fun g1 => ?_, fun z => fun z2 => absurd z2 z, fun z => ⟨fun w => h2 fun s => (s.2.1 z).1 w, fun w => ⟨fun w2 => fun _ => ⟨w, w2⟩, fun w2 => h2 fun s => w2 (s.2.1 z).2⟩⟩⟩
  have last : (¬ v0 = 7 → gB 6 v1) → (¬ v0 = 0 → gB 6 v2) → wpProgram_usesSecond v0 (fun r71 => ((r71 = false → post) ∧ (r71 = true → wpOn_requireVariable v3 post (fun x78 => postX x78)))) := by
    intro g2 g3
    refine ⟨fun z => ⟨fun _ => h1 ⟨g0, g1, g2, g3, fun a => absurd z a⟩, fun z2 => by (cases z2)⟩, fun z => ⟨fun z3 => ⟨fun _ => h1 ⟨g0, g1, g2, g3, fun _ a => absurd z3 a⟩, fun z2 => by (cases z2)⟩, fun z3 => ⟨fun z2 => by (cases z2), fun _ => requireVariable_sp (fun g => h1 ⟨g0, g1, g2, g3, fun _ _ => g⟩) (fun g => h2 fun s => g (s.2.2.2.2 z z3))⟩⟩⟩
  have mid : (¬ v0 = 7 → gB 6 v1) → wpProgram_usesFirst v0 (fun r60 => ((r60 = false → wpProgram_usesSecond v0 (fun r71 => ((r71 = false → post) ∧ (r71 = true → wpOn_requireVariable v3 (post) (fun x78 => (postX x78)))))) ∧ (r60 = true → wpOn_requireVariable v2 (wpProgram_usesSecond v0 (fun r71 => ((r71 = false → post) ∧ (r71 = true → wpOn_requireVariable v3 (post) (fun x78 => (postX x78)))))) (fun x67 => (postX x67))))) := by
    intro g2
    refine ⟨fun z => ⟨fun _ => last g2 fun a => absurd z a, fun z2 => by (cases z2)⟩, fun z => ⟨fun z2 => by (cases z2), fun _ => requireVariable_sp (fun g => last g2 fun _ => g) (fun g => h2 fun s => g (s.2.2.2.1 z))⟩⟩
  refine ⟨fun z => ⟨(¬ v0 = 7 → gB 6 v1), mid, fun _ a => absurd z a, fun z2 => by (cases z2)⟩, fun z => ⟨(¬ v0 = 7 → gB 6 v1), mid, fun z2 => by (cases z2), fun _ => requireVariable_sp (fun g _ => g) (fun g => h2 fun s => g (s.2.2.1 z))⟩⟩
/-- the program, in class and reference -/
def PR (N : Nat) (stepCount kind target first second forkVariable yes no starts mMany mKinds mVs mWs mXs mEnds mEndVariable mYes mNo mStarts : Nat → Int32) : Prop :=
  (∀ b, b < N → ∃ k, k ≤ 6 ∧ stepCount b = nI k ∧ mMany b = nI k) ∧
  (∀ b, b < N → ∀ k, k < 6 → nI k < stepCount b → kind (b * 6 + k) = mKinds (b * 6 + k) ∧ target (b * 6 + k) = mVs (b * 6 + k) ∧ first (b * 6 + k) = mWs (b * 6 + k) ∧ second (b * 6 + k) = mXs (b * 6 + k) ∧ SP (kind (b * 6 + k)) (target (b * 6 + k)) (first (b * 6 + k)) (second (b * 6 + k))) ∧
  (∀ b, b < N → (mEnds b = 0 ∧ forkVariable b = -1 ∧ yes b = -1 ∧ no b = -1) ∨ (∃ y z, y < N ∧ z < N ∧ yes b = nI y ∧ no b = nI z ∧ mYes b = nI y ∧ mNo b = nI z ∧ ((mEnds b = 1 ∧ forkVariable b = -1 ∧ y = z) ∨ (mEnds b = 2 ∧ ∃ v, v < 6 ∧ forkVariable b = nI v ∧ mEndVariable b = nI v)))) ∧
  (∀ v, v < 6 → starts v = mStarts v)
theorem PR.ct {N : Nat} {stepCount kind target first second forkVariable yes no starts mMany mKinds mVs mWs mXs mEnds mEndVariable mYes mNo mStarts : Nat → Int32} (h : PR N stepCount kind target first second forkVariable yes no starts mMany mKinds mVs mWs mXs mEnds mEndVariable mYes mNo mStarts) : ∀ b, b < N → ∃ k, k ≤ 6 ∧ stepCount b = nI k ∧ mMany b = nI k := h.1
theorem PR.st {N : Nat} {stepCount kind target first second forkVariable yes no starts mMany mKinds mVs mWs mXs mEnds mEndVariable mYes mNo mStarts : Nat → Int32} (h : PR N stepCount kind target first second forkVariable yes no starts mMany mKinds mVs mWs mXs mEnds mEndVariable mYes mNo mStarts) : ∀ b, b < N → ∀ k, k < 6 → nI k < stepCount b → kind (b * 6 + k) = mKinds (b * 6 + k) ∧ target (b * 6 + k) = mVs (b * 6 + k) ∧ first (b * 6 + k) = mWs (b * 6 + k) ∧ second (b * 6 + k) = mXs (b * 6 + k) ∧ SP (kind (b * 6 + k)) (target (b * 6 + k)) (first (b * 6 + k)) (second (b * 6 + k)) := h.2.1
theorem PR.en {N : Nat} {stepCount kind target first second forkVariable yes no starts mMany mKinds mVs mWs mXs mEnds mEndVariable mYes mNo mStarts : Nat → Int32} (h : PR N stepCount kind target first second forkVariable yes no starts mMany mKinds mVs mWs mXs mEnds mEndVariable mYes mNo mStarts) : ∀ b, b < N → (mEnds b = 0 ∧ forkVariable b = -1 ∧ yes b = -1 ∧ no b = -1) ∨ (∃ y z, y < N ∧ z < N ∧ yes b = nI y ∧ no b = nI z ∧ mYes b = nI y ∧ mNo b = nI z ∧ ((mEnds b = 1 ∧ forkVariable b = -1 ∧ y = z) ∨ (mEnds b = 2 ∧ ∃ v, v < 6 ∧ forkVariable b = nI v ∧ mEndVariable b = nI v))) := h.2.2.1
theorem PR.sa {N : Nat} {stepCount kind target first second forkVariable yes no starts mMany mKinds mVs mWs mXs mEnds mEndVariable mYes mNo mStarts : Nat → Int32} (h : PR N stepCount kind target first second forkVariable yes no starts mMany mKinds mVs mWs mXs mEnds mEndVariable mYes mNo mStarts) : ∀ v, v < 6 → starts v = mStarts v := h.2.2.2
theorem PR.mk {N : Nat} {stepCount kind target first second forkVariable yes no starts mMany mKinds mVs mWs mXs mEnds mEndVariable mYes mNo mStarts : Nat → Int32} (ct : ∀ b, b < N → ∃ k, k ≤ 6 ∧ stepCount b = nI k ∧ mMany b = nI k) (st : ∀ b, b < N → ∀ k, k < 6 → nI k < stepCount b → kind (b * 6 + k) = mKinds (b * 6 + k) ∧ target (b * 6 + k) = mVs (b * 6 + k) ∧ first (b * 6 + k) = mWs (b * 6 + k) ∧ second (b * 6 + k) = mXs (b * 6 + k) ∧ SP (kind (b * 6 + k)) (target (b * 6 + k)) (first (b * 6 + k)) (second (b * 6 + k))) (en : ∀ b, b < N → (mEnds b = 0 ∧ forkVariable b = -1 ∧ yes b = -1 ∧ no b = -1) ∨ (∃ y z, y < N ∧ z < N ∧ yes b = nI y ∧ no b = nI z ∧ mYes b = nI y ∧ mNo b = nI z ∧ ((mEnds b = 1 ∧ forkVariable b = -1 ∧ y = z) ∨ (mEnds b = 2 ∧ ∃ v, v < 6 ∧ forkVariable b = nI v ∧ mEndVariable b = nI v)))) (sa : ∀ v, v < 6 → starts v = mStarts v) : PR N stepCount kind target first second forkVariable yes no starts mMany mKinds mVs mWs mXs mEnds mEndVariable mYes mNo mStarts := ⟨ct, st, en, sa⟩
theorem PR.endr {N : Nat} {stepCount kind target first second forkVariable yes no starts mMany mKinds mVs mWs mXs mEnds mEndVariable mYes mNo mStarts : Nat → Int32} (h : PR N stepCount kind target first second forkVariable yes no starts mMany mKinds mVs mWs mXs mEnds mEndVariable mYes mNo mStarts) : EndR N mEnds mYes mNo yes no := by
  intro b hb
  rcases h.en b hb with ⟨h1, -, h2, h3⟩ | ⟨y, z, hy, hz, e1, e2, e3, e4, h4⟩
  · exact Or.inl ⟨h1, h2, h3⟩
  · refine Or.inr ⟨?_, e3.trans e1.symm, e4.trans e2.symm, y, z, hy, hz, e1, e2⟩
    rcases h4 with ⟨h4, -⟩ | ⟨h4, -⟩ <;> rw [h4] <;> decide
/-! the form in class and reference, and the whole relation -/
def useOK (homeBlock : Nat → Int32) (u : Int32) : Prop := u = -1 ∨ ∃ m, m < 600 ∧ u = nI m ∧ ¬ homeBlock m = -1
def Lead (N : Nat) (yes no : Nat → Int32) (p b : Nat) : Prop := (Rch (gsc N yes no) okT p ∧ gsc N yes no p b) ∨ (p = N ∧ b = 0)
def FR (N : Nat) (stepCount kind forkVariable yes no meetingNames meetingUses stepNames firstUses secondUses endUses homeBlock homePlace mMeets mSources mSet mUseW mUseX mEndUse : Nat → Int32) (mGone mIsName : Nat → Bool) (mNameBlock mNameStep : Nat → Int32) : Prop :=
  (∀ m, m < 600 → (homeBlock m = -1 ∧ mIsName m = false) ∨ (mIsName m = true ∧ mNameBlock m = homeBlock m ∧ mNameStep m = homePlace m ∧ ∃ h, h ≤ N ∧ homeBlock m = nI h ∧ ((h = N ∧ homePlace m = -1) ∨ (h < N ∧ Rch (gsc N yes no) okT h ∧ (homePlace m = -1 ∨ ∃ k, k < 6 ∧ nI k < stepCount h ∧ homePlace m = nI k ∧ stepNames (h * 6 + k) = nI m))))) ∧
  (∀ b, b < N → ∀ v, v < 6 → mMeets (b * 6 + v) = meetingNames (b * 6 + v) ∧ (meetingNames (b * 6 + v) = -1 ∨ (Rch (gsc N yes no) okT b ∧ ∃ m, m < 600 ∧ meetingNames (b * 6 + v) = nI m ∧ m / 100 = v ∧ homeBlock m = nI b ∧ homePlace m = -1))) ∧
  (∀ b, b < N → ∀ v, v < 6 → ∀ p, p ≤ N → (meetingNames (b * 6 + v) = -1 → meetingUses ((b * 6 + v) * (N + 1) + p) = -1) ∧ (¬ meetingNames (b * 6 + v) = -1 → mSources (13 * (b * 6 + v) + p) = meetingUses ((b * 6 + v) * (N + 1) + p) ∧ (Lead N yes no p b → ¬ meetingUses ((b * 6 + v) * (N + 1) + p) = -1)) ∧ (¬ Lead N yes no p b → meetingUses ((b * 6 + v) * (N + 1) + p) = -1) ∧ useOK homeBlock (meetingUses ((b * 6 + v) * (N + 1) + p))) ∧
  (∀ b, b < N → ∀ k, k < 6 → nI k < stepCount b → mSet (b * 6 + k) = stepNames (b * 6 + k) ∧ (stepNames (b * 6 + k) = -1 ∨ ∃ m, m < 600 ∧ stepNames (b * 6 + k) = nI m ∧ homeBlock m = nI b ∧ homePlace m = nI k)) ∧
  (∀ i, i < 72 → (∀ b, b < N → ∀ k, k < 6 → nI k < stepCount b → i ≠ b * 6 + k) → mSet i = -1) ∧
  (∀ b, b < N → ∀ k, k < 6 → mUseW (b * 6 + k) = firstUses (b * 6 + k) ∧ mUseX (b * 6 + k) = secondUses (b * 6 + k) ∧ useOK homeBlock (firstUses (b * 6 + k)) ∧ useOK homeBlock (secondUses (b * 6 + k)) ∧ ((¬ nI k < stepCount b ∨ ¬ Rch (gsc N yes no) okT b) → firstUses (b * 6 + k) = -1 ∧ secondUses (b * 6 + k) = -1)) ∧
  (∀ b, b < N → mEndUse b = endUses b ∧ useOK homeBlock (endUses b) ∧ (¬ Rch (gsc N yes no) okT b → endUses b = -1) ∧ (Rch (gsc N yes no) okT b → ¬ forkVariable b = -1 → ¬ endUses b = -1)) ∧
  (∀ b, b < N → Rch (gsc N yes no) okT b → ∀ k, k < 6 → nI k < stepCount b → (mGone (b * 6 + k) = true ∧ kind (b * 6 + k) = 1 ∧ stepNames (b * 6 + k) = -1 ∧ firstUses (b * 6 + k) = -1) ∨ (mGone (b * 6 + k) = false ∧ (¬ kind (b * 6 + k) = 7 → ¬ stepNames (b * 6 + k) = -1) ∧ (¬ kind (b * 6 + k) = 0 → ¬ firstUses (b * 6 + k) = -1) ∧ (¬ kind (b * 6 + k) < 2 → ¬ 6 < kind (b * 6 + k) → ¬ secondUses (b * 6 + k) = -1)))
theorem FR.nm {N : Nat} {stepCount kind forkVariable yes no meetingNames meetingUses stepNames firstUses secondUses endUses homeBlock homePlace mMeets mSources mSet mUseW mUseX mEndUse : Nat → Int32} {mGone mIsName : Nat → Bool} {mNameBlock mNameStep : Nat → Int32} (h : FR N stepCount kind forkVariable yes no meetingNames meetingUses stepNames firstUses secondUses endUses homeBlock homePlace mMeets mSources mSet mUseW mUseX mEndUse mGone mIsName mNameBlock mNameStep) : ∀ m, m < 600 → (homeBlock m = -1 ∧ mIsName m = false) ∨ (mIsName m = true ∧ mNameBlock m = homeBlock m ∧ mNameStep m = homePlace m ∧ ∃ h, h ≤ N ∧ homeBlock m = nI h ∧ ((h = N ∧ homePlace m = -1) ∨ (h < N ∧ Rch (gsc N yes no) okT h ∧ (homePlace m = -1 ∨ ∃ k, k < 6 ∧ nI k < stepCount h ∧ homePlace m = nI k ∧ stepNames (h * 6 + k) = nI m)))) := h.1
theorem FR.mt {N : Nat} {stepCount kind forkVariable yes no meetingNames meetingUses stepNames firstUses secondUses endUses homeBlock homePlace mMeets mSources mSet mUseW mUseX mEndUse : Nat → Int32} {mGone mIsName : Nat → Bool} {mNameBlock mNameStep : Nat → Int32} (h : FR N stepCount kind forkVariable yes no meetingNames meetingUses stepNames firstUses secondUses endUses homeBlock homePlace mMeets mSources mSet mUseW mUseX mEndUse mGone mIsName mNameBlock mNameStep) : ∀ b, b < N → ∀ v, v < 6 → mMeets (b * 6 + v) = meetingNames (b * 6 + v) ∧ (meetingNames (b * 6 + v) = -1 ∨ (Rch (gsc N yes no) okT b ∧ ∃ m, m < 600 ∧ meetingNames (b * 6 + v) = nI m ∧ m / 100 = v ∧ homeBlock m = nI b ∧ homePlace m = -1)) := h.2.1
theorem FR.so {N : Nat} {stepCount kind forkVariable yes no meetingNames meetingUses stepNames firstUses secondUses endUses homeBlock homePlace mMeets mSources mSet mUseW mUseX mEndUse : Nat → Int32} {mGone mIsName : Nat → Bool} {mNameBlock mNameStep : Nat → Int32} (h : FR N stepCount kind forkVariable yes no meetingNames meetingUses stepNames firstUses secondUses endUses homeBlock homePlace mMeets mSources mSet mUseW mUseX mEndUse mGone mIsName mNameBlock mNameStep) : ∀ b, b < N → ∀ v, v < 6 → ∀ p, p ≤ N → (meetingNames (b * 6 + v) = -1 → meetingUses ((b * 6 + v) * (N + 1) + p) = -1) ∧ (¬ meetingNames (b * 6 + v) = -1 → mSources (13 * (b * 6 + v) + p) = meetingUses ((b * 6 + v) * (N + 1) + p) ∧ (Lead N yes no p b → ¬ meetingUses ((b * 6 + v) * (N + 1) + p) = -1)) ∧ (¬ Lead N yes no p b → meetingUses ((b * 6 + v) * (N + 1) + p) = -1) ∧ useOK homeBlock (meetingUses ((b * 6 + v) * (N + 1) + p)) := h.2.2.1
theorem FR.se {N : Nat} {stepCount kind forkVariable yes no meetingNames meetingUses stepNames firstUses secondUses endUses homeBlock homePlace mMeets mSources mSet mUseW mUseX mEndUse : Nat → Int32} {mGone mIsName : Nat → Bool} {mNameBlock mNameStep : Nat → Int32} (h : FR N stepCount kind forkVariable yes no meetingNames meetingUses stepNames firstUses secondUses endUses homeBlock homePlace mMeets mSources mSet mUseW mUseX mEndUse mGone mIsName mNameBlock mNameStep) : ∀ b, b < N → ∀ k, k < 6 → nI k < stepCount b → mSet (b * 6 + k) = stepNames (b * 6 + k) ∧ (stepNames (b * 6 + k) = -1 ∨ ∃ m, m < 600 ∧ stepNames (b * 6 + k) = nI m ∧ homeBlock m = nI b ∧ homePlace m = nI k) := h.2.2.2.1
theorem FR.sx {N : Nat} {stepCount kind forkVariable yes no meetingNames meetingUses stepNames firstUses secondUses endUses homeBlock homePlace mMeets mSources mSet mUseW mUseX mEndUse : Nat → Int32} {mGone mIsName : Nat → Bool} {mNameBlock mNameStep : Nat → Int32} (h : FR N stepCount kind forkVariable yes no meetingNames meetingUses stepNames firstUses secondUses endUses homeBlock homePlace mMeets mSources mSet mUseW mUseX mEndUse mGone mIsName mNameBlock mNameStep) : ∀ i, i < 72 → (∀ b, b < N → ∀ k, k < 6 → nI k < stepCount b → i ≠ b * 6 + k) → mSet i = -1 := h.2.2.2.2.1
theorem FR.us {N : Nat} {stepCount kind forkVariable yes no meetingNames meetingUses stepNames firstUses secondUses endUses homeBlock homePlace mMeets mSources mSet mUseW mUseX mEndUse : Nat → Int32} {mGone mIsName : Nat → Bool} {mNameBlock mNameStep : Nat → Int32} (h : FR N stepCount kind forkVariable yes no meetingNames meetingUses stepNames firstUses secondUses endUses homeBlock homePlace mMeets mSources mSet mUseW mUseX mEndUse mGone mIsName mNameBlock mNameStep) : ∀ b, b < N → ∀ k, k < 6 → mUseW (b * 6 + k) = firstUses (b * 6 + k) ∧ mUseX (b * 6 + k) = secondUses (b * 6 + k) ∧ useOK homeBlock (firstUses (b * 6 + k)) ∧ useOK homeBlock (secondUses (b * 6 + k)) ∧ ((¬ nI k < stepCount b ∨ ¬ Rch (gsc N yes no) okT b) → firstUses (b * 6 + k) = -1 ∧ secondUses (b * 6 + k) = -1) := h.2.2.2.2.2.1
theorem FR.eu {N : Nat} {stepCount kind forkVariable yes no meetingNames meetingUses stepNames firstUses secondUses endUses homeBlock homePlace mMeets mSources mSet mUseW mUseX mEndUse : Nat → Int32} {mGone mIsName : Nat → Bool} {mNameBlock mNameStep : Nat → Int32} (h : FR N stepCount kind forkVariable yes no meetingNames meetingUses stepNames firstUses secondUses endUses homeBlock homePlace mMeets mSources mSet mUseW mUseX mEndUse mGone mIsName mNameBlock mNameStep) : ∀ b, b < N → mEndUse b = endUses b ∧ useOK homeBlock (endUses b) ∧ (¬ Rch (gsc N yes no) okT b → endUses b = -1) ∧ (Rch (gsc N yes no) okT b → ¬ forkVariable b = -1 → ¬ endUses b = -1) := h.2.2.2.2.2.2.1
theorem FR.gn {N : Nat} {stepCount kind forkVariable yes no meetingNames meetingUses stepNames firstUses secondUses endUses homeBlock homePlace mMeets mSources mSet mUseW mUseX mEndUse : Nat → Int32} {mGone mIsName : Nat → Bool} {mNameBlock mNameStep : Nat → Int32} (h : FR N stepCount kind forkVariable yes no meetingNames meetingUses stepNames firstUses secondUses endUses homeBlock homePlace mMeets mSources mSet mUseW mUseX mEndUse mGone mIsName mNameBlock mNameStep) : ∀ b, b < N → Rch (gsc N yes no) okT b → ∀ k, k < 6 → nI k < stepCount b → (mGone (b * 6 + k) = true ∧ kind (b * 6 + k) = 1 ∧ stepNames (b * 6 + k) = -1 ∧ firstUses (b * 6 + k) = -1) ∨ (mGone (b * 6 + k) = false ∧ (¬ kind (b * 6 + k) = 7 → ¬ stepNames (b * 6 + k) = -1) ∧ (¬ kind (b * 6 + k) = 0 → ¬ firstUses (b * 6 + k) = -1) ∧ (¬ kind (b * 6 + k) < 2 → ¬ 6 < kind (b * 6 + k) → ¬ secondUses (b * 6 + k) = -1)) := h.2.2.2.2.2.2.2
theorem FR.mk {N : Nat} {stepCount kind forkVariable yes no meetingNames meetingUses stepNames firstUses secondUses endUses homeBlock homePlace mMeets mSources mSet mUseW mUseX mEndUse : Nat → Int32} {mGone mIsName : Nat → Bool} {mNameBlock mNameStep : Nat → Int32} (nm : ∀ m, m < 600 → (homeBlock m = -1 ∧ mIsName m = false) ∨ (mIsName m = true ∧ mNameBlock m = homeBlock m ∧ mNameStep m = homePlace m ∧ ∃ h, h ≤ N ∧ homeBlock m = nI h ∧ ((h = N ∧ homePlace m = -1) ∨ (h < N ∧ Rch (gsc N yes no) okT h ∧ (homePlace m = -1 ∨ ∃ k, k < 6 ∧ nI k < stepCount h ∧ homePlace m = nI k ∧ stepNames (h * 6 + k) = nI m))))) (mt : ∀ b, b < N → ∀ v, v < 6 → mMeets (b * 6 + v) = meetingNames (b * 6 + v) ∧ (meetingNames (b * 6 + v) = -1 ∨ (Rch (gsc N yes no) okT b ∧ ∃ m, m < 600 ∧ meetingNames (b * 6 + v) = nI m ∧ m / 100 = v ∧ homeBlock m = nI b ∧ homePlace m = -1))) (so : ∀ b, b < N → ∀ v, v < 6 → ∀ p, p ≤ N → (meetingNames (b * 6 + v) = -1 → meetingUses ((b * 6 + v) * (N + 1) + p) = -1) ∧ (¬ meetingNames (b * 6 + v) = -1 → mSources (13 * (b * 6 + v) + p) = meetingUses ((b * 6 + v) * (N + 1) + p) ∧ (Lead N yes no p b → ¬ meetingUses ((b * 6 + v) * (N + 1) + p) = -1)) ∧ (¬ Lead N yes no p b → meetingUses ((b * 6 + v) * (N + 1) + p) = -1) ∧ useOK homeBlock (meetingUses ((b * 6 + v) * (N + 1) + p))) (se : ∀ b, b < N → ∀ k, k < 6 → nI k < stepCount b → mSet (b * 6 + k) = stepNames (b * 6 + k) ∧ (stepNames (b * 6 + k) = -1 ∨ ∃ m, m < 600 ∧ stepNames (b * 6 + k) = nI m ∧ homeBlock m = nI b ∧ homePlace m = nI k)) (sx : ∀ i, i < 72 → (∀ b, b < N → ∀ k, k < 6 → nI k < stepCount b → i ≠ b * 6 + k) → mSet i = -1) (us : ∀ b, b < N → ∀ k, k < 6 → mUseW (b * 6 + k) = firstUses (b * 6 + k) ∧ mUseX (b * 6 + k) = secondUses (b * 6 + k) ∧ useOK homeBlock (firstUses (b * 6 + k)) ∧ useOK homeBlock (secondUses (b * 6 + k)) ∧ ((¬ nI k < stepCount b ∨ ¬ Rch (gsc N yes no) okT b) → firstUses (b * 6 + k) = -1 ∧ secondUses (b * 6 + k) = -1)) (eu : ∀ b, b < N → mEndUse b = endUses b ∧ useOK homeBlock (endUses b) ∧ (¬ Rch (gsc N yes no) okT b → endUses b = -1) ∧ (Rch (gsc N yes no) okT b → ¬ forkVariable b = -1 → ¬ endUses b = -1)) (gn : ∀ b, b < N → Rch (gsc N yes no) okT b → ∀ k, k < 6 → nI k < stepCount b → (mGone (b * 6 + k) = true ∧ kind (b * 6 + k) = 1 ∧ stepNames (b * 6 + k) = -1 ∧ firstUses (b * 6 + k) = -1) ∨ (mGone (b * 6 + k) = false ∧ (¬ kind (b * 6 + k) = 7 → ¬ stepNames (b * 6 + k) = -1) ∧ (¬ kind (b * 6 + k) = 0 → ¬ firstUses (b * 6 + k) = -1) ∧ (¬ kind (b * 6 + k) < 2 → ¬ 6 < kind (b * 6 + k) → ¬ secondUses (b * 6 + k) = -1))) : FR N stepCount kind forkVariable yes no meetingNames meetingUses stepNames firstUses secondUses endUses homeBlock homePlace mMeets mSources mSet mUseW mUseX mEndUse mGone mIsName mNameBlock mNameStep := ⟨nm, mt, so, se, sx, us, eu, gn⟩
def TR0 (T0size : Int32) (T0num mSaid mSaidCount : Nat → Int32) : Prop := ∃ s, s ≤ 50 ∧ T0size = nI s ∧ mSaidCount 0 = nI s ∧ ∀ i, i < s → T0num i = mSaid i
def JJ (N : Nat) (formStands : Bool) (stepCount : Nat → Int32) (kind : Nat → Int32) (target : Nat → Int32) (first : Nat → Int32) (second : Nat → Int32) (forkVariable : Nat → Int32) (yes : Nat → Int32) (no : Nat → Int32) (starts : Nat → Int32) (orderSize : Int32) (reached : Int32) (forerunners : Nat → Int32) (blw : Nat → Int32) (frontiers : Nat → Int32) (parents : Nat → Int32) (order : Nat → Int32) (waiting : Nat → Int32) (meetingNames : Nat → Int32) (meetingUses : Nat → Int32) (stepNames : Nat → Int32) (firstUses : Nat → Int32) (secondUses : Nat → Int32) (endUses : Nat → Int32) (lastNames : Nat → Int32) (namesOf : Nat → Int32) (homeBlock : Nat → Int32) (homePlace : Nat → Int32) (standsFor : Nat → Int32) (pending : Int32) (length : Int32) (pendingTo : Nat → Int32) (pendingFrom : Nat → Int32) (copyTo : Nat → Int32) (copyFrom : Nat → Int32) (way : Int32) (values : Nat → Int32) (arriving : Nat → Int32) (T0size : Int32) (T0out : Int32) (T0num : Nat → Int32) (T1size : Int32) (T1out : Int32) (T1num : Nat → Int32) (T2size : Int32) (T2out : Int32) (T2num : Nat → Int32) (outc : Nat → Int64) (mThrown : Int32) (mReached : Int32) (mForm : Bool) (mSlot : Int32) (mOver : Bool) (mMany : Nat → Int32) (mKinds : Nat → Int32) (mVs : Nat → Int32) (mWs : Nat → Int32) (mXs : Nat → Int32) (mEnds : Nat → Int32) (mEndVariable : Nat → Int32) (mYes : Nat → Int32) (mNo : Nat → Int32) (mStarts : Nat → Int32) (mDominators : Nat → Int32) (mMeets : Nat → Int32) (mSources : Nat → Int32) (mSet : Nat → Int32) (mUseW : Nat → Int32) (mUseX : Nat → Int32) (mEndUse : Nat → Int32) (mGone : Nat → Bool) (mIsName : Nat → Bool) (mNameBlock : Nat → Int32) (mNameStep : Nat → Int32) (mNumbers : Nat → Int32) (mSaid : Nat → Int32) (mSaidCount : Nat → Int32) (mFailed : Nat → Int32) (mValues : Nat → Int32) (mNextValues : Nat → Int32) (mOpen : Nat → Int32) : Prop := PR N stepCount kind target first second forkVariable yes no starts mMany mKinds mVs mWs mXs mEnds mEndVariable mYes mNo mStarts ∧ SurvIs N yes no orderSize reached forerunners blw frontiers parents order ∧ TR0 T0size T0num mSaid mSaidCount ∧ formStands = mForm ∧ (formStands = true → FR N stepCount kind forkVariable yes no meetingNames meetingUses stepNames firstUses secondUses endUses homeBlock homePlace mMeets mSources mSet mUseW mUseX mEndUse mGone mIsName mNameBlock mNameStep)
theorem lg_same (x : Int64) : lg_cmp x x = 0 := by
  unfold lg_cmp
  rw [if_neg (by exact Int64.lt_irrefl), if_pos rfl]
theorem out_in : vp_in 0 1 := by
  rw [show (0 : Int32) = nI 0 from rfl, jI_in (by omega)]
  omega
theorem out_at (f : Nat → Int64) (x : Int64) : vp_updL f (Int32.toNatClampNeg 0) x (Int32.toNatClampNeg 0) = x := by simp [vp_updL]
/-! the calls that change the program -/
theorem bI_t : ¬ bI true = 0 := by decide
theorem lw_step_sp {N : Nat} (hN : N ≤ 12) {formStands : Bool} {stepCount kind target first second : Nat → Int32} {outc : Nat → Int64} {v1 v2 v3 v4 v5 : Int32} {post : Int32 → Bool → (Nat → Int32) → (Nat → Int32) → (Nat → Int32) → (Nat → Int32) → (Nat → Int32) → (Nat → Int64) → Prop} (hc : ∀ b, b < N → ∃ k, k ≤ 6 ∧ stepCount b = nI k)
    (h1 : ¬ (gB N v1 ∧ SP v2 v3 v4 v5) → post 1 formStands stepCount kind target first second outc) (h2 : ∀ b, b < N → v1 = nI b → SP v2 v3 v4 v5 → stepCount b = nI 6 → post 2 formStands stepCount kind target first second outc) (h3 : ∀ b k, b < N → k < 6 → v1 = nI b → SP v2 v3 v4 v5 → stepCount b = nI k → post 0 false (upd stepCount b (nI (k + 1))) (upd kind (b * 6 + k) v2) (upd target (b * 6 + k) v3) (upd first (b * 6 + k) v4) (upd second (b * 6 + k) v5) (vp_updL outc (Int32.toNatClampNeg 0) (Int32.toInt64 (nI (k + 1))))) : wpLw_step N formStands stepCount kind target first second outc v1 v2 v3 v4 v5 post := by
  unfold wpLw_step wpOn_step
  refine requireBlock_sp hN (fun g => requireStepParts_sp (fun s => ?_) fun s => ⟨Or.inl rfl, fun _ => h1 fun z => s z.2, fun q => by omega⟩) fun g => ⟨Or.inl rfl, fun _ => h1 fun z => g z.1, fun q => by omega⟩
  obtain ⟨b, hb, rfl⟩ := g
  obtain ⟨k, hk, e⟩ := hc b hb
  unfold wpProgram_stepsOf wpProgram_addStep
  rw [jI_in (by omega), jI_nat (by omega), e, jt6, jI_mul, jI_add]
  dsimp only
  rw [jI_lt (by omega) (by omega)]
  refine ⟨hb, fun q => ⟨hb, fun v hv => ?_⟩, fun q => ⟨Or.inr rfl, fun q => by omega, fun _ => h2 b hb rfl s (by rw [e, show k = 6 by omega])⟩⟩
  subst hv
  rw [jI_in (by omega), jI_nat (by omega), jI_one, upd_same]
  refine ⟨by omega, by omega, by omega, by omega, hb, hb, hb, out_in, h3 b k hb q rfl s e⟩
theorem md_step_sp {N : Nat} (hN : N ≤ 12) {mForm : Bool} {mMany mKinds mVs mWs mXs : Nat → Int32} {v1 v2 v3 v4 v5 : Int32} {post : Int32 → Int32 → Bool → (Nat → Int32) → (Nat → Int32) → (Nat → Int32) → (Nat → Int32) → (Nat → Int32) → Prop} (hc : ∀ b, b < N → ∃ k, k ≤ 6 ∧ mMany b = nI k)
    (h1 : ¬ (gB N v1 ∧ SP v2 v3 v4 v5) → post 0 1 mForm mMany mKinds mVs mWs mXs) (h2 : ∀ b, b < N → v1 = nI b → SP v2 v3 v4 v5 → mMany b = nI 6 → post 0 2 mForm mMany mKinds mVs mWs mXs) (h3 : ∀ b k, b < N → k < 6 → v1 = nI b → SP v2 v3 v4 v5 → mMany b = nI k → post (nI (k + 1)) 0 false (upd mMany b (nI (k + 1))) (upd mKinds (b * 6 + k) v2) (upd mVs (b * 6 + k) v3) (upd mWs (b * 6 + k) v4) (upd mXs (b * 6 + k) v5)) : wpMd_step N mForm mMany mKinds mVs mWs mXs v1 v2 v3 v4 v5 post := by
  have good : (gB N v1 ∧ SP v2 v3 v4 v5) → vp_in v1 12 ∧ (∃ J132 : Int32 → Prop, (∀ (t132_0 : Int32), (J132 t132_0) → ((t132_0 = 0 → vp_in v1 12 ∧ ∀ v7_155 : Int32, v7_155 = ((6 * v1) + (mMany (Int32.toNatClampNeg v1))) → vp_in v7_155 72 ∧ vp_in v7_155 72 ∧ vp_in v7_155 72 ∧ vp_in v7_155 72 ∧ vp_in v1 12 ∧ vp_in v1 12 ∧ vp_in v1 12 ∧ (post ((upd mMany (Int32.toNatClampNeg v1) ((mMany (Int32.toNatClampNeg v1)) + 1)) (Int32.toNatClampNeg v1)) t132_0 false (upd mMany (Int32.toNatClampNeg v1) ((mMany (Int32.toNatClampNeg v1)) + 1)) (upd mKinds (Int32.toNatClampNeg v7_155) v2) (upd mVs (Int32.toNatClampNeg v7_155) v3) (upd mWs (Int32.toNatClampNeg v7_155) v4) (upd mXs (Int32.toNatClampNeg v7_155) v5))) ∧ (¬ t132_0 = 0 → (post 0 t132_0 mForm mMany mKinds mVs mWs mXs)))) ∧ ((¬ (mMany (Int32.toNatClampNeg v1)) = 6 → (J132 0)) ∧ ((mMany (Int32.toNatClampNeg v1)) = 6 → (J132 2)))) := by
    rintro ⟨⟨b, hb, rfl⟩, s⟩
    obtain ⟨k, hk, e⟩ := hc b hb
    rw [jI_in (by omega), jI_nat (by omega), e, jt6, jI_mul, jI_add, jI_eq (by omega) (by omega)]
    refine ⟨by omega, fun t => (k < 6 ∧ t = 0) ∨ (k = 6 ∧ t = 2), fun t ht => ⟨fun q => ⟨by omega, fun v hv => ?_⟩, fun q => ?_⟩, fun q => Or.inl ⟨by omega, rfl⟩, fun q => Or.inr ⟨q, rfl⟩⟩
    · subst hv
      rcases ht with ⟨hk6, rfl⟩ | ⟨-, rfl⟩
      · rw [jI_in (by omega), jI_nat (by omega), jI_one, upd_same]
        refine ⟨by omega, by omega, by omega, by omega, by omega, by omega, by omega, ?_⟩
        rw [show 6 * b + k = b * 6 + k by omega]
        exact h3 b k hb hk6 rfl s e
      · exact absurd q (by decide)
    · rcases ht with ⟨-, rfl⟩ | ⟨hk6, rfl⟩
      · exact absurd rfl q
      · exact h2 b hb rfl s (by rw [e, hk6])
  have fin : ∀ z : Bool, (z = true ↔ ¬ (gB N v1 ∧ SP v2 v3 v4 v5)) → (((bI z) = 0 → vp_in v1 12 ∧ (∃ J132 : Int32 → Prop, (∀ (t132_0 : Int32), (J132 t132_0) → ((t132_0 = 0 → vp_in v1 12 ∧ ∀ v7_155 : Int32, v7_155 = ((6 * v1) + (mMany (Int32.toNatClampNeg v1))) → vp_in v7_155 72 ∧ vp_in v7_155 72 ∧ vp_in v7_155 72 ∧ vp_in v7_155 72 ∧ vp_in v1 12 ∧ vp_in v1 12 ∧ vp_in v1 12 ∧ (post ((upd mMany (Int32.toNatClampNeg v1) ((mMany (Int32.toNatClampNeg v1)) + 1)) (Int32.toNatClampNeg v1)) t132_0 false (upd mMany (Int32.toNatClampNeg v1) ((mMany (Int32.toNatClampNeg v1)) + 1)) (upd mKinds (Int32.toNatClampNeg v7_155) v2) (upd mVs (Int32.toNatClampNeg v7_155) v3) (upd mWs (Int32.toNatClampNeg v7_155) v4) (upd mXs (Int32.toNatClampNeg v7_155) v5))) ∧ (¬ t132_0 = 0 → (post 0 t132_0 mForm mMany mKinds mVs mWs mXs)))) ∧ ((¬ (mMany (Int32.toNatClampNeg v1)) = 6 → (J132 0)) ∧ ((mMany (Int32.toNatClampNeg v1)) = 6 → (J132 2))))) ∧ (¬ (bI z) = 0 → (post 0 (bI z) mForm mMany mKinds mVs mWs mXs))) := by
    intro z hz
    cases z with
    | false => exact ⟨fun _ => good (Classical.byContradiction fun q => by have := hz.mpr q; cases this), fun q => absurd rfl q⟩
    | true => exact ⟨fun q => absurd q bI_t, fun _ => h1 (hz.mp rfl)⟩
  refine noBlock_sp hN (fun g => ⟨fun t => (t = true ↔ ¬ (gB N v1 ∧ SP v2 v3 v4 v5)), fun t ht => ⟨fun z => (z = true ↔ ¬ (gB N v1 ∧ SP v2 v3 v4 v5)), fin, fun q => q ▸ ht, fun q => q ▸ ht⟩, ¬ (gB N v1 ∧ SP v2 v3 v4 v5), fun q => ⟨fun _ => q, fun _ => rfl⟩, fun q => by (cases q), fun _ => ?_⟩) fun g => ⟨fun t => (t = true ↔ ¬ (gB N v1 ∧ SP v2 v3 v4 v5)), fun t ht => ⟨fun z => (z = true ↔ ¬ (gB N v1 ∧ SP v2 v3 v4 v5)), fin, fun q => q ▸ ht, fun q => q ▸ ht⟩, ¬ (gB N v1 ∧ SP v2 v3 v4 v5), fun q => ⟨fun _ => q, fun _ => rfl⟩, fun _ z => g z.1, fun q => by (cases q)⟩
  have e8 := @gB_iff 8 (by omega) v2
  refine ⟨fun q z => (e8.mp z.2.1).1 q, fun q1 => ⟨fun q z => ?_, fun q2 => ?_⟩⟩
  · obtain ⟨k, hk, rfl⟩ := z.2.1
    rw [jt7, jI_lt (by omega) (by omega)] at q
    omega
  · obtain ⟨k, hk, rfl⟩ := jI_of q1
    rw [jt7, jI_lt (by omega) hk] at q2
    have g0 : gB 8 (nI k) := ⟨k, by omega, rfl⟩
    rw [jt7, jI_le (by omega) hk, jt0, jI_le hk (by omega), jt1, jI_le hk (by omega), jI_eq hk (by omega)]
    refine ⟨(¬ k = 7 → gB 6 v3), fun g1 => ⟨(¬ k = 0 → gB 6 v4), fun g2 => ⟨(2 ≤ k → k ≤ 6 → gB 6 v5), fun g3 => ?_, fun q => fun q2 => by omega, fun q => ⟨fun q3 _ q4 => by omega, fun q3 => noVariable_sp (fun g => ⟨fun q => by (cases q), fun _ _ _ => g⟩) (fun g => ⟨fun _ z => ?_, fun q => by (cases q)⟩)⟩⟩, fun q q2 => by omega, fun q => noVariable_sp (fun g => ⟨fun q => by (cases q), fun _ _ => g⟩) (fun g => ⟨fun _ z => ?_, fun q => by (cases q)⟩)⟩, fun q q2 => by omega, fun q => noVariable_sp (fun g => ⟨fun q => by (cases q), fun _ _ => g⟩) (fun g => ⟨fun _ z => ?_, fun q => by (cases q)⟩)⟩
    · have mk : (nI k = 0 → ¬ v4 < -999 ∧ v4 ≤ 999) → SP (nI k) v3 v4 v5 := by
        intro h
        refine ⟨g0, h, fun q => g1 fun e => q (by rw [e]; rfl), fun q => g2 fun e => q (by rw [e]; rfl), fun q3 q4 => ?_⟩
        rw [jt2, jI_lt hk (by omega)] at q3
        rw [jt6, jI_lt (by omega) hk] at q4
        exact g3 (by omega) (by omega)
      refine ⟨fun q => ⟨fun q3 => by (cases q3), fun q3 => absurd ⟨g, mk fun z => ?_⟩ q3⟩, fun q => ⟨fun q3 z => ?_, fun q3 => ⟨fun q4 => ⟨fun q3 => by (cases q3), fun q5 => absurd ⟨g, mk fun _ => ⟨q3, q4⟩⟩ q5⟩, fun q4 z => ?_⟩⟩⟩
      · exact (z.2.2.1 (by rw [q]; rfl)).1 q3
      · exact q4 (z.2.2.1 (by rw [q]; rfl)).2
      · rw [jt0, jI_eq hk (by omega)] at z; exact absurd z q
    · refine g (z.2.2.2.2.2 ?_ ?_)
      · rw [jt2, jI_lt hk (by omega)]; omega
      · rw [jt6, jI_lt (by omega) hk]; omega
    · refine g (z.2.2.2.2.1 ?_)
      rw [jt0, jI_eq hk (by omega)]; omega
    · refine g (z.2.2.2.1 ?_)
      rw [jt7, jI_eq hk (by omega)]; omega
theorem PR.ct1 {N : Nat} {stepCount kind target first second forkVariable yes no starts mMany mKinds mVs mWs mXs mEnds mEndVariable mYes mNo mStarts : Nat → Int32} (h : PR N stepCount kind target first second forkVariable yes no starts mMany mKinds mVs mWs mXs mEnds mEndVariable mYes mNo mStarts) : ∀ b, b < N → ∃ k, k ≤ 6 ∧ stepCount b = nI k := fun b hb => by
  obtain ⟨k, h1, h2, -⟩ := h.ct b hb
  exact ⟨k, h1, h2⟩
theorem PR.ct2 {N : Nat} {stepCount kind target first second forkVariable yes no starts mMany mKinds mVs mWs mXs mEnds mEndVariable mYes mNo mStarts : Nat → Int32} (h : PR N stepCount kind target first second forkVariable yes no starts mMany mKinds mVs mWs mXs mEnds mEndVariable mYes mNo mStarts) : ∀ b, b < N → ∃ k, k ≤ 6 ∧ mMany b = nI k := fun b hb => by
  obtain ⟨k, h1, -, h2⟩ := h.ct b hb
  exact ⟨k, h1, h2⟩
theorem PR.step {N : Nat} (hN : N ≤ 12) {stepCount kind target first second forkVariable yes no starts mMany mKinds mVs mWs mXs mEnds mEndVariable mYes mNo mStarts : Nat → Int32} (h : PR N stepCount kind target first second forkVariable yes no starts mMany mKinds mVs mWs mXs mEnds mEndVariable mYes mNo mStarts) {b k : Nat} (hb : b < N) (hk : k < 6) (e : stepCount b = nI k) {v2 v3 v4 v5 : Int32} (s : SP v2 v3 v4 v5) :
    PR N (upd stepCount b (nI (k + 1))) (upd kind (b * 6 + k) v2) (upd target (b * 6 + k) v3) (upd first (b * 6 + k) v4) (upd second (b * 6 + k) v5) forkVariable yes no starts (upd mMany b (nI (k + 1))) (upd mKinds (b * 6 + k) v2) (upd mVs (b * 6 + k) v3) (upd mWs (b * 6 + k) v4) (upd mXs (b * 6 + k) v5) mEnds mEndVariable mYes mNo mStarts :=
  PR.mk
    (ct := fun c hc => by
      by_cases q : c = b
      · subst q; exact ⟨k + 1, by omega, upd_same _ _ _, upd_same _ _ _⟩
      · rw [upd_other _ _ q, upd_other _ _ q]; exact h.ct c hc)
    (st := fun c hc j hj hlt => by
      by_cases q : c * 6 + j = b * 6 + k
      · rw [q]; simp only [upd_same]; exact ⟨trivial, trivial, trivial, trivial, s⟩
      · simp only [upd_other _ _ q]
        refine h.st c hc j hj ?_
        by_cases q2 : c = b
        · subst q2
          rw [upd_same, jI_lt (by omega) (by omega)] at hlt
          rw [e, jI_lt (by omega) (by omega)]
          omega
        · rw [upd_other _ _ q2] at hlt; exact hlt)
    (en := h.en)
    (sa := h.sa)
theorem k_step {N L : Nat} {xs : Nat → Int32} {v4 : Int32} (hN0 : 0 < N) (hN : N ≤ 12) (hv : ∀ j, j < 6 → vp_in (v4 + nI j) L) (formStands : Bool) (stepCount : Nat → Int32) (kind : Nat → Int32) (target : Nat → Int32) (first : Nat → Int32) (second : Nat → Int32) (forkVariable : Nat → Int32) (yes : Nat → Int32) (no : Nat → Int32) (starts : Nat → Int32) (orderSize : Int32) (reached : Int32) (forerunners : Nat → Int32) (blw : Nat → Int32) (frontiers : Nat → Int32) (parents : Nat → Int32) (order : Nat → Int32) (waiting : Nat → Int32) (meetingNames : Nat → Int32) (meetingUses : Nat → Int32) (stepNames : Nat → Int32) (firstUses : Nat → Int32) (secondUses : Nat → Int32) (endUses : Nat → Int32) (lastNames : Nat → Int32) (namesOf : Nat → Int32) (homeBlock : Nat → Int32) (homePlace : Nat → Int32) (standsFor : Nat → Int32) (pending : Int32) (length : Int32) (pendingTo : Nat → Int32) (pendingFrom : Nat → Int32) (copyTo : Nat → Int32) (copyFrom : Nat → Int32) (way : Int32) (values : Nat → Int32) (arriving : Nat → Int32) (T0size : Int32) (T0out : Int32) (T0num : Nat → Int32) (T1size : Int32) (T1out : Int32) (T1num : Nat → Int32) (T2size : Int32) (T2out : Int32) (T2num : Nat → Int32) (outc : Nat → Int64) (mThrown : Int32) (mReached : Int32) (mForm : Bool) (mSlot : Int32) (mOver : Bool) (mMany : Nat → Int32) (mKinds : Nat → Int32) (mVs : Nat → Int32) (mWs : Nat → Int32) (mXs : Nat → Int32) (mEnds : Nat → Int32) (mEndVariable : Nat → Int32) (mYes : Nat → Int32) (mNo : Nat → Int32) (mStarts : Nat → Int32) (mDominators : Nat → Int32) (mMeets : Nat → Int32) (mSources : Nat → Int32) (mSet : Nat → Int32) (mUseW : Nat → Int32) (mUseX : Nat → Int32) (mEndUse : Nat → Int32) (mGone : Nat → Bool) (mIsName : Nat → Bool) (mNameBlock : Nat → Int32) (mNameStep : Nat → Int32) (mNumbers : Nat → Int32) (mSaid : Nat → Int32) (mSaidCount : Nat → Int32) (mFailed : Nat → Int32) (mValues : Nat → Int32) (mNextValues : Nat → Int32) (mOpen : Nat → Int32) (h : JJ N formStands stepCount kind target first second forkVariable yes no starts orderSize reached forerunners blw frontiers parents order waiting meetingNames meetingUses stepNames firstUses secondUses endUses lastNames namesOf homeBlock homePlace standsFor pending length pendingTo pendingFrom copyTo copyFrom way values arriving T0size T0out T0num T1size T1out T1num T2size T2out T2num outc mThrown mReached mForm mSlot mOver mMany mKinds mVs mWs mXs mEnds mEndVariable mYes mNo mStarts mDominators mMeets mSources mSet mUseW mUseX mEndUse mGone mIsName mNameBlock mNameStep mNumbers mSaid mSaidCount mFailed mValues mNextValues mOpen) : wpLc_step N L xs v4 formStands stepCount kind target first second forkVariable yes no starts orderSize reached forerunners blw frontiers parents order waiting meetingNames meetingUses stepNames firstUses secondUses endUses lastNames namesOf homeBlock homePlace standsFor pending length pendingTo pendingFrom copyTo copyFrom way values arriving T0size T0out T0num T1size T1out T1num T2size T2out T2num outc mThrown mReached mForm mSlot mOver mMany mKinds mVs mWs mXs mEnds mEndVariable mYes mNo mStarts mDominators mMeets mSources mSet mUseW mUseX mEndUse mGone mIsName mNameBlock mNameStep mNumbers mSaid mSaidCount mFailed mValues mNextValues mOpen (JJ N) := by
  obtain ⟨hP, hS, hT, hf, hF⟩ := h
  refine ⟨(hv 1 (by omega)), (hv 2 (by omega)), (hv 3 (by omega)), (hv 4 (by omega)), (hv 5 (by omega)), ?_⟩
  refine lw_step_sp hN hP.ct1 (fun g => ⟨(hv 1 (by omega)), (hv 2 (by omega)), (hv 3 (by omega)), (hv 4 (by omega)), (hv 5 (by omega)), md_step_sp hN hP.ct2 (fun _ => ?_) (fun b hb e s _ => absurd ⟨⟨b, hb, e⟩, s⟩ g) (fun b k hb _ e s _ => absurd ⟨⟨b, hb, e⟩, s⟩ g)⟩) (fun b hb e s e6 => ⟨(hv 1 (by omega)), (hv 2 (by omega)), (hv 3 (by omega)), (hv 4 (by omega)), (hv 5 (by omega)), md_step_sp hN hP.ct2 (fun g => absurd ⟨⟨b, hb, e⟩, s⟩ g) (fun b' hb' e' s' e6' => ?_) (fun b' k' hb' hk' e' s' e6' => ?_)⟩) (fun b k hb hk e s ek => ⟨(hv 1 (by omega)), (hv 2 (by omega)), (hv 3 (by omega)), (hv 4 (by omega)), (hv 5 (by omega)), md_step_sp hN hP.ct2 (fun g => absurd ⟨⟨b, hb, e⟩, s⟩ g) (fun b' hb' e' s' e6' => ?_) (fun b' k' hb' hk' e' s' e6' => ?_)⟩)
  · exact ⟨fun _ => ⟨fun _ => ⟨hP, hS, hT, hf, hF⟩, fun q => absurd q (by decide)⟩, fun q => absurd rfl q⟩
  · exact ⟨fun _ => ⟨fun _ => ⟨hP, hS, hT, hf, hF⟩, fun q => absurd q (by decide)⟩, fun q => absurd rfl q⟩
  · rw [e] at e'
    have := (jI_eq (by omega) (by omega)).mp e'
    subst this
    obtain ⟨z, z1, z2, z3⟩ := hP.ct b hb
    rw [z2, jI_eq (by omega) (by omega)] at e6
    rw [z3, jI_eq (by omega) (by omega)] at e6'
    omega
  · rw [e] at e'
    have := (jI_eq (by omega) (by omega)).mp e'
    subst this
    obtain ⟨z, z1, z2, z3⟩ := hP.ct b hb
    rw [z2, jI_eq (by omega) (by omega)] at ek
    rw [z3, jI_eq (by omega) (by omega)] at e6'
    omega
  · rw [e] at e'
    have := (jI_eq (by omega) (by omega)).mp e'
    subst this
    obtain ⟨z, z1, z2, z3⟩ := hP.ct b hb
    have hkk : k = k' := by
      have ek' := ek
      rw [z2, jI_eq (by omega) (by omega)] at ek'
      rw [z3, jI_eq (by omega) (by omega)] at e6'
      omega
    subst hkk
    refine ⟨fun _ => ⟨fun q => absurd rfl q, fun _ => ⟨out_in, fun _ => ⟨hP.step hN hb hk ek s, hS, hT, rfl, fun q => by (cases q)⟩, fun q => absurd ?_ q⟩⟩, fun q => absurd rfl q⟩
    rw [out_at]
    exact lg_same _
/-! go, fork, stop, start; parent, dominates, frontier -/
theorem giveEnd_sp {N : Nat} (hN0 : 0 < N) (hN : N ≤ 12) {forkVariable yes no forerunners blw frontiers parents order waiting : Nat → Int32} {b : Nat} (hb : b < N) {v2 v3 v4 : Int32} {post : Bool → (Nat → Int32) → (Nat → Int32) → (Nat → Int32) → Int32 → Int32 → (Nat → Int32) → (Nat → Int32) → (Nat → Int32) → (Nat → Int32) → (Nat → Int32) → (Nat → Int32) → Prop} (hE : GE N (upd yes b v3) (upd no b v4))
    (hp : ∀ orderSize reached forerunners blw frontiers parents order waiting, SurvIs N (upd yes b v3) (upd no b v4) orderSize reached forerunners blw frontiers parents order → post false (upd forkVariable b v2) (upd yes b v3) (upd no b v4) orderSize reached forerunners blw frontiers parents order waiting) : wpOn_giveEnd N forkVariable yes no forerunners blw frontiers parents order waiting (nI b) v2 v3 v4 post := by
  unfold wpOn_giveEnd wpProgram_changeEnd
  rw [jI_in (by omega), jI_nat (by omega)]
  exact ⟨hb, hb, hb, survey_sp hN0 hN hE fun a1 a2 a3 a4 a5 a6 a7 a8 hs => hp a1 a2 a3 a4 a5 a6 a7 a8 hs⟩
section PRS
variable {N : Nat} {stepCount kind target first second forkVariable yes no starts mMany mKinds mVs mWs mXs mEnds mEndVariable mYes mNo mStarts : Nat → Int32}
theorem PR.go (h : PR N stepCount kind target first second forkVariable yes no starts mMany mKinds mVs mWs mXs mEnds mEndVariable mYes mNo mStarts) {b c : Nat} (hc : c < N) : PR N stepCount kind target first second (upd forkVariable b (-1)) (upd yes b (nI c)) (upd no b (nI c)) starts mMany mKinds mVs mWs mXs (upd mEnds b 1) mEndVariable (upd mYes b (nI c)) (upd mNo b (nI c)) mStarts :=
  PR.mk
    (ct := h.ct)
    (st := h.st)
    (sa := h.sa)
    (en := fun x hx => by
      by_cases e : x = b
      · subst e; simp only [upd_same]; exact Or.inr ⟨c, c, hc, hc, rfl, rfl, rfl, rfl, Or.inl ⟨trivial, trivial, rfl⟩⟩
      · simp only [upd_other _ _ e]; exact h.en x hx)
theorem PR.fork (h : PR N stepCount kind target first second forkVariable yes no starts mMany mKinds mVs mWs mXs mEnds mEndVariable mYes mNo mStarts) {b v y z : Nat} (hv : v < 6) (hy : y < N) (hz : z < N) : PR N stepCount kind target first second (upd forkVariable b (nI v)) (upd yes b (nI y)) (upd no b (nI z)) starts mMany mKinds mVs mWs mXs (upd mEnds b 2) (upd mEndVariable b (nI v)) (upd mYes b (nI y)) (upd mNo b (nI z)) mStarts :=
  PR.mk
    (ct := h.ct)
    (st := h.st)
    (sa := h.sa)
    (en := fun x hx => by
      by_cases e : x = b
      · subst e; simp only [upd_same]; exact Or.inr ⟨y, z, hy, hz, rfl, rfl, rfl, rfl, Or.inr ⟨trivial, v, hv, rfl, rfl⟩⟩
      · simp only [upd_other _ _ e]; exact h.en x hx)
theorem PR.stop (h : PR N stepCount kind target first second forkVariable yes no starts mMany mKinds mVs mWs mXs mEnds mEndVariable mYes mNo mStarts) {b : Nat} : PR N stepCount kind target first second (upd forkVariable b (-1)) (upd yes b (-1)) (upd no b (-1)) starts mMany mKinds mVs mWs mXs (upd mEnds b 0) mEndVariable mYes mNo mStarts :=
  PR.mk
    (ct := h.ct)
    (st := h.st)
    (sa := h.sa)
    (en := fun x hx => by
      by_cases e : x = b
      · subst e; simp only [upd_same]; exact Or.inl ⟨trivial, trivial, trivial, trivial⟩
      · simp only [upd_other _ _ e]; exact h.en x hx)
theorem PR.start (h : PR N stepCount kind target first second forkVariable yes no starts mMany mKinds mVs mWs mXs mEnds mEndVariable mYes mNo mStarts) {v : Nat} {w : Int32} : PR N stepCount kind target first second forkVariable yes no (upd starts v w) mMany mKinds mVs mWs mXs mEnds mEndVariable mYes mNo (upd mStarts v w) :=
  PR.mk
    (ct := h.ct)
    (st := h.st)
    (en := h.en)
    (sa := fun x hx => by
      by_cases e : x = v
      · subst e; rw [upd_same, upd_same]
      · rw [upd_other _ _ e, upd_other _ _ e]; exact h.sa x hx)
end PRS
theorem md_go_sp {N : Nat} (hN : N ≤ 12) {mForm : Bool} {mEnds mYes mNo : Nat → Int32} {v1 v2 : Int32} {post : Int32 → Bool → (Nat → Int32) → (Nat → Int32) → (Nat → Int32) → Prop} (h1 : ¬ (gB N v1 ∧ gB N v2) → post 1 mForm mEnds mYes mNo) (h2 : ∀ b c, b < N → c < N → v1 = nI b → v2 = nI c → post 0 false (upd mEnds b 1) (upd mYes b (nI c)) (upd mNo b (nI c))) : wpMd_go N mForm mEnds mYes mNo v1 v2 post := by
  have fin : ∀ z : Bool, (z = true ↔ ¬ (gB N v1 ∧ gB N v2)) → ((¬ (bI z) = 0 → (post (bI z) mForm mEnds mYes mNo)) ∧ ((bI z) = 0 → vp_in v1 12 ∧ vp_in v1 12 ∧ vp_in v1 12 ∧ (post (bI z) false (upd mEnds (Int32.toNatClampNeg v1) 1) (upd mYes (Int32.toNatClampNeg v1) v2) (upd mNo (Int32.toNatClampNeg v1) v2)))) := by
    intro z hz
    cases z with
    | true => exact ⟨fun _ => h1 (hz.mp rfl), fun q => absurd q bI_t⟩
    | false =>
      refine ⟨fun q => absurd rfl q, fun _ => ?_⟩
      obtain ⟨⟨b, hb, rfl⟩, c, hc, rfl⟩ := Classical.byContradiction fun q => by have := hz.mpr q; cases this
      rw [jI_in (by omega), jI_nat (by omega)]
      exact ⟨by omega, by omega, by omega, h2 b c hb hc rfl rfl⟩
  refine noBlock_sp hN (fun g => ⟨_, fin, ¬ (gB N v1 ∧ gB N v2), fun q => ⟨fun _ => q, fun _ => rfl⟩, fun q => by (cases q), fun _ => noBlock_sp hN (fun g2 => ⟨fun _ => ⟨fun q => by (cases q), fun q => absurd ⟨g, g2⟩ q⟩, fun q => by (cases q)⟩) (fun g2 => ⟨fun q => by (cases q), fun _ z => g2 z.2⟩)⟩) (fun g => ⟨_, fin, ¬ (gB N v1 ∧ gB N v2), fun q => ⟨fun _ => q, fun _ => rfl⟩, fun _ z => g z.1, fun q => by (cases q)⟩)
theorem md_fork_sp {N : Nat} (hN : N ≤ 12) {mForm : Bool} {mEnds mEndVariable mYes mNo : Nat → Int32} {v1 v2 v3 v4 : Int32} {post : Int32 → Bool → (Nat → Int32) → (Nat → Int32) → (Nat → Int32) → (Nat → Int32) → Prop} (h1 : ¬ (gB N v1 ∧ gB 6 v2 ∧ gB N v3 ∧ gB N v4) → post 1 mForm mEnds mEndVariable mYes mNo) (h2 : ∀ b v y z, b < N → v < 6 → y < N → z < N → v1 = nI b → v2 = nI v → v3 = nI y → v4 = nI z → post 0 false (upd mEnds b 2) (upd mEndVariable b (nI v)) (upd mYes b (nI y)) (upd mNo b (nI z))) : wpMd_fork N mForm mEnds mEndVariable mYes mNo v1 v2 v3 v4 post := by
  have fin : ∀ z : Bool, (z = true ↔ ¬ (gB N v1 ∧ gB 6 v2 ∧ gB N v3 ∧ gB N v4)) → ((¬ (bI z) = 0 → (post (bI z) mForm mEnds mEndVariable mYes mNo)) ∧ ((bI z) = 0 → vp_in v1 12 ∧ vp_in v1 12 ∧ vp_in v1 12 ∧ vp_in v1 12 ∧ (post (bI z) false (upd mEnds (Int32.toNatClampNeg v1) 2) (upd mEndVariable (Int32.toNatClampNeg v1) v2) (upd mYes (Int32.toNatClampNeg v1) v3) (upd mNo (Int32.toNatClampNeg v1) v4)))) := by
    intro z hz
    cases z with
    | true => exact ⟨fun _ => h1 (hz.mp rfl), fun q => absurd q bI_t⟩
    | false =>
      refine ⟨fun q => absurd rfl q, fun _ => ?_⟩
      obtain ⟨⟨b, hb, rfl⟩, ⟨v, hv, rfl⟩, ⟨y, hy, rfl⟩, z, hz2, rfl⟩ := Classical.byContradiction fun q => by have := hz.mpr q; cases this
      rw [jI_in (by omega), jI_nat (by omega)]
      exact ⟨by omega, by omega, by omega, by omega, h2 b v y z hb hv hy hz2 rfl rfl rfl rfl⟩
  refine noBlock_sp hN (fun g => ⟨_, fin, ¬ (gB N v1 ∧ gB 6 v2 ∧ gB N v3 ∧ gB N v4), fun q => ⟨fun _ => q, fun _ => rfl⟩, fun q => by (cases q), fun _ => noVariable_sp (fun g2 => ⟨fun q => by (cases q), fun _ => noBlock_sp hN (fun g3 => ⟨fun q => by (cases q), fun _ => noBlock_sp hN (fun g4 => ⟨fun _ => ⟨fun q => by (cases q), fun q => absurd ⟨g, g2, g3, g4⟩ q⟩, fun q => by (cases q)⟩) (fun g4 => ⟨fun q => by (cases q), fun _ z => g4 z.2.2.2⟩)⟩) (fun g3 => ⟨fun _ z => g3 z.2.2.1, fun q => by (cases q)⟩)⟩) (fun g2 => ⟨fun _ z => g2 z.2.1, fun q => by (cases q)⟩)⟩) (fun g => ⟨_, fin, ¬ (gB N v1 ∧ gB 6 v2 ∧ gB N v3 ∧ gB N v4), fun q => ⟨fun _ => q, fun _ => rfl⟩, fun _ z => g z.1, fun q => by (cases q)⟩)
theorem md_stop_sp {N : Nat} (hN : N ≤ 12) {mForm : Bool} {mEnds : Nat → Int32} {v1 : Int32} {post : Int32 → Bool → (Nat → Int32) → Prop} (h1 : ¬ gB N v1 → post 1 mForm mEnds) (h2 : ∀ b, b < N → v1 = nI b → post 0 false (upd mEnds b 0)) : wpMd_stop N mForm mEnds v1 post := by
  have fin : ∀ z : Bool, (z = true ↔ ¬ gB N v1) → ((¬ (bI z) = 0 → (post (bI z) mForm mEnds)) ∧ ((bI z) = 0 → vp_in v1 12 ∧ (post (bI z) false (upd mEnds (Int32.toNatClampNeg v1) 0)))) := by
    intro z hz
    cases z with
    | true => exact ⟨fun _ => h1 (hz.mp rfl), fun q => absurd q bI_t⟩
    | false =>
      refine ⟨fun q => absurd rfl q, fun _ => ?_⟩
      obtain ⟨b, hb, rfl⟩ := Classical.byContradiction fun q => by have := hz.mpr q; cases this
      rw [jI_in (by omega), jI_nat (by omega)]
      exact ⟨by omega, h2 b hb rfl⟩
  exact noBlock_sp hN (fun g => ⟨_, fin, fun _ => ⟨fun q => by (cases q), fun q => absurd g q⟩, fun q => by (cases q)⟩) (fun g => ⟨_, fin, fun q => by (cases q), fun _ => ⟨fun _ => g, fun _ => rfl⟩⟩)
theorem md_start_sp {mForm : Bool} {mStarts : Nat → Int32} {v1 v2 : Int32} {post : Int32 → Bool → (Nat → Int32) → Prop} (h1 : ¬ gB 6 v1 → post 1 mForm mStarts) (h2 : ∀ v, v < 6 → v1 = nI v → post 0 false (upd mStarts v v2)) : wpMd_start mForm mStarts v1 v2 post := by
  have fin : ∀ z : Bool, (z = true ↔ ¬ gB 6 v1) → ((¬ (bI z) = 0 → (post (bI z) mForm mStarts)) ∧ ((bI z) = 0 → vp_in v1 6 ∧ (post (bI z) false (upd mStarts (Int32.toNatClampNeg v1) v2)))) := by
    intro z hz
    cases z with
    | true => exact ⟨fun _ => h1 (hz.mp rfl), fun q => absurd q bI_t⟩
    | false =>
      refine ⟨fun q => absurd rfl q, fun _ => ?_⟩
      obtain ⟨b, hb, rfl⟩ := Classical.byContradiction fun q => by have := hz.mpr q; cases this
      rw [jI_in (by omega), jI_nat (by omega)]
      exact ⟨by omega, h2 b hb rfl⟩
  exact noVariable_sp (fun g => ⟨_, fin, fun _ => ⟨fun q => by (cases q), fun q => absurd g q⟩, fun q => by (cases q)⟩) (fun g => ⟨_, fin, fun q => by (cases q), fun _ => ⟨fun _ => g, fun _ => rfl⟩⟩)
theorem k_go {N L : Nat} {xs : Nat → Int32} {v4 : Int32} (hN0 : 0 < N) (hN : N ≤ 12) (hv : ∀ j, j < 6 → vp_in (v4 + nI j) L) (formStands : Bool) (stepCount : Nat → Int32) (kind : Nat → Int32) (target : Nat → Int32) (first : Nat → Int32) (second : Nat → Int32) (forkVariable : Nat → Int32) (yes : Nat → Int32) (no : Nat → Int32) (starts : Nat → Int32) (orderSize : Int32) (reached : Int32) (forerunners : Nat → Int32) (blw : Nat → Int32) (frontiers : Nat → Int32) (parents : Nat → Int32) (order : Nat → Int32) (waiting : Nat → Int32) (meetingNames : Nat → Int32) (meetingUses : Nat → Int32) (stepNames : Nat → Int32) (firstUses : Nat → Int32) (secondUses : Nat → Int32) (endUses : Nat → Int32) (lastNames : Nat → Int32) (namesOf : Nat → Int32) (homeBlock : Nat → Int32) (homePlace : Nat → Int32) (standsFor : Nat → Int32) (pending : Int32) (length : Int32) (pendingTo : Nat → Int32) (pendingFrom : Nat → Int32) (copyTo : Nat → Int32) (copyFrom : Nat → Int32) (way : Int32) (values : Nat → Int32) (arriving : Nat → Int32) (T0size : Int32) (T0out : Int32) (T0num : Nat → Int32) (T1size : Int32) (T1out : Int32) (T1num : Nat → Int32) (T2size : Int32) (T2out : Int32) (T2num : Nat → Int32) (outc : Nat → Int64) (mThrown : Int32) (mReached : Int32) (mForm : Bool) (mSlot : Int32) (mOver : Bool) (mMany : Nat → Int32) (mKinds : Nat → Int32) (mVs : Nat → Int32) (mWs : Nat → Int32) (mXs : Nat → Int32) (mEnds : Nat → Int32) (mEndVariable : Nat → Int32) (mYes : Nat → Int32) (mNo : Nat → Int32) (mStarts : Nat → Int32) (mDominators : Nat → Int32) (mMeets : Nat → Int32) (mSources : Nat → Int32) (mSet : Nat → Int32) (mUseW : Nat → Int32) (mUseX : Nat → Int32) (mEndUse : Nat → Int32) (mGone : Nat → Bool) (mIsName : Nat → Bool) (mNameBlock : Nat → Int32) (mNameStep : Nat → Int32) (mNumbers : Nat → Int32) (mSaid : Nat → Int32) (mSaidCount : Nat → Int32) (mFailed : Nat → Int32) (mValues : Nat → Int32) (mNextValues : Nat → Int32) (mOpen : Nat → Int32) (h : JJ N formStands stepCount kind target first second forkVariable yes no starts orderSize reached forerunners blw frontiers parents order waiting meetingNames meetingUses stepNames firstUses secondUses endUses lastNames namesOf homeBlock homePlace standsFor pending length pendingTo pendingFrom copyTo copyFrom way values arriving T0size T0out T0num T1size T1out T1num T2size T2out T2num outc mThrown mReached mForm mSlot mOver mMany mKinds mVs mWs mXs mEnds mEndVariable mYes mNo mStarts mDominators mMeets mSources mSet mUseW mUseX mEndUse mGone mIsName mNameBlock mNameStep mNumbers mSaid mSaidCount mFailed mValues mNextValues mOpen) : wpLc_go N L xs v4 formStands stepCount kind target first second forkVariable yes no starts orderSize reached forerunners blw frontiers parents order waiting meetingNames meetingUses stepNames firstUses secondUses endUses lastNames namesOf homeBlock homePlace standsFor pending length pendingTo pendingFrom copyTo copyFrom way values arriving T0size T0out T0num T1size T1out T1num T2size T2out T2num outc mThrown mReached mForm mSlot mOver mMany mKinds mVs mWs mXs mEnds mEndVariable mYes mNo mStarts mDominators mMeets mSources mSet mUseW mUseX mEndUse mGone mIsName mNameBlock mNameStep mNumbers mSaid mSaidCount mFailed mValues mNextValues mOpen (JJ N) := by
  obtain ⟨hP, hS, hT, hf, hF⟩ := h
  refine ⟨hv 1 (by omega), hv 2 (by omega), ?_⟩
  have bad : ¬ (gB N (xs (Int32.toNatClampNeg (v4 + 1))) ∧ gB N (xs (Int32.toNatClampNeg (v4 + 2)))) → _ := fun g => md_go_sp (mForm := mForm) (mEnds := mEnds) (mYes := mYes) (mNo := mNo) hN (post := fun (mThrown_283 : Int32) (mForm_283 : Bool) (mEnds_283 : Nat → Int32) (mYes_283 : Nat → Int32) (mNo_283 : Nat → Int32) => wpMd_thrown mThrown_283 (fun (r287 : Int32) => ((r287 = 1 → (JJ N formStands stepCount kind target first second forkVariable yes no starts orderSize reached forerunners blw frontiers parents order waiting meetingNames meetingUses stepNames firstUses secondUses endUses lastNames namesOf homeBlock homePlace standsFor pending length pendingTo pendingFrom copyTo copyFrom way values arriving T0size T0out T0num T1size T1out T1num T2size T2out T2num outc mThrown_283 mReached mForm_283 mSlot mOver mMany mKinds mVs mWs mXs mEnds_283 mEndVariable mYes_283 mNo_283 mStarts mDominators mMeets mSources mSet mUseW mUseX mEndUse mGone mIsName mNameBlock mNameStep mNumbers mSaid mSaidCount mFailed mValues mNextValues mOpen)) ∧ (¬ r287 = 1 → False)))) (fun _ => ⟨fun _ => ⟨hP, hS, hT, hf, hF⟩, fun q => absurd rfl q⟩) (fun b c hb hc e1 e2 => absurd ⟨⟨b, hb, e1⟩, c, hc, e2⟩ g)
  unfold wpLw_go wpOn_go
  refine requireBlock_sp hN (fun g => requireBlock_sp hN (fun g2 => ?_) fun g2 => ⟨rfl, fun _ => ⟨hv 1 (by omega), hv 2 (by omega), bad fun z => g2 z.2⟩⟩) fun g => ⟨rfl, fun _ => ⟨hv 1 (by omega), hv 2 (by omega), bad fun z => g z.1⟩⟩
  obtain ⟨b, hb, e1⟩ := g
  obtain ⟨c, hc, e2⟩ := g2
  rw [e1, e2]
  have hp2 := hP.go (b := b) hc
  refine giveEnd_sp hN0 hN hb hp2.endr.ge fun a1 a2 a3 a4 a5 a6 a7 a8 hs => ⟨hv 1 (by omega), hv 2 (by omega), md_go_sp hN (fun g => absurd ⟨⟨b, hb, rfl⟩, c, hc, rfl⟩ g) fun b' c' hb' hc' q1 q2 => ?_⟩
  have q1 := (jI_eq (by omega) (by omega)).mp q1
  have q2 := (jI_eq (by omega) (by omega)).mp q2
  subst q1 q2
  exact ⟨fun _ => ⟨hp2, hs, hT, rfl, fun q => by (cases q)⟩, fun q => absurd rfl q⟩
theorem k_fork {N L : Nat} {xs : Nat → Int32} {v4 : Int32} (hN0 : 0 < N) (hN : N ≤ 12) (hv : ∀ j, j < 6 → vp_in (v4 + nI j) L) (formStands : Bool) (stepCount : Nat → Int32) (kind : Nat → Int32) (target : Nat → Int32) (first : Nat → Int32) (second : Nat → Int32) (forkVariable : Nat → Int32) (yes : Nat → Int32) (no : Nat → Int32) (starts : Nat → Int32) (orderSize : Int32) (reached : Int32) (forerunners : Nat → Int32) (blw : Nat → Int32) (frontiers : Nat → Int32) (parents : Nat → Int32) (order : Nat → Int32) (waiting : Nat → Int32) (meetingNames : Nat → Int32) (meetingUses : Nat → Int32) (stepNames : Nat → Int32) (firstUses : Nat → Int32) (secondUses : Nat → Int32) (endUses : Nat → Int32) (lastNames : Nat → Int32) (namesOf : Nat → Int32) (homeBlock : Nat → Int32) (homePlace : Nat → Int32) (standsFor : Nat → Int32) (pending : Int32) (length : Int32) (pendingTo : Nat → Int32) (pendingFrom : Nat → Int32) (copyTo : Nat → Int32) (copyFrom : Nat → Int32) (way : Int32) (values : Nat → Int32) (arriving : Nat → Int32) (T0size : Int32) (T0out : Int32) (T0num : Nat → Int32) (T1size : Int32) (T1out : Int32) (T1num : Nat → Int32) (T2size : Int32) (T2out : Int32) (T2num : Nat → Int32) (outc : Nat → Int64) (mThrown : Int32) (mReached : Int32) (mForm : Bool) (mSlot : Int32) (mOver : Bool) (mMany : Nat → Int32) (mKinds : Nat → Int32) (mVs : Nat → Int32) (mWs : Nat → Int32) (mXs : Nat → Int32) (mEnds : Nat → Int32) (mEndVariable : Nat → Int32) (mYes : Nat → Int32) (mNo : Nat → Int32) (mStarts : Nat → Int32) (mDominators : Nat → Int32) (mMeets : Nat → Int32) (mSources : Nat → Int32) (mSet : Nat → Int32) (mUseW : Nat → Int32) (mUseX : Nat → Int32) (mEndUse : Nat → Int32) (mGone : Nat → Bool) (mIsName : Nat → Bool) (mNameBlock : Nat → Int32) (mNameStep : Nat → Int32) (mNumbers : Nat → Int32) (mSaid : Nat → Int32) (mSaidCount : Nat → Int32) (mFailed : Nat → Int32) (mValues : Nat → Int32) (mNextValues : Nat → Int32) (mOpen : Nat → Int32) (h : JJ N formStands stepCount kind target first second forkVariable yes no starts orderSize reached forerunners blw frontiers parents order waiting meetingNames meetingUses stepNames firstUses secondUses endUses lastNames namesOf homeBlock homePlace standsFor pending length pendingTo pendingFrom copyTo copyFrom way values arriving T0size T0out T0num T1size T1out T1num T2size T2out T2num outc mThrown mReached mForm mSlot mOver mMany mKinds mVs mWs mXs mEnds mEndVariable mYes mNo mStarts mDominators mMeets mSources mSet mUseW mUseX mEndUse mGone mIsName mNameBlock mNameStep mNumbers mSaid mSaidCount mFailed mValues mNextValues mOpen) : wpLc_fork N L xs v4 formStands stepCount kind target first second forkVariable yes no starts orderSize reached forerunners blw frontiers parents order waiting meetingNames meetingUses stepNames firstUses secondUses endUses lastNames namesOf homeBlock homePlace standsFor pending length pendingTo pendingFrom copyTo copyFrom way values arriving T0size T0out T0num T1size T1out T1num T2size T2out T2num outc mThrown mReached mForm mSlot mOver mMany mKinds mVs mWs mXs mEnds mEndVariable mYes mNo mStarts mDominators mMeets mSources mSet mUseW mUseX mEndUse mGone mIsName mNameBlock mNameStep mNumbers mSaid mSaidCount mFailed mValues mNextValues mOpen (JJ N) := by
  obtain ⟨hP, hS, hT, hf, hF⟩ := h
  refine ⟨hv 1 (by omega), hv 2 (by omega), hv 3 (by omega), hv 4 (by omega), ?_⟩
  have bad : ¬ (gB N (xs (Int32.toNatClampNeg (v4 + 1))) ∧ gB 6 (xs (Int32.toNatClampNeg (v4 + 2))) ∧ gB N (xs (Int32.toNatClampNeg (v4 + 3))) ∧ gB N (xs (Int32.toNatClampNeg (v4 + 4)))) → _ := fun g => md_fork_sp (mForm := mForm) (mEnds := mEnds) (mEndVariable := mEndVariable) (mYes := mYes) (mNo := mNo) hN (post := fun (mThrown_283 : Int32) (mForm_283 : Bool) (mEnds_283 mEndVariable_283 mYes_283 mNo_283 : Nat → Int32) => wpMd_thrown mThrown_283 (fun (r287 : Int32) => ((r287 = 1 → (JJ N formStands stepCount kind target first second forkVariable yes no starts orderSize reached forerunners blw frontiers parents order waiting meetingNames meetingUses stepNames firstUses secondUses endUses lastNames namesOf homeBlock homePlace standsFor pending length pendingTo pendingFrom copyTo copyFrom way values arriving T0size T0out T0num T1size T1out T1num T2size T2out T2num outc mThrown_283 mReached mForm_283 mSlot mOver mMany mKinds mVs mWs mXs mEnds_283 mEndVariable_283 mYes_283 mNo_283 mStarts mDominators mMeets mSources mSet mUseW mUseX mEndUse mGone mIsName mNameBlock mNameStep mNumbers mSaid mSaidCount mFailed mValues mNextValues mOpen)) ∧ (¬ r287 = 1 → False)))) (fun _ => ⟨fun _ => ⟨hP, hS, hT, hf, hF⟩, fun q => absurd rfl q⟩) (fun b v y z hb hv hy hz e1 e2 e3 e4 => absurd ⟨⟨b, hb, e1⟩, ⟨v, hv, e2⟩, ⟨y, hy, e3⟩, z, hz, e4⟩ g)
  unfold wpLw_fork wpOn_fork
  refine requireBlock_sp hN (fun g => requireVariable_sp (fun g2 => requireBlock_sp hN (fun g3 => requireBlock_sp hN (fun g4 => ?_) fun g4 => ⟨rfl, fun _ => ⟨hv 1 (by omega), hv 2 (by omega), hv 3 (by omega), hv 4 (by omega), bad fun z => g4 z.2.2.2⟩⟩) fun g3 => ⟨rfl, fun _ => ⟨hv 1 (by omega), hv 2 (by omega), hv 3 (by omega), hv 4 (by omega), bad fun z => g3 z.2.2.1⟩⟩) fun g2 => ⟨rfl, fun _ => ⟨hv 1 (by omega), hv 2 (by omega), hv 3 (by omega), hv 4 (by omega), bad fun z => g2 z.2.1⟩⟩) fun g => ⟨rfl, fun _ => ⟨hv 1 (by omega), hv 2 (by omega), hv 3 (by omega), hv 4 (by omega), bad fun z => g z.1⟩⟩
  obtain ⟨b, hb, e1⟩ := g
  obtain ⟨v, hvv, e2⟩ := g2
  obtain ⟨y, hy, e3⟩ := g3
  obtain ⟨z, hz, e4⟩ := g4
  rw [e1, e2, e3, e4]
  have hp2 := hP.fork (b := b) hvv hy hz
  refine giveEnd_sp hN0 hN hb hp2.endr.ge fun a1 a2 a3 a4 a5 a6 a7 a8 hs => ⟨hv 1 (by omega), hv 2 (by omega), hv 3 (by omega), hv 4 (by omega), md_fork_sp hN (fun g => absurd ⟨⟨b, hb, rfl⟩, ⟨v, hvv, rfl⟩, ⟨y, hy, rfl⟩, z, hz, rfl⟩ g) fun b' v' y' z' hb' hv' hy' hz' q1 q2 q3 q4 => ?_⟩
  have q1 := (jI_eq (by omega) (by omega)).mp q1
  have q2 := (jI_eq (by omega) (by omega)).mp q2
  have q3 := (jI_eq (by omega) (by omega)).mp q3
  have q4 := (jI_eq (by omega) (by omega)).mp q4
  subst q1 q2 q3 q4
  exact ⟨fun _ => ⟨hp2, hs, hT, rfl, fun q => by (cases q)⟩, fun q => absurd rfl q⟩
theorem k_stop {N L : Nat} {xs : Nat → Int32} {v4 : Int32} (hN0 : 0 < N) (hN : N ≤ 12) (hv : ∀ j, j < 6 → vp_in (v4 + nI j) L) (formStands : Bool) (stepCount : Nat → Int32) (kind : Nat → Int32) (target : Nat → Int32) (first : Nat → Int32) (second : Nat → Int32) (forkVariable : Nat → Int32) (yes : Nat → Int32) (no : Nat → Int32) (starts : Nat → Int32) (orderSize : Int32) (reached : Int32) (forerunners : Nat → Int32) (blw : Nat → Int32) (frontiers : Nat → Int32) (parents : Nat → Int32) (order : Nat → Int32) (waiting : Nat → Int32) (meetingNames : Nat → Int32) (meetingUses : Nat → Int32) (stepNames : Nat → Int32) (firstUses : Nat → Int32) (secondUses : Nat → Int32) (endUses : Nat → Int32) (lastNames : Nat → Int32) (namesOf : Nat → Int32) (homeBlock : Nat → Int32) (homePlace : Nat → Int32) (standsFor : Nat → Int32) (pending : Int32) (length : Int32) (pendingTo : Nat → Int32) (pendingFrom : Nat → Int32) (copyTo : Nat → Int32) (copyFrom : Nat → Int32) (way : Int32) (values : Nat → Int32) (arriving : Nat → Int32) (T0size : Int32) (T0out : Int32) (T0num : Nat → Int32) (T1size : Int32) (T1out : Int32) (T1num : Nat → Int32) (T2size : Int32) (T2out : Int32) (T2num : Nat → Int32) (outc : Nat → Int64) (mThrown : Int32) (mReached : Int32) (mForm : Bool) (mSlot : Int32) (mOver : Bool) (mMany : Nat → Int32) (mKinds : Nat → Int32) (mVs : Nat → Int32) (mWs : Nat → Int32) (mXs : Nat → Int32) (mEnds : Nat → Int32) (mEndVariable : Nat → Int32) (mYes : Nat → Int32) (mNo : Nat → Int32) (mStarts : Nat → Int32) (mDominators : Nat → Int32) (mMeets : Nat → Int32) (mSources : Nat → Int32) (mSet : Nat → Int32) (mUseW : Nat → Int32) (mUseX : Nat → Int32) (mEndUse : Nat → Int32) (mGone : Nat → Bool) (mIsName : Nat → Bool) (mNameBlock : Nat → Int32) (mNameStep : Nat → Int32) (mNumbers : Nat → Int32) (mSaid : Nat → Int32) (mSaidCount : Nat → Int32) (mFailed : Nat → Int32) (mValues : Nat → Int32) (mNextValues : Nat → Int32) (mOpen : Nat → Int32) (h : JJ N formStands stepCount kind target first second forkVariable yes no starts orderSize reached forerunners blw frontiers parents order waiting meetingNames meetingUses stepNames firstUses secondUses endUses lastNames namesOf homeBlock homePlace standsFor pending length pendingTo pendingFrom copyTo copyFrom way values arriving T0size T0out T0num T1size T1out T1num T2size T2out T2num outc mThrown mReached mForm mSlot mOver mMany mKinds mVs mWs mXs mEnds mEndVariable mYes mNo mStarts mDominators mMeets mSources mSet mUseW mUseX mEndUse mGone mIsName mNameBlock mNameStep mNumbers mSaid mSaidCount mFailed mValues mNextValues mOpen) : wpLc_stop N L xs v4 formStands stepCount kind target first second forkVariable yes no starts orderSize reached forerunners blw frontiers parents order waiting meetingNames meetingUses stepNames firstUses secondUses endUses lastNames namesOf homeBlock homePlace standsFor pending length pendingTo pendingFrom copyTo copyFrom way values arriving T0size T0out T0num T1size T1out T1num T2size T2out T2num outc mThrown mReached mForm mSlot mOver mMany mKinds mVs mWs mXs mEnds mEndVariable mYes mNo mStarts mDominators mMeets mSources mSet mUseW mUseX mEndUse mGone mIsName mNameBlock mNameStep mNumbers mSaid mSaidCount mFailed mValues mNextValues mOpen (JJ N) := by
  obtain ⟨hP, hS, hT, hf, hF⟩ := h
  refine ⟨hv 1 (by omega), ?_⟩
  unfold wpLw_stop wpOn_stop
  refine requireBlock_sp hN (fun g => ?_) fun g => ⟨rfl, fun _ => ⟨hv 1 (by omega), md_stop_sp hN (fun _ => ⟨fun _ => ⟨hP, hS, hT, hf, hF⟩, fun q => absurd rfl q⟩) fun b hb e => absurd ⟨b, hb, e⟩ g⟩⟩
  obtain ⟨b, hb, e1⟩ := g
  rw [e1]
  have hp2 := hP.stop (b := b)
  refine giveEnd_sp hN0 hN hb hp2.endr.ge fun a1 a2 a3 a4 a5 a6 a7 a8 hs => ⟨hv 1 (by omega), md_stop_sp hN (fun g => absurd ⟨b, hb, rfl⟩ g) fun b' hb' q1 => ?_⟩
  have q1 := (jI_eq (by omega) (by omega)).mp q1
  subst q1
  exact ⟨fun _ => ⟨hp2, hs, hT, rfl, fun q => by (cases q)⟩, fun q => absurd rfl q⟩
theorem k_start {N L : Nat} {xs : Nat → Int32} {v4 : Int32} (hN0 : 0 < N) (hN : N ≤ 12) (hv : ∀ j, j < 6 → vp_in (v4 + nI j) L) (formStands : Bool) (stepCount : Nat → Int32) (kind : Nat → Int32) (target : Nat → Int32) (first : Nat → Int32) (second : Nat → Int32) (forkVariable : Nat → Int32) (yes : Nat → Int32) (no : Nat → Int32) (starts : Nat → Int32) (orderSize : Int32) (reached : Int32) (forerunners : Nat → Int32) (blw : Nat → Int32) (frontiers : Nat → Int32) (parents : Nat → Int32) (order : Nat → Int32) (waiting : Nat → Int32) (meetingNames : Nat → Int32) (meetingUses : Nat → Int32) (stepNames : Nat → Int32) (firstUses : Nat → Int32) (secondUses : Nat → Int32) (endUses : Nat → Int32) (lastNames : Nat → Int32) (namesOf : Nat → Int32) (homeBlock : Nat → Int32) (homePlace : Nat → Int32) (standsFor : Nat → Int32) (pending : Int32) (length : Int32) (pendingTo : Nat → Int32) (pendingFrom : Nat → Int32) (copyTo : Nat → Int32) (copyFrom : Nat → Int32) (way : Int32) (values : Nat → Int32) (arriving : Nat → Int32) (T0size : Int32) (T0out : Int32) (T0num : Nat → Int32) (T1size : Int32) (T1out : Int32) (T1num : Nat → Int32) (T2size : Int32) (T2out : Int32) (T2num : Nat → Int32) (outc : Nat → Int64) (mThrown : Int32) (mReached : Int32) (mForm : Bool) (mSlot : Int32) (mOver : Bool) (mMany : Nat → Int32) (mKinds : Nat → Int32) (mVs : Nat → Int32) (mWs : Nat → Int32) (mXs : Nat → Int32) (mEnds : Nat → Int32) (mEndVariable : Nat → Int32) (mYes : Nat → Int32) (mNo : Nat → Int32) (mStarts : Nat → Int32) (mDominators : Nat → Int32) (mMeets : Nat → Int32) (mSources : Nat → Int32) (mSet : Nat → Int32) (mUseW : Nat → Int32) (mUseX : Nat → Int32) (mEndUse : Nat → Int32) (mGone : Nat → Bool) (mIsName : Nat → Bool) (mNameBlock : Nat → Int32) (mNameStep : Nat → Int32) (mNumbers : Nat → Int32) (mSaid : Nat → Int32) (mSaidCount : Nat → Int32) (mFailed : Nat → Int32) (mValues : Nat → Int32) (mNextValues : Nat → Int32) (mOpen : Nat → Int32) (h : JJ N formStands stepCount kind target first second forkVariable yes no starts orderSize reached forerunners blw frontiers parents order waiting meetingNames meetingUses stepNames firstUses secondUses endUses lastNames namesOf homeBlock homePlace standsFor pending length pendingTo pendingFrom copyTo copyFrom way values arriving T0size T0out T0num T1size T1out T1num T2size T2out T2num outc mThrown mReached mForm mSlot mOver mMany mKinds mVs mWs mXs mEnds mEndVariable mYes mNo mStarts mDominators mMeets mSources mSet mUseW mUseX mEndUse mGone mIsName mNameBlock mNameStep mNumbers mSaid mSaidCount mFailed mValues mNextValues mOpen) : wpLc_start L xs v4 formStands stepCount kind target first second forkVariable yes no starts orderSize reached forerunners blw frontiers parents order waiting meetingNames meetingUses stepNames firstUses secondUses endUses lastNames namesOf homeBlock homePlace standsFor pending length pendingTo pendingFrom copyTo copyFrom way values arriving T0size T0out T0num T1size T1out T1num T2size T2out T2num outc mThrown mReached mForm mSlot mOver mMany mKinds mVs mWs mXs mEnds mEndVariable mYes mNo mStarts mDominators mMeets mSources mSet mUseW mUseX mEndUse mGone mIsName mNameBlock mNameStep mNumbers mSaid mSaidCount mFailed mValues mNextValues mOpen (JJ N) := by
  obtain ⟨hP, hS, hT, hf, hF⟩ := h
  refine ⟨hv 1 (by omega), hv 2 (by omega), ?_⟩
  unfold wpLw_start wpOn_start
  refine requireVariable_sp (fun g => ?_) fun g => ⟨rfl, fun _ => ⟨hv 1 (by omega), hv 2 (by omega), md_start_sp (fun _ => ⟨fun _ => ⟨hP, hS, hT, hf, hF⟩, fun q => absurd rfl q⟩) fun b hb e => absurd ⟨b, hb, e⟩ g⟩⟩
  obtain ⟨b, hb, e1⟩ := g
  rw [e1]
  unfold wpProgram_changeStart
  rw [jI_in (by omega), jI_nat (by omega)]
  refine ⟨hb, hv 1 (by omega), hv 2 (by omega), md_start_sp (fun g => absurd ⟨b, hb, rfl⟩ g) fun b' hb' q1 => ?_⟩
  have q1 := (jI_eq (by omega) (by omega)).mp q1
  subst q1
  exact ⟨fun _ => ⟨hP.start, hS, hT, rfl, fun q => by (cases q)⟩, fun q => absurd rfl q⟩
/-! parent, dominates, frontier -/
theorem md_parent_sp {N : Nat} (hN0 : 0 < N) (hN : N ≤ 12) {mReached : Int32} {mEnds mYes mNo yes no mDominators : Nat → Int32} (hE : EndR N mEnds mYes mNo yes no) {v1 : Int32} {post : Int32 → Int32 → Int32 → (Nat → Int32) → Prop} (h1 : ¬ gB N v1 → ∀ R D, post 0 1 R D) (h2 : ∀ b, b < N → v1 = nI b → ¬ Rch (gsc N yes no) okT b → ∀ R D, post (-1) 0 R D) (h3 : ∀ b p, b < N → v1 = nI b → Rch (gsc N yes no) okT b → ParIs (gsc N yes no) N b p → ∀ R D, post (nI p) 0 R D) : wpMd_parent N mReached mEnds mYes mNo mDominators v1 post := by
  refine noBlock_sp hN (fun g => ⟨fun t => t = false, fun t ht => ?_, fun _ => rfl, fun q => by (cases q)⟩) (fun g => ⟨fun t => t = true, fun t ht => ?_, fun q => by (cases q), fun _ => rfl⟩)
  · subst ht
    refine ⟨fun _ => md_look hN0 hN hE fun R D hR hD => ?_, fun q => absurd rfl q⟩
    obtain ⟨b, hb, rfl⟩ := g
    refine md_has (by omega) ⟨fun q => h2 b hb rfl (fun z => ?_) R D, fun q => md_parent hN0 hN hD hb fun p hp => h3 b p hb rfl ((hR b).mp q) hp R D⟩
    rw [(hR b).mpr z] at q; cases q
  · subst ht
    exact ⟨fun q => absurd q bI_t, fun _ => h1 g _ _⟩
theorem md_dom_sp {N : Nat} (hN0 : 0 < N) (hN : N ≤ 12) {mEnds mYes mNo yes no mDominators : Nat → Int32} (hE : EndR N mEnds mYes mNo yes no) {v1 v2 : Int32} {post : Bool → Int32 → Int32 → (Nat → Int32) → Prop} (h1 : ¬ (gB N v1 ∧ gB N v2) → ∀ R D, post false 1 R D) (h2 : ∀ b c z, b < N → c < N → v1 = nI b → v2 = nI c → (z = true ↔ Dm (gsc N yes no) b c) → ∀ R D, post z 0 R D) : wpMd_dominates N mEnds mYes mNo mDominators v1 v2 post := by
  have fin : ∀ t : Bool, (t = true ↔ ¬ (gB N v1 ∧ gB N v2)) → wpMd_look N mEnds mYes mNo mDominators (fun mReached_26 mDominators_26 => ((¬ (bI t) = 0 → (post false (bI t) mReached_26 mDominators_26)) ∧ ((bI t) = 0 → wpMd_has mReached_26 v1 (fun r42 => ((r42 = false → (post false (bI t) mReached_26 mDominators_26)) ∧ (r42 = true → wpMd_has mReached_26 v2 (fun r54 => ((r54 = false → (post false (bI t) mReached_26 mDominators_26)) ∧ (r54 = true → vp_in v2 12 ∧ wpMd_has (mDominators_26 (Int32.toNatClampNeg v2)) v1 (fun r68 => ((r68 = false → (post false (bI t) mReached_26 mDominators_26)) ∧ (r68 = true → (post true (bI t) mReached_26 mDominators_26))))))))))))) := by
    intro t ht
    refine md_look hN0 hN hE fun R D hR hD => ?_
    cases t with
    | true => exact ⟨fun _ => h1 (ht.mp rfl) _ _, fun q => absurd q bI_t⟩
    | false =>
      refine ⟨fun q => absurd rfl q, fun _ => ?_⟩
      obtain ⟨⟨b, hb, rfl⟩, c, hc, rfl⟩ := Classical.byContradiction fun q => by have := ht.mpr q; cases this
      rw [jI_in (by omega), jI_nat (by omega)]
      refine md_has (by omega) ⟨fun q => h2 b c false hb hc rfl rfl ⟨fun z => by (cases z), fun z => ?_⟩ _ _, fun q1 => md_has (by omega) ⟨fun q => h2 b c false hb hc rfl rfl ⟨fun z => by (cases z), fun z => ?_⟩ _ _, fun q2 => ⟨by omega, md_has (by omega) ⟨fun q => h2 b c false hb hc rfl rfl ⟨fun z => by (cases z), fun z => ?_⟩ _ _, fun q3 => h2 b c true hb hc rfl rfl ⟨fun _ => (hD c hc b).mp q3, fun _ => rfl⟩ _ _⟩⟩⟩⟩
      · rw [(hR b).mpr z.re1] at q; cases q
      · rw [(hR c).mpr z.re] at q; cases q
      · rw [(hD c hc b).mpr z] at q; cases q
  refine noBlock_sp hN (fun g => ⟨_, fin, ¬ (gB N v1 ∧ gB N v2), fun q => ⟨fun _ => q, fun _ => rfl⟩, fun q => by (cases q), fun _ => noBlock_sp hN (fun g2 => ⟨fun _ => ⟨fun q => by (cases q), fun q => absurd ⟨g, g2⟩ q⟩, fun q => by (cases q)⟩) (fun g2 => ⟨fun q => by (cases q), fun _ z => g2 z.2⟩)⟩) (fun g => ⟨_, fin, ¬ (gB N v1 ∧ gB N v2), fun q => ⟨fun _ => q, fun _ => rfl⟩, fun _ z => g z.1, fun q => by (cases q)⟩)
theorem md_fron_sp {N : Nat} (hN0 : 0 < N) (hN : N ≤ 12) {mEnds mYes mNo yes no mDominators : Nat → Int32} (hE : EndR N mEnds mYes mNo yes no) {v1 v2 : Int32} {post : Bool → Int32 → Int32 → (Nat → Int32) → Prop} (h1 : ¬ (gB N v1 ∧ gB N v2) → ∀ R D, post false 1 R D) (h2 : ∀ b c z, b < N → c < N → v1 = nI b → v2 = nI c → (z = true ↔ DF (gsc N yes no) b c) → ∀ R D, post z 0 R D) : wpMd_frontier N mEnds mYes mNo mDominators v1 v2 post := by
  have fin : ∀ t : Bool, (t = true ↔ ¬ (gB N v1 ∧ gB N v2)) → wpMd_look N mEnds mYes mNo mDominators (fun mReached_26 mDominators_26 => ((¬ (bI t) = 0 → (post false (bI t) mReached_26 mDominators_26)) ∧ ((bI t) = 0 → wpMd_inFrontier N mReached_26 mEnds mYes mNo mDominators_26 v1 v2 (fun r39 => ((r39 = false → (post false (bI t) mReached_26 mDominators_26)) ∧ (r39 = true → (post true (bI t) mReached_26 mDominators_26))))))) := by
    intro t ht
    refine md_look hN0 hN hE fun R D hR hD => ?_
    cases t with
    | true => exact ⟨fun _ => h1 (ht.mp rfl) _ _, fun q => absurd q bI_t⟩
    | false =>
      refine ⟨fun q => absurd rfl q, fun _ => ?_⟩
      obtain ⟨⟨b, hb, rfl⟩, c, hc, rfl⟩ := Classical.byContradiction fun q => by have := ht.mpr q; cases this
      exact md_frontier hN0 hN hE hR hD hb hc fun z hz => ⟨fun q => h2 b c false hb hc rfl rfl (q ▸ hz) _ _, fun q => h2 b c true hb hc rfl rfl (q ▸ hz) _ _⟩
  refine noBlock_sp hN (fun g => ⟨_, fin, ¬ (gB N v1 ∧ gB N v2), fun q => ⟨fun _ => q, fun _ => rfl⟩, fun q => by (cases q), fun _ => noBlock_sp hN (fun g2 => ⟨fun _ => ⟨fun q => by (cases q), fun q => absurd ⟨g, g2⟩ q⟩, fun q => by (cases q)⟩) (fun g2 => ⟨fun q => by (cases q), fun _ z => g2 z.2⟩)⟩) (fun g => ⟨_, fin, ¬ (gB N v1 ∧ gB N v2), fun q => ⟨fun _ => q, fun _ => rfl⟩, fun _ z => g z.1, fun q => by (cases q)⟩)
theorem lw_dom_sp {N : Nat} (hN : N ≤ 12) {blw : Nat → Int32} {outc : Nat → Int64} {v1 v2 : Int32} {post : Int32 → (Nat → Int64) → Prop} (h1 : ¬ (gB N v1 ∧ gB N v2) → post 1 outc) (h2 : ∀ b c, b < N → c < N → v1 = nI b → v2 = nI c → post 0 (vp_updL outc (Int32.toNatClampNeg 0) (if bt (blw b) c = true then 1 else 0))) : wpLw_dominates N blw outc v1 v2 post := by
  unfold wpLw_dominates wpOn_dominates wpGraph_hasBelow
  refine requireBlock_sp hN (fun g => requireBlock_sp hN (fun g2 => ?_) fun g2 => ⟨rfl, fun _ => h1 fun z => g2 z.2⟩) fun g => ⟨rfl, fun _ => h1 fun z => g z.1⟩
  obtain ⟨b, hb, rfl⟩ := g
  obtain ⟨c, hc, rfl⟩ := g2
  rw [jI_in (by omega), jI_nat (by omega)]
  have := h2 b c hb hc rfl rfl
  refine ⟨hb, on_has (by omega) ⟨fun q => ⟨out_in, ?_⟩, fun q => ⟨out_in, ?_⟩⟩⟩
  · rw [q] at this; exact this
  · rw [q] at this; exact this
theorem lw_fron_sp {N : Nat} (hN : N ≤ 12) {frontiers : Nat → Int32} {outc : Nat → Int64} {v1 v2 : Int32} {post : Int32 → (Nat → Int64) → Prop} (h1 : ¬ (gB N v1 ∧ gB N v2) → post 1 outc) (h2 : ∀ b c, b < N → c < N → v1 = nI b → v2 = nI c → post 0 (vp_updL outc (Int32.toNatClampNeg 0) (if bt (frontiers b) c = true then 1 else 0))) : wpLw_frontier N frontiers outc v1 v2 post := by
  unfold wpLw_frontier wpOn_frontier wpGraph_frontierOf
  refine requireBlock_sp hN (fun g => requireBlock_sp hN (fun g2 => ?_) fun g2 => ⟨rfl, fun _ => h1 fun z => g2 z.2⟩) fun g => ⟨rfl, fun _ => h1 fun z => g z.1⟩
  obtain ⟨b, hb, rfl⟩ := g
  obtain ⟨c, hc, rfl⟩ := g2
  rw [jI_in (by omega), jI_nat (by omega)]
  have := h2 b c hb hc rfl rfl
  refine ⟨hb, on_has (by omega) ⟨fun q => ⟨out_in, ?_⟩, fun q => ⟨out_in, ?_⟩⟩⟩
  · rw [q] at this; exact this
  · rw [q] at this; exact this
theorem k_parent {N L : Nat} {xs : Nat → Int32} {v4 : Int32} (hN0 : 0 < N) (hN : N ≤ 12) (hv : ∀ j, j < 6 → vp_in (v4 + nI j) L) (formStands : Bool) (stepCount : Nat → Int32) (kind : Nat → Int32) (target : Nat → Int32) (first : Nat → Int32) (second : Nat → Int32) (forkVariable : Nat → Int32) (yes : Nat → Int32) (no : Nat → Int32) (starts : Nat → Int32) (orderSize : Int32) (reached : Int32) (forerunners : Nat → Int32) (blw : Nat → Int32) (frontiers : Nat → Int32) (parents : Nat → Int32) (order : Nat → Int32) (waiting : Nat → Int32) (meetingNames : Nat → Int32) (meetingUses : Nat → Int32) (stepNames : Nat → Int32) (firstUses : Nat → Int32) (secondUses : Nat → Int32) (endUses : Nat → Int32) (lastNames : Nat → Int32) (namesOf : Nat → Int32) (homeBlock : Nat → Int32) (homePlace : Nat → Int32) (standsFor : Nat → Int32) (pending : Int32) (length : Int32) (pendingTo : Nat → Int32) (pendingFrom : Nat → Int32) (copyTo : Nat → Int32) (copyFrom : Nat → Int32) (way : Int32) (values : Nat → Int32) (arriving : Nat → Int32) (T0size : Int32) (T0out : Int32) (T0num : Nat → Int32) (T1size : Int32) (T1out : Int32) (T1num : Nat → Int32) (T2size : Int32) (T2out : Int32) (T2num : Nat → Int32) (outc : Nat → Int64) (mThrown : Int32) (mReached : Int32) (mForm : Bool) (mSlot : Int32) (mOver : Bool) (mMany : Nat → Int32) (mKinds : Nat → Int32) (mVs : Nat → Int32) (mWs : Nat → Int32) (mXs : Nat → Int32) (mEnds : Nat → Int32) (mEndVariable : Nat → Int32) (mYes : Nat → Int32) (mNo : Nat → Int32) (mStarts : Nat → Int32) (mDominators : Nat → Int32) (mMeets : Nat → Int32) (mSources : Nat → Int32) (mSet : Nat → Int32) (mUseW : Nat → Int32) (mUseX : Nat → Int32) (mEndUse : Nat → Int32) (mGone : Nat → Bool) (mIsName : Nat → Bool) (mNameBlock : Nat → Int32) (mNameStep : Nat → Int32) (mNumbers : Nat → Int32) (mSaid : Nat → Int32) (mSaidCount : Nat → Int32) (mFailed : Nat → Int32) (mValues : Nat → Int32) (mNextValues : Nat → Int32) (mOpen : Nat → Int32) (h : JJ N formStands stepCount kind target first second forkVariable yes no starts orderSize reached forerunners blw frontiers parents order waiting meetingNames meetingUses stepNames firstUses secondUses endUses lastNames namesOf homeBlock homePlace standsFor pending length pendingTo pendingFrom copyTo copyFrom way values arriving T0size T0out T0num T1size T1out T1num T2size T2out T2num outc mThrown mReached mForm mSlot mOver mMany mKinds mVs mWs mXs mEnds mEndVariable mYes mNo mStarts mDominators mMeets mSources mSet mUseW mUseX mEndUse mGone mIsName mNameBlock mNameStep mNumbers mSaid mSaidCount mFailed mValues mNextValues mOpen) : wpLc_parent N L xs v4 formStands stepCount kind target first second forkVariable yes no starts orderSize reached forerunners blw frontiers parents order waiting meetingNames meetingUses stepNames firstUses secondUses endUses lastNames namesOf homeBlock homePlace standsFor pending length pendingTo pendingFrom copyTo copyFrom way values arriving T0size T0out T0num T1size T1out T1num T2size T2out T2num outc mThrown mReached mForm mSlot mOver mMany mKinds mVs mWs mXs mEnds mEndVariable mYes mNo mStarts mDominators mMeets mSources mSet mUseW mUseX mEndUse mGone mIsName mNameBlock mNameStep mNumbers mSaid mSaidCount mFailed mValues mNextValues mOpen (JJ N) := by
  obtain ⟨hP, hS, hT, hf, hF⟩ := h
  refine ⟨hv 1 (by omega), ?_⟩
  unfold wpLw_parent wpOn_parent wpGraph_parentOf
  refine requireBlock_sp hN (fun g => ?_) fun g => ⟨rfl, fun _ => ⟨hv 1 (by omega), md_parent_sp hN0 hN hP.endr (fun _ R D => ⟨fun _ => ⟨fun _ => ⟨hP, hS, hT, hf, hF⟩, fun q => absurd q (by decide)⟩, fun q => absurd rfl q⟩) (fun b hb e => absurd ⟨b, hb, e⟩ g) (fun b p hb e => absurd ⟨b, hb, e⟩ g)⟩⟩
  obtain ⟨b, hb, e1⟩ := g
  rw [e1, jI_in (by omega), jI_nat (by omega)]
  refine ⟨hb, out_in, hv 1 (by omega), md_parent_sp hN0 hN hP.endr (fun g => absurd ⟨b, hb, rfl⟩ g) (fun b' hb' e hr R D => ?_) (fun b' p hb' e hr hp R D => ?_)⟩
  · have e := (jI_eq (by omega) (by omega)).mp e
    subst e
    rcases hS.pa b hb with ⟨-, e⟩ | ⟨z, -⟩
    · rw [e]; exact ⟨fun _ => ⟨fun q => absurd rfl q, fun _ => ⟨out_in, fun _ => ⟨hP, hS, hT, hf, hF⟩, fun q => q (by rw [out_at]; exact lg_same _)⟩⟩, fun q => absurd rfl q⟩
    · exact absurd z hr
  · have e := (jI_eq (by omega) (by omega)).mp e
    subst e
    rcases hS.pa b hb with ⟨z, -⟩ | ⟨-, p', hp', e⟩
    · exact absurd hr z
    · rw [e, hp'.uniq hp]; exact ⟨fun _ => ⟨fun q => absurd rfl q, fun _ => ⟨out_in, fun _ => ⟨hP, hS, hT, hf, hF⟩, fun q => q (by rw [out_at]; exact lg_same _)⟩⟩, fun q => absurd rfl q⟩
theorem k_dominates {N L : Nat} {xs : Nat → Int32} {v4 : Int32} (hN0 : 0 < N) (hN : N ≤ 12) (hv : ∀ j, j < 6 → vp_in (v4 + nI j) L) (formStands : Bool) (stepCount : Nat → Int32) (kind : Nat → Int32) (target : Nat → Int32) (first : Nat → Int32) (second : Nat → Int32) (forkVariable : Nat → Int32) (yes : Nat → Int32) (no : Nat → Int32) (starts : Nat → Int32) (orderSize : Int32) (reached : Int32) (forerunners : Nat → Int32) (blw : Nat → Int32) (frontiers : Nat → Int32) (parents : Nat → Int32) (order : Nat → Int32) (waiting : Nat → Int32) (meetingNames : Nat → Int32) (meetingUses : Nat → Int32) (stepNames : Nat → Int32) (firstUses : Nat → Int32) (secondUses : Nat → Int32) (endUses : Nat → Int32) (lastNames : Nat → Int32) (namesOf : Nat → Int32) (homeBlock : Nat → Int32) (homePlace : Nat → Int32) (standsFor : Nat → Int32) (pending : Int32) (length : Int32) (pendingTo : Nat → Int32) (pendingFrom : Nat → Int32) (copyTo : Nat → Int32) (copyFrom : Nat → Int32) (way : Int32) (values : Nat → Int32) (arriving : Nat → Int32) (T0size : Int32) (T0out : Int32) (T0num : Nat → Int32) (T1size : Int32) (T1out : Int32) (T1num : Nat → Int32) (T2size : Int32) (T2out : Int32) (T2num : Nat → Int32) (outc : Nat → Int64) (mThrown : Int32) (mReached : Int32) (mForm : Bool) (mSlot : Int32) (mOver : Bool) (mMany : Nat → Int32) (mKinds : Nat → Int32) (mVs : Nat → Int32) (mWs : Nat → Int32) (mXs : Nat → Int32) (mEnds : Nat → Int32) (mEndVariable : Nat → Int32) (mYes : Nat → Int32) (mNo : Nat → Int32) (mStarts : Nat → Int32) (mDominators : Nat → Int32) (mMeets : Nat → Int32) (mSources : Nat → Int32) (mSet : Nat → Int32) (mUseW : Nat → Int32) (mUseX : Nat → Int32) (mEndUse : Nat → Int32) (mGone : Nat → Bool) (mIsName : Nat → Bool) (mNameBlock : Nat → Int32) (mNameStep : Nat → Int32) (mNumbers : Nat → Int32) (mSaid : Nat → Int32) (mSaidCount : Nat → Int32) (mFailed : Nat → Int32) (mValues : Nat → Int32) (mNextValues : Nat → Int32) (mOpen : Nat → Int32) (h : JJ N formStands stepCount kind target first second forkVariable yes no starts orderSize reached forerunners blw frontiers parents order waiting meetingNames meetingUses stepNames firstUses secondUses endUses lastNames namesOf homeBlock homePlace standsFor pending length pendingTo pendingFrom copyTo copyFrom way values arriving T0size T0out T0num T1size T1out T1num T2size T2out T2num outc mThrown mReached mForm mSlot mOver mMany mKinds mVs mWs mXs mEnds mEndVariable mYes mNo mStarts mDominators mMeets mSources mSet mUseW mUseX mEndUse mGone mIsName mNameBlock mNameStep mNumbers mSaid mSaidCount mFailed mValues mNextValues mOpen) : wpLc_dominates N L xs v4 formStands stepCount kind target first second forkVariable yes no starts orderSize reached forerunners blw frontiers parents order waiting meetingNames meetingUses stepNames firstUses secondUses endUses lastNames namesOf homeBlock homePlace standsFor pending length pendingTo pendingFrom copyTo copyFrom way values arriving T0size T0out T0num T1size T1out T1num T2size T2out T2num outc mThrown mReached mForm mSlot mOver mMany mKinds mVs mWs mXs mEnds mEndVariable mYes mNo mStarts mDominators mMeets mSources mSet mUseW mUseX mEndUse mGone mIsName mNameBlock mNameStep mNumbers mSaid mSaidCount mFailed mValues mNextValues mOpen (JJ N) := by
  obtain ⟨hP, hS, hT, hf, hF⟩ := h
  refine ⟨hv 1 (by omega), hv 2 (by omega), ?_⟩
  refine lw_dom_sp hN (fun g => ⟨hv 1 (by omega), hv 2 (by omega), md_dom_sp hN0 hN hP.endr (fun _ R D => ⟨fun _ => ⟨fun _ => ⟨hP, hS, hT, hf, hF⟩, fun q => absurd q (by decide)⟩, fun q => absurd rfl q⟩) (fun b c z hb hc e1 e2 => absurd ⟨⟨b, hb, e1⟩, c, hc, e2⟩ g)⟩) (fun b c hb hc e1 e2 => ⟨hv 1 (by omega), hv 2 (by omega), md_dom_sp hN0 hN hP.endr (fun g => absurd ⟨⟨b, hb, e1⟩, c, hc, e2⟩ g) (fun b' c' z hb' hc' e3 e4 hz R D => ?_)⟩)
  have q1 := (jI_eq (by omega) (by omega)).mp (e1.symm.trans e3)
  have q2 := (jI_eq (by omega) (by omega)).mp (e2.symm.trans e4)
  subst q1 q2
  have hz := (hS.bl b hb c).trans hz.symm
  refine ⟨fun _ => ⟨fun q => absurd rfl q, fun _ => ⟨out_in, fun q => ?_, fun q => ?_⟩⟩, fun q => absurd rfl q⟩
  · subst q
    rw [if_neg (by rw [hz]; decide)]
    exact ⟨fun _ => ⟨hP, hS, hT, hf, hF⟩, fun q => q (by rw [out_at]; exact lg_same _)⟩
  · subst q
    rw [if_pos (hz.mpr rfl)]
    exact ⟨fun _ => ⟨hP, hS, hT, hf, hF⟩, fun q => q (by rw [out_at]; exact lg_same _)⟩
theorem k_frontier {N L : Nat} {xs : Nat → Int32} {v4 : Int32} (hN0 : 0 < N) (hN : N ≤ 12) (hv : ∀ j, j < 6 → vp_in (v4 + nI j) L) (formStands : Bool) (stepCount : Nat → Int32) (kind : Nat → Int32) (target : Nat → Int32) (first : Nat → Int32) (second : Nat → Int32) (forkVariable : Nat → Int32) (yes : Nat → Int32) (no : Nat → Int32) (starts : Nat → Int32) (orderSize : Int32) (reached : Int32) (forerunners : Nat → Int32) (blw : Nat → Int32) (frontiers : Nat → Int32) (parents : Nat → Int32) (order : Nat → Int32) (waiting : Nat → Int32) (meetingNames : Nat → Int32) (meetingUses : Nat → Int32) (stepNames : Nat → Int32) (firstUses : Nat → Int32) (secondUses : Nat → Int32) (endUses : Nat → Int32) (lastNames : Nat → Int32) (namesOf : Nat → Int32) (homeBlock : Nat → Int32) (homePlace : Nat → Int32) (standsFor : Nat → Int32) (pending : Int32) (length : Int32) (pendingTo : Nat → Int32) (pendingFrom : Nat → Int32) (copyTo : Nat → Int32) (copyFrom : Nat → Int32) (way : Int32) (values : Nat → Int32) (arriving : Nat → Int32) (T0size : Int32) (T0out : Int32) (T0num : Nat → Int32) (T1size : Int32) (T1out : Int32) (T1num : Nat → Int32) (T2size : Int32) (T2out : Int32) (T2num : Nat → Int32) (outc : Nat → Int64) (mThrown : Int32) (mReached : Int32) (mForm : Bool) (mSlot : Int32) (mOver : Bool) (mMany : Nat → Int32) (mKinds : Nat → Int32) (mVs : Nat → Int32) (mWs : Nat → Int32) (mXs : Nat → Int32) (mEnds : Nat → Int32) (mEndVariable : Nat → Int32) (mYes : Nat → Int32) (mNo : Nat → Int32) (mStarts : Nat → Int32) (mDominators : Nat → Int32) (mMeets : Nat → Int32) (mSources : Nat → Int32) (mSet : Nat → Int32) (mUseW : Nat → Int32) (mUseX : Nat → Int32) (mEndUse : Nat → Int32) (mGone : Nat → Bool) (mIsName : Nat → Bool) (mNameBlock : Nat → Int32) (mNameStep : Nat → Int32) (mNumbers : Nat → Int32) (mSaid : Nat → Int32) (mSaidCount : Nat → Int32) (mFailed : Nat → Int32) (mValues : Nat → Int32) (mNextValues : Nat → Int32) (mOpen : Nat → Int32) (h : JJ N formStands stepCount kind target first second forkVariable yes no starts orderSize reached forerunners blw frontiers parents order waiting meetingNames meetingUses stepNames firstUses secondUses endUses lastNames namesOf homeBlock homePlace standsFor pending length pendingTo pendingFrom copyTo copyFrom way values arriving T0size T0out T0num T1size T1out T1num T2size T2out T2num outc mThrown mReached mForm mSlot mOver mMany mKinds mVs mWs mXs mEnds mEndVariable mYes mNo mStarts mDominators mMeets mSources mSet mUseW mUseX mEndUse mGone mIsName mNameBlock mNameStep mNumbers mSaid mSaidCount mFailed mValues mNextValues mOpen) : wpLc_frontier N L xs v4 formStands stepCount kind target first second forkVariable yes no starts orderSize reached forerunners blw frontiers parents order waiting meetingNames meetingUses stepNames firstUses secondUses endUses lastNames namesOf homeBlock homePlace standsFor pending length pendingTo pendingFrom copyTo copyFrom way values arriving T0size T0out T0num T1size T1out T1num T2size T2out T2num outc mThrown mReached mForm mSlot mOver mMany mKinds mVs mWs mXs mEnds mEndVariable mYes mNo mStarts mDominators mMeets mSources mSet mUseW mUseX mEndUse mGone mIsName mNameBlock mNameStep mNumbers mSaid mSaidCount mFailed mValues mNextValues mOpen (JJ N) := by
  obtain ⟨hP, hS, hT, hf, hF⟩ := h
  refine ⟨hv 1 (by omega), hv 2 (by omega), ?_⟩
  refine lw_fron_sp hN (fun g => ⟨hv 1 (by omega), hv 2 (by omega), md_fron_sp hN0 hN hP.endr (fun _ R D => ⟨fun _ => ⟨fun _ => ⟨hP, hS, hT, hf, hF⟩, fun q => absurd q (by decide)⟩, fun q => absurd rfl q⟩) (fun b c z hb hc e1 e2 => absurd ⟨⟨b, hb, e1⟩, c, hc, e2⟩ g)⟩) (fun b c hb hc e1 e2 => ⟨hv 1 (by omega), hv 2 (by omega), md_fron_sp hN0 hN hP.endr (fun g => absurd ⟨⟨b, hb, e1⟩, c, hc, e2⟩ g) (fun b' c' z hb' hc' e3 e4 hz R D => ?_)⟩)
  have q1 := (jI_eq (by omega) (by omega)).mp (e1.symm.trans e3)
  have q2 := (jI_eq (by omega) (by omega)).mp (e2.symm.trans e4)
  subst q1 q2
  have hz := ((hS.fn b hb c).trans ⟨fun z => z.2, fun z => ⟨hc, z⟩⟩).trans hz.symm
  refine ⟨fun _ => ⟨fun q => absurd rfl q, fun _ => ⟨out_in, fun q => ?_, fun q => ?_⟩⟩, fun q => absurd rfl q⟩
  · subst q
    rw [if_neg (by rw [hz]; decide)]
    exact ⟨fun _ => ⟨hP, hS, hT, hf, hF⟩, fun q => q (by rw [out_at]; exact lg_same _)⟩
  · subst q
    rw [if_pos (hz.mpr rfl)]
    exact ⟨fun _ => ⟨hP, hS, hT, hf, hF⟩, fun q => q (by rw [out_at]; exact lg_same _)⟩
