/-! what the form is asked: meeting, source, sets, use, alter, turn; and said -/
def gS (N : Nat) (sc : Nat → Int32) (v1 v2 : Int32) : Prop := ∃ b k, b < N ∧ k < 6 ∧ v1 = nI b ∧ v2 = nI k ∧ nI k < sc b
def gU (N : Nat) (sc : Nat → Int32) (v1 v2 v3 : Int32) : Prop := gB N v1 ∧ (v2 = -1 ∨ (gS N sc v1 v2 ∧ (v3 = 0 ∨ v3 = 1)))
section PQ
variable {N : Nat} {stepCount kind target first second forkVariable yes no starts mMany mKinds mVs mWs mXs mEnds mEndVariable mYes mNo mStarts : Nat → Int32}
theorem PR.same (h : PR N stepCount kind target first second forkVariable yes no starts mMany mKinds mVs mWs mXs mEnds mEndVariable mYes mNo mStarts) {b : Nat} (hb : b < N) : mMany b = stepCount b := by
  obtain ⟨k, -, h1, h2⟩ := h.ct b hb
  rw [h1, h2]
theorem PR.gSi (h : PR N stepCount kind target first second forkVariable yes no starts mMany mKinds mVs mWs mXs mEnds mEndVariable mYes mNo mStarts) (v1 v2 : Int32) : gS N mMany v1 v2 ↔ gS N stepCount v1 v2 := by
  constructor
  · rintro ⟨b, k, hb, hk, e1, e2, e3⟩
    exact ⟨b, k, hb, hk, e1, e2, by rw [← h.same hb]; exact e3⟩
  · rintro ⟨b, k, hb, hk, e1, e2, e3⟩
    exact ⟨b, k, hb, hk, e1, e2, by rw [h.same hb]; exact e3⟩
theorem PR.gUi (h : PR N stepCount kind target first second forkVariable yes no starts mMany mKinds mVs mWs mXs mEnds mEndVariable mYes mNo mStarts) (v1 v2 v3 : Int32) : gU N mMany v1 v2 v3 ↔ gU N stepCount v1 v2 v3 := by
  unfold gU
  rw [h.gSi]
end PQ
theorem requireStep_sp {N : Nat} (hN : N ≤ 12) {sc : Nat → Int32} (hc : ∀ b, b < N → ∃ k, k ≤ 6 ∧ sc b = nI k) {b : Nat} (hb : b < N) {v2 : Int32} {post : Prop} {postX : Nat → Prop} (h1 : gS N sc (nI b) v2 → post) (h2 : ¬ gS N sc (nI b) v2 → postX 0) : wpOn_requireStep N sc (nI b) v2 post postX := by
  have key : gS N sc (nI b) v2 ↔ ¬ v2 < 0 ∧ v2 < sc b := by
    constructor
    · rintro ⟨c, k, hc2, hk, e1, rfl, e3⟩
      have e1 := (jI_eq (by omega) (by omega)).mp e1
      subst e1
      exact ⟨jI_neg (by omega), e3⟩
    · rintro ⟨q1, q2⟩
      obtain ⟨k, hk, rfl⟩ := jI_of q1
      obtain ⟨j, hj, e⟩ := hc b hb
      have q3 := q2
      rw [e, jI_lt hk (by omega)] at q3
      exact ⟨b, k, hb, by omega, rfl, rfl, q2⟩
  unfold wpOn_requireStep wpProgram_stepsOf
  rw [jI_in (by omega), jI_nat (by omega)]
  exact ⟨fun q => h2 fun z => (key.mp z).1 q, fun q => ⟨hb, fun q2 => h1 (key.mpr ⟨q, q2⟩), fun q2 => h2 fun z => q2 (key.mp z).2⟩⟩
theorem noStep_sp {N : Nat} (hN : N ≤ 12) {sc : Nat → Int32} (hc : ∀ b, b < N → ∃ k, k ≤ 6 ∧ sc b = nI k) {v1 v2 : Int32} {post : Bool → Prop} (h1 : gS N sc v1 v2 → post false) (h2 : ¬ gS N sc v1 v2 → post true) : wpMd_noStep N sc v1 v2 post := by
  unfold wpMd_noStep
  refine noBlock_sp hN (fun g => ⟨fun q => by (cases q), fun _ => ?_⟩) (fun g => ⟨fun _ => h2 ?_, fun q => by (cases q)⟩)
  · obtain ⟨b, hb, rfl⟩ := g
    have := requireStep_sp (post := post false) (postX := fun _ => post true) hN hc hb h1 h2
    unfold wpOn_requireStep wpProgram_stepsOf at this
    rw [jI_in (by omega), jI_nat (by omega)] at this ⊢
    exact ⟨this.1, fun q => ⟨by omega, (this.2 q).2⟩⟩
  · rintro ⟨b, k, hb, hk, e1, -⟩
    exact g ⟨b, hb, e1⟩
theorem requireUse_sp {N : Nat} (hN : N ≤ 12) {sc : Nat → Int32} (hc : ∀ b, b < N → ∃ k, k ≤ 6 ∧ sc b = nI k) {v1 v2 v3 : Int32} {post : Prop} {postX : Nat → Prop} (h1 : gU N sc v1 v2 v3 → post) (h2 : ¬ gU N sc v1 v2 v3 → postX 0) : wpOn_requireUse N sc v1 v2 v3 post postX := by
  unfold wpOn_requireUse
  refine requireBlock_sp hN (fun g => ⟨fun q => ?_, fun q => h1 ⟨g, Or.inl q⟩⟩) (fun g => h2 fun z => g z.1)
  obtain ⟨b, hb, rfl⟩ := g
  refine requireStep_sp hN hc hb (fun s => ⟨fun z => h1 ⟨⟨b, hb, rfl⟩, Or.inr ⟨s, Or.inl z⟩⟩, fun z => ⟨fun w => h1 ⟨⟨b, hb, rfl⟩, Or.inr ⟨s, Or.inr w⟩⟩, fun w => h2 fun x => ?_⟩⟩) fun s => h2 fun x => ?_
  · rcases x.2 with x | ⟨-, x | x⟩
    · exact q x
    · exact z x
    · exact w x
  · rcases x.2 with x | ⟨x, -⟩
    · exact q x
    · exact s x
theorem noUse_sp {N : Nat} (hN : N ≤ 12) {sc : Nat → Int32} (hc : ∀ b, b < N → ∃ k, k ≤ 6 ∧ sc b = nI k) {v1 v2 v3 : Int32} {post : Bool → Prop} (h1 : gU N sc v1 v2 v3 → post false) (h2 : ¬ gU N sc v1 v2 v3 → post true) : wpMd_noUse N sc v1 v2 v3 post := by
  unfold wpMd_noUse
  refine noBlock_sp hN (fun g => ⟨fun q => by (cases q), fun _ => ⟨fun q => h1 ⟨g, Or.inl q⟩, fun q => noStep_sp hN hc (fun s => ⟨fun q => by (cases q), fun _ => ?_⟩) (fun s => ⟨fun _ => h2 fun x => ?_, fun q => by (cases q)⟩)⟩⟩) (fun g => ⟨fun _ => h2 fun z => g z.1, fun q => by (cases q)⟩)
  · have key : (v3 = 0 ∨ v3 = 1) ↔ ¬ v3 < 0 ∧ v3 ≤ 1 := by
      constructor
      · rintro (rfl | rfl) <;> decide
      · rintro ⟨z1, z2⟩
        obtain ⟨k, hk, rfl⟩ := jI_of z1
        rw [jt1, jI_le hk (by omega)] at z2
        rcases (show k = 0 ∨ k = 1 by omega) with rfl | rfl
        · exact Or.inl rfl
        · exact Or.inr rfl
    refine ⟨fun z => h2 fun x => ?_, fun z => ⟨fun w => h1 ⟨g, Or.inr ⟨s, key.mpr ⟨z, w⟩⟩⟩, fun w => h2 fun x => ?_⟩⟩
    · rcases x.2 with x | ⟨-, x⟩
      · exact q x
      · exact (key.mp x).1 z
    · rcases x.2 with x | ⟨-, x⟩
      · exact q x
      · exact w (key.mp x).2
  · rcases x.2 with x | ⟨x, -⟩
    · exact q x
    · exact s x
/-- the name that a use names, in class and in reference -/
noncomputable def usv (fu su eu : Nat → Int32) (v1 v2 v3 : Int32) : Int32 := if v2 = -1 then eu v1.toNatClampNeg else if v3 = 0 then fu (v1.toNatClampNeg * 6 + v2.toNatClampNeg) else su (v1.toNatClampNeg * 6 + v2.toNatClampNeg)
theorem nameUsed_sp {N : Nat} (hN : N ≤ 12) {sc fu su eu : Nat → Int32} {v1 v2 v3 : Int32} (g : gU N sc v1 v2 v3) {post : Int32 → Prop} (hp : post (usv fu su eu v1 v2 v3)) : wpOn_nameUsed N fu su eu v1 v2 v3 post := by
  obtain ⟨⟨b, hb, rfl⟩, g⟩ := g
  unfold usv at hp
  rw [jI_nat (by omega)] at hp
  unfold wpOn_nameUsed wpNamedForm_endUse wpNamedForm_stepUse
  rw [jI_in (by omega), jI_nat (by omega)]
  refine ⟨fun q v hv => ?_, fun q => ⟨hb, ?_⟩⟩
  · rw [if_neg q] at hp
    rcases g with g | ⟨⟨c, k, hc, hk, e1, e2, -⟩, -⟩
    · exact absurd g q
    · have e1 := (jI_eq (by omega) (by omega)).mp e1
      subst e1 e2 hv
      rw [jI_nat (by omega)] at hp
      rw [jt6, jI_mul, jI_add, jI_in (by omega), jI_nat (by omega)]
      refine ⟨fun z => ⟨by omega, ?_⟩, fun z => ⟨by omega, ?_⟩⟩
      · rw [if_neg z] at hp; exact hp
      · rw [if_pos z] at hp; exact hp
  · rw [if_pos q] at hp; exact hp
theorem useOf_sp {N : Nat} (hN : N ≤ 12) {sc fu su eu : Nat → Int32} {v1 v2 v3 : Int32} (g : gU N sc v1 v2 v3) {post : Int32 → Prop} (hp : post (usv fu su eu v1 v2 v3)) : wpMd_useOf fu su eu v1 v2 v3 post := by
  obtain ⟨⟨b, hb, rfl⟩, g⟩ := g
  unfold usv at hp
  rw [jI_nat (by omega)] at hp
  unfold wpMd_useOf
  rw [jI_in (by omega), jI_nat (by omega)]
  refine ⟨fun q => ?_, fun q => ⟨by omega, ?_⟩⟩
  · rw [if_neg q] at hp
    rcases g with g | ⟨⟨c, k, hc, hk, e1, e2, -⟩, -⟩
    · exact absurd g q
    · have e1 := (jI_eq (by omega) (by omega)).mp e1
      subst e1 e2
      rw [jI_nat (by omega)] at hp
      rw [jt6, jI_mul, jI_add, jI_in (by omega), jI_nat (by omega), show 6 * b + k = b * 6 + k by omega]
      refine ⟨fun z => ⟨by omega, ?_⟩, fun z => ⟨by omega, ?_⟩⟩
      · rw [if_neg z] at hp; exact hp
      · rw [if_pos z] at hp; exact hp
  · rw [if_pos q] at hp; exact hp
def gN (hb : Nat → Int32) (v : Int32) : Prop := ∃ m, m < 600 ∧ v = nI m ∧ ¬ hb m = -1
theorem requireName_sp {hb : Nat → Int32} {v : Int32} {post : Prop} {postX : Nat → Prop} (h1 : gN hb v → post) (h2 : ¬ gN hb v → postX 0) : wpOn_requireName hb v post postX := by
  unfold wpOn_requireName wpNamedForm_hasName
  refine ⟨fun q => ⟨fun q => by (cases q), fun _ => h2 ?_⟩, fun q => ⟨fun q2 => ⟨fun q => by (cases q), fun _ => h2 ?_⟩, fun q2 => ?_⟩⟩
  · rintro ⟨m, hm, rfl, -⟩
    exact jI_neg (by omega) q
  · rintro ⟨m, hm, rfl, -⟩
    rw [show (600 : Int32) = nI 600 from rfl, jI_le (by omega) (by omega)] at q2
    omega
  · obtain ⟨m, hm, rfl⟩ := jI_of q
    rw [show (600 : Int32) = nI 600 from rfl, jI_le (by omega) (by omega)] at q2
    rw [jI_in (by omega), jI_nat (by omega)]
    refine ⟨by omega, fun z => ⟨fun q => by (cases q), fun _ => h2 ?_⟩, fun z => ⟨fun _ => h1 ⟨m, by omega, rfl, z⟩, fun q => by (cases q)⟩⟩
    rintro ⟨k, hk, e, h⟩
    have e := (jI_eq (by omega) (by omega)).mp e
    subst e
    exact h z
theorem noName_sp {hb : Nat → Int32} {mIsName : Nat → Bool} (hn : ∀ m, m < 600 → (mIsName m = true ↔ ¬ hb m = -1)) {v : Int32} {post : Bool → Prop} (h1 : gN hb v → post false) (h2 : ¬ gN hb v → post true) : wpMd_noName mIsName v post := by
  unfold wpMd_noName
  refine ⟨fun q => h2 ?_, fun q => ⟨fun q2 => h2 ?_, fun q2 => ?_⟩⟩
  · rintro ⟨m, hm, rfl, -⟩
    exact jI_neg (by omega) q
  · rintro ⟨m, hm, rfl, -⟩
    rw [show (599 : Int32) = nI 599 from rfl, jI_lt (by omega) (by omega)] at q2
    omega
  · obtain ⟨m, hm, rfl⟩ := jI_of q
    rw [show (599 : Int32) = nI 599 from rfl, jI_lt (by omega) (by omega)] at q2
    rw [jI_in (by omega), jI_nat (by omega)]
    refine ⟨by omega, fun z => h1 ⟨m, by omega, rfl, (hn m (by omega)).mp z⟩, fun z => h2 ?_⟩
    rintro ⟨k, hk, e, h⟩
    have e := (jI_eq (by omega) (by omega)).mp e
    subst e
    rw [(hn m (by omega)).mpr h] at z
    cases z
theorem neg_1 {u : Int32} {hb : Nat → Int32} (h : useOK hb u) : u < 0 ↔ u = -1 := by
  rcases h with rfl | ⟨m, hm, rfl, -⟩
  · exact ⟨fun _ => rfl, fun _ => by decide⟩
  · exact ⟨fun q => absurd q (jI_neg (by omega)), fun q => absurd q (jI_m1 (by omega))⟩
theorem two_not : ¬ (2 : Int32) = 0 := by decide
theorem one_not : ¬ (1 : Int32) = 0 := by decide
section FRQ
variable {N : Nat} {stepCount kind forkVariable yes no meetingNames meetingUses stepNames firstUses secondUses endUses homeBlock homePlace mMeets mSources mSet mUseW mUseX mEndUse : Nat → Int32} {mGone mIsName : Nat → Bool} {mNameBlock mNameStep : Nat → Int32}
theorem FR.isn (hN : N ≤ 12) (h : FR N stepCount kind forkVariable yes no meetingNames meetingUses stepNames firstUses secondUses endUses homeBlock homePlace mMeets mSources mSet mUseW mUseX mEndUse mGone mIsName mNameBlock mNameStep) : ∀ m, m < 600 → (mIsName m = true ↔ ¬ homeBlock m = -1) := by
  intro m hm
  rcases h.nm m hm with ⟨h1, h2⟩ | ⟨h1, -, -, x, hx, e, -⟩
  · rw [h2]
    exact ⟨fun q => by (cases q), fun q => absurd h1 q⟩
  · exact ⟨fun _ => fun q => jI_m1 (by omega) (e.symm.trans q), fun _ => h1⟩
theorem FR.usv_eq (hN : N ≤ 12) (h : FR N stepCount kind forkVariable yes no meetingNames meetingUses stepNames firstUses secondUses endUses homeBlock homePlace mMeets mSources mSet mUseW mUseX mEndUse mGone mIsName mNameBlock mNameStep) {v1 v2 v3 : Int32} (g : gU N stepCount v1 v2 v3) : usv mUseW mUseX mEndUse v1 v2 v3 = usv firstUses secondUses endUses v1 v2 v3 ∧ useOK homeBlock (usv firstUses secondUses endUses v1 v2 v3) := by
  obtain ⟨⟨b, hb, rfl⟩, g⟩ := g
  unfold usv
  rw [jI_nat (by omega)]
  by_cases q : v2 = -1
  · simp only [if_pos q]
    exact ⟨(h.eu b hb).1, (h.eu b hb).2.1⟩
  · simp only [if_neg q]
    rcases g with g | ⟨⟨c, k, hc, hk, e1, e2, -⟩, -⟩
    · exact absurd g q
    · have e1 := (jI_eq (by omega) (by omega)).mp e1
      subst e1 e2
      rw [jI_nat (by omega)]
      have := h.us b hb k hk
      split
      · exact ⟨this.1, this.2.2.1⟩
      · exact ⟨this.2.1, this.2.2.2.1⟩
theorem sourceOf_sp (hN : N ≤ 12) (h : FR N stepCount kind forkVariable yes no meetingNames meetingUses stepNames firstUses secondUses endUses homeBlock homePlace mMeets mSources mSet mUseW mUseX mEndUse mGone mIsName mNameBlock mNameStep) {b v p : Nat} (hb : b < N) (hv : v < 6) (hp : p ≤ N) {post : Int32 → Prop} (hpost : post (meetingUses ((b * 6 + v) * (N + 1) + p))) : wpMd_sourceOf mMeets mSources (nI b) (nI v) (nI p) post := by
  unfold wpMd_sourceOf
  rw [jt6, jI_mul, jI_add, show 6 * b + v = b * 6 + v by omega, show (13 : Int32) = nI 13 from rfl, jI_mul, jI_add, jI_in (by omega), jI_nat (by omega), jI_in (by omega), jI_nat (by omega)]
  have h1 := h.mt b hb v hv
  have h2 := h.so b hb v hv p hp
  rw [h1.1]
  refine ⟨by omega, fun q => ⟨by omega, ?_⟩, fun q => ?_⟩
  · have : ¬ meetingNames (b * 6 + v) = -1 := fun z => by rw [z] at q; exact absurd q (by decide)
    rw [(h2.2.1 this).1]
    exact hpost
  · have : meetingNames (b * 6 + v) = -1 := by
      rcases h1.2 with z | ⟨-, m, hm, e, -⟩
      · exact z
      · rw [e] at q
        exact absurd (by rw [jt0, jI_le (by omega) (by omega)]; omega) q
    rw [h2.1 this] at hpost
    exact hpost
end FRQ
theorem useOfMeeting_sp {N b v p : Nat} (hN : N ≤ 12) (hb : b < N) (hv : v < 6) (hp : p ≤ N) {mu : Nat → Int32} {post : Int32 → Prop} (hpost : post (mu ((b * 6 + v) * (N + 1) + p))) : wpNamedForm_meetingUse N mu (nI b) (nI v) (nI p) post := by
  unfold wpNamedForm_meetingUse wpNamedForm_useOfMeeting
  have h1 : (b * 6 + v) * (N + 1) + p < N * 6 * (N + 1) := by
    have : (b * 6 + v + 1) * (N + 1) ≤ N * 6 * (N + 1) := Nat.mul_le_mul_right _ (by omega)
    rw [Nat.add_mul] at this
    omega
  have h2 : N * 6 * (N + 1) ≤ 72 * 13 := Nat.mul_le_mul (by omega) (by omega)
  rw [jt6, jI_mul, jI_add, jI_one, jI_mul, jI_add]
  dsimp only
  rw [jI_in (by omega), jI_nat (by omega)]
  exact ⟨h1, hpost⟩
theorem md_meeting_sp {N : Nat} (hN : N ≤ 12) {mForm : Bool} {mMeets : Nat → Int32} {v1 v2 : Int32} {post : Int32 → Int32 → Prop} (h0 : mForm = false → post 0 1) (h1 : mForm = true → ¬ (gB N v1 ∧ gB 6 v2) → post 0 2) (h2 : mForm = true → ∀ b v, b < N → v < 6 → v1 = nI b → v2 = nI v → post (mMeets (b * 6 + v)) 0) : wpMd_meeting N mForm mMeets v1 v2 post := by
  refine ⟨fun t => (t = 1 ∧ mForm = false) ∨ (t = 2 ∧ mForm = true ∧ ¬ (gB N v1 ∧ gB 6 v2)) ∨ (t = 0 ∧ mForm = true ∧ gB N v1 ∧ gB 6 v2), fun t ht => ?_, fun hm => noBlock_sp hN (fun g1 => ⟨fun q => by (cases q), fun _ => noVariable_sp (fun g2 => ⟨fun _ => Or.inr (Or.inr ⟨rfl, hm, g1, g2⟩), fun q => by (cases q)⟩) (fun g2 => ⟨fun q => by (cases q), fun _ => Or.inr (Or.inl ⟨rfl, hm, fun z => g2 z.2⟩)⟩)⟩) (fun g1 => ⟨fun _ => Or.inr (Or.inl ⟨rfl, hm, fun z => g1 z.1⟩), fun q => by (cases q)⟩), fun hm => Or.inl ⟨rfl, hm⟩⟩
  rcases ht with ⟨rfl, hm⟩ | ⟨rfl, hm, g⟩ | ⟨rfl, hm, ⟨b, hb, rfl⟩, v, hv, rfl⟩
  · exact ⟨fun _ => h0 hm, fun q => absurd q one_not⟩
  · exact ⟨fun _ => h1 hm g, fun q => absurd q two_not⟩
  · refine ⟨fun q => absurd rfl q, fun _ => ?_⟩
    rw [jt6, jI_mul, jI_add, jI_in (by omega), jI_nat (by omega), show 6 * b + v = b * 6 + v by omega]
    exact ⟨by omega, h2 hm b v hb hv rfl rfl⟩
theorem leN_iff {N : Nat} (hN : N ≤ 12) {v : Int32} : gB (N + 1) v ↔ ¬ v < 0 ∧ v ≤ nI N := by
  rw [gB_iff (by omega)]
  constructor
  · rintro ⟨q1, q2⟩
    exact ⟨q1, (jI_le_succ (by omega) q1).mpr q2⟩
  · rintro ⟨q1, q2⟩
    exact ⟨q1, (jI_le_succ (by omega) q1).mp q2⟩
theorem md_source_sp {N : Nat} (hN : N ≤ 12) {mForm : Bool} {mMeets mSources : Nat → Int32} {v1 v2 v3 : Int32} {post : Int32 → Int32 → Prop} (h0 : mForm = false → post 0 1) (h1 : mForm = true → ¬ (gB N v1 ∧ gB 6 v2 ∧ gB (N + 1) v3) → post 0 2) (h2 : mForm = true → ∀ b v p, b < N → v < 6 → p ≤ N → v1 = nI b → v2 = nI v → v3 = nI p → wpMd_sourceOf mMeets mSources (nI b) (nI v) (nI p) (fun r => post r 0)) : wpMd_source N mForm mMeets mSources v1 v2 v3 post := by
  have e3 := @leN_iff N hN v3
  refine ⟨fun t => (t = 1 ∧ mForm = false) ∨ (t = 2 ∧ mForm = true ∧ ¬ (gB N v1 ∧ gB 6 v2 ∧ gB (N + 1) v3)) ∨ (t = 0 ∧ mForm = true ∧ gB N v1 ∧ gB 6 v2 ∧ gB (N + 1) v3), fun t ht => ?_, fun hm => noBlock_sp hN (fun g1 => ⟨fun q => by (cases q), fun _ => noVariable_sp (fun g2 => ⟨fun q => by (cases q), fun _ => ⟨fun q => Or.inr (Or.inl ⟨rfl, hm, fun z => (e3.mp z.2.2).1 q⟩), fun q => ⟨fun q2 => Or.inr (Or.inr ⟨rfl, hm, g1, g2, e3.mpr ⟨q, q2⟩⟩), fun q2 => Or.inr (Or.inl ⟨rfl, hm, fun z => q2 (e3.mp z.2.2).2⟩)⟩⟩⟩) (fun g2 => ⟨fun _ => Or.inr (Or.inl ⟨rfl, hm, fun z => g2 z.2.1⟩), fun q => by (cases q)⟩)⟩) (fun g1 => ⟨fun _ => Or.inr (Or.inl ⟨rfl, hm, fun z => g1 z.1⟩), fun q => by (cases q)⟩), fun hm => Or.inl ⟨rfl, hm⟩⟩
  rcases ht with ⟨rfl, hm⟩ | ⟨rfl, hm, g⟩ | ⟨rfl, hm, ⟨b, hb, rfl⟩, ⟨v, hv, rfl⟩, p, hp, rfl⟩
  · exact ⟨fun _ => h0 hm, fun q => absurd q one_not⟩
  · exact ⟨fun _ => h1 hm g, fun q => absurd q two_not⟩
  · exact ⟨fun q => absurd rfl q, fun _ => h2 hm b v p hb hv (by omega) rfl rfl rfl⟩
theorem md_sets_sp {N : Nat} (hN : N ≤ 12) {mForm : Bool} {mMany mSet : Nat → Int32} (hc : ∀ b, b < N → ∃ k, k ≤ 6 ∧ mMany b = nI k) {v1 v2 : Int32} {post : Int32 → Int32 → Prop} (h0 : mForm = false → post 0 1) (h1 : mForm = true → ¬ gS N mMany v1 v2 → post 0 2) (h2 : mForm = true → ∀ b k, b < N → k < 6 → v1 = nI b → v2 = nI k → nI k < mMany b → post (mSet (b * 6 + k)) 0) : wpMd_sets N mForm mMany mSet v1 v2 post := by
  refine ⟨fun t => (t = 1 ∧ mForm = false) ∨ (t = 2 ∧ mForm = true ∧ ¬ gS N mMany v1 v2) ∨ (t = 0 ∧ mForm = true ∧ gS N mMany v1 v2), fun t ht => ?_, fun hm => noStep_sp hN hc (fun g => ⟨fun _ => Or.inr (Or.inr ⟨rfl, hm, g⟩), fun q => by (cases q)⟩) (fun g => ⟨fun q => by (cases q), fun _ => Or.inr (Or.inl ⟨rfl, hm, g⟩)⟩), fun hm => Or.inl ⟨rfl, hm⟩⟩
  rcases ht with ⟨rfl, hm⟩ | ⟨rfl, hm, g⟩ | ⟨rfl, hm, b, k, hb, hk, rfl, rfl, hlt⟩
  · exact ⟨fun _ => h0 hm, fun q => absurd q one_not⟩
  · exact ⟨fun _ => h1 hm g, fun q => absurd q two_not⟩
  · refine ⟨fun q => absurd rfl q, fun _ => ?_⟩
    rw [jt6, jI_mul, jI_add, jI_in (by omega), jI_nat (by omega), show 6 * b + k = b * 6 + k by omega]
    exact ⟨by omega, h2 hm b k hb hk rfl rfl hlt⟩
theorem md_use_sp {N : Nat} (hN : N ≤ 12) {mForm : Bool} {mMany mUseW mUseX mEndUse : Nat → Int32} (hc : ∀ b, b < N → ∃ k, k ≤ 6 ∧ mMany b = nI k) {v1 v2 v3 : Int32} {post : Int32 → Int32 → Prop} (h0 : mForm = false → post 0 1) (h1 : mForm = true → ¬ gU N mMany v1 v2 v3 → post 0 2) (h2 : mForm = true → gU N mMany v1 v2 v3 → post (usv mUseW mUseX mEndUse v1 v2 v3) 0) : wpMd_use N mForm mMany mUseW mUseX mEndUse v1 v2 v3 post := by
  refine ⟨fun t => (t = 1 ∧ mForm = false) ∨ (t = 2 ∧ mForm = true ∧ ¬ gU N mMany v1 v2 v3) ∨ (t = 0 ∧ mForm = true ∧ gU N mMany v1 v2 v3), fun t ht => ?_, fun hm => noUse_sp hN hc (fun g => ⟨fun _ => Or.inr (Or.inr ⟨rfl, hm, g⟩), fun q => by (cases q)⟩) (fun g => ⟨fun q => by (cases q), fun _ => Or.inr (Or.inl ⟨rfl, hm, g⟩)⟩), fun hm => Or.inl ⟨rfl, hm⟩⟩
  rcases ht with ⟨rfl, hm⟩ | ⟨rfl, hm, g⟩ | ⟨rfl, hm, g⟩
  · exact ⟨fun _ => h0 hm, fun q => absurd q one_not⟩
  · exact ⟨fun _ => h1 hm g, fun q => absurd q two_not⟩
  · exact ⟨fun q => absurd rfl q, fun _ => useOf_sp hN g (h2 hm g)⟩
theorem md_alter_sp {N : Nat} (hN : N ≤ 12) {mForm : Bool} {mMany mUseW mUseX mEndUse hb : Nat → Int32} {mIsName : Nat → Bool} (hc : ∀ b, b < N → ∃ k, k ≤ 6 ∧ mMany b = nI k) (hn : mForm = true → ∀ m, m < 600 → (mIsName m = true ↔ ¬ hb m = -1)) {v1 v2 v3 v4 : Int32} {post : Int32 → (Nat → Int32) → (Nat → Int32) → (Nat → Int32) → Prop} (h0 : mForm = false → post 1 mUseW mUseX mEndUse) (h1 : mForm = true → ¬ (gU N mMany v1 v2 v3 ∧ ¬ usv mUseW mUseX mEndUse v1 v2 v3 < 0 ∧ gN hb v4) → post 2 mUseW mUseX mEndUse)
    (h2 : mForm = true → ∀ b, b < N → v1 = nI b → v2 = -1 → ¬ usv mUseW mUseX mEndUse v1 v2 v3 < 0 → gN hb v4 → post 0 mUseW mUseX (upd mEndUse b v4)) (h3 : mForm = true → ∀ b k, b < N → k < 6 → v1 = nI b → v2 = nI k → nI k < mMany b → v3 = 0 → ¬ usv mUseW mUseX mEndUse v1 v2 v3 < 0 → gN hb v4 → post 0 (upd mUseW (b * 6 + k) v4) mUseX mEndUse) (h4 : mForm = true → ∀ b k, b < N → k < 6 → v1 = nI b → v2 = nI k → nI k < mMany b → v3 = 1 → ¬ usv mUseW mUseX mEndUse v1 v2 v3 < 0 → gN hb v4 → post 0 mUseW (upd mUseX (b * 6 + k) v4) mEndUse) : wpMd_alter N mForm mMany mUseW mUseX mEndUse mIsName v1 v2 v3 v4 post := by
  refine ⟨fun t => (t = 1 ∧ mForm = false) ∨ (t = 2 ∧ mForm = true ∧ ¬ (gU N mMany v1 v2 v3 ∧ ¬ usv mUseW mUseX mEndUse v1 v2 v3 < 0 ∧ gN hb v4)) ∨ (t = 0 ∧ mForm = true ∧ gU N mMany v1 v2 v3 ∧ ¬ usv mUseW mUseX mEndUse v1 v2 v3 < 0 ∧ gN hb v4), fun t ht => ?_, fun hm => noUse_sp hN hc (fun g => ⟨fun _ => useOf_sp hN g ⟨fun q => Or.inr (Or.inl ⟨rfl, hm, fun z => z.2.1 q⟩), fun q => noName_sp (hn hm) (fun g2 => ⟨fun _ => Or.inr (Or.inr ⟨rfl, hm, g, q, g2⟩), fun q => by (cases q)⟩) (fun g2 => ⟨fun q => by (cases q), fun _ => Or.inr (Or.inl ⟨rfl, hm, fun z => g2 z.2.2⟩)⟩)⟩, fun q => by (cases q)⟩) (fun g => ⟨fun q => by (cases q), fun _ => Or.inr (Or.inl ⟨rfl, hm, fun z => g z.1⟩)⟩), fun hm => Or.inl ⟨rfl, hm⟩⟩
  rcases ht with ⟨rfl, hm⟩ | ⟨rfl, hm, g⟩ | ⟨rfl, hm, ⟨⟨b, hbN, rfl⟩, g⟩, g2, g3⟩
  · exact ⟨fun q => absurd q one_not, fun _ => h0 hm⟩
  · exact ⟨fun q => absurd q two_not, fun _ => h1 hm g⟩
  · refine ⟨fun _ => ⟨fun q => ?_, fun q => ?_⟩, fun q => absurd rfl q⟩
    · rcases g with g | ⟨⟨c, k, hc2, hk, e1, rfl, hlt⟩, g⟩
      · exact absurd g q
      · have e1 := (jI_eq (by omega) (by omega)).mp e1
        subst e1
        rw [jt6, jI_mul, jI_add, jI_in (by omega), jI_nat (by omega), show 6 * b + k = b * 6 + k by omega]
        exact ⟨fun z => ⟨by omega, h4 hm b k hbN hk rfl rfl hlt (g.resolve_left z) g2 g3⟩, fun z => ⟨by omega, h3 hm b k hbN hk rfl rfl hlt z g2 g3⟩⟩
    · rw [jI_in (by omega), jI_nat (by omega)]
      exact ⟨by omega, h2 hm b hbN rfl q g2 g3⟩
theorem md_turn_sp {N : Nat} (hN : N ≤ 12) {mForm : Bool} {mMeets mSources hb : Nat → Int32} {mIsName : Nat → Bool} (hn : mForm = true → ∀ m, m < 600 → (mIsName m = true ↔ ¬ hb m = -1)) (S : Nat → Nat → Nat → Int32) (hS : mForm = true → ∀ b v p, b < N → v < 6 → p ≤ N → ∀ post : Int32 → Prop, post (S b v p) → wpMd_sourceOf mMeets mSources (nI b) (nI v) (nI p) post) {v1 v2 v3 v4 : Int32} {post : Int32 → (Nat → Int32) → Prop} (h0 : mForm = false → post 1 mSources) (h1 : mForm = true → ¬ (∃ b v p, b < N ∧ v < 6 ∧ p ≤ N ∧ v1 = nI b ∧ v2 = nI v ∧ v3 = nI p ∧ ¬ S b v p < 0 ∧ gN hb v4) → post 2 mSources)
    (h2 : mForm = true → ∀ b v p, b < N → v < 6 → p ≤ N → v1 = nI b → v2 = nI v → v3 = nI p → ¬ S b v p < 0 → gN hb v4 → post 0 (upd mSources (13 * (b * 6 + v) + p) v4)) : wpMd_turn N mForm mMeets mSources mIsName v1 v2 v3 v4 post := by
  have e3 := @leN_iff N hN v3
  have bad : ∀ {x : Prop}, mForm = true → ¬ (∃ b v p, b < N ∧ v < 6 ∧ p ≤ N ∧ v1 = nI b ∧ v2 = nI v ∧ v3 = nI p ∧ ¬ S b v p < 0 ∧ gN hb v4) → _ := fun hm g => (Or.inr (Or.inl ⟨rfl, hm, g⟩) : ((2 : Int32) = 1 ∧ mForm = false) ∨ ((2 : Int32) = 2 ∧ mForm = true ∧ ¬ (∃ b v p, b < N ∧ v < 6 ∧ p ≤ N ∧ v1 = nI b ∧ v2 = nI v ∧ v3 = nI p ∧ ¬ S b v p < 0 ∧ gN hb v4)) ∨ ((2 : Int32) = 0 ∧ mForm = true ∧ (∃ b v p, b < N ∧ v < 6 ∧ p ≤ N ∧ v1 = nI b ∧ v2 = nI v ∧ v3 = nI p ∧ ¬ S b v p < 0 ∧ gN hb v4)))
  refine ⟨fun t => (t = 1 ∧ mForm = false) ∨ (t = 2 ∧ mForm = true ∧ ¬ (∃ b v p, b < N ∧ v < 6 ∧ p ≤ N ∧ v1 = nI b ∧ v2 = nI v ∧ v3 = nI p ∧ ¬ S b v p < 0 ∧ gN hb v4)) ∨ (t = 0 ∧ mForm = true ∧ (∃ b v p, b < N ∧ v < 6 ∧ p ≤ N ∧ v1 = nI b ∧ v2 = nI v ∧ v3 = nI p ∧ ¬ S b v p < 0 ∧ gN hb v4)), fun t ht => ?_, fun hm => noBlock_sp hN (fun g1 => ⟨fun q => by (cases q), fun _ => noVariable_sp (fun g2 => ⟨fun q => by (cases q), fun _ => ⟨fun q => bad (x := True) hm ?_, fun q => ⟨fun q2 => ?_, fun q2 => bad (x := True) hm ?_⟩⟩⟩) (fun g2 => ⟨fun _ => bad (x := True) hm ?_, fun q => by (cases q)⟩)⟩) (fun g1 => ⟨fun _ => bad (x := True) hm ?_, fun q => by (cases q)⟩), fun hm => Or.inl ⟨rfl, hm⟩⟩
  · rcases ht with ⟨rfl, hm⟩ | ⟨rfl, hm, g⟩ | ⟨rfl, hm, b, v, p, hbN, hv, hp, rfl, rfl, rfl, g2, g3⟩
    · exact ⟨fun _ => h0 hm, fun q => absurd q one_not⟩
    · exact ⟨fun _ => h1 hm g, fun q => absurd q two_not⟩
    · refine ⟨fun q => absurd rfl q, fun _ => ?_⟩
      rw [jt6, jI_mul, jI_add, show 6 * b + v = b * 6 + v by omega, show (13 : Int32) = nI 13 from rfl, jI_mul, jI_add, jI_in (by omega), jI_nat (by omega)]
      exact ⟨by omega, h2 hm b v p hbN hv hp rfl rfl rfl g2 g3⟩
  · rintro ⟨b, v, p, hbN, hv, hp, -, -, rfl, -⟩
    exact jI_neg (by omega) q
  · obtain ⟨b, hbN, rfl⟩ := g1
    obtain ⟨v, hv, rfl⟩ := g2
    obtain ⟨p, hp, rfl⟩ := e3.mpr ⟨q, q2⟩
    have uq : ∀ {b' v' p'}, b' < N → v' < 6 → p' ≤ N → nI b = nI b' → nI v = nI v' → nI p = nI p' → b = b' ∧ v = v' ∧ p = p' := fun h1 h2 h3 e1 e2 e3 => ⟨(jI_eq (by omega) (by omega)).mp e1, (jI_eq (by omega) (by omega)).mp e2, (jI_eq (by omega) (by omega)).mp e3⟩
    refine hS hm b v p hbN hv (by omega) _ ⟨fun z => bad (x := True) hm ?_, fun z => noName_sp (hn hm) (fun g => ⟨fun _ => Or.inr (Or.inr ⟨rfl, hm, b, v, p, hbN, hv, by omega, rfl, rfl, rfl, z, g⟩), fun q => by (cases q)⟩) (fun g => ⟨fun q => by (cases q), fun _ => bad (x := True) hm ?_⟩)⟩
    · rintro ⟨b', v', p', hb', hv', hp', e1, e2, e3, z2, -⟩
      obtain ⟨rfl, rfl, rfl⟩ := uq hb' hv' hp' e1 e2 e3
      exact z2 z
    · rintro ⟨b', v', p', hb', hv', hp', e1, e2, e3, z2, z3⟩
      exact g z3
  · rintro ⟨b, v, p, hbN, hv, hp, -, -, e, -⟩
    exact q2 (e3.mp ⟨p, by omega, e⟩).2
  · rintro ⟨b, v, p, hbN, hv, hp, -, e, -⟩
    exact g2 ⟨v, hv, e⟩
  · rintro ⟨b, v, p, hbN, hv, hp, e, -⟩
    exact g1 ⟨b, hbN, e⟩
/-! the calls of the form that ask and alter -/
theorem k_meeting {N L : Nat} {xs : Nat → Int32} {v4 : Int32} (hN0 : 0 < N) (hN : N ≤ 12) (hv : ∀ j, j < 6 → vp_in (v4 + nI j) L) (formStands : Bool) (stepCount : Nat → Int32) (kind : Nat → Int32) (target : Nat → Int32) (first : Nat → Int32) (second : Nat → Int32) (forkVariable : Nat → Int32) (yes : Nat → Int32) (no : Nat → Int32) (starts : Nat → Int32) (orderSize : Int32) (reached : Int32) (forerunners : Nat → Int32) (blw : Nat → Int32) (frontiers : Nat → Int32) (parents : Nat → Int32) (order : Nat → Int32) (waiting : Nat → Int32) (meetingNames : Nat → Int32) (meetingUses : Nat → Int32) (stepNames : Nat → Int32) (firstUses : Nat → Int32) (secondUses : Nat → Int32) (endUses : Nat → Int32) (lastNames : Nat → Int32) (namesOf : Nat → Int32) (homeBlock : Nat → Int32) (homePlace : Nat → Int32) (standsFor : Nat → Int32) (pending : Int32) (length : Int32) (pendingTo : Nat → Int32) (pendingFrom : Nat → Int32) (copyTo : Nat → Int32) (copyFrom : Nat → Int32) (way : Int32) (values : Nat → Int32) (arriving : Nat → Int32) (T0size : Int32) (T0out : Int32) (T0num : Nat → Int32) (T1size : Int32) (T1out : Int32) (T1num : Nat → Int32) (T2size : Int32) (T2out : Int32) (T2num : Nat → Int32) (outc : Nat → Int64) (mThrown : Int32) (mReached : Int32) (mForm : Bool) (mSlot : Int32) (mOver : Bool) (mMany : Nat → Int32) (mKinds : Nat → Int32) (mVs : Nat → Int32) (mWs : Nat → Int32) (mXs : Nat → Int32) (mEnds : Nat → Int32) (mEndVariable : Nat → Int32) (mYes : Nat → Int32) (mNo : Nat → Int32) (mStarts : Nat → Int32) (mDominators : Nat → Int32) (mMeets : Nat → Int32) (mSources : Nat → Int32) (mSet : Nat → Int32) (mUseW : Nat → Int32) (mUseX : Nat → Int32) (mEndUse : Nat → Int32) (mGone : Nat → Bool) (mIsName : Nat → Bool) (mNameBlock : Nat → Int32) (mNameStep : Nat → Int32) (mNumbers : Nat → Int32) (mSaid : Nat → Int32) (mSaidCount : Nat → Int32) (mFailed : Nat → Int32) (mValues : Nat → Int32) (mNextValues : Nat → Int32) (mOpen : Nat → Int32) (h : JJ N formStands stepCount kind target first second forkVariable yes no starts orderSize reached forerunners blw frontiers parents order waiting meetingNames meetingUses stepNames firstUses secondUses endUses lastNames namesOf homeBlock homePlace standsFor pending length pendingTo pendingFrom copyTo copyFrom way values arriving T0size T0out T0num T1size T1out T1num T2size T2out T2num outc mThrown mReached mForm mSlot mOver mMany mKinds mVs mWs mXs mEnds mEndVariable mYes mNo mStarts mDominators mMeets mSources mSet mUseW mUseX mEndUse mGone mIsName mNameBlock mNameStep mNumbers mSaid mSaidCount mFailed mValues mNextValues mOpen) : wpLc_meeting N L xs v4 formStands stepCount kind target first second forkVariable yes no starts orderSize reached forerunners blw frontiers parents order waiting meetingNames meetingUses stepNames firstUses secondUses endUses lastNames namesOf homeBlock homePlace standsFor pending length pendingTo pendingFrom copyTo copyFrom way values arriving T0size T0out T0num T1size T1out T1num T2size T2out T2num outc mThrown mReached mForm mSlot mOver mMany mKinds mVs mWs mXs mEnds mEndVariable mYes mNo mStarts mDominators mMeets mSources mSet mUseW mUseX mEndUse mGone mIsName mNameBlock mNameStep mNumbers mSaid mSaidCount mFailed mValues mNextValues mOpen (JJ N) := by
  obtain ⟨hP, hS, hT, hf, hF⟩ := h
  subst hf
  refine ⟨hv 1 (by omega), hv 2 (by omega), ?_⟩
  unfold wpLw_meeting wpOn_meeting
  refine ⟨fun hst => ?_, fun hst => ⟨Or.inl rfl, fun _ => ⟨hv 1 (by omega), hv 2 (by omega), md_meeting_sp hN (fun _ => ⟨fun _ => ⟨fun _ => ⟨hP, hS, hT, rfl, hF⟩, fun q => absurd q (by decide)⟩, fun q => absurd rfl q⟩) (fun q => by rw [hst] at q; cases q) (fun q => by rw [hst] at q; cases q)⟩, fun q => by omega⟩⟩
  have F := hF hst
  refine requireBlock_sp hN (fun g1 => requireVariable_sp (fun g2 => ?_) fun g2 => ⟨Or.inr rfl, fun q => by omega, fun _ => ⟨hv 1 (by omega), hv 2 (by omega), md_meeting_sp hN (fun q => by rw [hst] at q; cases q) (fun _ _ => ⟨fun _ => ⟨fun _ => ⟨hP, hS, hT, rfl, hF⟩, fun q => absurd q (by decide)⟩, fun q => absurd rfl q⟩) (fun _ b v hb hv e1 e2 => absurd ⟨v, hv, e2⟩ g2)⟩⟩) fun g1 => ⟨Or.inr rfl, fun q => by omega, fun _ => ⟨hv 1 (by omega), hv 2 (by omega), md_meeting_sp hN (fun q => by rw [hst] at q; cases q) (fun _ _ => ⟨fun _ => ⟨fun _ => ⟨hP, hS, hT, rfl, hF⟩, fun q => absurd q (by decide)⟩, fun q => absurd rfl q⟩) (fun _ b v hb hv e1 e2 => absurd ⟨b, hb, e1⟩ g1)⟩⟩
  obtain ⟨b, hb, e1⟩ := g1
  obtain ⟨v, hvv, e2⟩ := g2
  rw [e1, e2]
  unfold wpNamedForm_meetingName
  rw [jt6, jI_mul, jI_add, jI_in (by omega), jI_nat (by omega)]
  refine ⟨by omega, out_in, hv 1 (by omega), hv 2 (by omega), md_meeting_sp hN (fun q => by rw [hst] at q; cases q) (fun _ g => absurd ⟨⟨b, hb, rfl⟩, v, hvv, rfl⟩ g) (fun _ b' v' hb' hv' q1 q2 => ?_)⟩
  have q1 := (jI_eq (by omega) (by omega)).mp q1
  have q2 := (jI_eq (by omega) (by omega)).mp q2
  subst q1 q2
  rw [(F.mt b hb v hvv).1]
  exact ⟨fun _ => ⟨fun q => absurd rfl q, fun _ => ⟨out_in, fun _ => ⟨hP, hS, hT, rfl, hF⟩, fun q => q (by rw [out_at]; exact lg_same _)⟩⟩, fun q => absurd rfl q⟩
theorem k_source {N L : Nat} {xs : Nat → Int32} {v4 : Int32} (hN0 : 0 < N) (hN : N ≤ 12) (hv : ∀ j, j < 6 → vp_in (v4 + nI j) L) (formStands : Bool) (stepCount : Nat → Int32) (kind : Nat → Int32) (target : Nat → Int32) (first : Nat → Int32) (second : Nat → Int32) (forkVariable : Nat → Int32) (yes : Nat → Int32) (no : Nat → Int32) (starts : Nat → Int32) (orderSize : Int32) (reached : Int32) (forerunners : Nat → Int32) (blw : Nat → Int32) (frontiers : Nat → Int32) (parents : Nat → Int32) (order : Nat → Int32) (waiting : Nat → Int32) (meetingNames : Nat → Int32) (meetingUses : Nat → Int32) (stepNames : Nat → Int32) (firstUses : Nat → Int32) (secondUses : Nat → Int32) (endUses : Nat → Int32) (lastNames : Nat → Int32) (namesOf : Nat → Int32) (homeBlock : Nat → Int32) (homePlace : Nat → Int32) (standsFor : Nat → Int32) (pending : Int32) (length : Int32) (pendingTo : Nat → Int32) (pendingFrom : Nat → Int32) (copyTo : Nat → Int32) (copyFrom : Nat → Int32) (way : Int32) (values : Nat → Int32) (arriving : Nat → Int32) (T0size : Int32) (T0out : Int32) (T0num : Nat → Int32) (T1size : Int32) (T1out : Int32) (T1num : Nat → Int32) (T2size : Int32) (T2out : Int32) (T2num : Nat → Int32) (outc : Nat → Int64) (mThrown : Int32) (mReached : Int32) (mForm : Bool) (mSlot : Int32) (mOver : Bool) (mMany : Nat → Int32) (mKinds : Nat → Int32) (mVs : Nat → Int32) (mWs : Nat → Int32) (mXs : Nat → Int32) (mEnds : Nat → Int32) (mEndVariable : Nat → Int32) (mYes : Nat → Int32) (mNo : Nat → Int32) (mStarts : Nat → Int32) (mDominators : Nat → Int32) (mMeets : Nat → Int32) (mSources : Nat → Int32) (mSet : Nat → Int32) (mUseW : Nat → Int32) (mUseX : Nat → Int32) (mEndUse : Nat → Int32) (mGone : Nat → Bool) (mIsName : Nat → Bool) (mNameBlock : Nat → Int32) (mNameStep : Nat → Int32) (mNumbers : Nat → Int32) (mSaid : Nat → Int32) (mSaidCount : Nat → Int32) (mFailed : Nat → Int32) (mValues : Nat → Int32) (mNextValues : Nat → Int32) (mOpen : Nat → Int32) (h : JJ N formStands stepCount kind target first second forkVariable yes no starts orderSize reached forerunners blw frontiers parents order waiting meetingNames meetingUses stepNames firstUses secondUses endUses lastNames namesOf homeBlock homePlace standsFor pending length pendingTo pendingFrom copyTo copyFrom way values arriving T0size T0out T0num T1size T1out T1num T2size T2out T2num outc mThrown mReached mForm mSlot mOver mMany mKinds mVs mWs mXs mEnds mEndVariable mYes mNo mStarts mDominators mMeets mSources mSet mUseW mUseX mEndUse mGone mIsName mNameBlock mNameStep mNumbers mSaid mSaidCount mFailed mValues mNextValues mOpen) : wpLc_source N L xs v4 formStands stepCount kind target first second forkVariable yes no starts orderSize reached forerunners blw frontiers parents order waiting meetingNames meetingUses stepNames firstUses secondUses endUses lastNames namesOf homeBlock homePlace standsFor pending length pendingTo pendingFrom copyTo copyFrom way values arriving T0size T0out T0num T1size T1out T1num T2size T2out T2num outc mThrown mReached mForm mSlot mOver mMany mKinds mVs mWs mXs mEnds mEndVariable mYes mNo mStarts mDominators mMeets mSources mSet mUseW mUseX mEndUse mGone mIsName mNameBlock mNameStep mNumbers mSaid mSaidCount mFailed mValues mNextValues mOpen (JJ N) := by
  obtain ⟨hP, hS, hT, hf, hF⟩ := h
  subst hf
  refine ⟨hv 1 (by omega), hv 2 (by omega), hv 3 (by omega), ?_⟩
  unfold wpLw_source wpOn_source wpOn_requireMeetingUse
  refine ⟨fun hst => ?_, fun hst => ⟨Or.inl rfl, fun _ => ⟨hv 1 (by omega), hv 2 (by omega), hv 3 (by omega), md_source_sp hN (fun _ => ⟨fun _ => ⟨fun _ => ⟨hP, hS, hT, rfl, hF⟩, fun q => absurd q (by decide)⟩, fun q => absurd rfl q⟩) (fun q => by rw [hst] at q; cases q) (fun q => by rw [hst] at q; cases q)⟩, fun q => by omega⟩⟩
  have F := hF hst
  refine requireBlock_sp hN (fun g1 => requireVariable_sp (fun g2 => requireBE_sp hN (fun g3 => ?_) fun g3 => ⟨Or.inr rfl, fun q => by omega, fun _ => ⟨hv 1 (by omega), hv 2 (by omega), hv 3 (by omega), md_source_sp hN (fun q => by rw [hst] at q; cases q) (fun _ _ => ⟨fun _ => ⟨fun _ => ⟨hP, hS, hT, rfl, hF⟩, fun q => absurd q (by decide)⟩, fun q => absurd rfl q⟩) (fun _ b v p hb hv hp e1 e2 e3 => absurd ⟨p, by omega, e3⟩ g3)⟩⟩) fun g2 => ⟨Or.inr rfl, fun q => by omega, fun _ => ⟨hv 1 (by omega), hv 2 (by omega), hv 3 (by omega), md_source_sp hN (fun q => by rw [hst] at q; cases q) (fun _ _ => ⟨fun _ => ⟨fun _ => ⟨hP, hS, hT, rfl, hF⟩, fun q => absurd q (by decide)⟩, fun q => absurd rfl q⟩) (fun _ b v p hb hv hp e1 e2 e3 => absurd ⟨v, hv, e2⟩ g2)⟩⟩) fun g1 => ⟨Or.inr rfl, fun q => by omega, fun _ => ⟨hv 1 (by omega), hv 2 (by omega), hv 3 (by omega), md_source_sp hN (fun q => by rw [hst] at q; cases q) (fun _ _ => ⟨fun _ => ⟨fun _ => ⟨hP, hS, hT, rfl, hF⟩, fun q => absurd q (by decide)⟩, fun q => absurd rfl q⟩) (fun _ b v p hb hv hp e1 e2 e3 => absurd ⟨b, hb, e1⟩ g1)⟩⟩
  obtain ⟨b, hb, e1⟩ := g1
  obtain ⟨v, hvv, e2⟩ := g2
  obtain ⟨p, hp, e3⟩ := g3
  rw [e1, e2, e3]
  refine useOfMeeting_sp hN hb hvv (by omega) ⟨out_in, hv 1 (by omega), hv 2 (by omega), hv 3 (by omega), md_source_sp hN (fun q => by rw [hst] at q; cases q) (fun _ g => absurd ⟨⟨b, hb, rfl⟩, ⟨v, hvv, rfl⟩, p, hp, rfl⟩ g) (fun _ b' v' p' hb' hv' hp' q1 q2 q3 => ?_)⟩
  have q1 := (jI_eq (by omega) (by omega)).mp q1
  have q2 := (jI_eq (by omega) (by omega)).mp q2
  have q3 := (jI_eq (by omega) (by omega)).mp q3
  subst q1 q2 q3
  exact sourceOf_sp hN F hb hvv (by omega) ⟨fun _ => ⟨fun q => absurd rfl q, fun _ => ⟨out_in, fun _ => ⟨hP, hS, hT, rfl, hF⟩, fun q => q (by rw [out_at]; exact lg_same _)⟩⟩, fun q => absurd rfl q⟩
theorem k_sets {N L : Nat} {xs : Nat → Int32} {v4 : Int32} (hN0 : 0 < N) (hN : N ≤ 12) (hv : ∀ j, j < 6 → vp_in (v4 + nI j) L) (formStands : Bool) (stepCount : Nat → Int32) (kind : Nat → Int32) (target : Nat → Int32) (first : Nat → Int32) (second : Nat → Int32) (forkVariable : Nat → Int32) (yes : Nat → Int32) (no : Nat → Int32) (starts : Nat → Int32) (orderSize : Int32) (reached : Int32) (forerunners : Nat → Int32) (blw : Nat → Int32) (frontiers : Nat → Int32) (parents : Nat → Int32) (order : Nat → Int32) (waiting : Nat → Int32) (meetingNames : Nat → Int32) (meetingUses : Nat → Int32) (stepNames : Nat → Int32) (firstUses : Nat → Int32) (secondUses : Nat → Int32) (endUses : Nat → Int32) (lastNames : Nat → Int32) (namesOf : Nat → Int32) (homeBlock : Nat → Int32) (homePlace : Nat → Int32) (standsFor : Nat → Int32) (pending : Int32) (length : Int32) (pendingTo : Nat → Int32) (pendingFrom : Nat → Int32) (copyTo : Nat → Int32) (copyFrom : Nat → Int32) (way : Int32) (values : Nat → Int32) (arriving : Nat → Int32) (T0size : Int32) (T0out : Int32) (T0num : Nat → Int32) (T1size : Int32) (T1out : Int32) (T1num : Nat → Int32) (T2size : Int32) (T2out : Int32) (T2num : Nat → Int32) (outc : Nat → Int64) (mThrown : Int32) (mReached : Int32) (mForm : Bool) (mSlot : Int32) (mOver : Bool) (mMany : Nat → Int32) (mKinds : Nat → Int32) (mVs : Nat → Int32) (mWs : Nat → Int32) (mXs : Nat → Int32) (mEnds : Nat → Int32) (mEndVariable : Nat → Int32) (mYes : Nat → Int32) (mNo : Nat → Int32) (mStarts : Nat → Int32) (mDominators : Nat → Int32) (mMeets : Nat → Int32) (mSources : Nat → Int32) (mSet : Nat → Int32) (mUseW : Nat → Int32) (mUseX : Nat → Int32) (mEndUse : Nat → Int32) (mGone : Nat → Bool) (mIsName : Nat → Bool) (mNameBlock : Nat → Int32) (mNameStep : Nat → Int32) (mNumbers : Nat → Int32) (mSaid : Nat → Int32) (mSaidCount : Nat → Int32) (mFailed : Nat → Int32) (mValues : Nat → Int32) (mNextValues : Nat → Int32) (mOpen : Nat → Int32) (h : JJ N formStands stepCount kind target first second forkVariable yes no starts orderSize reached forerunners blw frontiers parents order waiting meetingNames meetingUses stepNames firstUses secondUses endUses lastNames namesOf homeBlock homePlace standsFor pending length pendingTo pendingFrom copyTo copyFrom way values arriving T0size T0out T0num T1size T1out T1num T2size T2out T2num outc mThrown mReached mForm mSlot mOver mMany mKinds mVs mWs mXs mEnds mEndVariable mYes mNo mStarts mDominators mMeets mSources mSet mUseW mUseX mEndUse mGone mIsName mNameBlock mNameStep mNumbers mSaid mSaidCount mFailed mValues mNextValues mOpen) : wpLc_sets N L xs v4 formStands stepCount kind target first second forkVariable yes no starts orderSize reached forerunners blw frontiers parents order waiting meetingNames meetingUses stepNames firstUses secondUses endUses lastNames namesOf homeBlock homePlace standsFor pending length pendingTo pendingFrom copyTo copyFrom way values arriving T0size T0out T0num T1size T1out T1num T2size T2out T2num outc mThrown mReached mForm mSlot mOver mMany mKinds mVs mWs mXs mEnds mEndVariable mYes mNo mStarts mDominators mMeets mSources mSet mUseW mUseX mEndUse mGone mIsName mNameBlock mNameStep mNumbers mSaid mSaidCount mFailed mValues mNextValues mOpen (JJ N) := by
  obtain ⟨hP, hS, hT, hf, hF⟩ := h
  subst hf
  refine ⟨hv 1 (by omega), hv 2 (by omega), ?_⟩
  unfold wpLw_sets wpOn_sets
  refine ⟨fun hst => ?_, fun hst => ⟨Or.inl rfl, fun _ => ⟨hv 1 (by omega), hv 2 (by omega), md_sets_sp hN hP.ct2 (fun _ => ⟨fun _ => ⟨fun _ => ⟨hP, hS, hT, rfl, hF⟩, fun q => absurd q (by decide)⟩, fun q => absurd rfl q⟩) (fun q => by rw [hst] at q; cases q) (fun q => by rw [hst] at q; cases q)⟩, fun q => by omega⟩⟩
  have F := hF hst
  refine requireBlock_sp hN (fun g1 => ?_) fun g1 => ⟨Or.inr rfl, fun q => by omega, fun _ => ⟨hv 1 (by omega), hv 2 (by omega), md_sets_sp hN hP.ct2 (fun q => by rw [hst] at q; cases q) (fun _ _ => ⟨fun _ => ⟨fun _ => ⟨hP, hS, hT, rfl, hF⟩, fun q => absurd q (by decide)⟩, fun q => absurd rfl q⟩) (fun _ b k hb hk e1 e2 e3 => absurd ⟨b, hb, e1⟩ g1)⟩⟩
  obtain ⟨b, hb, e1⟩ := g1
  rw [e1]
  refine requireStep_sp hN hP.ct1 hb (fun g2 => ?_) fun g2 => ⟨Or.inr rfl, fun q => by omega, fun _ => ⟨hv 1 (by omega), hv 2 (by omega), md_sets_sp hN hP.ct2 (fun q => by rw [hst] at q; cases q) (fun _ _ => ⟨fun _ => ⟨fun _ => ⟨hP, hS, hT, rfl, hF⟩, fun q => absurd q (by decide)⟩, fun q => absurd rfl q⟩) (fun _ b k hb hk e1 e2 e3 => absurd ((hP.gSi _ _).mp ⟨b, k, hb, hk, e1, e2, e3⟩) g2)⟩⟩
  obtain ⟨c, k, hc, hk, q1, e2, hlt⟩ := g2
  have q1 := (jI_eq (by omega) (by omega)).mp q1
  subst q1
  rw [e2]
  unfold wpNamedForm_nameSet
  rw [jt6, jI_mul, jI_add, jI_in (by omega), jI_nat (by omega)]
  refine ⟨by omega, out_in, hv 1 (by omega), hv 2 (by omega), md_sets_sp hN hP.ct2 (fun q => by rw [hst] at q; cases q) (fun _ g => absurd ((hP.gSi _ _).mpr ⟨b, k, hb, hk, rfl, rfl, hlt⟩) g) (fun _ b' k' hb' hk' q1 q2 q3 => ?_)⟩
  have q1 := (jI_eq (by omega) (by omega)).mp q1
  have q2 := (jI_eq (by omega) (by omega)).mp q2
  subst q1 q2
  rw [(F.se b hb k hk hlt).1]
  exact ⟨fun _ => ⟨fun q => absurd rfl q, fun _ => ⟨out_in, fun _ => ⟨hP, hS, hT, rfl, hF⟩, fun q => q (by rw [out_at]; exact lg_same _)⟩⟩, fun q => absurd rfl q⟩
theorem k_use {N L : Nat} {xs : Nat → Int32} {v4 : Int32} (hN0 : 0 < N) (hN : N ≤ 12) (hv : ∀ j, j < 6 → vp_in (v4 + nI j) L) (formStands : Bool) (stepCount : Nat → Int32) (kind : Nat → Int32) (target : Nat → Int32) (first : Nat → Int32) (second : Nat → Int32) (forkVariable : Nat → Int32) (yes : Nat → Int32) (no : Nat → Int32) (starts : Nat → Int32) (orderSize : Int32) (reached : Int32) (forerunners : Nat → Int32) (blw : Nat → Int32) (frontiers : Nat → Int32) (parents : Nat → Int32) (order : Nat → Int32) (waiting : Nat → Int32) (meetingNames : Nat → Int32) (meetingUses : Nat → Int32) (stepNames : Nat → Int32) (firstUses : Nat → Int32) (secondUses : Nat → Int32) (endUses : Nat → Int32) (lastNames : Nat → Int32) (namesOf : Nat → Int32) (homeBlock : Nat → Int32) (homePlace : Nat → Int32) (standsFor : Nat → Int32) (pending : Int32) (length : Int32) (pendingTo : Nat → Int32) (pendingFrom : Nat → Int32) (copyTo : Nat → Int32) (copyFrom : Nat → Int32) (way : Int32) (values : Nat → Int32) (arriving : Nat → Int32) (T0size : Int32) (T0out : Int32) (T0num : Nat → Int32) (T1size : Int32) (T1out : Int32) (T1num : Nat → Int32) (T2size : Int32) (T2out : Int32) (T2num : Nat → Int32) (outc : Nat → Int64) (mThrown : Int32) (mReached : Int32) (mForm : Bool) (mSlot : Int32) (mOver : Bool) (mMany : Nat → Int32) (mKinds : Nat → Int32) (mVs : Nat → Int32) (mWs : Nat → Int32) (mXs : Nat → Int32) (mEnds : Nat → Int32) (mEndVariable : Nat → Int32) (mYes : Nat → Int32) (mNo : Nat → Int32) (mStarts : Nat → Int32) (mDominators : Nat → Int32) (mMeets : Nat → Int32) (mSources : Nat → Int32) (mSet : Nat → Int32) (mUseW : Nat → Int32) (mUseX : Nat → Int32) (mEndUse : Nat → Int32) (mGone : Nat → Bool) (mIsName : Nat → Bool) (mNameBlock : Nat → Int32) (mNameStep : Nat → Int32) (mNumbers : Nat → Int32) (mSaid : Nat → Int32) (mSaidCount : Nat → Int32) (mFailed : Nat → Int32) (mValues : Nat → Int32) (mNextValues : Nat → Int32) (mOpen : Nat → Int32) (h : JJ N formStands stepCount kind target first second forkVariable yes no starts orderSize reached forerunners blw frontiers parents order waiting meetingNames meetingUses stepNames firstUses secondUses endUses lastNames namesOf homeBlock homePlace standsFor pending length pendingTo pendingFrom copyTo copyFrom way values arriving T0size T0out T0num T1size T1out T1num T2size T2out T2num outc mThrown mReached mForm mSlot mOver mMany mKinds mVs mWs mXs mEnds mEndVariable mYes mNo mStarts mDominators mMeets mSources mSet mUseW mUseX mEndUse mGone mIsName mNameBlock mNameStep mNumbers mSaid mSaidCount mFailed mValues mNextValues mOpen) : wpLc_use N L xs v4 formStands stepCount kind target first second forkVariable yes no starts orderSize reached forerunners blw frontiers parents order waiting meetingNames meetingUses stepNames firstUses secondUses endUses lastNames namesOf homeBlock homePlace standsFor pending length pendingTo pendingFrom copyTo copyFrom way values arriving T0size T0out T0num T1size T1out T1num T2size T2out T2num outc mThrown mReached mForm mSlot mOver mMany mKinds mVs mWs mXs mEnds mEndVariable mYes mNo mStarts mDominators mMeets mSources mSet mUseW mUseX mEndUse mGone mIsName mNameBlock mNameStep mNumbers mSaid mSaidCount mFailed mValues mNextValues mOpen (JJ N) := by
  obtain ⟨hP, hS, hT, hf, hF⟩ := h
  subst hf
  refine ⟨hv 1 (by omega), hv 2 (by omega), hv 3 (by omega), ?_⟩
  unfold wpLw_use wpOn_use
  refine ⟨fun hst => ?_, fun hst => ⟨Or.inl rfl, fun _ => ⟨hv 1 (by omega), hv 2 (by omega), hv 3 (by omega), md_use_sp hN hP.ct2 (fun _ => ⟨fun _ => ⟨fun _ => ⟨hP, hS, hT, rfl, hF⟩, fun q => absurd q (by decide)⟩, fun q => absurd rfl q⟩) (fun q => by rw [hst] at q; cases q) (fun q => by rw [hst] at q; cases q)⟩, fun q => by omega⟩⟩
  have F := hF hst
  refine requireUse_sp hN hP.ct1 (fun g => ?_) fun g => ⟨Or.inr rfl, fun q => by omega, fun _ => ⟨hv 1 (by omega), hv 2 (by omega), hv 3 (by omega), md_use_sp hN hP.ct2 (fun q => by rw [hst] at q; cases q) (fun _ _ => ⟨fun _ => ⟨fun _ => ⟨hP, hS, hT, rfl, hF⟩, fun q => absurd q (by decide)⟩, fun q => absurd rfl q⟩) (fun _ z => absurd ((hP.gUi _ _ _).mp z) g)⟩⟩
  refine nameUsed_sp hN g ⟨out_in, hv 1 (by omega), hv 2 (by omega), hv 3 (by omega), md_use_sp hN hP.ct2 (fun q => by rw [hst] at q; cases q) (fun _ z => absurd ((hP.gUi _ _ _).mpr g) z) (fun _ z => ?_)⟩
  rw [(F.usv_eq hN g).1]
  exact ⟨fun _ => ⟨fun q => absurd rfl q, fun _ => ⟨out_in, fun _ => ⟨hP, hS, hT, rfl, hF⟩, fun q => q (by rw [out_at]; exact lg_same _)⟩⟩, fun q => absurd rfl q⟩
theorem k_said {N L : Nat} {xs : Nat → Int32} {v4 : Int32} (hN0 : 0 < N) (hN : N ≤ 12) (hv : ∀ j, j < 6 → vp_in (v4 + nI j) L) (formStands : Bool) (stepCount : Nat → Int32) (kind : Nat → Int32) (target : Nat → Int32) (first : Nat → Int32) (second : Nat → Int32) (forkVariable : Nat → Int32) (yes : Nat → Int32) (no : Nat → Int32) (starts : Nat → Int32) (orderSize : Int32) (reached : Int32) (forerunners : Nat → Int32) (blw : Nat → Int32) (frontiers : Nat → Int32) (parents : Nat → Int32) (order : Nat → Int32) (waiting : Nat → Int32) (meetingNames : Nat → Int32) (meetingUses : Nat → Int32) (stepNames : Nat → Int32) (firstUses : Nat → Int32) (secondUses : Nat → Int32) (endUses : Nat → Int32) (lastNames : Nat → Int32) (namesOf : Nat → Int32) (homeBlock : Nat → Int32) (homePlace : Nat → Int32) (standsFor : Nat → Int32) (pending : Int32) (length : Int32) (pendingTo : Nat → Int32) (pendingFrom : Nat → Int32) (copyTo : Nat → Int32) (copyFrom : Nat → Int32) (way : Int32) (values : Nat → Int32) (arriving : Nat → Int32) (T0size : Int32) (T0out : Int32) (T0num : Nat → Int32) (T1size : Int32) (T1out : Int32) (T1num : Nat → Int32) (T2size : Int32) (T2out : Int32) (T2num : Nat → Int32) (outc : Nat → Int64) (mThrown : Int32) (mReached : Int32) (mForm : Bool) (mSlot : Int32) (mOver : Bool) (mMany : Nat → Int32) (mKinds : Nat → Int32) (mVs : Nat → Int32) (mWs : Nat → Int32) (mXs : Nat → Int32) (mEnds : Nat → Int32) (mEndVariable : Nat → Int32) (mYes : Nat → Int32) (mNo : Nat → Int32) (mStarts : Nat → Int32) (mDominators : Nat → Int32) (mMeets : Nat → Int32) (mSources : Nat → Int32) (mSet : Nat → Int32) (mUseW : Nat → Int32) (mUseX : Nat → Int32) (mEndUse : Nat → Int32) (mGone : Nat → Bool) (mIsName : Nat → Bool) (mNameBlock : Nat → Int32) (mNameStep : Nat → Int32) (mNumbers : Nat → Int32) (mSaid : Nat → Int32) (mSaidCount : Nat → Int32) (mFailed : Nat → Int32) (mValues : Nat → Int32) (mNextValues : Nat → Int32) (mOpen : Nat → Int32) (h : JJ N formStands stepCount kind target first second forkVariable yes no starts orderSize reached forerunners blw frontiers parents order waiting meetingNames meetingUses stepNames firstUses secondUses endUses lastNames namesOf homeBlock homePlace standsFor pending length pendingTo pendingFrom copyTo copyFrom way values arriving T0size T0out T0num T1size T1out T1num T2size T2out T2num outc mThrown mReached mForm mSlot mOver mMany mKinds mVs mWs mXs mEnds mEndVariable mYes mNo mStarts mDominators mMeets mSources mSet mUseW mUseX mEndUse mGone mIsName mNameBlock mNameStep mNumbers mSaid mSaidCount mFailed mValues mNextValues mOpen) : wpLc_said L xs v4 formStands stepCount kind target first second forkVariable yes no starts orderSize reached forerunners blw frontiers parents order waiting meetingNames meetingUses stepNames firstUses secondUses endUses lastNames namesOf homeBlock homePlace standsFor pending length pendingTo pendingFrom copyTo copyFrom way values arriving T0size T0out T0num T1size T1out T1num T2size T2out T2num outc mThrown mReached mForm mSlot mOver mMany mKinds mVs mWs mXs mEnds mEndVariable mYes mNo mStarts mDominators mMeets mSources mSet mUseW mUseX mEndUse mGone mIsName mNameBlock mNameStep mNumbers mSaid mSaidCount mFailed mValues mNextValues mOpen (JJ N) := by
  obtain ⟨hP, hS, hT, hf, hF⟩ := h
  subst hf
  refine ⟨hv 1 (by omega), ?_⟩
  obtain ⟨s, hs, e1, e2, e3⟩ := hT
  subst e1
  have hT : TR0 (nI s) T0num mSaid mSaidCount := ⟨s, hs, rfl, e2, e3⟩
  have key : ∀ v : Int32, gB s v ↔ ¬ v < 0 ∧ v < nI s := fun v => gB_iff (by omega)
  have h03 : vp_in 0 3 := by rw [jt0, jI_in (by omega)]; omega
  have md : ∀ (v : Int32) (post : Int32 → Int32 → Prop), (¬ gB s v → post 0 1) → (∀ i, i < s → v = nI i → post (mSaid i) 0) → wpMd_said mSaid mSaidCount v post := by
    intro v post h1 h2
    have fin : ∀ t : Bool, (t = true ↔ ¬ gB s v) → ((¬ (bI t) = 0 → (post 0 (bI t))) ∧ ((bI t) = 0 → vp_in v 150 ∧ (post (mSaid (Int32.toNatClampNeg v)) (bI t)))) := by
      intro t ht
      cases t with
      | true => exact ⟨fun _ => h1 (ht.mp rfl), fun q => absurd q bI_t⟩
      | false =>
        refine ⟨fun q => absurd rfl q, fun _ => ?_⟩
        obtain ⟨i, hi, rfl⟩ := Classical.byContradiction fun q => by have := ht.mpr q; cases this
        rw [jI_in (by omega), jI_nat (by omega)]
        exact ⟨by omega, h2 i hi rfl⟩
    refine ⟨_, fin, ¬ gB s v, fun q => ⟨fun _ => q, fun _ => rfl⟩, fun q z => ((key v).mp z).1 q, fun q => ⟨h03, ?_⟩⟩
    rw [show (Int32.toNatClampNeg 0) = 0 from rfl, e2]
    exact ⟨fun q2 => ⟨fun z => by (cases z), fun z => absurd ((key v).mpr ⟨q, q2⟩) z⟩, fun q2 z => q2 ((key v).mp z).2⟩
  unfold wpLw_said wpOn_said wpTalk_size wpTalk_number
  have bad : ¬ gB s (xs (Int32.toNatClampNeg (v4 + 1))) → _ := fun g => md (xs (Int32.toNatClampNeg (v4 + 1))) (fun r t => wpMd_thrown t (fun r2 => ((r2 = 1 → ((¬ (1 : Int32) = 0 → JJ N formStands stepCount kind target first second forkVariable yes no starts orderSize reached forerunners blw frontiers parents order waiting meetingNames meetingUses stepNames firstUses secondUses endUses lastNames namesOf homeBlock homePlace standsFor pending length pendingTo pendingFrom copyTo copyFrom way values arriving (nI s) T0out T0num T1size T1out T1num T2size T2out T2num outc t mReached formStands mSlot mOver mMany mKinds mVs mWs mXs mEnds mEndVariable mYes mNo mStarts mDominators mMeets mSources mSet mUseW mUseX mEndUse mGone mIsName mNameBlock mNameStep mNumbers mSaid mSaidCount mFailed mValues mNextValues mOpen) ∧ ((1 : Int32) = 0 → vp_in 0 1 ∧ (((lg_cmp (outc (Int32.toNatClampNeg 0)) (Int32.toInt64 r)) = 0 → JJ N formStands stepCount kind target first second forkVariable yes no starts orderSize reached forerunners blw frontiers parents order waiting meetingNames meetingUses stepNames firstUses secondUses endUses lastNames namesOf homeBlock homePlace standsFor pending length pendingTo pendingFrom copyTo copyFrom way values arriving (nI s) T0out T0num T1size T1out T1num T2size T2out T2num outc t mReached formStands mSlot mOver mMany mKinds mVs mWs mXs mEnds mEndVariable mYes mNo mStarts mDominators mMeets mSources mSet mUseW mUseX mEndUse mGone mIsName mNameBlock mNameStep mNumbers mSaid mSaidCount mFailed mValues mNextValues mOpen) ∧ (¬ (lg_cmp (outc (Int32.toNatClampNeg 0)) (Int32.toInt64 r)) = 0 → False))))) ∧ (¬ r2 = 1 → False)))) (fun _ => ⟨fun _ => ⟨fun _ => ⟨hP, hS, hT, rfl, hF⟩, fun q => absurd q (by decide)⟩, fun q => absurd rfl q⟩) (fun i hi e => absurd ⟨i, hi, e⟩ g)
  refine ⟨fun q => ⟨rfl, fun _ => ⟨hv 1 (by omega), bad fun z => ((key _).mp z).1 q⟩⟩, fun q => ?_⟩
  refine ⟨fun q2 => ?_, fun q2 => ⟨rfl, fun _ => ⟨hv 1 (by omega), bad fun z => q2 ((key _).mp z).2⟩⟩⟩
  obtain ⟨i, hi, e⟩ := (key _).mpr ⟨q, q2⟩
  rw [e, jI_in (by omega), jI_nat (by omega)]
  refine ⟨by omega, out_in, hv 1 (by omega), md _ _ (fun z => absurd ⟨i, hi, rfl⟩ z) (fun j hj ej => ?_)⟩
  have ej := (jI_eq (by omega) (by omega)).mp ej
  subst ej
  rw [e3 i hi]
  exact ⟨fun _ => ⟨fun q => absurd rfl q, fun _ => ⟨out_in, fun _ => ⟨hP, hS, hT, rfl, hF⟩, fun q => q (by rw [out_at]; exact lg_same _)⟩⟩, fun q => absurd rfl q⟩
/-! alter and turn -/
theorem gN.ok {hb : Nat → Int32} {v : Int32} (h : gN hb v) : useOK hb v ∧ ¬ v = -1 := by
  obtain ⟨m, hm, rfl, h⟩ := h
  exact ⟨Or.inr ⟨m, hm, rfl, h⟩, jI_m1 (by omega)⟩
section FRA
variable {N : Nat} {stepCount kind forkVariable yes no meetingNames meetingUses stepNames firstUses secondUses endUses homeBlock homePlace mMeets mSources mSet mUseW mUseX mEndUse : Nat → Int32} {mGone mIsName : Nat → Bool} {mNameBlock mNameStep : Nat → Int32}
theorem FR.altE (h : FR N stepCount kind forkVariable yes no meetingNames meetingUses stepNames firstUses secondUses endUses homeBlock homePlace mMeets mSources mSet mUseW mUseX mEndUse mGone mIsName mNameBlock mNameStep) {b : Nat} (hbN : b < N) {v : Int32} (g : gN homeBlock v) (hu : ¬ endUses b = -1) : FR N stepCount kind forkVariable yes no meetingNames meetingUses stepNames firstUses secondUses (upd endUses b v) homeBlock homePlace mMeets mSources mSet mUseW mUseX (upd mEndUse b v) mGone mIsName mNameBlock mNameStep :=
  FR.mk
    (nm := h.nm)
    (mt := h.mt)
    (so := h.so)
    (se := h.se)
    (sx := h.sx)
    (us := h.us)
    (gn := h.gn)
    (eu := fun c hc => by
      by_cases e : c = b
      · subst e
        rw [upd_same, upd_same]
        exact ⟨rfl, g.ok.1, fun z => absurd ((h.eu c hc).2.2.1 z) hu, fun _ _ => g.ok.2⟩
      · rw [upd_other _ _ e, upd_other _ _ e]; exact h.eu c hc)
theorem ix6 {b k c j : Nat} (hk : k < 6) (hj : j < 6) : b * 6 + k = c * 6 + j ↔ b = c ∧ k = j := by omega
theorem FR.altW (h : FR N stepCount kind forkVariable yes no meetingNames meetingUses stepNames firstUses secondUses endUses homeBlock homePlace mMeets mSources mSet mUseW mUseX mEndUse mGone mIsName mNameBlock mNameStep) {b k : Nat} (hbN : b < N) (hk : k < 6) {v : Int32} (g : gN homeBlock v) (hu : ¬ firstUses (b * 6 + k) = -1) : FR N stepCount kind forkVariable yes no meetingNames meetingUses stepNames (upd firstUses (b * 6 + k) v) secondUses endUses homeBlock homePlace mMeets mSources mSet (upd mUseW (b * 6 + k) v) mUseX mEndUse mGone mIsName mNameBlock mNameStep :=
  FR.mk
    (nm := h.nm)
    (mt := h.mt)
    (so := h.so)
    (se := h.se)
    (sx := h.sx)
    (eu := h.eu)
    (us := fun c hc j hj => by
      by_cases e : c * 6 + j = b * 6 + k
      · obtain ⟨rfl, rfl⟩ := (ix6 hj hk).mp e
        rw [upd_same, upd_same]
        have := h.us c hc j hj
        exact ⟨rfl, this.2.1, g.ok.1, this.2.2.2.1, fun z => absurd (this.2.2.2.2 z).1 hu⟩
      · rw [upd_other _ _ e, upd_other _ _ e]; exact h.us c hc j hj)
    (gn := fun c hc hr j hj hlt => by
      by_cases e : c * 6 + j = b * 6 + k
      · obtain ⟨rfl, rfl⟩ := (ix6 hj hk).mp e
        rw [upd_same]
        rcases h.gn c hc hr j hj hlt with z | z
        · exact absurd z.2.2.2 hu
        · exact Or.inr ⟨z.1, z.2.1, fun _ => g.ok.2, z.2.2.2⟩
      · rw [upd_other _ _ e]; exact h.gn c hc hr j hj hlt)
theorem FR.altX (h : FR N stepCount kind forkVariable yes no meetingNames meetingUses stepNames firstUses secondUses endUses homeBlock homePlace mMeets mSources mSet mUseW mUseX mEndUse mGone mIsName mNameBlock mNameStep) {b k : Nat} (hbN : b < N) (hk : k < 6) {v : Int32} (g : gN homeBlock v) (hu : ¬ secondUses (b * 6 + k) = -1) : FR N stepCount kind forkVariable yes no meetingNames meetingUses stepNames firstUses (upd secondUses (b * 6 + k) v) endUses homeBlock homePlace mMeets mSources mSet mUseW (upd mUseX (b * 6 + k) v) mEndUse mGone mIsName mNameBlock mNameStep :=
  FR.mk
    (nm := h.nm)
    (mt := h.mt)
    (so := h.so)
    (se := h.se)
    (sx := h.sx)
    (eu := h.eu)
    (us := fun c hc j hj => by
      by_cases e : c * 6 + j = b * 6 + k
      · obtain ⟨rfl, rfl⟩ := (ix6 hj hk).mp e
        rw [upd_same, upd_same]
        have := h.us c hc j hj
        exact ⟨this.1, rfl, this.2.2.1, g.ok.1, fun z => absurd (this.2.2.2.2 z).2 hu⟩
      · rw [upd_other _ _ e, upd_other _ _ e]; exact h.us c hc j hj)
    (gn := fun c hc hr j hj hlt => by
      by_cases e : c * 6 + j = b * 6 + k
      · obtain ⟨rfl, rfl⟩ := (ix6 hj hk).mp e
        rw [upd_same]
        rcases h.gn c hc hr j hj hlt with z | z
        · exact Or.inl z
        · exact Or.inr ⟨z.1, z.2.1, z.2.2.1, fun _ _ => g.ok.2⟩
      · rw [upd_other _ _ e]; exact h.gn c hc hr j hj hlt)
theorem ixS {N b v p c w q : Nat} (hv : v < 6) (hw : w < 6) (hp : p ≤ N) (hq : q ≤ N) : (b * 6 + v) * (N + 1) + p = (c * 6 + w) * (N + 1) + q ↔ b = c ∧ v = w ∧ p = q := by
  constructor
  · intro h
    have h1 := congrArg (· / (N + 1)) h
    have h2 := congrArg (· % (N + 1)) h
    have e1 : ∀ x y, y ≤ N → (x * (N + 1) + y) / (N + 1) = x := by
      intro x y hy
      rw [Nat.add_comm, Nat.add_mul_div_right _ _ (by omega), Nat.div_eq_of_lt (by omega)]
      omega
    have e2 : ∀ x y, y ≤ N → (x * (N + 1) + y) % (N + 1) = y := by
      intro x y hy
      rw [Nat.add_comm, Nat.add_mul_mod_self_right, Nat.mod_eq_of_lt (by omega)]
    simp only [e1 _ _ hp, e1 _ _ hq] at h1
    simp only [e2 _ _ hp, e2 _ _ hq] at h2
    omega
  · rintro ⟨rfl, rfl, rfl⟩; rfl
theorem FR.trn (hN : N ≤ 12) (h : FR N stepCount kind forkVariable yes no meetingNames meetingUses stepNames firstUses secondUses endUses homeBlock homePlace mMeets mSources mSet mUseW mUseX mEndUse mGone mIsName mNameBlock mNameStep) {b v p : Nat} (hbN : b < N) (hv : v < 6) (hp : p ≤ N) {x : Int32} (g : gN homeBlock x) (hu : ¬ meetingUses ((b * 6 + v) * (N + 1) + p) = -1) : FR N stepCount kind forkVariable yes no meetingNames (upd meetingUses ((b * 6 + v) * (N + 1) + p) x) stepNames firstUses secondUses endUses homeBlock homePlace mMeets (upd mSources (13 * (b * 6 + v) + p) x) mSet mUseW mUseX mEndUse mGone mIsName mNameBlock mNameStep :=
  FR.mk
    (nm := h.nm)
    (mt := h.mt)
    (se := h.se)
    (sx := h.sx)
    (eu := h.eu)
    (us := h.us)
    (gn := h.gn)
    (so := fun c hc w hw q hq => by
      by_cases e : (c * 6 + w) * (N + 1) + q = (b * 6 + v) * (N + 1) + p
      · obtain ⟨rfl, rfl, rfl⟩ := (ixS hw hv hq hp).mp e
        rw [upd_same, upd_same]
        have := h.so c hc w hw q hq
        exact ⟨fun z => absurd (this.1 z) hu, fun z => ⟨rfl, fun _ => g.ok.2⟩, fun z => absurd (this.2.2.1 z) hu, g.ok.1⟩
      · have e2 : ¬ 13 * (c * 6 + w) + q = 13 * (b * 6 + v) + p := fun z => e (by
          have : c = b ∧ w = v ∧ q = p := by omega
          rw [this.1, this.2.1, this.2.2])
        rw [upd_other _ _ e, upd_other _ _ e2]
        exact h.so c hc w hw q hq)
end FRA
theorem requireThere_sp {u : Int32} {post : Prop} {postX : Nat → Prop} (h1 : ¬ u = -1 → post) (h2 : u = -1 → postX 0) : wpOn_requireThere u post postX := ⟨h1, h2⟩
theorem k_alter {N L : Nat} {xs : Nat → Int32} {v4 : Int32} (hN0 : 0 < N) (hN : N ≤ 12) (hv : ∀ j, j < 6 → vp_in (v4 + nI j) L) (formStands : Bool) (stepCount : Nat → Int32) (kind : Nat → Int32) (target : Nat → Int32) (first : Nat → Int32) (second : Nat → Int32) (forkVariable : Nat → Int32) (yes : Nat → Int32) (no : Nat → Int32) (starts : Nat → Int32) (orderSize : Int32) (reached : Int32) (forerunners : Nat → Int32) (blw : Nat → Int32) (frontiers : Nat → Int32) (parents : Nat → Int32) (order : Nat → Int32) (waiting : Nat → Int32) (meetingNames : Nat → Int32) (meetingUses : Nat → Int32) (stepNames : Nat → Int32) (firstUses : Nat → Int32) (secondUses : Nat → Int32) (endUses : Nat → Int32) (lastNames : Nat → Int32) (namesOf : Nat → Int32) (homeBlock : Nat → Int32) (homePlace : Nat → Int32) (standsFor : Nat → Int32) (pending : Int32) (length : Int32) (pendingTo : Nat → Int32) (pendingFrom : Nat → Int32) (copyTo : Nat → Int32) (copyFrom : Nat → Int32) (way : Int32) (values : Nat → Int32) (arriving : Nat → Int32) (T0size : Int32) (T0out : Int32) (T0num : Nat → Int32) (T1size : Int32) (T1out : Int32) (T1num : Nat → Int32) (T2size : Int32) (T2out : Int32) (T2num : Nat → Int32) (outc : Nat → Int64) (mThrown : Int32) (mReached : Int32) (mForm : Bool) (mSlot : Int32) (mOver : Bool) (mMany : Nat → Int32) (mKinds : Nat → Int32) (mVs : Nat → Int32) (mWs : Nat → Int32) (mXs : Nat → Int32) (mEnds : Nat → Int32) (mEndVariable : Nat → Int32) (mYes : Nat → Int32) (mNo : Nat → Int32) (mStarts : Nat → Int32) (mDominators : Nat → Int32) (mMeets : Nat → Int32) (mSources : Nat → Int32) (mSet : Nat → Int32) (mUseW : Nat → Int32) (mUseX : Nat → Int32) (mEndUse : Nat → Int32) (mGone : Nat → Bool) (mIsName : Nat → Bool) (mNameBlock : Nat → Int32) (mNameStep : Nat → Int32) (mNumbers : Nat → Int32) (mSaid : Nat → Int32) (mSaidCount : Nat → Int32) (mFailed : Nat → Int32) (mValues : Nat → Int32) (mNextValues : Nat → Int32) (mOpen : Nat → Int32) (h : JJ N formStands stepCount kind target first second forkVariable yes no starts orderSize reached forerunners blw frontiers parents order waiting meetingNames meetingUses stepNames firstUses secondUses endUses lastNames namesOf homeBlock homePlace standsFor pending length pendingTo pendingFrom copyTo copyFrom way values arriving T0size T0out T0num T1size T1out T1num T2size T2out T2num outc mThrown mReached mForm mSlot mOver mMany mKinds mVs mWs mXs mEnds mEndVariable mYes mNo mStarts mDominators mMeets mSources mSet mUseW mUseX mEndUse mGone mIsName mNameBlock mNameStep mNumbers mSaid mSaidCount mFailed mValues mNextValues mOpen) : wpLc_alter N L xs v4 formStands stepCount kind target first second forkVariable yes no starts orderSize reached forerunners blw frontiers parents order waiting meetingNames meetingUses stepNames firstUses secondUses endUses lastNames namesOf homeBlock homePlace standsFor pending length pendingTo pendingFrom copyTo copyFrom way values arriving T0size T0out T0num T1size T1out T1num T2size T2out T2num outc mThrown mReached mForm mSlot mOver mMany mKinds mVs mWs mXs mEnds mEndVariable mYes mNo mStarts mDominators mMeets mSources mSet mUseW mUseX mEndUse mGone mIsName mNameBlock mNameStep mNumbers mSaid mSaidCount mFailed mValues mNextValues mOpen (JJ N) := by
  obtain ⟨hP, hS, hT, hf, hF⟩ := h
  subst hf
  refine ⟨hv 1 (by omega), hv 2 (by omega), hv 3 (by omega), hv 4 (by omega), ?_⟩
  unfold wpLw_alter wpOn_alter
  refine ⟨fun hst => ?_, fun hst => ⟨Or.inl rfl, fun _ => ⟨hv 1 (by omega), hv 2 (by omega), hv 3 (by omega), hv 4 (by omega), md_alter_sp (hb := homeBlock) hN hP.ct2 (fun q => by rw [hst] at q; cases q) (fun _ => ⟨fun _ => ⟨hP, hS, hT, rfl, hF⟩, fun q => absurd rfl q⟩) (fun q => by rw [hst] at q; cases q) (fun q => by rw [hst] at q; cases q) (fun q => by rw [hst] at q; cases q) (fun q => by rw [hst] at q; cases q)⟩, fun q => by omega⟩⟩
  have F := hF hst
  have hn : formStands = true → ∀ m, m < 600 → (mIsName m = true ↔ ¬ homeBlock m = -1) := fun _ => F.isn hN
  have bad : ¬ (gU N stepCount (xs (Int32.toNatClampNeg (v4 + 1))) (xs (Int32.toNatClampNeg (v4 + 2))) (xs (Int32.toNatClampNeg (v4 + 3))) ∧ ¬ usv firstUses secondUses endUses (xs (Int32.toNatClampNeg (v4 + 1))) (xs (Int32.toNatClampNeg (v4 + 2))) (xs (Int32.toNatClampNeg (v4 + 3))) = -1 ∧ gN homeBlock (xs (Int32.toNatClampNeg (v4 + 4)))) → wpMd_alter N formStands mMany mUseW mUseX mEndUse mIsName (xs (Int32.toNatClampNeg (v4 + 1))) (xs (Int32.toNatClampNeg (v4 + 2))) (xs (Int32.toNatClampNeg (v4 + 3))) (xs (Int32.toNatClampNeg (v4 + 4))) (fun (mThrown_1070 : Int32) (mUseW_1070 : Nat → Int32) (mUseX_1070 : Nat → Int32) (mEndUse_1070 : Nat → Int32) => wpMd_thrown mThrown_1070 (fun (r1074 : Int32) => ((r1074 = 2 → (JJ N formStands stepCount kind target first second forkVariable yes no starts orderSize reached forerunners blw frontiers parents order waiting meetingNames meetingUses stepNames firstUses secondUses endUses lastNames namesOf homeBlock homePlace standsFor pending length pendingTo pendingFrom copyTo copyFrom way values arriving T0size T0out T0num T1size T1out T1num T2size T2out T2num outc mThrown_1070 mReached formStands mSlot mOver mMany mKinds mVs mWs mXs mEnds mEndVariable mYes mNo mStarts mDominators mMeets mSources mSet mUseW_1070 mUseX_1070 mEndUse_1070 mGone mIsName mNameBlock mNameStep mNumbers mSaid mSaidCount mFailed mValues mNextValues mOpen)) ∧ (¬ r1074 = 2 → False)))) := by
    intro g
    have cr : ∀ {x1 x2 x3 : Int32}, gU N mMany (xs (Int32.toNatClampNeg (v4 + 1))) (xs (Int32.toNatClampNeg (v4 + 2))) (xs (Int32.toNatClampNeg (v4 + 3))) → ¬ usv mUseW mUseX mEndUse (xs (Int32.toNatClampNeg (v4 + 1))) (xs (Int32.toNatClampNeg (v4 + 2))) (xs (Int32.toNatClampNeg (v4 + 3))) < 0 → gN homeBlock (xs (Int32.toNatClampNeg (v4 + 4))) → False := fun z1 z2 z3 => by
      have z1 := (hP.gUi _ _ _).mp z1
      have e := F.usv_eq hN z1
      rw [e.1, neg_1 e.2] at z2
      exact g ⟨z1, z2, z3⟩
    refine md_alter_sp (hb := homeBlock) hN hP.ct2 hn (fun q => by rw [hst] at q; cases q) (fun _ _ => ⟨fun _ => ⟨hP, hS, hT, rfl, hF⟩, fun q => absurd rfl q⟩) (fun _ b hb e1 e2 z2 z3 => (cr (x1 := 0) (x2 := 0) (x3 := 0) ⟨⟨b, hb, e1⟩, Or.inl e2⟩ z2 z3).elim) (fun _ b k hb hk e1 e2 e3 e4 z2 z3 => (cr (x1 := 0) (x2 := 0) (x3 := 0) ⟨⟨b, hb, e1⟩, Or.inr ⟨⟨b, k, hb, hk, e1, e2, e3⟩, Or.inl e4⟩⟩ z2 z3).elim) (fun _ b k hb hk e1 e2 e3 e4 z2 z3 => (cr (x1 := 0) (x2 := 0) (x3 := 0) ⟨⟨b, hb, e1⟩, Or.inr ⟨⟨b, k, hb, hk, e1, e2, e3⟩, Or.inr e4⟩⟩ z2 z3).elim)
  refine requireUse_sp hN hP.ct1 (fun g => ?_) fun g => ⟨Or.inr rfl, fun q => by omega, fun _ => ⟨hv 1 (by omega), hv 2 (by omega), hv 3 (by omega), hv 4 (by omega), bad fun z => g z.1⟩⟩
  refine nameUsed_sp hN g (requireThere_sp (fun hu => requireName_sp (fun gn => ?_) fun gn => ⟨Or.inr rfl, fun q => by omega, fun _ => ⟨hv 1 (by omega), hv 2 (by omega), hv 3 (by omega), hv 4 (by omega), bad fun z => gn z.2.2⟩⟩) fun hu => ⟨Or.inr rfl, fun q => by omega, fun _ => ⟨hv 1 (by omega), hv 2 (by omega), hv 3 (by omega), hv 4 (by omega), bad fun z => z.2.1 hu⟩⟩)
  have ue := F.usv_eq hN g
  have hgu : gU N mMany (xs (Int32.toNatClampNeg (v4 + 1))) (xs (Int32.toNatClampNeg (v4 + 2))) (xs (Int32.toNatClampNeg (v4 + 3))) ∧ ¬ usv mUseW mUseX mEndUse (xs (Int32.toNatClampNeg (v4 + 1))) (xs (Int32.toNatClampNeg (v4 + 2))) (xs (Int32.toNatClampNeg (v4 + 3))) < 0 ∧ gN homeBlock (xs (Int32.toNatClampNeg (v4 + 4))) := ⟨(hP.gUi _ _ _).mpr g, by rw [ue.1, neg_1 ue.2]; exact hu, gn⟩
  obtain ⟨⟨b, hb, e1⟩, g2⟩ := g
  have hu2 := hu
  rw [e1] at hu2 hgu ⊢
  unfold usv at hu2
  rw [jI_nat (by omega)] at hu2
  refine ⟨fun q => ?_, fun q => ?_⟩
  · rcases g2 with g2 | ⟨⟨c, k, hc, hk, q1, e2, hlt⟩, g2⟩
    · exact absurd g2 q
    rw [e1] at q1
    have q1 := (jI_eq (by omega) (by omega)).mp q1
    subst q1
    rw [e2] at hu2 hgu ⊢
    rw [if_neg (jI_m1 (by omega)), jI_nat (by omega)] at hu2
    unfold wpNamedForm_changeStepUse
    intro v hv2
    subst hv2
    rw [jt6, jI_mul, jI_add, jI_in (by omega), jI_nat (by omega)]
    have uq : ∀ {b' k'}, b' < N → k' < 6 → nI b = nI b' → nI k = nI k' → b = b' ∧ k = k' := fun h1 h2 e1 e2 => ⟨(jI_eq (by omega) (by omega)).mp e1, (jI_eq (by omega) (by omega)).mp e2⟩
    refine ⟨fun z => ⟨by omega, hv 1 (by omega), hv 2 (by omega), hv 3 (by omega), hv 4 (by omega), ?_⟩, fun z => ⟨by omega, hv 1 (by omega), hv 2 (by omega), hv 3 (by omega), hv 4 (by omega), ?_⟩⟩
    · rw [if_neg z] at hu2
      refine md_alter_sp (hb := homeBlock) hN hP.ct2 hn (fun q => by rw [hst] at q; cases q) (fun _ z => absurd hgu z) (fun _ b' hb' _ q2 => absurd q2 (jI_m1 (by omega))) (fun _ b' k' hb' hk' q1 q2 q3 q4 => absurd q4 z) (fun _ b' k' hb' hk' q1 q2 q3 q4 z2 z3 => ?_)
      obtain ⟨rfl, rfl⟩ := uq hb' hk' q1 q2
      exact ⟨fun _ => ⟨hP, hS, hT, rfl, fun _ => F.altX hb hk gn hu2⟩, fun q => absurd rfl q⟩
    · rw [if_pos z] at hu2
      refine md_alter_sp (hb := homeBlock) hN hP.ct2 hn (fun q => by rw [hst] at q; cases q) (fun _ z => absurd hgu z) (fun _ b' hb' _ q2 => absurd q2 (jI_m1 (by omega))) (fun _ b' k' hb' hk' q1 q2 q3 q4 z2 z3 => ?_) (fun _ b' k' hb' hk' q1 q2 q3 q4 => ?_)
      · obtain ⟨rfl, rfl⟩ := uq hb' hk' q1 q2
        exact ⟨fun _ => ⟨hP, hS, hT, rfl, fun _ => F.altW hb hk gn hu2⟩, fun q => absurd rfl q⟩
      · rw [z] at q4; exact absurd q4 (by decide)
  · rw [if_pos q] at hu2
    unfold wpNamedForm_changeEndUse
    rw [jI_in (by omega), jI_nat (by omega)]
    refine ⟨hb, hv 1 (by omega), hv 2 (by omega), hv 3 (by omega), hv 4 (by omega), md_alter_sp (hb := homeBlock) hN hP.ct2 hn (fun q => by rw [hst] at q; cases q) (fun _ z => absurd hgu z) (fun _ b' hb' q1 q2 z2 z3 => ?_) (fun _ b' k' hb' hk' q1 q2 => ?_) (fun _ b' k' hb' hk' q1 q2 => ?_)⟩
    · have q1 := (jI_eq (by omega) (by omega)).mp q1
      subst q1
      exact ⟨fun _ => ⟨hP, hS, hT, rfl, fun _ => F.altE hb gn hu2⟩, fun q => absurd rfl q⟩
    · exact absurd (q2.symm.trans q) (jI_m1 (by omega))
    · exact absurd (q2.symm.trans q) (jI_m1 (by omega))
theorem k_turn {N L : Nat} {xs : Nat → Int32} {v4 : Int32} (hN0 : 0 < N) (hN : N ≤ 12) (hv : ∀ j, j < 6 → vp_in (v4 + nI j) L) (formStands : Bool) (stepCount : Nat → Int32) (kind : Nat → Int32) (target : Nat → Int32) (first : Nat → Int32) (second : Nat → Int32) (forkVariable : Nat → Int32) (yes : Nat → Int32) (no : Nat → Int32) (starts : Nat → Int32) (orderSize : Int32) (reached : Int32) (forerunners : Nat → Int32) (blw : Nat → Int32) (frontiers : Nat → Int32) (parents : Nat → Int32) (order : Nat → Int32) (waiting : Nat → Int32) (meetingNames : Nat → Int32) (meetingUses : Nat → Int32) (stepNames : Nat → Int32) (firstUses : Nat → Int32) (secondUses : Nat → Int32) (endUses : Nat → Int32) (lastNames : Nat → Int32) (namesOf : Nat → Int32) (homeBlock : Nat → Int32) (homePlace : Nat → Int32) (standsFor : Nat → Int32) (pending : Int32) (length : Int32) (pendingTo : Nat → Int32) (pendingFrom : Nat → Int32) (copyTo : Nat → Int32) (copyFrom : Nat → Int32) (way : Int32) (values : Nat → Int32) (arriving : Nat → Int32) (T0size : Int32) (T0out : Int32) (T0num : Nat → Int32) (T1size : Int32) (T1out : Int32) (T1num : Nat → Int32) (T2size : Int32) (T2out : Int32) (T2num : Nat → Int32) (outc : Nat → Int64) (mThrown : Int32) (mReached : Int32) (mForm : Bool) (mSlot : Int32) (mOver : Bool) (mMany : Nat → Int32) (mKinds : Nat → Int32) (mVs : Nat → Int32) (mWs : Nat → Int32) (mXs : Nat → Int32) (mEnds : Nat → Int32) (mEndVariable : Nat → Int32) (mYes : Nat → Int32) (mNo : Nat → Int32) (mStarts : Nat → Int32) (mDominators : Nat → Int32) (mMeets : Nat → Int32) (mSources : Nat → Int32) (mSet : Nat → Int32) (mUseW : Nat → Int32) (mUseX : Nat → Int32) (mEndUse : Nat → Int32) (mGone : Nat → Bool) (mIsName : Nat → Bool) (mNameBlock : Nat → Int32) (mNameStep : Nat → Int32) (mNumbers : Nat → Int32) (mSaid : Nat → Int32) (mSaidCount : Nat → Int32) (mFailed : Nat → Int32) (mValues : Nat → Int32) (mNextValues : Nat → Int32) (mOpen : Nat → Int32) (h : JJ N formStands stepCount kind target first second forkVariable yes no starts orderSize reached forerunners blw frontiers parents order waiting meetingNames meetingUses stepNames firstUses secondUses endUses lastNames namesOf homeBlock homePlace standsFor pending length pendingTo pendingFrom copyTo copyFrom way values arriving T0size T0out T0num T1size T1out T1num T2size T2out T2num outc mThrown mReached mForm mSlot mOver mMany mKinds mVs mWs mXs mEnds mEndVariable mYes mNo mStarts mDominators mMeets mSources mSet mUseW mUseX mEndUse mGone mIsName mNameBlock mNameStep mNumbers mSaid mSaidCount mFailed mValues mNextValues mOpen) : wpLc_turn N L xs v4 formStands stepCount kind target first second forkVariable yes no starts orderSize reached forerunners blw frontiers parents order waiting meetingNames meetingUses stepNames firstUses secondUses endUses lastNames namesOf homeBlock homePlace standsFor pending length pendingTo pendingFrom copyTo copyFrom way values arriving T0size T0out T0num T1size T1out T1num T2size T2out T2num outc mThrown mReached mForm mSlot mOver mMany mKinds mVs mWs mXs mEnds mEndVariable mYes mNo mStarts mDominators mMeets mSources mSet mUseW mUseX mEndUse mGone mIsName mNameBlock mNameStep mNumbers mSaid mSaidCount mFailed mValues mNextValues mOpen (JJ N) := by
  obtain ⟨hP, hS, hT, hf, hF⟩ := h
  subst hf
  refine ⟨hv 1 (by omega), hv 2 (by omega), hv 3 (by omega), hv 4 (by omega), ?_⟩
  unfold wpLw_turn wpOn_turn wpOn_requireMeetingUse
  refine ⟨fun hst => ?_, fun hst => ⟨Or.inl rfl, fun _ => ⟨hv 1 (by omega), hv 2 (by omega), hv 3 (by omega), hv 4 (by omega), md_turn_sp (hb := homeBlock) hN (fun q => by rw [hst] at q; cases q) (fun _ _ _ => 0) (fun q => by rw [hst] at q; cases q) (fun _ => ⟨fun _ => ⟨hP, hS, hT, rfl, hF⟩, fun q => absurd rfl q⟩) (fun q => by rw [hst] at q; cases q) (fun q => by rw [hst] at q; cases q)⟩, fun q => by omega⟩⟩
  have F := hF hst
  have hn : formStands = true → ∀ m, m < 600 → (mIsName m = true ↔ ¬ homeBlock m = -1) := fun _ => F.isn hN
  have hso : formStands = true → ∀ b v p, b < N → v < 6 → p ≤ N → ∀ post : Int32 → Prop, post (meetingUses ((b * 6 + v) * (N + 1) + p)) → wpMd_sourceOf mMeets mSources (nI b) (nI v) (nI p) post := fun _ b v p hb hv hp post h => sourceOf_sp hN F hb hv hp h
  have bad : ¬ (∃ b v p, b < N ∧ v < 6 ∧ p ≤ N ∧ (xs (Int32.toNatClampNeg (v4 + 1))) = nI b ∧ (xs (Int32.toNatClampNeg (v4 + 2))) = nI v ∧ (xs (Int32.toNatClampNeg (v4 + 3))) = nI p ∧ ¬ meetingUses ((b * 6 + v) * (N + 1) + p) = -1 ∧ gN homeBlock (xs (Int32.toNatClampNeg (v4 + 4)))) → wpMd_turn N formStands mMeets mSources mIsName (xs (Int32.toNatClampNeg (v4 + 1))) (xs (Int32.toNatClampNeg (v4 + 2))) (xs (Int32.toNatClampNeg (v4 + 3))) (xs (Int32.toNatClampNeg (v4 + 4))) (fun (mThrown_1 : Int32) (mSources_1 : Nat → Int32) => wpMd_thrown mThrown_1 (fun (r1 : Int32) => ((r1 = 2 → (JJ N formStands stepCount kind target first second forkVariable yes no starts orderSize reached forerunners blw frontiers parents order waiting meetingNames meetingUses stepNames firstUses secondUses endUses lastNames namesOf homeBlock homePlace standsFor pending length pendingTo pendingFrom copyTo copyFrom way values arriving T0size T0out T0num T1size T1out T1num T2size T2out T2num outc mThrown_1 mReached formStands mSlot mOver mMany mKinds mVs mWs mXs mEnds mEndVariable mYes mNo mStarts mDominators mMeets mSources_1 mSet mUseW mUseX mEndUse mGone mIsName mNameBlock mNameStep mNumbers mSaid mSaidCount mFailed mValues mNextValues mOpen)) ∧ (¬ r1 = 2 → False)))) := by
    intro g
    refine md_turn_sp (hb := homeBlock) hN hn _ hso (fun q => by rw [hst] at q; cases q) (fun _ _ => ⟨fun _ => ⟨hP, hS, hT, rfl, hF⟩, fun q => absurd rfl q⟩) (fun _ b v p hb hv hp e1 e2 e3 z2 z3 => absurd ⟨b, v, p, hb, hv, hp, e1, e2, e3, fun z => z2 ?_, z3⟩ g)
    rw [z]; decide
  refine requireBlock_sp hN (fun g1 => requireVariable_sp (fun g2 => requireBE_sp hN (fun g3 => ?_) fun g3 => ⟨Or.inr rfl, fun q => by omega, fun _ => ⟨hv 1 (by omega), hv 2 (by omega), hv 3 (by omega), hv 4 (by omega), bad fun ⟨b, v, p, hb, hv, hp, e1, e2, e3, _⟩ => g3 ⟨p, by omega, e3⟩⟩⟩) fun g2 => ⟨Or.inr rfl, fun q => by omega, fun _ => ⟨hv 1 (by omega), hv 2 (by omega), hv 3 (by omega), hv 4 (by omega), bad fun ⟨b, v, p, hb, hv, hp, e1, e2, e3, _⟩ => g2 ⟨v, hv, e2⟩⟩⟩) fun g1 => ⟨Or.inr rfl, fun q => by omega, fun _ => ⟨hv 1 (by omega), hv 2 (by omega), hv 3 (by omega), hv 4 (by omega), bad fun ⟨b, v, p, hb, hv, hp, e1, e2, e3, _⟩ => g1 ⟨b, hb, e1⟩⟩⟩
  obtain ⟨b, hb, e1⟩ := g1
  obtain ⟨v, hvv, e2⟩ := g2
  obtain ⟨p, hp, e3⟩ := g3
  have hpp : p ≤ N := by omega
  have uq : ∀ {b' v' p'}, b' < N → v' < 6 → p' ≤ N → nI b = nI b' → nI v = nI v' → nI p = nI p' → b = b' ∧ v = v' ∧ p = p' := fun h1 h2 h3 e1 e2 e3 => ⟨(jI_eq (by omega) (by omega)).mp e1, (jI_eq (by omega) (by omega)).mp e2, (jI_eq (by omega) (by omega)).mp e3⟩
  rw [e1, e2, e3]
  rw [e1, e2, e3] at bad
  refine useOfMeeting_sp hN hb hvv hpp (requireThere_sp (fun hu => requireName_sp (fun gn => ?_) fun gn => ⟨Or.inr rfl, fun q => by omega, fun _ => ⟨hv 1 (by omega), hv 2 (by omega), hv 3 (by omega), hv 4 (by omega), bad fun ⟨b, v, p, hb, hv, hp, e1, e2, e3, z⟩ => gn z.2⟩⟩) fun hu => ⟨Or.inr rfl, fun q => by omega, fun _ => ⟨hv 1 (by omega), hv 2 (by omega), hv 3 (by omega), hv 4 (by omega), bad fun ⟨b', v', p', hb', hv', hp', q1, q2, q3, z⟩ => ?_⟩⟩)
  · have h1 : (b * 6 + v) * (N + 1) + p < N * 6 * (N + 1) := by
      have : (b * 6 + v + 1) * (N + 1) ≤ N * 6 * (N + 1) := Nat.mul_le_mul_right _ (by omega)
      rw [Nat.add_mul] at this
      omega
    have h2 : N * 6 * (N + 1) ≤ 72 * 13 := Nat.mul_le_mul (by omega) (by omega)
    have h3 := F.so b hb v hvv p hpp
    unfold wpNamedForm_changeMeetingUse wpNamedForm_useOfMeeting
    rw [jt6, jI_mul, jI_add, jI_one, jI_mul, jI_add]
    dsimp only
    rw [jI_in (by omega), jI_nat (by omega)]
    refine ⟨h1, hv 1 (by omega), hv 2 (by omega), hv 3 (by omega), hv 4 (by omega), md_turn_sp (hb := homeBlock) hN hn _ hso (fun q => by rw [hst] at q; cases q) (fun _ z => absurd ⟨b, v, p, hb, hvv, hpp, rfl, rfl, rfl, ?_, gn⟩ z) (fun _ b' v' p' hb' hv' hp' q1 q2 q3 z2 z3 => ?_)⟩
    · obtain ⟨rfl, rfl, rfl⟩ := uq hb' hv' hp' q1 q2 q3
      exact ⟨fun _ => ⟨hP, hS, hT, rfl, fun _ => F.trn hN hb hvv hpp gn hu⟩, fun q => absurd rfl q⟩
    · rw [neg_1 h3.2.2.2]; exact hu
  · obtain ⟨rfl, rfl, rfl⟩ := uq hb' hv' hp' q1 q2 q3
    exact z.1 hu
