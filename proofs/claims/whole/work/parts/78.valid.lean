/-! valid -/
/-- a use comes after the setting of its name -/
def VU (N : Nat) (sc : Nat → Nat → Prop) (homeBlock homePlace : Nat → Int32) (u : Int32) (b : Nat) (pl : Int32) : Prop := u = -1 ∨ ∃ m h, m < 600 ∧ h ≤ N ∧ u = nI m ∧ homeBlock m = nI h ∧ (h = N ∨ (h ≠ b ∧ Dm sc h b) ∨ (h = b ∧ ¬ pl ≤ homePlace m))
def VB (N : Nat) (sc : Nat → Nat → Prop) (stepCount homeBlock homePlace firstUses secondUses endUses : Nat → Int32) (b : Nat) : Prop := (∀ k, k < 6 → nI k < stepCount b → VU N sc homeBlock homePlace (firstUses (b * 6 + k)) b (nI k) ∧ VU N sc homeBlock homePlace (secondUses (b * 6 + k)) b (nI k)) ∧ VU N sc homeBlock homePlace (endUses b) b 6
def VM (N : Nat) (sc : Nat → Nat → Prop) (homeBlock homePlace meetingUses : Nat → Int32) (b : Nat) : Prop := ∀ v, v < 6 → ∀ p, p ≤ N → VU N sc homeBlock homePlace (meetingUses ((b * 6 + v) * (N + 1) + p)) p 6
section VA
variable {N : Nat} {stepCount kind forkVariable yes no meetingNames meetingUses stepNames firstUses secondUses endUses homeBlock homePlace mMeets mSources mSet mUseW mUseX mEndUse : Nat → Int32} {mGone mIsName : Nat → Bool} {mNameBlock mNameStep : Nat → Int32}
theorem useSound_sp (hN0 : 0 < N) (hN : N ≤ 12) (F : FR N stepCount kind forkVariable yes no meetingNames meetingUses stepNames firstUses secondUses endUses homeBlock homePlace mMeets mSources mSet mUseW mUseX mEndUse mGone mIsName mNameBlock mNameStep) {blw : Nat → Int32} (hB : BlIs (gsc N yes no) N blw) {u : Int32} (hu : useOK homeBlock u) {b : Nat} (hb : b ≤ N) {pl : Int32} {post : Bool → Prop} (hp : ∀ z, (z = true ↔ VU N (gsc N yes no) homeBlock homePlace u b pl) → post z) : wpNamedForm_isUseSound N blw homeBlock homePlace u (nI b) pl post := by
  refine ⟨fun q => ?_, fun q => hp true ⟨fun _ => Or.inl q, fun _ => rfl⟩⟩
  rcases hu with hu | ⟨m, hm, rfl, hh⟩
  · exact absurd hu q
  rcases F.nm m hm with ⟨z, -⟩ | ⟨-, -, -, h, hh1, e, -⟩
  · exact absurd z hh
  have uq : ∀ {m' h'}, m' < 600 → h' ≤ N → nI m = nI m' → homeBlock m' = nI h' → m = m' ∧ h = h' := fun h1 h2 e1 e2 => by
    have := (jI_eq (by omega) (by omega)).mp e1
    subst this
    rw [e] at e2
    exact ⟨rfl, (jI_eq (by omega) (by omega)).mp e2⟩
  rw [jI_in (by omega), jI_nat (by omega)]
  refine ⟨hm, fun v hv => ?_⟩
  rw [e] at hv
  subst hv
  rw [jI_eq (by omega) (by omega), jI_eq (by omega) (by omega)]
  refine ⟨fun q1 => ⟨fun q2 => ?_, fun q2 => ⟨hm, fun q3 => hp false ⟨fun z => by (cases z), fun z => ?_⟩, fun q3 => hp true ⟨fun _ => ?_, fun _ => rfl⟩⟩⟩, fun q1 => hp true ⟨fun _ => ?_, fun _ => rfl⟩⟩
  · unfold wpGraph_hasBelow
    rw [jI_in (by omega), jI_nat (by omega)]
    refine ⟨by omega, on_has (by omega) (hp _ ((hB h (by omega) b).trans ⟨fun z => ?_, fun z => ?_⟩))⟩
    · exact Or.inr ⟨m, h, hm, hh1, rfl, e, Or.inr (Or.inl ⟨q2, z⟩)⟩
    · rcases z with z | ⟨m', h', hm', hh', e1, e2, z⟩
      · exact absurd z q
      · obtain ⟨rfl, rfl⟩ := uq hm' hh' e1 e2
        rcases z with z | z | z
        · exact absurd z q1
        · exact z.2
        · exact absurd z.1 q2
  · rcases z with z | ⟨m', h', hm', hh', e1, e2, z⟩
    · exact absurd z q
    · obtain ⟨rfl, rfl⟩ := uq hm' hh' e1 e2
      rcases z with z | z | z
      · exact absurd z q1
      · exact absurd q2 z.1
      · exact absurd q3 z.2
  · exact Or.inr ⟨m, h, hm, hh1, rfl, e, Or.inr (Or.inr ⟨q2, q3⟩)⟩
  · exact Or.inr ⟨m, h, hm, hh1, rfl, e, Or.inl q1⟩
theorem before_sp (hN0 : 0 < N) (hN : N ≤ 12) (F : FR N stepCount kind forkVariable yes no meetingNames meetingUses stepNames firstUses secondUses endUses homeBlock homePlace mMeets mSources mSet mUseW mUseX mEndUse mGone mIsName mNameBlock mNameStep) {D : Nat → Int32} (hD : ∀ c, c < N → ∀ x, bt (D c) x = true ↔ Dm (gsc N yes no) x c) {u : Int32} (hu : useOK homeBlock u) (hu1 : ¬ u = -1) {b : Nat} (hb : b ≤ N) {pl : Int32} {post : Bool → Prop} (hp : ∀ z, (z = true ↔ VU N (gsc N yes no) homeBlock homePlace u b pl) → post z) : wpMd_before N D mNameBlock mNameStep u (nI b) pl post := by
  rcases hu with hu | ⟨m, hm, rfl, hh⟩
  · exact absurd hu hu1
  rcases F.nm m hm with ⟨z, -⟩ | ⟨-, eb, es, h, hh1, e, -⟩
  · exact absurd z hh
  have uq : ∀ {m' h'}, m' < 600 → h' ≤ N → nI m = nI m' → homeBlock m' = nI h' → m = m' ∧ h = h' := fun h1 h2 e1 e2 => by
    have := (jI_eq (by omega) (by omega)).mp e1
    subst this
    rw [e] at e2
    exact ⟨rfl, (jI_eq (by omega) (by omega)).mp e2⟩
  have un : VU N (gsc N yes no) homeBlock homePlace (nI m) b pl ↔ (h = N ∨ (h ≠ b ∧ Dm (gsc N yes no) h b) ∨ (h = b ∧ ¬ pl ≤ homePlace m)) := by
    constructor
    · rintro (z | ⟨m', h', hm', hh', e1, e2, z⟩)
      · exact absurd z hu1
      · obtain ⟨rfl, rfl⟩ := uq hm' hh' e1 e2
        exact z
    · exact fun z => Or.inr ⟨m, h, hm, hh1, rfl, e, z⟩
  unfold wpMd_before
  rw [jI_in (by omega), jI_nat (by omega)]
  refine ⟨hm, fun v hv => ?_⟩
  rw [eb, e] at hv
  subst hv
  rw [jI_eq (by omega) (by omega), jI_le (by omega) (by omega), es]
  refine ⟨fun q1 => ⟨fun q2 => hp false ⟨fun z => by (cases z), fun z => ?_⟩, fun q2 => md_strictly hN0 hN hD (by omega) (by omega) fun y hy => ⟨fun q3 => hp true ⟨fun _ => un.mpr (Or.inr (Or.inl ⟨(hy.mp q3).2, (hy.mp q3).1⟩)), fun _ => rfl⟩, fun q3 => ?_⟩⟩, fun q1 => hp true ⟨fun _ => un.mpr (Or.inl q1), fun _ => rfl⟩⟩
  · rcases un.mp z with z | z | z
    · exact absurd z q1
    · have := (z.2.lt hN0).2; omega
    · omega
  · have ny : ¬ (Dm (gsc N yes no) h b ∧ h ≠ b) := fun z => by rw [hy.mpr z] at q3; cases q3
    rw [jI_eq (by omega) (by omega)]
    refine ⟨fun q4 => hp false ⟨fun z => by (cases z), fun z => ?_⟩, fun q4 => ⟨hm, fun q5 => hp false ⟨fun z => by (cases z), fun z => ?_⟩, fun q5 => hp true ⟨fun _ => un.mpr (Or.inr (Or.inr ⟨q4, q5⟩)), fun _ => rfl⟩⟩⟩
    · rcases un.mp z with z | z | z
      · exact absurd z q1
      · exact absurd ⟨z.2, z.1⟩ ny
      · exact absurd z.1 q4
    · rcases un.mp z with z | z | z
      · exact absurd z q1
      · exact absurd q4 z.1
      · exact absurd q5 z.2
theorem blockSound_sp (hN0 : 0 < N) (hN : N ≤ 12) (hc : ∀ b, b < N → ∃ k, k ≤ 6 ∧ stepCount b = nI k) (F : FR N stepCount kind forkVariable yes no meetingNames meetingUses stepNames firstUses secondUses endUses homeBlock homePlace mMeets mSources mSet mUseW mUseX mEndUse mGone mIsName mNameBlock mNameStep) {blw : Nat → Int32} (hB : BlIs (gsc N yes no) N blw) {b : Nat} (hb : b < N) {post : Bool → Prop} (hp : ∀ z, (z = true ↔ VB N (gsc N yes no) stepCount homeBlock homePlace firstUses secondUses endUses b) → post z) : wpNamedForm_isBlockSound N stepCount blw firstUses secondUses endUses homeBlock homePlace (nI b) post := by
  obtain ⟨n, hn, en⟩ := hc b hb
  have key : ∀ (K : Int32 → Prop), ((∀ k, k < n → VU N (gsc N yes no) homeBlock homePlace (firstUses (b * 6 + k)) b (nI k) ∧ VU N (gsc N yes no) homeBlock homePlace (secondUses (b * 6 + k)) b (nI k)) → ∀ x, K x) → ∀ (d i : Nat), i + d = n → (∀ k, k < i → VU N (gsc N yes no) homeBlock homePlace (firstUses (b * 6 + k)) b (nI k) ∧ VU N (gsc N yes no) homeBlock homePlace (secondUses (b * 6 + k)) b (nI k)) → lpNamedForm_isBlockSound_2 N (nI b) stepCount blw firstUses secondUses homeBlock homePlace post K (d + 1) (nI i) := by
    intro K hK d
    induction d with
    | zero =>
      intro i hi h
      have : i = n := by omega
      subst this
      unfold lpNamedForm_isBlockSound_2 wpProgram_stepsOf
      rw [jI_in (by omega), jI_nat (by omega), en]
      exact ⟨hb, fun _ => hK h _, fun q => absurd (Int32.le_refl _) q⟩
    | succ d ih =>
      intro i hi h
      unfold lpNamedForm_isBlockSound_2 wpProgram_stepsOf
      rw [jI_in (by omega), jI_nat (by omega), en]
      refine ⟨hb, fun q => ?_, fun _ v hv => ?_⟩
      · rw [jI_le (by omega) (by omega)] at q; omega
      · rw [jt6, jI_mul, jI_add] at hv
        subst hv
        rw [jI_in (by omega), jI_nat (by omega), jI_one]
        have us := F.us b hb i (by omega)
        refine ⟨by omega, useSound_sp hN0 hN F hB us.2.2.1 (by omega) fun z1 hz1 => ⟨fun q1 => hp false ⟨fun z => by (cases z), fun z => ?_⟩, fun q1 => ⟨by omega, useSound_sp hN0 hN F hB us.2.2.2.1 (by omega) fun z2 hz2 => ⟨fun q2 => ih (i + 1) (by omega) fun k hk => ?_, fun q2 => hp false ⟨fun z => by (cases z), fun z => ?_⟩⟩⟩⟩⟩
        · have := (z.1 i (by omega) (by rw [en, jI_lt (by omega) (by omega)]; omega)).1
          rw [hz1.mpr this] at q1; cases q1
        · by_cases e : k = i
          · subst e; exact ⟨hz1.mp q1, hz2.mp q2⟩
          · exact h k (by omega)
        · have := (z.1 i (by omega) (by rw [en, jI_lt (by omega) (by omega)]; omega)).2
          rw [hz2.mpr this] at q2; cases q2
  refine ⟨n + 1, key _ (fun h x => ?_) n 0 (by omega) (fun k hk => by omega)⟩
  rw [jI_in (by omega), jI_nat (by omega)]
  refine ⟨hb, useSound_sp hN0 hN F hB (F.eu b hb).2.1 (by omega) fun z hz => hp z (hz.trans ⟨fun q => ⟨fun k hk hlt => h k ?_, q⟩, fun q => q.2⟩)⟩
  rw [en, jI_lt (by omega) (by omega)] at hlt; exact hlt
theorem meetSound_sp (hN0 : 0 < N) (hN : N ≤ 12) (F : FR N stepCount kind forkVariable yes no meetingNames meetingUses stepNames firstUses secondUses endUses homeBlock homePlace mMeets mSources mSet mUseW mUseX mEndUse mGone mIsName mNameBlock mNameStep) {blw : Nat → Int32} (hB : BlIs (gsc N yes no) N blw) {b : Nat} (hb : b < N) {post : Bool → Prop} (hp : ∀ z, (z = true ↔ VM N (gsc N yes no) homeBlock homePlace meetingUses b) → post z) : wpNamedForm_areMeetingsSound N blw meetingUses homeBlock homePlace (nI b) post := by
  have inn : ∀ (v : Nat), v < 6 → ∀ (K : Int32 → Prop), ((∀ p, p ≤ N → VU N (gsc N yes no) homeBlock homePlace (meetingUses ((b * 6 + v) * (N + 1) + p)) p 6) → ∀ x, K x) → ∀ (d i : Nat), i + d = N + 1 → (∀ p, p < i → VU N (gsc N yes no) homeBlock homePlace (meetingUses ((b * 6 + v) * (N + 1) + p)) p 6) → lpNamedForm_areMeetingsSound_10 N (nI b) (nI v) blw meetingUses homeBlock homePlace post K (d + 1) (nI i) := by
    intro v hv K hK d
    induction d with
    | zero =>
      intro i hi h
      have : i = N + 1 := by omega
      subst this
      refine ⟨fun _ => hK (fun p hp => h p (by omega)) _, fun q => ?_⟩
      rw [jI_lt (by omega) (by omega)] at q; omega
    | succ d ih =>
      intro i hi h
      refine ⟨fun q => ?_, fun _ => ?_⟩
      · rw [jI_lt (by omega) (by omega)] at q; omega
      · rw [jI_one]
        have h1 : (b * 6 + v) * (N + 1) + i < N * 6 * (N + 1) := by
          have : (b * 6 + v + 1) * (N + 1) ≤ N * 6 * (N + 1) := Nat.mul_le_mul_right _ (by omega)
          rw [Nat.add_mul] at this
          omega
        have h2 : N * 6 * (N + 1) ≤ 72 * 13 := Nat.mul_le_mul (by omega) (by omega)
        unfold wpNamedForm_useOfMeeting
        rw [jt6, jI_mul, jI_add, jI_one, jI_mul, jI_add]
        dsimp only
        rw [jI_in (by omega), jI_nat (by omega), ← jt6]
        refine ⟨h1, useSound_sp hN0 hN F hB (F.so b hb v hv i (by omega)).2.2.2 (by omega) fun z hz => ⟨fun q => ih (i + 1) (by omega) fun p hp => ?_, fun q => hp false ⟨fun w => by (cases w), fun w => ?_⟩⟩⟩
        · by_cases e : p = i
          · subst e; exact hz.mp q
          · exact h p (by omega)
        · rw [hz.mpr (w v hv i (by omega))] at q; cases q
  have key : ∀ (d i : Nat), i + d = 6 → (∀ v, v < i → ∀ p, p ≤ N → VU N (gsc N yes no) homeBlock homePlace (meetingUses ((b * 6 + v) * (N + 1) + p)) p 6) → lpNamedForm_areMeetingsSound_2 N (nI b) blw meetingUses homeBlock homePlace post (d + 1) (nI i) := by
    intro d
    induction d with
    | zero =>
      intro i hi h
      have : i = 6 := by omega
      subst this
      exact ⟨fun _ => hp true ⟨fun _ => h, fun _ => rfl⟩, fun q => absurd (Int32.le_refl _) q⟩
    | succ d ih =>
      intro i hi h
      refine ⟨fun q => ?_, fun _ => ⟨N + 1 + 1, ?_⟩⟩
      · rw [jt6, jI_le (by omega) (by omega)] at q; omega
      · rw [jI_one]
        refine inn i (by omega) _ (fun w x => ih (i + 1) (by omega) fun v hv => ?_) (N + 1) 0 (by omega) (fun p hp => by omega)
        by_cases e : v = i
        · subst e; exact w
        · exact h v (by omega)
  exact ⟨6 + 1, key 6 0 (by omega) (fun v hv => by omega)⟩
theorem ord_all {sc : Nat → Nat → Prop} (hN0 : 0 < N) (hsc : ∀ b c, sc b c → c < N) (hP : HasPar sc N) : ∃ vis, vis = ordOf sc N ∧ Tr sc N [] vis := by
  have key : ∀ (n : Nat) (st vis : List Nat), N - vis.length ≤ n → Tr sc N st vis → ∃ vis, Tr sc N [] vis := by
    intro n
    induction n with
    | zero =>
      intro st vis h T
      have := T.len hN0 hsc
      have : st = [] := List.eq_nil_of_length_eq_zero (by omega)
      subst this
      exact ⟨vis, T⟩
    | succ n ih =>
      intro st vis h T
      cases st with
      | nil => exact ⟨vis, T⟩
      | cons x st =>
        have := T.len hN0 hsc
        simp only [List.length_cons] at this
        exact ih _ (vis ++ [x]) (by rw [List.length_append, List.length_singleton]; omega) (T.step hN0 hsc)
  obtain ⟨vis, T⟩ := key _ [0] [] (Nat.le_refl _) Tr.init
  exact ⟨vis, T.done, T⟩
theorem ord_mem {sc : Nat → Nat → Prop} (hN0 : 0 < N) (hsc : ∀ b c, sc b c → c < N) (hP : HasPar sc N) (x : Nat) : x ∈ ordOf sc N ↔ Rch sc okT x := by
  obtain ⟨vis, e, T⟩ := ord_all hN0 hsc hP
  rw [← e]
  exact ⟨fun h => T.re x (by rw [List.append_nil]; exact h), T.all hN0 hsc hP x⟩
theorem ord_len {sc : Nat → Nat → Prop} (hN0 : 0 < N) (hsc : ∀ b c, sc b c → c < N) (hP : HasPar sc N) : (ordOf sc N).length ≤ N := by
  obtain ⟨vis, e, T⟩ := ord_all hN0 hsc hP
  have := T.len hN0 hsc
  rw [← e]; omega
theorem isSound_sp (hN0 : 0 < N) (hN : N ≤ 12) (hc : ∀ b, b < N → ∃ k, k ≤ 6 ∧ stepCount b = nI k) (F : FR N stepCount kind forkVariable yes no meetingNames meetingUses stepNames firstUses secondUses endUses homeBlock homePlace mMeets mSources mSet mUseW mUseX mEndUse mGone mIsName mNameBlock mNameStep) {orderSize reached : Int32} {forerunners blw frontiers parents order : Nat → Int32} (hS : SurvIs N yes no orderSize reached forerunners blw frontiers parents order) {post : Bool → Prop} (hp : ∀ z, (z = true ↔ ∀ b, b < N → VB N (gsc N yes no) stepCount homeBlock homePlace firstUses secondUses endUses b ∧ VM N (gsc N yes no) homeBlock homePlace meetingUses b) → post z) : wpNamedForm_isSound N stepCount orderSize blw order meetingUses firstUses secondUses endUses homeBlock homePlace post := by
  have hPar := hS.pa.has hN0 gsc_lt
  have hlen := ord_len hN0 gsc_lt hPar
  have hmem := fun x => ord_mem hN0 gsc_lt hPar x
  obtain ⟨e0, eo⟩ := hS.od
  have un : ∀ b, b < N → ¬ Rch (gsc N yes no) okT b → VB N (gsc N yes no) stepCount homeBlock homePlace firstUses secondUses endUses b ∧ VM N (gsc N yes no) homeBlock homePlace meetingUses b := by
    intro b hb hr
    refine ⟨⟨fun k hk hlt => ?_, Or.inl ((F.eu b hb).2.2.1 hr)⟩, fun v hv p hp => Or.inl ?_⟩
    · have := (F.us b hb k hk).2.2.2.2 (Or.inr hr)
      exact ⟨Or.inl this.1, Or.inl this.2⟩
    · have h1 := (F.mt b hb v hv).2
      rcases h1 with h1 | h1
      · exact (F.so b hb v hv p hp).1 h1
      · exact absurd h1.1 hr
  have key : ∀ (d i : Nat), i + d = (ordOf (gsc N yes no) N).length → (∀ j x, j < i → (ordOf (gsc N yes no) N)[j]? = some x → VB N (gsc N yes no) stepCount homeBlock homePlace firstUses secondUses endUses x ∧ VM N (gsc N yes no) homeBlock homePlace meetingUses x) → lpNamedForm_isSound_2 N stepCount orderSize blw order meetingUses firstUses secondUses endUses homeBlock homePlace post (d + 1) (nI i) := by
    intro d
    induction d with
    | zero =>
      intro i hi h
      unfold lpNamedForm_isSound_2 wpGraph_reachedCount
      dsimp only
      rw [e0, show i = (ordOf (gsc N yes no) N).length by omega]
      refine ⟨fun _ => hp true ⟨fun _ b hb => ?_, fun _ => rfl⟩, fun q => absurd (Int32.le_refl _) q⟩
      by_cases hr : Rch (gsc N yes no) okT b
      · obtain ⟨j, hj⟩ := List.getElem?_of_mem ((hmem b).mpr hr)
        exact h j b (by have := (List.getElem?_eq_some_iff.mp hj).1; omega) hj
      · exact un b hb hr
    | succ d ih =>
      intro i hi h
      have hil : i < (ordOf (gsc N yes no) N).length := by omega
      have hx : (ordOf (gsc N yes no) N)[i]? = some ((ordOf (gsc N yes no) N)[i]) := List.getElem?_eq_getElem hil
      generalize (ordOf (gsc N yes no) N)[i] = x at hx
      have hxN : x < N := ((hmem x).mp (List.mem_of_getElem? hx)).lt hN0 gsc_lt
      unfold lpNamedForm_isSound_2 wpGraph_reachedCount wpGraph_inOrder
      dsimp only
      rw [e0]
      refine ⟨fun q => ?_, fun _ => ?_⟩
      · rw [jI_le (by omega) (by omega)] at q; omega
      · rw [jI_in (by omega), jI_nat (by omega), eo i x hx, jI_one, ← e0]
        refine ⟨by omega, blockSound_sp hN0 hN hc F hS.bl hxN fun z1 hz1 => ⟨fun q => hp false ⟨fun w => by (cases w), fun w => ?_⟩, fun q1 => meetSound_sp hN0 hN F hS.bl hxN fun z2 hz2 => ⟨fun q2 => ih (i + 1) (by omega) fun j y hj hy => ?_, fun q => hp false ⟨fun w => by (cases w), fun w => ?_⟩⟩⟩⟩
        · rw [hz1.mpr (w x hxN).1] at q; cases q
        · by_cases e : j = i
          · subst e
            rw [hx] at hy
            cases hy
            exact ⟨hz1.mp q1, hz2.mp q2⟩
          · exact h j y (by omega) hy
        · rw [hz2.mpr (w x hxN).2] at q; cases q
  exact ⟨_, key (ordOf (gsc N yes no) N).length 0 (by omega) (fun j x hj => by omega)⟩
end VA
/-! the reference's valid -/
section VR
variable {N : Nat} {stepCount kind forkVariable yes no meetingNames meetingUses stepNames firstUses secondUses endUses homeBlock homePlace mMeets mSources mSet mUseW mUseX mEndUse : Nat → Int32} {mGone mIsName : Nat → Bool} {mNameBlock mNameStep : Nat → Int32}
theorem neg1_VU {u : Int32} {b : Nat} {pl : Int32} (hu : useOK homeBlock u) (h : u < 0) : VU N (gsc N yes no) homeBlock homePlace u b pl := Or.inl ((neg_1 hu).mp h)
theorem iv_steps (hN0 : 0 < N) (hN : N ≤ 12) {mMany : Nat → Int32} (F : FR N stepCount kind forkVariable yes no meetingNames meetingUses stepNames firstUses secondUses endUses homeBlock homePlace mMeets mSources mSet mUseW mUseX mEndUse mGone mIsName mNameBlock mNameStep) {D : Nat → Int32} (hD : ∀ c, c < N → ∀ x, bt (D c) x = true ↔ Dm (gsc N yes no) x c) {b n : Nat} (hb : b < N) (hn : n ≤ 6) (en : mMany b = nI n) {K : Bool → Int32 → Prop} {z0 : Bool} (hK : ∀ z, (z = true ↔ z0 = true ∧ ∀ k, k < n → VU N (gsc N yes no) homeBlock homePlace (firstUses (b * 6 + k)) b (nI k) ∧ VU N (gsc N yes no) homeBlock homePlace (secondUses (b * 6 + k)) b (nI k)) → ∀ x, K z x) :
    ∀ (d i : Nat) (z : Bool), i + d = n → (z = true ↔ z0 = true ∧ ∀ k, k < i → VU N (gsc N yes no) homeBlock homePlace (firstUses (b * 6 + k)) b (nI k) ∧ VU N (gsc N yes no) homeBlock homePlace (secondUses (b * 6 + k)) b (nI k)) → lpMd_isValid_18 N (nI b) mMany D mUseW mUseX mNameBlock mNameStep K (d + 1) z (nI i) := by
  intro d
  induction d with
  | zero =>
    intro i z hi h
    have : i = n := by omega
    subst this
    unfold lpMd_isValid_18
    rw [jI_in (by omega), jI_nat (by omega), en]
    exact ⟨by omega, fun _ => hK z h _, fun q => absurd (Int32.le_refl _) q⟩
  | succ d ih =>
    intro i z hi h
    unfold lpMd_isValid_18
    rw [jI_in (by omega), jI_nat (by omega), en]
    refine ⟨by omega, fun q => ?_, fun _ v hv => ?_⟩
    · rw [jI_le (by omega) (by omega)] at q; omega
    · rw [jt6, jI_mul, jI_add, show 6 * b + i = b * 6 + i by omega] at hv
      subst hv
      rw [jI_in (by omega), jI_nat (by omega), jI_one]
      have us := F.us b hb i (by omega)
      rw [us.1, us.2.1]
      have bad : ∀ {z' : Bool}, ¬ (VU N (gsc N yes no) homeBlock homePlace (firstUses (b * 6 + i)) b (nI i) ∧ VU N (gsc N yes no) homeBlock homePlace (secondUses (b * 6 + i)) b (nI i)) → (false = true ↔ z0 = true ∧ ∀ k, k < i + 1 → VU N (gsc N yes no) homeBlock homePlace (firstUses (b * 6 + k)) b (nI k) ∧ VU N (gsc N yes no) homeBlock homePlace (secondUses (b * 6 + k)) b (nI k)) := fun q => ⟨fun z => by (cases z), fun z => absurd (z.2 i (by omega)) q⟩
      refine ⟨fun q => ih (i + 1) false (by omega) ⟨fun z => by (cases z), fun w => ?_⟩, fun q => ⟨by omega, ?_⟩⟩
      · rw [h.mpr ⟨w.1, fun k hk => w.2 k (by omega)⟩] at q; cases q
      have good : (VU N (gsc N yes no) homeBlock homePlace (firstUses (b * 6 + i)) b (nI i) ∧ VU N (gsc N yes no) homeBlock homePlace (secondUses (b * 6 + i)) b (nI i)) → (true = true ↔ z0 = true ∧ ∀ k, k < i + 1 → VU N (gsc N yes no) homeBlock homePlace (firstUses (b * 6 + k)) b (nI k) ∧ VU N (gsc N yes no) homeBlock homePlace (secondUses (b * 6 + k)) b (nI k)) := fun w => ⟨fun _ => ⟨(h.mp q).1, fun k hk => by
        by_cases e : k = i
        · subst e; exact w
        · exact (h.mp q).2 k (by omega)⟩, fun _ => rfl⟩
      refine ⟨VU N (gsc N yes no) homeBlock homePlace (firstUses (b * 6 + i)) b (nI i), fun hW => ⟨by omega, fun q2 => ih (i + 1) true (by omega) (good ⟨hW, neg1_VU us.2.2.2.1 q2⟩), fun q2 => ⟨by omega, before_sp hN0 hN F hD us.2.2.2.1 (fun w => q2 (by rw [w]; decide)) (by omega) fun y hy => ⟨fun q3 => ih (i + 1) false (by omega) (bad (z' := true) fun w => ?_), fun q3 => ih (i + 1) true (by omega) (good ⟨hW, hy.mp q3⟩)⟩⟩⟩, fun q2 => neg1_VU us.2.2.1 q2, fun q2 => ⟨by omega, before_sp hN0 hN F hD us.2.2.1 (fun w => q2 (by rw [w]; decide)) (by omega) fun y hy => ⟨fun q3 => ih (i + 1) false (by omega) (bad (z' := true) fun w => ?_), fun q3 => hy.mp q3⟩⟩⟩
      · rw [hy.mpr w.2] at q3; cases q3
      · rw [hy.mpr w.1] at q3; cases q3
theorem iv_meet1 (hN0 : 0 < N) (hN : N ≤ 12) (F : FR N stepCount kind forkVariable yes no meetingNames meetingUses stepNames firstUses secondUses endUses homeBlock homePlace mMeets mSources mSet mUseW mUseX mEndUse mGone mIsName mNameBlock mNameStep) {D : Nat → Int32} (hD : ∀ c, c < N → ∀ x, bt (D c) x = true ↔ Dm (gsc N yes no) x c) {b v : Nat} (hb : b < N) (hv : v < 6) {K : Bool → Int32 → Prop} {z0 : Bool} (hK : ∀ z, (z = true ↔ z0 = true ∧ ∀ p, p ≤ N → VU N (gsc N yes no) homeBlock homePlace (meetingUses ((b * 6 + v) * (N + 1) + p)) p 6) → ∀ x, K z x) :
    ∀ (d i : Nat) (z : Bool), i + d = N + 1 → (z = true ↔ z0 = true ∧ ∀ p, p < i → VU N (gsc N yes no) homeBlock homePlace (meetingUses ((b * 6 + v) * (N + 1) + p)) p 6) → lpMd_isValid_150 N (nI b) (nI v) D mMeets mSources mNameBlock mNameStep K (d + 1) z (nI i) := by
  intro d
  induction d with
  | zero =>
    intro i z hi h
    have : i = N + 1 := by omega
    subst this
    refine ⟨fun _ => hK z (h.trans ⟨fun w => ⟨w.1, fun p hp => w.2 p (by omega)⟩, fun w => ⟨w.1, fun p hp => w.2 p (by omega)⟩⟩) _, fun q => ?_⟩
    rw [jI_lt (by omega) (by omega)] at q; omega
  | succ d ih =>
    intro i z hi h
    refine ⟨fun q => ?_, fun _ => ?_⟩
    · rw [jI_lt (by omega) (by omega)] at q; omega
    · have so := F.so b hb v hv i (by omega)
      have mt := F.mt b hb v hv
      rw [jt6, jI_mul, jI_add, show 6 * b + v = b * 6 + v by omega, show (13 : Int32) = nI 13 from rfl, jI_mul, jI_add, jI_in (by omega), jI_nat (by omega), jI_in (by omega), jI_nat (by omega), jI_one, mt.1, ← jt6]
      refine ⟨by omega, fun q => hK z (h.trans ⟨fun w => ⟨w.1, fun p hp => Or.inl ?_⟩, fun w => ⟨w.1, fun p hp => w.2 p (by omega)⟩⟩) _, fun q => ⟨by omega, fun x hx => ?_⟩⟩
      · have : meetingNames (b * 6 + v) = -1 := by
          rcases mt.2 with z | ⟨-, m, hm, e, -⟩
          · exact z
          · rw [e] at q; exact absurd q (jI_neg (by omega))
        exact (F.so b hb v hv p hp).1 this
      · have hne : ¬ meetingNames (b * 6 + v) = -1 := fun w => q (by rw [w]; decide)
        rw [(so.2.1 hne).1] at hx
        subst hx
        refine ⟨fun q1 => ih (i + 1) false (by omega) ⟨fun z => by (cases z), fun w => ?_⟩, fun q1 => ?_⟩
        · rw [h.mpr ⟨w.1, fun p hp => w.2 p (by omega)⟩] at q1; cases q1
        · have good : VU N (gsc N yes no) homeBlock homePlace (meetingUses ((b * 6 + v) * (N + 1) + i)) i 6 → (true = true ↔ z0 = true ∧ ∀ p, p < i + 1 → VU N (gsc N yes no) homeBlock homePlace (meetingUses ((b * 6 + v) * (N + 1) + p)) p 6) := fun w => ⟨fun _ => ⟨(h.mp q1).1, fun p hp => by
            by_cases e : p = i
            · subst e; exact w
            · exact (h.mp q1).2 p (by omega)⟩, fun _ => rfl⟩
          refine ⟨fun q2 => ih (i + 1) true (by omega) (good (neg1_VU so.2.2.2 q2)), fun q2 => before_sp hN0 hN F hD so.2.2.2 (fun w => q2 (by rw [w]; decide)) (by omega) fun y hy => ⟨fun q3 => ih (i + 1) false (by omega) ⟨fun z => by (cases z), fun w => ?_⟩, fun q3 => ih (i + 1) true (by omega) (good (hy.mp q3))⟩⟩
          rw [hy.mpr (w.2 i (by omega))] at q3; cases q3
theorem iv_meet (hN0 : 0 < N) (hN : N ≤ 12) (F : FR N stepCount kind forkVariable yes no meetingNames meetingUses stepNames firstUses secondUses endUses homeBlock homePlace mMeets mSources mSet mUseW mUseX mEndUse mGone mIsName mNameBlock mNameStep) {D : Nat → Int32} (hD : ∀ c, c < N → ∀ x, bt (D c) x = true ↔ Dm (gsc N yes no) x c) {b : Nat} (hb : b < N) {K : Bool → Int32 → Prop} {z0 : Bool} (hK : ∀ z, (z = true ↔ z0 = true ∧ VM N (gsc N yes no) homeBlock homePlace meetingUses b) → ∀ x, K z x) :
    ∀ (d i : Nat) (z : Bool), i + d = 6 → (z = true ↔ z0 = true ∧ ∀ v, v < i → ∀ p, p ≤ N → VU N (gsc N yes no) homeBlock homePlace (meetingUses ((b * 6 + v) * (N + 1) + p)) p 6) → lpMd_isValid_141 N (nI b) D mMeets mSources mNameBlock mNameStep K (d + 1) z (nI i) := by
  intro d
  induction d with
  | zero =>
    intro i z hi h
    have : i = 6 := by omega
    subst this
    exact ⟨fun _ => hK z h _, fun q => absurd (Int32.le_refl _) q⟩
  | succ d ih =>
    intro i z hi h
    refine ⟨fun q => ?_, fun _ => ⟨N + 1 + 1, ?_⟩⟩
    · rw [jt6, jI_le (by omega) (by omega)] at q; omega
    · rw [jI_one]
      refine iv_meet1 hN0 hN F hD hb (by omega) (z0 := z) (fun z' hz' x => ih (i + 1) z' (by omega) (hz'.trans ?_)) (N + 1) 0 z (by omega) ⟨fun w => ⟨w, fun p hp => by omega⟩, fun w => w.1⟩
      rw [h]
      constructor
      · rintro ⟨⟨w1, w2⟩, w3⟩
        refine ⟨w1, fun v hv => ?_⟩
        by_cases e : v = i
        · subst e; exact w3
        · exact w2 v (by omega)
      · rintro ⟨w1, w2⟩
        exact ⟨⟨w1, fun v hv => w2 v (by omega)⟩, w2 i (by omega)⟩
theorem isValid_sp (hN0 : 0 < N) (hN : N ≤ 12) {mMany mEnds mYes mNo mDominators : Nat → Int32} (hc : ∀ b, b < N → ∃ k, k ≤ 6 ∧ stepCount b = nI k ∧ mMany b = nI k) (hE : EndR N mEnds mYes mNo yes no) (F : FR N stepCount kind forkVariable yes no meetingNames meetingUses stepNames firstUses secondUses endUses homeBlock homePlace mMeets mSources mSet mUseW mUseX mEndUse mGone mIsName mNameBlock mNameStep) {post : Bool → Int32 → (Nat → Int32) → Prop} (hp : ∀ z, (z = true ↔ ∀ b, b < N → VB N (gsc N yes no) stepCount homeBlock homePlace firstUses secondUses endUses b ∧ VM N (gsc N yes no) homeBlock homePlace meetingUses b) → ∀ R D, post z R D) : wpMd_isValid N mMany mEnds mYes mNo mDominators mMeets mSources mUseW mUseX mEndUse mNameBlock mNameStep post := by
  refine md_look hN0 hN hE fun R D hR hD => ⟨N + 1, ?_⟩
  have key : ∀ (d i : Nat) (z : Bool), i + d = N → (z = true ↔ ∀ b, b < i → VB N (gsc N yes no) stepCount homeBlock homePlace firstUses secondUses endUses b ∧ VM N (gsc N yes no) homeBlock homePlace meetingUses b) → lpMd_isValid_8 N R mMany D mMeets mSources mUseW mUseX mEndUse mNameBlock mNameStep post (d + 1) z (nI i) := by
    intro d
    induction d with
    | zero =>
      intro i z hi h
      have : i = N := by omega
      subst this
      exact ⟨fun _ => hp z h _ _, fun q => absurd (Int32.le_refl _) q⟩
    | succ d ih =>
      intro i z hi h
      have hb : i < N := by omega
      obtain ⟨n, hn, es, en⟩ := hc i hb
      refine ⟨fun q => ?_, fun _ => ⟨n + 1, ?_⟩⟩
      · rw [jI_le (by omega) (by omega)] at q; omega
      · rw [jI_one]
        refine iv_steps hN0 hN F hD hb hn en (z0 := z) (fun z1 hz1 x => ?_) n 0 z (by omega) ⟨fun w => ⟨w, fun k hk => by omega⟩, fun w => w.1⟩
        have eu := F.eu i hb
        have hVB : VB N (gsc N yes no) stepCount homeBlock homePlace firstUses secondUses endUses i ↔ (∀ k, k < n → VU N (gsc N yes no) homeBlock homePlace (firstUses (i * 6 + k)) i (nI k) ∧ VU N (gsc N yes no) homeBlock homePlace (secondUses (i * 6 + k)) i (nI k)) ∧ VU N (gsc N yes no) homeBlock homePlace (endUses i) i 6 := by
          unfold VB
          rw [es]
          refine ⟨fun w => ⟨fun k hk => w.1 k (by omega) (by rw [jI_lt (by omega) (by omega)]; exact hk), w.2⟩, fun w => ⟨fun k hk hlt => w.1 k ?_, w.2⟩⟩
          rw [jI_lt (by omega) (by omega)] at hlt; exact hlt
        refine ⟨fun z2 => (z2 = true ↔ z = true ∧ VB N (gsc N yes no) stepCount homeBlock homePlace firstUses secondUses endUses i), fun z2 hz2 => ⟨6 + 1, ?_⟩, ¬ (z = true ∧ VB N (gsc N yes no) stepCount homeBlock homePlace firstUses secondUses endUses i), fun w => ⟨fun q => by (cases q), fun q => absurd q w⟩, fun q w => ?_, fun q => ?_⟩
        · refine iv_meet hN0 hN F hD hb (z0 := z2) (fun z3 hz3 x => ih (i + 1) z3 (by omega) (hz3.trans ?_)) 6 0 z2 (by omega) ⟨fun w => ⟨w, fun v hv => by omega⟩, fun w => w.1⟩
          have hz2 : z2 = true ↔ z = true ∧ VB N (gsc N yes no) stepCount homeBlock homePlace firstUses secondUses endUses i := hz2
          rw [hz2, h]
          constructor
          · rintro ⟨⟨w1, w2⟩, w3⟩ c hc
            by_cases e : c = i
            · subst e; exact ⟨w2, w3⟩
            · exact w1 c (by omega)
          · intro w
            exact ⟨⟨fun c hc => w c (by omega), (w i (by omega)).1⟩, (w i (by omega)).2⟩
        · rw [hz1.mpr ⟨w.1, (hVB.mp w.2).1⟩] at q; cases q
        · have hz1 := hz1.mp q
          rw [jI_in (by omega), jI_nat (by omega), eu.1]
          refine ⟨by omega, fun q2 => ⟨fun _ => ⟨hz1.1, hVB.mpr ⟨hz1.2, neg1_VU eu.2.1 q2⟩⟩, fun _ => rfl⟩, fun q2 => ⟨by omega, before_sp hN0 hN F hD eu.2.1 (fun w => q2 (by rw [w]; decide)) (by omega) fun y hy => ⟨fun q3 w => ?_, fun q3 => ⟨fun _ => ⟨hz1.1, hVB.mpr ⟨hz1.2, hy.mp q3⟩⟩, fun _ => rfl⟩⟩⟩⟩
          rw [hy.mpr (hVB.mp w.2).2] at q3; cases q3
  exact key N 0 true (by omega) ⟨fun _ b hb => by omega, fun _ => rfl⟩
end VR
theorem k_valid {N L : Nat} {xs : Nat → Int32} {v4 : Int32} (hN0 : 0 < N) (hN : N ≤ 12) (hv : ∀ j, j < 6 → vp_in (v4 + nI j) L) (formStands : Bool) (stepCount : Nat → Int32) (kind : Nat → Int32) (target : Nat → Int32) (first : Nat → Int32) (second : Nat → Int32) (forkVariable : Nat → Int32) (yes : Nat → Int32) (no : Nat → Int32) (starts : Nat → Int32) (orderSize : Int32) (reached : Int32) (forerunners : Nat → Int32) (blw : Nat → Int32) (frontiers : Nat → Int32) (parents : Nat → Int32) (order : Nat → Int32) (waiting : Nat → Int32) (meetingNames : Nat → Int32) (meetingUses : Nat → Int32) (stepNames : Nat → Int32) (firstUses : Nat → Int32) (secondUses : Nat → Int32) (endUses : Nat → Int32) (lastNames : Nat → Int32) (namesOf : Nat → Int32) (homeBlock : Nat → Int32) (homePlace : Nat → Int32) (standsFor : Nat → Int32) (pending : Int32) (length : Int32) (pendingTo : Nat → Int32) (pendingFrom : Nat → Int32) (copyTo : Nat → Int32) (copyFrom : Nat → Int32) (way : Int32) (values : Nat → Int32) (arriving : Nat → Int32) (T0size : Int32) (T0out : Int32) (T0num : Nat → Int32) (T1size : Int32) (T1out : Int32) (T1num : Nat → Int32) (T2size : Int32) (T2out : Int32) (T2num : Nat → Int32) (outc : Nat → Int64) (mThrown : Int32) (mReached : Int32) (mForm : Bool) (mSlot : Int32) (mOver : Bool) (mMany : Nat → Int32) (mKinds : Nat → Int32) (mVs : Nat → Int32) (mWs : Nat → Int32) (mXs : Nat → Int32) (mEnds : Nat → Int32) (mEndVariable : Nat → Int32) (mYes : Nat → Int32) (mNo : Nat → Int32) (mStarts : Nat → Int32) (mDominators : Nat → Int32) (mMeets : Nat → Int32) (mSources : Nat → Int32) (mSet : Nat → Int32) (mUseW : Nat → Int32) (mUseX : Nat → Int32) (mEndUse : Nat → Int32) (mGone : Nat → Bool) (mIsName : Nat → Bool) (mNameBlock : Nat → Int32) (mNameStep : Nat → Int32) (mNumbers : Nat → Int32) (mSaid : Nat → Int32) (mSaidCount : Nat → Int32) (mFailed : Nat → Int32) (mValues : Nat → Int32) (mNextValues : Nat → Int32) (mOpen : Nat → Int32) (h : JJ N formStands stepCount kind target first second forkVariable yes no starts orderSize reached forerunners blw frontiers parents order waiting meetingNames meetingUses stepNames firstUses secondUses endUses lastNames namesOf homeBlock homePlace standsFor pending length pendingTo pendingFrom copyTo copyFrom way values arriving T0size T0out T0num T1size T1out T1num T2size T2out T2num outc mThrown mReached mForm mSlot mOver mMany mKinds mVs mWs mXs mEnds mEndVariable mYes mNo mStarts mDominators mMeets mSources mSet mUseW mUseX mEndUse mGone mIsName mNameBlock mNameStep mNumbers mSaid mSaidCount mFailed mValues mNextValues mOpen) : wpLc_valid N L xs v4 formStands stepCount kind target first second forkVariable yes no starts orderSize reached forerunners blw frontiers parents order waiting meetingNames meetingUses stepNames firstUses secondUses endUses lastNames namesOf homeBlock homePlace standsFor pending length pendingTo pendingFrom copyTo copyFrom way values arriving T0size T0out T0num T1size T1out T1num T2size T2out T2num outc mThrown mReached mForm mSlot mOver mMany mKinds mVs mWs mXs mEnds mEndVariable mYes mNo mStarts mDominators mMeets mSources mSet mUseW mUseX mEndUse mGone mIsName mNameBlock mNameStep mNumbers mSaid mSaidCount mFailed mValues mNextValues mOpen (JJ N) := by
  obtain ⟨hP, hS, hT, hf, hF⟩ := h
  subst hf
  unfold wpLc_valid wpLw_valid wpOn_valid wpMd_valid
  refine ⟨fun hst => ?_, fun hst => ⟨rfl, fun _ => ⟨fun t => t = true, fun t ht => ?_, fun _ => rfl, fun q => by (rw [hst] at q; cases q)⟩⟩⟩
  · have F := hF hst
    refine isSound_sp hN0 hN hP.ct1 F hS fun z hz => ⟨fun q => ⟨out_in, ?_⟩, fun q => ⟨out_in, ?_⟩⟩
    · subst q
      refine ⟨fun t => t = false, fun t ht => ?_, fun q => by (rw [hst] at q; cases q), fun _ => rfl⟩
      subst ht
      refine ⟨fun q => by (rw [hst] at q; cases q), fun _ => isValid_sp hN0 hN hP.ct hP.endr F fun y hy R D => ?_⟩
      have e : y = false := by
        cases y with
        | false => rfl
        | true => exact absurd (hz.mpr (hy.mp rfl)) (by decide)
      subst e
      exact ⟨fun _ => ⟨fun _ => ⟨fun q => absurd rfl q, fun _ => ⟨out_in, fun q => ⟨fun _ => ⟨hP, hS, hT, rfl, hF⟩, fun q => q (by rw [out_at]; exact lg_same _)⟩, fun q => by (cases q)⟩⟩, fun q => absurd rfl q⟩, fun q => by (cases q)⟩
    · subst q
      refine ⟨fun t => t = false, fun t ht => ?_, fun q => by (rw [hst] at q; cases q), fun _ => rfl⟩
      subst ht
      refine ⟨fun q => by (rw [hst] at q; cases q), fun _ => isValid_sp hN0 hN hP.ct hP.endr F fun y hy R D => ?_⟩
      have e : y = true := hy.mpr (hz.mp rfl)
      subst e
      exact ⟨fun q => by (cases q), fun _ => ⟨fun _ => ⟨fun q => absurd rfl q, fun _ => ⟨out_in, fun q => by (cases q), fun q => ⟨fun _ => ⟨hP, hS, hT, rfl, hF⟩, fun q => q (by rw [out_at]; exact lg_same _)⟩⟩⟩, fun q => absurd rfl q⟩⟩
  · subst ht
    exact ⟨fun _ => ⟨fun _ => ⟨fun _ => ⟨hP, hS, hT, rfl, hF⟩, fun q => absurd q (by decide)⟩, fun q => absurd rfl q⟩, fun q => by (rw [hst] at q; cases q)⟩
