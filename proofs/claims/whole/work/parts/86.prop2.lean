/-! propagate in the reference -/
theorem ccn_ext {N : Nat} {stepCount kind S : Nat → Int32} : ∀ n, N * 6 ≤ n → ccn N stepCount kind S n = ccn N stepCount kind S (N * 6) := by
  intro n
  induction n with
  | zero => intro h; rw [show N * 6 = 0 by omega]
  | succ n ih =>
    intro h
    by_cases e : N * 6 = n + 1
    · rw [e]
    · simp only [ccn]
      rw [ih (by omega), cif_neg (fun ⟨⟨b, k, hb, hk, _, e2, _⟩, _⟩ => by omega)]
      rfl
section PM
variable {N : Nat} {stepCount kind forkVariable yes no meetingNames meetingUses stepNames firstUses secondUses endUses homeBlock homePlace mMeets mSources mSet mUseW mUseX mEndUse : Nat → Int32} {mGone mIsName : Nat → Bool} {mNameBlock mNameStep : Nat → Int32} {mMany mKinds : Nat → Int32}
theorem behind_sp (hN0 : 0 < N) (hN : N ≤ 12) (hkd : ∀ b, b < N → ∃ k, k ≤ 6 ∧ stepCount b = nI k ∧ mMany b = nI k) (hkk : ∀ b, b < N → ∀ k, k < 6 → nI k < stepCount b → mKinds (b * 6 + k) = kind (b * 6 + k)) (F : FR N stepCount kind forkVariable yes no meetingNames meetingUses stepNames firstUses secondUses endUses homeBlock homePlace mMeets mSources mSet mUseW mUseX mEndUse mGone mIsName mNameBlock mNameStep) (V : (∀ b, b < N → VB N (gsc N yes no) stepCount homeBlock homePlace firstUses secondUses endUses b ∧ VM N (gsc N yes no) homeBlock homePlace meetingUses b)) {W : Nat → Int32} (hW : (∀ x, x < N → ∀ k, k < 6 → nI k < stepCount x → kind (x * 6 + k) = 1 → W (x * 6 + k) = firstUses (x * 6 + k))) {post : Int32 → Prop} : ∀ f m, Ex homeBlock m → muN N (gsc N yes no) homeBlock homePlace m < f → post (nI (rt N kind homeBlock homePlace firstUses m)) → lpMd_behind_2 N mKinds W mNameBlock mNameStep post (f + 1) (nI m) := by
  intro f
  induction f with
  | zero => intro m _ h; omega
  | succ f ih =>
    intro m hm hf hpost
    have hm6 := hm.1
    obtain ⟨x, hx, ex, hh⟩ := F.home hN hm
    have hnb : mNameBlock m = homeBlock m ∧ mNameStep m = homePlace m := by
      rcases F.nm m hm6 with z | z
      · exact absurd z.1 hm.2
      · exact ⟨z.2.1, z.2.2.1⟩
    unfold lpMd_behind_2
    rw [jI_in (by omega), jI_nat (by omega), hnb.1, hnb.2, ex, jI_le (by omega) (by omega)]
    have nc : ¬ cpy N kind homeBlock homePlace m → post (nI m) := fun z => by rw [rt_no z] at hpost; exact hpost
    refine ⟨hm6, fun q => nc ?_, fun q => ⟨hm6, fun q2 => nc ?_, fun q2 => ?_⟩⟩
    · rintro ⟨y, k, hy, hk, e1, -⟩
      have := (jI_eq (by omega) (by omega)).mp (ex.symm.trans e1)
      omega
    · rintro ⟨y, k, hy, hk, -, e2, -⟩
      rw [e2] at q2
      exact jI_neg (by omega) q2
    · rcases hh with z | ⟨hxN, hr, z | ⟨k, hk, hlt, ek, es⟩⟩
      · omega
      · rw [z] at q2; exact absurd (by decide) q2
      rw [ek, jt6, jI_mul, jI_add, jI_in (by omega), jI_nat (by omega), show 6 * x + k = x * 6 + k by omega, hkk x hxN k hk hlt]
      refine ⟨hm6, hm6, by omega, fun q3 => nc ?_, fun q3 => ⟨hm6, hm6, by omega, fun v hv => ?_⟩⟩
      · rintro ⟨y, j, hy, hj, e1, e2, e3⟩
        have := (jI_eq (by omega) (by omega)).mp (ex.symm.trans e1)
        subst this
        have := (jI_eq (by omega) (by omega)).mp (ek.symm.trans e2)
        subst this
        exact q3 e3
      · have cp := F.copy hN0 hN V hm hxN hk ex ek q3
        rw [hW x hxN k hk hlt q3, cp.2.2.2.1] at hv
        subst hv
        rw [rt_copy hN0 hN F V hm ⟨x, k, hxN, hk, ex, ek, q3⟩] at hpost
        exact ih _ cp.2.2.2.2.1 (by omega) hpost
/-- what 'behind' makes of a use that is there -/
theorem behindU_sp (hN0 : 0 < N) (hN : N ≤ 12) (hkd : ∀ b, b < N → ∃ k, k ≤ 6 ∧ stepCount b = nI k ∧ mMany b = nI k) (hkk : ∀ b, b < N → ∀ k, k < 6 → nI k < stepCount b → mKinds (b * 6 + k) = kind (b * 6 + k)) (F : FR N stepCount kind forkVariable yes no meetingNames meetingUses stepNames firstUses secondUses endUses homeBlock homePlace mMeets mSources mSet mUseW mUseX mEndUse mGone mIsName mNameBlock mNameStep) (V : (∀ b, b < N → VB N (gsc N yes no) stepCount homeBlock homePlace firstUses secondUses endUses b ∧ VM N (gsc N yes no) homeBlock homePlace meetingUses b)) {W : Nat → Int32} (hW : (∀ x, x < N → ∀ k, k < 6 → nI k < stepCount x → kind (x * 6 + k) = 1 → W (x * 6 + k) = firstUses (x * 6 + k))) {u : Int32} (hu : useOK homeBlock u) (hu1 : ¬ u = -1) {post : Int32 → Prop} (hp : ∀ x, rU N kind homeBlock homePlace firstUses u x → post x) : wpMd_behind N mKinds W mNameBlock mNameStep u post := by
  rcases hu.ex with z | ⟨m, hm, rfl⟩
  · exact absurd z hu1
  · have := mu_le hN0 hN F hm
    exact ⟨100 + 1, behind_sp hN0 hN hkd hkk F V hW 100 m hm (by omega) (hp _ (Or.inr ⟨m, hm, rfl, rfl⟩))⟩
/-- W while the uses are replaced: those of the steps of pr are done -/
def PWI (N : Nat) (stepCount kind hb hp fu su : Nat → Int32) (pr : Nat → Nat → Prop) (W X : Nat → Int32) : Prop := ∀ c, c < N → ∀ k, k < 6 → (pr c k → nI k < stepCount c → (kind (c * 6 + k) = 1 → W (c * 6 + k) = fu (c * 6 + k)) ∧ (¬ kind (c * 6 + k) = 1 → rU N kind hb hp fu (fu (c * 6 + k)) (W (c * 6 + k))) ∧ rU N kind hb hp fu (su (c * 6 + k)) (X (c * 6 + k))) ∧ (¬ (pr c k ∧ nI k < stepCount c) → W (c * 6 + k) = fu (c * 6 + k) ∧ X (c * 6 + k) = su (c * 6 + k))
theorem PWI.wc {hb hp fu su : Nat → Int32} {pr : Nat → Nat → Prop} {W X : Nat → Int32} (h : PWI N stepCount kind hb hp fu su pr W X) : ∀ x, x < N → ∀ k, k < 6 → nI k < stepCount x → kind (x * 6 + k) = 1 → W (x * 6 + k) = fu (x * 6 + k) := by
  intro x hx k hk hlt hkd
  by_cases z : pr x k
  · exact ((h x hx k hk).1 z hlt).1 hkd
  · exact ((h x hx k hk).2 fun w => z w.1).1
theorem pp_steps (hN0 : 0 < N) (hN : N ≤ 12) (hkd : ∀ b, b < N → ∃ k, k ≤ 6 ∧ stepCount b = nI k ∧ mMany b = nI k) (hkk : ∀ b, b < N → ∀ k, k < 6 → nI k < stepCount b → mKinds (b * 6 + k) = kind (b * 6 + k)) (F : FR N stepCount kind forkVariable yes no meetingNames meetingUses stepNames firstUses secondUses endUses homeBlock homePlace mMeets mSources mSet mUseW mUseX mEndUse mGone mIsName mNameBlock mNameStep) (V : (∀ b, b < N → VB N (gsc N yes no) stepCount homeBlock homePlace firstUses secondUses endUses b ∧ VM N (gsc N yes no) homeBlock homePlace meetingUses b)) {b : Nat} (hb : b < N) {K : Int32 → (Nat → Int32) → (Nat → Int32) → Prop} (hK : ∀ W X, PWI N stepCount kind homeBlock homePlace firstUses secondUses (fun c _ => c < b + 1) W X → ∀ y, K y W X) {n : Nat} (hn : n ≤ 6) (en : stepCount b = nI n) :
    ∀ (d i : Nat) (W X : Nat → Int32), i + d = n → PWI N stepCount kind homeBlock homePlace firstUses secondUses (fun c k => c < b ∨ (c = b ∧ k < i)) W X → lpMd_propagate_80 N (nI b) mMany mKinds mNameBlock mNameStep K (d + 1) (nI (6 * b + i)) W X := by
  have em : mMany b = nI n := by
    obtain ⟨k, -, h1, h2⟩ := hkd b hb
    rw [h2, ← h1, en]
  intro d
  induction d with
  | zero =>
    intro i W X hi h
    unfold lpMd_propagate_80
    rw [jI_in (by omega), jI_nat (by omega), em, jt6, jI_mul, jI_add, show i = n by omega]
    refine ⟨by omega, fun _ => hK W X (fun c hc k hk => ⟨fun z hlt => (h c hc k hk).1 ?_ hlt, fun z => (h c hc k hk).2 fun w => z ⟨?_, w.2⟩⟩) _, fun q => absurd (Int32.le_refl _) q⟩
    · by_cases e : c = b
      · subst e
        rw [en, jI_lt (by omega) (by omega)] at hlt
        exact Or.inr ⟨rfl, by omega⟩
      · exact Or.inl (by omega)
    · rcases w.1 with w | w <;> omega
  | succ d ih =>
    intro i W X hi h
    have hi6 : i < 6 := by omega
    have hlt : nI i < stepCount b := by rw [en, jI_lt (by omega) (by omega)]; omega
    have us := F.us b hb i hi6
    have old := (h b hb i hi6).2 (fun z => by rcases z.1 with w | w <;> omega)
    unfold lpMd_propagate_80
    rw [jI_in (by omega), jI_nat (by omega), em, jt6, jI_mul, jI_add]
    refine ⟨by omega, fun q => ?_, fun _ => ?_⟩
    · rw [jI_le (by omega) (by omega)] at q; omega
    rw [jI_in (by omega), jI_nat (by omega), jI_one, show 6 * b + i = b * 6 + i by omega, show b * 6 + i + 1 = 6 * b + (i + 1) by omega, old.1, old.2, hkk b hb i hi6 hlt]
    have go : ∀ t r, (kind (b * 6 + i) = 1 → t = firstUses (b * 6 + i)) → (¬ kind (b * 6 + i) = 1 → rU N kind homeBlock homePlace firstUses (firstUses (b * 6 + i)) t) → rU N kind homeBlock homePlace firstUses (secondUses (b * 6 + i)) r → lpMd_propagate_80 N (nI b) mMany mKinds mNameBlock mNameStep K (d + 1) (nI (6 * b + (i + 1))) (upd W (b * 6 + i) t) (upd X (b * 6 + i) r) := by
      intro t r h1 h2 h3
      refine ih (i + 1) _ _ (by omega) fun c hc k hk => ?_
      by_cases e : c * 6 + k = b * 6 + i
      · have e1 : c = b := by omega
        have e2 : k = i := by omega
        subst e1 e2
        rw [upd_same, upd_same]
        exact ⟨fun _ _ => ⟨h1, h2, h3⟩, fun z => absurd ⟨Or.inr ⟨rfl, by omega⟩, hlt⟩ z⟩
      · rw [upd_other _ _ e, upd_other _ _ e]
        have hcj : ¬ (c = b ∧ k = i) := fun z => e (by rw [z.1, z.2])
        refine ⟨fun z => (h c hc k hk).1 ?_, fun z => (h c hc k hk).2 fun w => z ⟨?_, w.2⟩⟩
        · rcases z with z | z
          · exact Or.inl z
          · exact Or.inr ⟨z.1, by omega⟩
        · rcases w.1 with w | w
          · exact Or.inl w
          · exact Or.inr ⟨w.1, by omega⟩
    have hWt : ∀ t, (kind (b * 6 + i) = 1 → t = firstUses (b * 6 + i)) → ∀ x, x < N → ∀ k, k < 6 → nI k < stepCount x → kind (x * 6 + k) = 1 → upd W (b * 6 + i) t (x * 6 + k) = firstUses (x * 6 + k) := by
      intro t ht x hx k hk hlt2 hkd2
      by_cases e : x * 6 + k = b * 6 + i
      · rw [e, upd_same]; rw [e] at hkd2; exact ht hkd2
      · rw [upd_other _ _ e]; exact h.wc x hx k hk hlt2 hkd2
    have nn : ∀ {u : Int32}, useOK homeBlock u → (0 ≤ u ↔ ¬ u = -1) := fun {u} hu => by
      rcases hu.ex with rfl | ⟨m, hm, rfl⟩
      · exact ⟨fun z => absurd z (by decide), fun z => absurd rfl z⟩
      · have := hm.1
        exact ⟨fun _ => jI_m1 (by omega), fun _ => by rw [jt0, jI_le (by omega) (by omega)]; omega⟩
    refine ⟨by omega, fun t => (kind (b * 6 + i) = 1 → t = firstUses (b * 6 + i)) ∧ (¬ kind (b * 6 + i) = 1 → rU N kind homeBlock homePlace firstUses (firstUses (b * 6 + i)) t), fun t ht => ⟨by omega, by omega, fun q => ⟨by omega, ?_⟩, fun q => ⟨by omega, go t (-1) ht.1 ht.2 (Or.inl ⟨?_, rfl⟩)⟩⟩, kind (b * 6 + i) = 1 ∨ firstUses (b * 6 + i) = -1, fun q => ⟨by omega, fun _ => rfl, fun z => ?_⟩, fun q => Or.inr ((neg_1 us.2.2.1).mp q), fun q => ⟨by omega, fun q2 => ⟨by omega, ?_⟩, fun q2 => Or.inl q2⟩⟩
    · exact behindU_sp hN0 hN hkd hkk F V (hWt t ht.1) us.2.2.2.1 ((nn us.2.2.2.1).mp q) fun x hx => ⟨by omega, go t x ht.1 ht.2 hx⟩
    · exact Classical.byContradiction fun z => q ((nn us.2.2.2.1).mpr z)
    · rcases q with q | q
      · exact absurd q z
      · rw [q]; exact Or.inl ⟨rfl, rfl⟩
    · exact behindU_sp hN0 hN hkd hkk F V h.wc us.2.2.1 (fun z => q (by rw [z]; decide)) fun x hx => ⟨fun z => absurd z q2, fun _ => hx⟩
/-- the sources: those of the meetings pr are done -/
def PSI (N : Nat) (kind hb hp fu mn mu S0 : Nat → Int32) (pr : Nat → Nat → Nat → Prop) (S : Nat → Int32) : Prop := ∀ b, b < N → ∀ v, v < 6 → ∀ p, p ≤ N → ¬ mn (b * 6 + v) = -1 → (pr b v p → rU N kind hb hp fu (mu ((b * 6 + v) * (N + 1) + p)) (S (13 * (b * 6 + v) + p))) ∧ (¬ pr b v p → S (13 * (b * 6 + v) + p) = S0 (13 * (b * 6 + v) + p))
theorem nn_use {u : Int32} (hu : useOK homeBlock u) : 0 ≤ u ↔ ¬ u = -1 := by
  rcases hu.ex with rfl | ⟨m, hm, rfl⟩
  · exact ⟨fun z => absurd z (by decide), fun z => absurd rfl z⟩
  · have := hm.1
    exact ⟨fun _ => jI_m1 (by omega), fun _ => by rw [jt0, jI_le (by omega) (by omega)]; omega⟩
theorem pp_src1 (hN0 : 0 < N) (hN : N ≤ 12) (hkd : ∀ b, b < N → ∃ k, k ≤ 6 ∧ stepCount b = nI k ∧ mMany b = nI k) (hkk : ∀ b, b < N → ∀ k, k < 6 → nI k < stepCount b → mKinds (b * 6 + k) = kind (b * 6 + k)) (F : FR N stepCount kind forkVariable yes no meetingNames meetingUses stepNames firstUses secondUses endUses homeBlock homePlace mMeets mSources mSet mUseW mUseX mEndUse mGone mIsName mNameBlock mNameStep) (V : (∀ b, b < N → VB N (gsc N yes no) stepCount homeBlock homePlace firstUses secondUses endUses b ∧ VM N (gsc N yes no) homeBlock homePlace meetingUses b)) {W : Nat → Int32} (hW : (∀ x, x < N → ∀ k, k < 6 → nI k < stepCount x → kind (x * 6 + k) = 1 → W (x * 6 + k) = firstUses (x * 6 + k))) {b v : Nat} (hb : b < N) (hv : v < 6) {K : Int32 → (Nat → Int32) → Prop} (hK : ∀ S, PSI N kind homeBlock homePlace firstUses meetingNames meetingUses mSources (fun c w _ => c * 6 + w < b * 6 + v + 1) S → ∀ y, K y S) :
    ∀ (d i : Nat) (S : Nat → Int32), i + d = N + 1 → PSI N kind homeBlock homePlace firstUses meetingNames meetingUses mSources (fun c w p => c * 6 + w < b * 6 + v ∨ (c * 6 + w = b * 6 + v ∧ p < i)) S → lpMd_propagate_184 N (nI b) (nI v) mKinds mMeets W mNameBlock mNameStep K (d + 1) (nI i) S := by
  have mt := F.mt b hb v hv
  intro d
  induction d with
  | zero =>
    intro i S hi h
    have : i = N + 1 := by omega
    subst this
    refine ⟨fun _ => hK S (fun c hc w hw p hp hm => ⟨fun z => (h c hc w hw p hp hm).1 (by omega), fun z => (h c hc w hw p hp hm).2 (by omega)⟩) _, fun q => ?_⟩
    rw [jI_lt (by omega) (by omega)] at q; omega
  | succ d ih =>
    intro i S hi h
    refine ⟨fun q => ?_, fun _ => ?_⟩
    · rw [jI_lt (by omega) (by omega)] at q; omega
    rw [jt6, jI_mul, jI_add, show 6 * b + v = b * 6 + v by omega, show (13 : Int32) = nI 13 from rfl, jI_mul, jI_add, jI_in (show b * 6 + v < 2147483648 by omega), jI_nat (show b * 6 + v < 2147483648 by omega), mt.1, jI_one]
    refine ⟨by omega, fun q => hK S (fun c hc w hw p hp hm => ?_) _, fun q x hx => ?_⟩
    · have hmn : meetingNames (b * 6 + v) = -1 := by
        rcases mt.2 with z | ⟨-, m, hm, e, -⟩
        · exact z
        · rw [e] at q; exact absurd q (jI_neg (by omega))
      have hne : c * 6 + w ≠ b * 6 + v := fun e => hm (by rw [e]; exact hmn)
      exact ⟨fun z => (h c hc w hw p hp hm).1 (by omega), fun z => (h c hc w hw p hp hm).2 (by omega)⟩
    · subst hx
      have hne : ¬ meetingNames (b * 6 + v) = -1 := fun w => q (by rw [w]; decide)
      have so := F.so b hb v hv i (by omega)
      have old := (h b hb v hv i (by omega) hne).2 (by omega)
      rw [jI_in (by omega), jI_nat (by omega), old, (so.2.1 hne).1, nn_use so.2.2.2]
      have go : ∀ x, rU N kind homeBlock homePlace firstUses (meetingUses ((b * 6 + v) * (N + 1) + i)) x → lpMd_propagate_184 N (nI b) (nI v) mKinds mMeets W mNameBlock mNameStep K (d + 1) (nI (i + 1)) (upd S (13 * (b * 6 + v) + i) x) := by
        intro x hx
        refine ih (i + 1) _ (by omega) fun c hc w hw p hp hm => ?_
        by_cases e : 13 * (c * 6 + w) + p = 13 * (b * 6 + v) + i
        · have e1 : c = b := by omega
          have e2 : w = v := by omega
          have e3 : p = i := by omega
          subst e1 e2 e3
          rw [upd_same]
          exact ⟨fun _ => hx, fun z => absurd (Or.inr ⟨rfl, by omega⟩) z⟩
        · rw [upd_other _ _ e]
          exact ⟨fun z => (h c hc w hw p hp hm).1 (by omega), fun z => (h c hc w hw p hp hm).2 (by omega)⟩
      refine ⟨by omega, fun q2 => ⟨by omega, behindU_sp hN0 hN hkd hkk F V hW so.2.2.2 q2 fun x hx => ⟨by omega, go x hx⟩⟩, fun q2 => ⟨by omega, go _ (Or.inl ⟨Classical.not_not.mp q2, rfl⟩)⟩⟩
theorem pp_src (hN0 : 0 < N) (hN : N ≤ 12) (hkd : ∀ b, b < N → ∃ k, k ≤ 6 ∧ stepCount b = nI k ∧ mMany b = nI k) (hkk : ∀ b, b < N → ∀ k, k < 6 → nI k < stepCount b → mKinds (b * 6 + k) = kind (b * 6 + k)) (F : FR N stepCount kind forkVariable yes no meetingNames meetingUses stepNames firstUses secondUses endUses homeBlock homePlace mMeets mSources mSet mUseW mUseX mEndUse mGone mIsName mNameBlock mNameStep) (V : (∀ b, b < N → VB N (gsc N yes no) stepCount homeBlock homePlace firstUses secondUses endUses b ∧ VM N (gsc N yes no) homeBlock homePlace meetingUses b)) {W : Nat → Int32} (hW : (∀ x, x < N → ∀ k, k < 6 → nI k < stepCount x → kind (x * 6 + k) = 1 → W (x * 6 + k) = firstUses (x * 6 + k))) {b : Nat} (hb : b < N) {K : Int32 → (Nat → Int32) → Prop} (hK : ∀ S, PSI N kind homeBlock homePlace firstUses meetingNames meetingUses mSources (fun c w _ => c * 6 + w < (b + 1) * 6) S → ∀ y, K y S) :
    ∀ (d i : Nat) (S : Nat → Int32), i + d = 6 → PSI N kind homeBlock homePlace firstUses meetingNames meetingUses mSources (fun c w _ => c * 6 + w < b * 6 + i) S → lpMd_propagate_176 N (nI b) mKinds mMeets W mNameBlock mNameStep K (d + 1) (nI i) S := by
  intro d
  induction d with
  | zero =>
    intro i S hi h
    have : i = 6 := by omega
    subst this
    exact ⟨fun _ => hK S (fun c hc w hw p hp hm => ⟨fun z => (h c hc w hw p hp hm).1 (by omega), fun z => (h c hc w hw p hp hm).2 (by omega)⟩) _, fun q => absurd (Int32.le_refl _) q⟩
  | succ d ih =>
    intro i S hi h
    refine ⟨fun q => ?_, fun _ => ⟨N + 1 + 1, ?_⟩⟩
    · rw [jt6, jI_le (by omega) (by omega)] at q; omega
    · rw [jI_one]
      exact pp_src1 hN0 hN hkd hkk F V hW hb (by omega) (fun S' h' x => ih (i + 1) S' (by omega) h') (N + 1) 0 S (by omega) (fun c hc w hw p hp hm => ⟨fun z => (h c hc w hw p hp hm).1 (by omega), fun z => (h c hc w hw p hp hm).2 (by omega)⟩)
theorem pp_all (hN0 : 0 < N) (hN : N ≤ 12) (hkd : ∀ b, b < N → ∃ k, k ≤ 6 ∧ stepCount b = nI k ∧ mMany b = nI k) (hkk : ∀ b, b < N → ∀ k, k < 6 → nI k < stepCount b → mKinds (b * 6 + k) = kind (b * 6 + k)) (F : FR N stepCount kind forkVariable yes no meetingNames meetingUses stepNames firstUses secondUses endUses homeBlock homePlace mMeets mSources mSet mUseW mUseX mEndUse mGone mIsName mNameBlock mNameStep) (V : (∀ b, b < N → VB N (gsc N yes no) stepCount homeBlock homePlace firstUses secondUses endUses b ∧ VM N (gsc N yes no) homeBlock homePlace meetingUses b)) {K : Int32 → (Nat → Int32) → (Nat → Int32) → (Nat → Int32) → (Nat → Int32) → Prop} (hK : ∀ S W X E, PSI N kind homeBlock homePlace firstUses meetingNames meetingUses mSources (fun _ _ _ => True) S → PWI N stepCount kind homeBlock homePlace firstUses secondUses (fun _ _ => True) W X → (∀ c, c < N → rU N kind homeBlock homePlace firstUses (endUses c) (E c)) → ∀ y, K y S W X E) :
    ∀ (d i : Nat) (S W X E : Nat → Int32), i + d = N → PSI N kind homeBlock homePlace firstUses meetingNames meetingUses mSources (fun c w _ => c * 6 + w < i * 6) S → PWI N stepCount kind homeBlock homePlace firstUses secondUses (fun c _ => c < i) W X → (∀ c, c < N → (c < i → rU N kind homeBlock homePlace firstUses (endUses c) (E c)) ∧ (¬ c < i → E c = endUses c)) → lpMd_propagate_38 N mMany mKinds mMeets mNameBlock mNameStep K (d + 1) (nI i) S W X E := by
  intro d
  induction d with
  | zero =>
    intro i S W X E hi h1 h2 h3
    have : i = N := by omega
    subst this
    exact ⟨fun _ => hK S W X E (fun c hc w hw p hp hm => ⟨fun _ => (h1 c hc w hw p hp hm).1 (by omega), fun z => absurd trivial z⟩) (fun c hc k hk => ⟨fun _ hlt => (h2 c hc k hk).1 hc hlt, fun z => (h2 c hc k hk).2 fun w => z ⟨trivial, w.2⟩⟩) (fun c hc => (h3 c hc).1 hc) _, fun q => absurd (Int32.le_refl _) q⟩
  | succ d ih =>
    intro i S W X E hi h1 h2 h3
    have hiN : i < N := by omega
    have eu := F.eu i hiN
    obtain ⟨n, hn, en, -⟩ := hkd i hiN
    refine ⟨fun q => ?_, fun _ => ?_⟩
    · rw [jI_le (by omega) (by omega)] at q; omega
    rw [jI_in (by omega), jI_nat (by omega), jI_one, (h3 i hiN).2 (by omega), nn_use eu.2.1]
    refine ⟨by omega, fun t => rU N kind homeBlock homePlace firstUses (endUses i) t, fun t ht => ⟨by omega, fun v hv => ⟨n + 1, ?_⟩⟩, fun q => ⟨by omega, behindU_sp hN0 hN hkd hkk F V h2.wc eu.2.1 q fun x hx => hx⟩, fun q => Or.inl ⟨Classical.not_not.mp q, rfl⟩⟩
    rw [jt6, jI_mul] at hv
    subst hv
    refine pp_steps hN0 hN hkd hkk F V hiN (fun W' X' h' y => ⟨6 + 1, ?_⟩) hn en n 0 W X (by omega) (fun c hc k hk => ⟨fun z => (h2 c hc k hk).1 (by omega), fun z => (h2 c hc k hk).2 fun w => z ⟨Or.inl w.1, w.2⟩⟩)
    refine pp_src hN0 hN hkd hkk F V h'.wc hiN (fun S' hS' y => ih (i + 1) S' W' X' _ (by omega) hS' h' (fun c hc => ?_)) 6 0 S (by omega) (fun c hc w hw p hp hm => ⟨fun z => (h1 c hc w hw p hp hm).1 (by omega), fun z => (h1 c hc w hw p hp hm).2 (by omega)⟩)
    by_cases e : c = i
    · subst e; rw [upd_same]; exact ⟨fun _ => ht, fun z => by omega⟩
    · rw [upd_other _ _ e]; exact ⟨fun z => (h3 c hc).1 (by omega), fun z => (h3 c hc).2 (by omega)⟩
end PM
