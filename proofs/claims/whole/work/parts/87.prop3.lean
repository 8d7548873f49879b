/-! propagate: the copies go, and the relation afterwards -/
def P2I (N : Nat) (stepCount kind set0 W0 : Nat → Int32) (gone0 isn0 : Nat → Bool) (n g : Nat) (set W : Nat → Int32) (gone isn : Nat → Bool) : Prop :=
  (∀ i, i < 72 → (i < n ∧ isC N stepCount kind i ∧ ¬ set0 i = -1 → set i = -1 ∧ W i = -1 ∧ gone i = true) ∧ (¬ (i < n ∧ isC N stepCount kind i ∧ ¬ set0 i = -1) → set i = set0 i ∧ W i = W0 i ∧ gone i = gone0 i)) ∧
  (∀ m, m < 600 → ((∃ i, i < n ∧ isC N stepCount kind i ∧ set0 i = nI m) → isn m = false) ∧ ((∀ i, i < n → isC N stepCount kind i → ¬ set0 i = nI m) → isn m = isn0 m)) ∧ g + ccn N stepCount kind set 72 = ccn N stepCount kind set0 72
section P2
variable {N : Nat} {stepCount kind forkVariable yes no meetingNames meetingUses stepNames firstUses secondUses endUses homeBlock homePlace mMeets mSources mSet mUseW mUseX mEndUse : Nat → Int32} {mGone mIsName : Nat → Bool} {mNameBlock mNameStep : Nat → Int32} {mMany mKinds : Nat → Int32}
theorem FR.setAt (hN : N ≤ 12) (F : FR N stepCount kind forkVariable yes no meetingNames meetingUses stepNames firstUses secondUses endUses homeBlock homePlace mMeets mSources mSet mUseW mUseX mEndUse mGone mIsName mNameBlock mNameStep) {i : Nat} (hi : i < 72) (h : ¬ mSet i = -1) : ∃ b k, b < N ∧ k < 6 ∧ nI k < stepCount b ∧ i = b * 6 + k ∧ mSet i = stepNames i ∧ ∃ m, m < 600 ∧ mSet i = nI m ∧ homeBlock m = nI b ∧ homePlace m = nI k := by
  have : ∃ b k, b < N ∧ k < 6 ∧ nI k < stepCount b ∧ i = b * 6 + k := by
    refine Classical.byContradiction fun z => h (F.sx i hi fun b hb k hk hlt e => z ⟨b, k, hb, hk, hlt, e⟩)
  obtain ⟨b, k, hb, hk, hlt, e⟩ := this
  subst e
  have se := F.se b hb k hk hlt
  rcases se.2 with z | ⟨m, hm, e1, e2, e3⟩
  · rw [se.1] at h; exact absurd z h
  · exact ⟨b, k, hb, hk, hlt, rfl, se.1, m, hm, se.1.trans e1, e2, e3⟩
theorem pp_drop (hN0 : 0 < N) (hN : N ≤ 12) (hkd : ∀ b, b < N → ∃ k, k ≤ 6 ∧ stepCount b = nI k ∧ mMany b = nI k) (hkk : ∀ b, b < N → ∀ k, k < 6 → nI k < stepCount b → mKinds (b * 6 + k) = kind (b * 6 + k)) (F : FR N stepCount kind forkVariable yes no meetingNames meetingUses stepNames firstUses secondUses endUses homeBlock homePlace mMeets mSources mSet mUseW mUseX mEndUse mGone mIsName mNameBlock mNameStep) {thr R : Int32} {D S X E W0 : Nat → Int32} {post : Int32 → Int32 → Int32 → (Nat → Int32) → (Nat → Int32) → (Nat → Int32) → (Nat → Int32) → (Nat → Int32) → (Nat → Int32) → (Nat → Bool) → (Nat → Bool) → Prop} (hp : ∀ set W gone isn, P2I N stepCount kind mSet W0 mGone mIsName 72 (ccn N stepCount kind mSet 72) set W gone isn → post (nI (ccn N stepCount kind mSet 72)) thr R D S set W X E gone isn) :
    ∀ (d i g : Nat) (set W : Nat → Int32) (gone isn : Nat → Bool), i + d = 72 → P2I N stepCount kind mSet W0 mGone mIsName i g set W gone isn → lpMd_propagate_273 thr R mKinds D S X E post (d + 1) (nI g) (nI i) set W gone isn := by
  intro d
  induction d with
  | zero =>
    intro i g set W gone isn hi h
    have : i = 72 := by omega
    subst this
    refine ⟨fun _ => ?_, fun q => absurd (Int32.le_refl _) q⟩
    have hz : ccn N stepCount kind set 72 = 0 := ccn_zero fun j hj hc => by
      by_cases z : mSet j = -1
      · rw [((h.1 j hj).2 fun w => w.2.2 z).1, z]
      · exact ((h.1 j hj).1 ⟨hj, hc, z⟩).1
    have hg := h.2.2
    rw [hz, Nat.add_zero] at hg
    rw [hg] at h ⊢
    exact hp set W gone isn h
  | succ d ih =>
    intro i g set W gone isn hi h
    have old := (h.1 i (by omega)).2 (fun z => by omega)
    refine ⟨fun q => ?_, fun _ => ?_⟩
    · rw [show (72 : Int32) = nI 72 from rfl, jI_le (by omega) (by omega)] at q; omega
    rw [jI_in (by omega), jI_nat (by omega), jI_one, old.1]
    have skip : ¬ (isC N stepCount kind i ∧ ¬ mSet i = -1) → P2I N stepCount kind mSet W0 mGone mIsName (i + 1) g set W gone isn := by
      intro hs
      refine ⟨fun j hj => ⟨fun z => (h.1 j hj).1 ⟨?_, z.2⟩, fun z => (h.1 j hj).2 fun w => z ⟨by omega, w.2⟩⟩, fun m hm => ⟨fun ⟨j, h1, h2, h3⟩ => (h.2.1 m hm).1 ⟨j, ?_, h2, h3⟩, fun z => (h.2.1 m hm).2 fun j hj => z j (by omega)⟩, h.2.2⟩
      · by_cases e : j = i
        · subst e; exact absurd z.2 hs
        · omega
      · by_cases e : j = i
        · subst e; exact absurd ⟨h2, by rw [h3]; exact jI_m1 (by omega)⟩ hs
        · omega
    refine ⟨by omega, fun q => ih (i + 1) g set W gone isn (by omega) (skip fun z => ?_), fun q => ⟨by omega, fun q2 => ih (i + 1) g set W gone isn (by omega) (skip fun z => ?_), fun q2 => ?_⟩⟩
    · obtain ⟨b, k, -, -, -, -, -, m, hm, em, -⟩ := F.setAt hN (by omega) z.2
      rw [em] at q; exact jI_neg (by omega) q
    · obtain ⟨⟨b, k, hb, hk, hlt, e, hkd2⟩, -⟩ := z
      rw [e] at q2 hkd2
      rw [hkk b hb k hk hlt] at q2
      exact q2 hkd2
    · have hne : ¬ mSet i = -1 := fun z => q (by rw [z]; decide)
      obtain ⟨b, k, hb, hk, hlt, e, es, m, hm, em, eb, ep⟩ := F.setAt hN (by omega) hne
      have hcI : isC N stepCount kind i := ⟨b, k, hb, hk, hlt, e, by rw [e] at q2 ⊢; rw [hkk b hb k hk hlt] at q2; exact q2⟩
      rw [em, jI_in (by omega), jI_nat (by omega), jI_one g]
      refine ⟨by omega, hm, by omega, by omega, by omega, ih (i + 1) (g + 1) _ _ _ _ (by omega) ⟨fun j hj => ?_, fun m' hm' => ?_, ?_⟩⟩
      · by_cases e2 : j = i
        · subst e2
          rw [upd_same, upd_same, updB_same]
          exact ⟨fun _ => ⟨rfl, rfl, rfl⟩, fun z => absurd ⟨by omega, hcI, hne⟩ z⟩
        · rw [upd_other _ _ e2, upd_other _ _ e2, updB_other _ _ e2]
          exact ⟨fun z => (h.1 j hj).1 ⟨by omega, z.2⟩, fun z => (h.1 j hj).2 fun w => z ⟨by omega, w.2⟩⟩
      · by_cases e2 : m' = m
        · subst e2
          rw [updB_same]
          exact ⟨fun _ => rfl, fun z => absurd em (z i (by omega) hcI)⟩
        · rw [updB_other _ _ e2]
          refine ⟨fun ⟨j, h1, h2, h3⟩ => (h.2.1 m' hm').1 ⟨j, ?_, h2, h3⟩, fun z => (h.2.1 m' hm').2 fun j hj => z j (by omega)⟩
          by_cases e3 : j = i
          · subst e3
            rw [em] at h3
            exact absurd ((jI_eq (by omega) (by omega)).mp h3).symm e2
          · omega
      · have h3 := h.2.2
        have := ccn_upd (N := N) (stepCount := stepCount) (kind := kind) (S := set) (i := i) hcI (by rw [old.1]; exact hne) 72
        rw [if_pos (by omega)] at this
        omega
theorem rU.ok (hN0 : 0 < N) (hN : N ≤ 12) (F : FR N stepCount kind forkVariable yes no meetingNames meetingUses stepNames firstUses secondUses endUses homeBlock homePlace mMeets mSources mSet mUseW mUseX mEndUse mGone mIsName mNameBlock mNameStep) (V : (∀ b, b < N → VB N (gsc N yes no) stepCount homeBlock homePlace firstUses secondUses endUses b ∧ VM N (gsc N yes no) homeBlock homePlace meetingUses b)) {hb' : Nat → Int32} (hhb : ∀ m, m < 600 → (¬ (Ex homeBlock m ∧ cpy N kind homeBlock homePlace m) → hb' m = homeBlock m)) {u x : Int32} (h : rU N kind homeBlock homePlace firstUses u x) : useOK hb' x ∧ (u = -1 ↔ x = -1) := by
  rcases h with ⟨rfl, rfl⟩ | ⟨m, hm, rfl, rfl⟩
  · exact ⟨Or.inl rfl, Iff.rfl⟩
  · have := mu_le hN0 hN F hm
    have ri := rt_is hN0 hN F V 100 m hm (by omega)
    have h1 := hm.1
    have h2 := ri.1.1
    refine ⟨Or.inr ⟨_, h2, rfl, ?_⟩, fun q => absurd q (jI_m1 (by omega)), fun q => absurd q (jI_m1 (by omega))⟩
    rw [hhb _ h2 fun z => ri.2 z.2]
    exact ri.1.2
theorem FR.propagated (hN0 : 0 < N) (hN : N ≤ 12) (F : FR N stepCount kind forkVariable yes no meetingNames meetingUses stepNames firstUses secondUses endUses homeBlock homePlace mMeets mSources mSet mUseW mUseX mEndUse mGone mIsName mNameBlock mNameStep) (V : (∀ b, b < N → VB N (gsc N yes no) stepCount homeBlock homePlace firstUses secondUses endUses b ∧ VM N (gsc N yes no) homeBlock homePlace meetingUses b)) {mu SN fu su eu hb S set W W1 X E : Nat → Int32} {gone isn : Nat → Bool} {g : Nat}
    (a1 : ∀ c, c < N → ∀ j, j < 6 → (nI j < stepCount c ∧ kind (c * 6 + j) = 1 → SN (c * 6 + j) = -1 ∧ fu (c * 6 + j) = -1) ∧ (¬ (nI j < stepCount c ∧ kind (c * 6 + j) = 1) → SN (c * 6 + j) = stepNames (c * 6 + j) ∧ rU N kind homeBlock homePlace firstUses (firstUses (c * 6 + j)) (fu (c * 6 + j))) ∧ rU N kind homeBlock homePlace firstUses (secondUses (c * 6 + j)) (su (c * 6 + j))) (a2 : ∀ c, c < N → rU N kind homeBlock homePlace firstUses (endUses c) (eu c)) (a3 : ∀ b, b < N → ∀ v, v < 6 → ∀ p, p ≤ N → rU N kind homeBlock homePlace firstUses (meetingUses ((b * 6 + v) * (N + 1) + p)) (mu ((b * 6 + v) * (N + 1) + p))) (a4 : ∀ m, m < 600 → (Ex homeBlock m ∧ cpy N kind homeBlock homePlace m → hb m = -1) ∧ (¬ (Ex homeBlock m ∧ cpy N kind homeBlock homePlace m) → hb m = homeBlock m))
    (b1 : PSI N kind homeBlock homePlace firstUses meetingNames meetingUses mSources (fun _ _ _ => True) S) (b2 : PWI N stepCount kind homeBlock homePlace firstUses secondUses (fun _ _ => True) W1 X) (b3 : ∀ c, c < N → rU N kind homeBlock homePlace firstUses (endUses c) (E c)) (b4 : P2I N stepCount kind mSet W1 mGone mIsName 72 g set W gone isn) : FR N stepCount kind forkVariable yes no meetingNames mu SN fu su eu hb homePlace mMeets S set W X E gone isn mNameBlock mNameStep := by
  have hok : ∀ {u x : Int32}, rU N kind homeBlock homePlace firstUses u x → useOK hb x ∧ (u = -1 ↔ x = -1) := fun h => rU.ok hN0 hN F V (fun m hm => (a4 m hm).2) h
  have icp : ∀ b, b < N → ∀ k, k < 6 → (nI k < stepCount b ∧ kind (b * 6 + k) = 1 ↔ isC N stepCount kind (b * 6 + k)) := by
    intro b hb2 k hk
    constructor
    · exact fun z => ⟨b, k, hb2, hk, z.1, rfl, z.2⟩
    · rintro ⟨b', k', hb', hk', hlt, e, z⟩
      have e1 : b = b' := by omega
      have e2 : k = k' := by omega
      subst e1 e2
      exact ⟨hlt, z⟩
  have mc : ∀ m, m < 600 → ((Ex homeBlock m ∧ cpy N kind homeBlock homePlace m) ↔ ∃ i, i < 72 ∧ isC N stepCount kind i ∧ mSet i = nI m) := by
    intro m hm
    constructor
    · rintro ⟨hE, x, k, hx, hk, e1, e2, e3⟩
      have cp := F.copy hN0 hN V hE hx hk e1 e2 e3
      exact ⟨x * 6 + k, by omega, ⟨x, k, hx, hk, cp.2.1, rfl, e3⟩, (F.se x hx k hk cp.2.1).1.trans cp.2.2.1⟩
    · rintro ⟨i, hi, ⟨x, k, hx, hk, hlt, e, e3⟩, es⟩
      subst e
      have se := F.se x hx k hk hlt
      rw [se.1] at es
      rcases se.2 with z | ⟨m', hm', w1, w2, w3⟩
      · rw [z] at es; exact absurd es.symm (jI_m1 (by omega))
      · have := (jI_eq (by omega) (by omega)).mp (w1.symm.trans es)
        subst this
        exact ⟨⟨hm, by rw [w2]; exact jI_m1 (by omega)⟩, x, k, hx, hk, w2, w3, e3⟩
  refine FR.mk (nm := ?_) (mt := ?_) (so := ?_) (se := ?_) (sx := ?_) (us := ?_) (eu := ?_) (gn := ?_)
  · intro m hm
    by_cases z : Ex homeBlock m ∧ cpy N kind homeBlock homePlace m
    · exact Or.inl ⟨(a4 m hm).1 z, (b4.2.1 m hm).1 ((mc m hm).mp z)⟩
    · rw [(a4 m hm).2 z, (b4.2.1 m hm).2 fun i hi hc e => z ((mc m hm).mpr ⟨i, hi, hc, e⟩)]
      rcases F.nm m hm with w | ⟨w1, w2, w3, x, hx, ex, w4⟩
      · exact Or.inl w
      · refine Or.inr ⟨w1, w2, w3, x, hx, ex, ?_⟩
        rcases w4 with w4 | ⟨hxN, hr, w4 | ⟨k, hk, hlt, ek, es⟩⟩
        · exact Or.inl w4
        · exact Or.inr ⟨hxN, hr, Or.inl w4⟩
        · refine Or.inr ⟨hxN, hr, Or.inr ⟨k, hk, hlt, ek, ?_⟩⟩
          rw [((a1 x hxN k hk).2.1 fun w => z ⟨⟨hm, by rw [ex]; exact jI_m1 (by omega)⟩, x, k, hxN, hk, ex, ek, w.2⟩).1]
          exact es
  · intro b hbN v hv
    have mt := F.mt b hbN v hv
    refine ⟨mt.1, ?_⟩
    rcases mt.2 with z | ⟨hr, m, hm, e1, e2, e3, e4⟩
    · exact Or.inl z
    · refine Or.inr ⟨hr, m, hm, e1, e2, ?_, e4⟩
      rw [(a4 m hm).2]
      · exact e3
      · rintro ⟨-, x, k, hx, hk, -, w, -⟩
        exact jI_m1 (by omega) (w.symm.trans e4)
  · intro b hbN v hv p hp
    have so := F.so b hbN v hv p hp
    have r := a3 b hbN v hv p hp
    have ro := hok r
    refine ⟨fun z => ro.2.mp (so.1 z), fun z => ⟨?_, fun hl w => (so.2.1 z).2 hl (ro.2.mpr w)⟩, fun z => ro.2.mp (so.2.2.1 z), ro.1⟩
    exact ((b1 b hbN v hv p hp z).1 trivial).uniq r
  · intro b hbN k hk hlt
    have se := F.se b hbN k hk hlt
    by_cases z : kind (b * 6 + k) = 1
    · rw [((a1 b hbN k hk).1 ⟨hlt, z⟩).1]
      refine ⟨?_, Or.inl rfl⟩
      have hc := (icp b hbN k hk).mp ⟨hlt, z⟩
      by_cases w : mSet (b * 6 + k) = -1
      · rw [((b4.1 (b * 6 + k) (by omega)).2 fun q => q.2.2 w).1, w]
      · exact ((b4.1 (b * 6 + k) (by omega)).1 ⟨by omega, hc, w⟩).1
    · rw [((a1 b hbN k hk).2.1 fun q => z q.2).1, ((b4.1 (b * 6 + k) (by omega)).2 fun q => z ((icp b hbN k hk).mpr q.2.1).2).1]
      refine ⟨se.1, ?_⟩
      rcases se.2 with w | ⟨m, hm, e1, e2, e3⟩
      · exact Or.inl w
      · refine Or.inr ⟨m, hm, e1, ?_, e3⟩
        rw [(a4 m hm).2]
        · exact e2
        · rintro ⟨-, x, j, hx, hj, f1, f2, f3⟩
          have := (jI_eq (by omega) (by omega)).mp (e2.symm.trans f1)
          subst this
          have := (jI_eq (by omega) (by omega)).mp (e3.symm.trans f2)
          subst this
          exact z f3
  · intro i hi h
    have := F.sx i hi h
    rw [((b4.1 i hi).2 fun q => q.2.2 this).1, this]
  · intro b hbN k hk
    have us := F.us b hbN k hk
    have rs := (a1 b hbN k hk).2.2
    have hX : X (b * 6 + k) = su (b * 6 + k) := by
      by_cases hlt : nI k < stepCount b
      · exact ((b2 b hbN k hk).1 trivial hlt).2.2.uniq rs
      · rw [((b2 b hbN k hk).2 fun q => hlt q.2).2]
        have := (us.2.2.2.2 (Or.inl hlt)).2
        rw [this]
        exact ((hok rs).2.mp this).symm
    by_cases z : nI k < stepCount b ∧ kind (b * 6 + k) = 1
    · have hfu := ((a1 b hbN k hk).1 z).2
      have hc := (icp b hbN k hk).mp z
      have hWW : W (b * 6 + k) = -1 := by
        by_cases w : mSet (b * 6 + k) = -1
        · rw [((b4.1 (b * 6 + k) (by omega)).2 fun q => q.2.2 w).2.1, b2.wc b hbN k hk z.1 z.2]
          by_cases hr : Rch (gsc N yes no) okT b
          · rcases F.gn b hbN hr k hk z.1 with q | q
            · exact q.2.2.2
            · rw [(F.se b hbN k hk z.1).1] at w
              exact absurd w (q.2.1 (by rw [z.2]; decide))
          · exact (us.2.2.2.2 (Or.inr hr)).1
        · exact ((b4.1 (b * 6 + k) (by omega)).1 ⟨by omega, hc, w⟩).2.1
      rw [hfu, hWW]
      exact ⟨rfl, hX, Or.inl rfl, (hok rs).1, fun q => ⟨rfl, (hok rs).2.mp (us.2.2.2.2 q).2⟩⟩
    · have rf := ((a1 b hbN k hk).2.1 z).2
      have hWW : W (b * 6 + k) = fu (b * 6 + k) := by
        rw [((b4.1 (b * 6 + k) (by omega)).2 fun q => z ((icp b hbN k hk).mpr q.2.1)).2.1]
        by_cases hlt : nI k < stepCount b
        · exact (((b2 b hbN k hk).1 trivial hlt).2.1 fun q => z ⟨hlt, q⟩).uniq rf
        · rw [((b2 b hbN k hk).2 fun q => hlt q.2).1]
          have := (us.2.2.2.2 (Or.inl hlt)).1
          rw [this]
          exact ((hok rf).2.mp this).symm
      exact ⟨hWW, hX, (hok rf).1, (hok rs).1, fun q => ⟨(hok rf).2.mp (us.2.2.2.2 q).1, (hok rs).2.mp (us.2.2.2.2 q).2⟩⟩
  · intro b hbN
    have e := F.eu b hbN
    have r := a2 b hbN
    exact ⟨(b3 b hbN).uniq r, (hok r).1, fun z => (hok r).2.mp (e.2.2.1 z), fun hr z w => e.2.2.2 hr z ((hok r).2.mpr w)⟩
  · intro b hbN hr k hk hlt
    have rs := (a1 b hbN k hk).2.2
    by_cases z : kind (b * 6 + k) = 1
    · refine Or.inl ⟨?_, z, (a1 b hbN k hk).1 ⟨hlt, z⟩⟩
      have hc := (icp b hbN k hk).mp ⟨hlt, z⟩
      by_cases w : mSet (b * 6 + k) = -1
      · rw [((b4.1 (b * 6 + k) (by omega)).2 fun q => q.2.2 w).2.2]
        rcases F.gn b hbN hr k hk hlt with q | q
        · exact q.1
        · rw [(F.se b hbN k hk hlt).1] at w
          exact absurd w (q.2.1 (by rw [z]; decide))
      · exact ((b4.1 (b * 6 + k) (by omega)).1 ⟨by omega, hc, w⟩).2.2
    · have nz := fun q : nI k < stepCount b ∧ kind (b * 6 + k) = 1 => z q.2
      have rf := ((a1 b hbN k hk).2.1 nz)
      rw [((b4.1 (b * 6 + k) (by omega)).2 fun q => z ((icp b hbN k hk).mpr q.2.1).2).2.2, rf.1]
      rcases F.gn b hbN hr k hk hlt with q | q
      · exact absurd q.2.1 z
      · exact Or.inr ⟨q.1, q.2.1, fun w w2 => q.2.2.1 w ((hok rf.2).2.mpr w2), fun w w2 w3 => q.2.2.2 w w2 ((hok rs).2.mpr w3)⟩
end P2
theorem k_propagate {N L : Nat} {xs : Nat → Int32} {v4 : Int32} (hN0 : 0 < N) (hN : N ≤ 12) (hv : ∀ j, j < 6 → vp_in (v4 + nI j) L) (formStands : Bool) (stepCount : Nat → Int32) (kind : Nat → Int32) (target : Nat → Int32) (first : Nat → Int32) (second : Nat → Int32) (forkVariable : Nat → Int32) (yes : Nat → Int32) (no : Nat → Int32) (starts : Nat → Int32) (orderSize : Int32) (reached : Int32) (forerunners : Nat → Int32) (blw : Nat → Int32) (frontiers : Nat → Int32) (parents : Nat → Int32) (order : Nat → Int32) (waiting : Nat → Int32) (meetingNames : Nat → Int32) (meetingUses : Nat → Int32) (stepNames : Nat → Int32) (firstUses : Nat → Int32) (secondUses : Nat → Int32) (endUses : Nat → Int32) (lastNames : Nat → Int32) (namesOf : Nat → Int32) (homeBlock : Nat → Int32) (homePlace : Nat → Int32) (standsFor : Nat → Int32) (pending : Int32) (length : Int32) (pendingTo : Nat → Int32) (pendingFrom : Nat → Int32) (copyTo : Nat → Int32) (copyFrom : Nat → Int32) (way : Int32) (values : Nat → Int32) (arriving : Nat → Int32) (T0size : Int32) (T0out : Int32) (T0num : Nat → Int32) (T1size : Int32) (T1out : Int32) (T1num : Nat → Int32) (T2size : Int32) (T2out : Int32) (T2num : Nat → Int32) (outc : Nat → Int64) (mThrown : Int32) (mReached : Int32) (mForm : Bool) (mSlot : Int32) (mOver : Bool) (mMany : Nat → Int32) (mKinds : Nat → Int32) (mVs : Nat → Int32) (mWs : Nat → Int32) (mXs : Nat → Int32) (mEnds : Nat → Int32) (mEndVariable : Nat → Int32) (mYes : Nat → Int32) (mNo : Nat → Int32) (mStarts : Nat → Int32) (mDominators : Nat → Int32) (mMeets : Nat → Int32) (mSources : Nat → Int32) (mSet : Nat → Int32) (mUseW : Nat → Int32) (mUseX : Nat → Int32) (mEndUse : Nat → Int32) (mGone : Nat → Bool) (mIsName : Nat → Bool) (mNameBlock : Nat → Int32) (mNameStep : Nat → Int32) (mNumbers : Nat → Int32) (mSaid : Nat → Int32) (mSaidCount : Nat → Int32) (mFailed : Nat → Int32) (mValues : Nat → Int32) (mNextValues : Nat → Int32) (mOpen : Nat → Int32) (h : JJ N formStands stepCount kind target first second forkVariable yes no starts orderSize reached forerunners blw frontiers parents order waiting meetingNames meetingUses stepNames firstUses secondUses endUses lastNames namesOf homeBlock homePlace standsFor pending length pendingTo pendingFrom copyTo copyFrom way values arriving T0size T0out T0num T1size T1out T1num T2size T2out T2num outc mThrown mReached mForm mSlot mOver mMany mKinds mVs mWs mXs mEnds mEndVariable mYes mNo mStarts mDominators mMeets mSources mSet mUseW mUseX mEndUse mGone mIsName mNameBlock mNameStep mNumbers mSaid mSaidCount mFailed mValues mNextValues mOpen) : wpLc_propagate N L xs v4 formStands stepCount kind target first second forkVariable yes no starts orderSize reached forerunners blw frontiers parents order waiting meetingNames meetingUses stepNames firstUses secondUses endUses lastNames namesOf homeBlock homePlace standsFor pending length pendingTo pendingFrom copyTo copyFrom way values arriving T0size T0out T0num T1size T1out T1num T2size T2out T2num outc mThrown mReached mForm mSlot mOver mMany mKinds mVs mWs mXs mEnds mEndVariable mYes mNo mStarts mDominators mMeets mSources mSet mUseW mUseX mEndUse mGone mIsName mNameBlock mNameStep mNumbers mSaid mSaidCount mFailed mValues mNextValues mOpen (JJ N) := by
  obtain ⟨hP, hS, hT, hf, hF⟩ := h
  subst hf
  unfold wpLc_propagate wpLw_propagate wpOn_propagate wpMd_propagate
  refine ⟨fun hst => ?_, fun hst => ⟨Or.inl rfl, fun _ => ⟨fun t _ _ => t = 1, fun t R D ht => ?_, fun q => by (rw [hst] at q; cases q), fun _ => rfl⟩, fun q => by omega⟩⟩
  · have F := hF hst
    have hkk : ∀ b, b < N → ∀ k, k < 6 → nI k < stepCount b → mKinds (b * 6 + k) = kind (b * 6 + k) := fun b hb k hk hlt => (hP.st b hb k hk hlt).1.symm
    refine isSound_sp hN0 hN hP.ct1 F hS fun z hz => ⟨fun q => ?_, fun q => ⟨Or.inr rfl, fun q => by omega, fun _ => ?_⟩⟩
    · have V := hz.mp q
      refine dropCopies_sp hN0 hN hP.ct1 hS F V fun mu SN fu su eu hb sf a1 a2 a3 a4 => ⟨out_in, fun t _ _ => t = 0, fun t R D ht => ?_, fun _ => isValid_sp hN0 hN hP.ct hP.endr F fun y hy R D => ⟨fun _ => rfl, fun w => ?_⟩, fun q => by (rw [hst] at q; cases q)⟩
      · subst ht
        refine ⟨fun _ => ⟨N + 1, pp_all hN0 hN hP.ct hkk F V (fun S W1 X E b1 b2 b3 y => ⟨72 + 1, pp_drop hN0 hN hP.ct hkk F (fun set W gone isn b4 => ?_) 72 0 0 mSet W1 mGone mIsName (by omega) ⟨fun i hi => ⟨fun w => by omega, fun _ => ⟨rfl, rfl, rfl⟩⟩, fun m hm => ⟨fun ⟨i, w, _⟩ => by omega, fun _ => rfl⟩, by omega⟩⟩) N 0 mSources mUseW mUseX mEndUse (by omega) (fun b hb v hv p hp hm => ⟨fun w => by omega, fun _ => rfl⟩) (fun c hc k hk => ⟨fun w => by omega, fun _ => ⟨(F.us c hc k hk).1, (F.us c hc k hk).2.1⟩⟩) (fun c hc => ⟨fun w => by omega, fun _ => (F.eu c hc).1⟩)⟩, fun w => absurd rfl w⟩
        have hcc : ccn N stepCount kind mSet 72 = ccn N stepCount kind stepNames (N * 6) := by
          rw [ccn_ext 72 (by omega)]
          refine ccn_cong fun i hi hc => ?_
          obtain ⟨b, k, hb, hk, hlt, e, -⟩ := hc
          rw [e]
          exact (F.se b hb k hk hlt).1
        have hF2 := FR.propagated hN0 hN F V a1 a2 a3 a4 b1 b2 b3 b4
        rw [hcc]
        exact ⟨fun _ => ⟨fun q => absurd rfl q, fun _ => ⟨out_in, fun _ => ⟨hP, hS, hT, rfl, fun _ => hF2⟩, fun q => q (by rw [out_at]; exact lg_same _)⟩⟩, fun q => absurd rfl q⟩
      · rw [hy.mpr V] at w; cases w
    · refine ⟨fun t _ _ => t = 2, fun t R D ht => ?_, fun _ => isValid_sp hN0 hN hP.ct hP.endr F fun y hy R D => ⟨fun w => ?_, fun _ => rfl⟩, fun q => by (rw [hst] at q; cases q)⟩
      · subst ht
        exact ⟨fun w => absurd w two_not, fun _ => ⟨fun _ => ⟨fun _ => ⟨hP, hS, hT, rfl, hF⟩, fun q => absurd q (by decide)⟩, fun q => absurd rfl q⟩⟩
      · rw [hz.mpr (hy.mp w)] at q; cases q
  · subst ht
    exact ⟨fun w => absurd w one_not, fun _ => ⟨fun _ => ⟨fun _ => ⟨hP, hS, hT, rfl, hF⟩, fun q => absurd q (by decide)⟩, fun q => absurd rfl q⟩⟩
