/-! the reference's uses -/
section GU
variable {N : Nat} {stepCount kind target first second forkVariable yes no starts mMany mKinds mVs mWs mXs mEnds mEndVariable mYes mNo mStarts : Nat → Int32}
theorem mdLatest_sp (hN0 : 0 < N) (hN : N ≤ 12) (hP : PR N stepCount kind target first second forkVariable yes no starts mMany mKinds mVs mWs mXs mEnds mEndVariable mYes mNo mStarts) (hPar : HasPar (gsc N yes no) N) {D : Nat → Int32} (hD : ∀ c, c < N → ∀ x, bt (D c) x = true ↔ Dm (gsc N yes no) x c) {mn sn hb hp num : Nat → Int32} {nm : Nat → Prop} (h : NSA N yes no stepCount kind target mn sn hb hp num nm) {v b k : Nat} (hv : v < 6) (hbr : Rch (gsc N yes no) okT b) (hk : k ≤ nsF stepCount b) {post : Int32 → Prop} (hpost : post (nI (LA N yes no stepCount kind target b v k))) : wpMd_latest N mMany mKinds mVs D mn sn (nI v) (nI b) (nI k) post := ⟨13 + 1, latest_sp hN0 hN hP hPar hD h hv 13 b hbr (by have := dcn_le (gsc N yes no) b N; omega) k hk hpost⟩
theorem sp_kind {kd tg fi se : Int32} (h : SP kd tg fi se) : ∃ k, k < 8 ∧ kd = nI k := h.1
theorem gu_steps (hN0 : 0 < N) (hN : N ≤ 12) (hP : PR N stepCount kind target first second forkVariable yes no starts mMany mKinds mVs mWs mXs mEnds mEndVariable mYes mNo mStarts) (hPar : HasPar (gsc N yes no) N) {D : Nat → Int32} (hD : ∀ c, c < N → ∀ x, bt (D c) x = true ↔ Dm (gsc N yes no) x c) {mn sn hb hp num : Nat → Int32} {nm : Nat → Prop} (h : NSA N yes no stepCount kind target mn sn hb hp num nm) {b : Nat} (hbr : Rch (gsc N yes no) okT b) {W0 X0 : Nat → Int32} {K : Int32 → (Nat → Int32) → (Nat → Int32) → Prop}
    (hK : ∀ W X, (∀ j, (∀ k, k < nsF stepCount b → j ≠ b * 6 + k) → W j = W0 j ∧ X j = X0 j) → (∀ k, k < nsF stepCount b → UW (nsF stepCount) kind first (LA N yes no stepCount kind target) b k (W (b * 6 + k)) ∧ UX (nsF stepCount) kind second (LA N yes no stepCount kind target) b k (X (b * 6 + k))) → ∀ y, K y W X) :
    ∀ (d i : Nat) (W X : Nat → Int32), i + d = nsF stepCount b → (∀ j, (∀ k, k < nsF stepCount b → j ≠ b * 6 + k) → W j = W0 j ∧ X j = X0 j) → (∀ k, k < i → UW (nsF stepCount) kind first (LA N yes no stepCount kind target) b k (W (b * 6 + k)) ∧ UX (nsF stepCount) kind second (LA N yes no stepCount kind target) b k (X (b * 6 + k))) → lpMd_giveUses_2 N (nI b) mMany mKinds mVs mWs mXs D mn sn K (d + 1) (nI i) W X := by
  have hbN := hbr.lt hN0 gsc_lt
  obtain ⟨n, hn, en, em⟩ := hP.ct b hbN
  have hns := nsF_eq hn en
  intro d
  induction d with
  | zero =>
    intro i W X hi h1 h2
    unfold lpMd_giveUses_2
    rw [jI_in (by omega), jI_nat (by omega), em, show i = n by omega]
    exact ⟨by omega, fun _ => hK W X h1 (fun k hk => h2 k (by omega)) _, fun q => absurd (Int32.le_refl _) q⟩
  | succ d ih =>
    intro i W X hi h1 h2
    have hin : i < nsF stepCount b := by omega
    obtain ⟨hlt, hi6, -⟩ := st_var hP hbN hin
    have st := hP.st b hbN i hi6 hlt
    obtain ⟨kk, hkk, ekk⟩ := sp_kind st.2.2.2.2
    unfold lpMd_giveUses_2
    rw [jI_in (by omega), jI_nat (by omega), em, jI_one]
    refine ⟨by omega, fun q => ?_, fun _ v hv => ?_⟩
    · rw [jI_le (by omega) (by omega)] at q; omega
    rw [jt6, jI_mul, jI_add, show 6 * b + i = b * 6 + i by omega] at hv
    subst hv
    rw [jI_in (by omega), jI_nat (by omega), ← st.1, ← st.2.2.1, ← st.2.2.2.1]
    have go : ∀ t r, UW (nsF stepCount) kind first (LA N yes no stepCount kind target) b i t → UX (nsF stepCount) kind second (LA N yes no stepCount kind target) b i r → lpMd_giveUses_2 N (nI b) mMany mKinds mVs mWs mXs D mn sn K (d + 1) (nI (i + 1)) (upd W (b * 6 + i) t) (upd X (b * 6 + i) r) := by
      intro t r ht hr
      refine ih (i + 1) _ _ (by omega) (fun j hj => ?_) (fun k hk => ?_)
      · rw [upd_other _ _ (hj i hin), upd_other _ _ (hj i hin)]; exact h1 j hj
      · by_cases e : k = i
        · subst e; rw [upd_same, upd_same]; exact ⟨ht, hr⟩
        · rw [upd_other _ _ (by omega), upd_other _ _ (by omega)]; exact h2 k (by omega)
    have le1 : kind (b * 6 + i) ≤ 1 ↔ kind (b * 6 + i) < 2 := by
      rw [ekk, jt1, jt2, jI_le (by omega) (by omega), jI_lt (by omega) (by omega)]; omega
    have le7 : 7 ≤ kind (b * 6 + i) ↔ 6 < kind (b * 6 + i) := by
      rw [ekk, jt7, jt6, jI_le (by omega) (by omega), jI_lt (by omega) (by omega)]; omega
    have le0 : kind (b * 6 + i) ≤ 0 ↔ kind (b * 6 + i) = 0 := by
      rw [ekk, jt0, jI_le (by omega) (by omega), jI_eq (by omega) (by omega)]; omega
    rw [le1, le7, le0]
    refine ⟨by omega, fun t => UW (nsF stepCount) kind first (LA N yes no stepCount kind target) b i t, fun t ht => ⟨by omega, by omega, fun q => ⟨by omega, go t _ ht (Or.inr ⟨Or.inr fun z => z.1 q, rfl⟩)⟩, fun q => ⟨by omega, fun q2 => ⟨by omega, go t _ ht (Or.inr ⟨Or.inr fun z => z.2 q2, rfl⟩)⟩, fun q2 => ⟨by omega, ?_⟩⟩⟩, fun q => Or.inr ⟨Or.inr q, rfl⟩, fun q => ⟨by omega, ?_⟩⟩
    · obtain ⟨w, hw, ew⟩ := st.2.2.2.2.2.2.2.2 q q2
      rw [ew]
      exact mdLatest_sp hN0 hN hP hPar hD h hw hbr (by omega) ⟨by omega, go t _ ht (Or.inl ⟨hin, ⟨q, q2⟩, w, hw, ew, rfl⟩)⟩
    · obtain ⟨w, hw, ew⟩ := st.2.2.2.2.2.2.2.1 q
      rw [ew]
      exact mdLatest_sp hN0 hN hP hPar hD h hw hbr (by omega) (Or.inl ⟨hin, q, w, hw, ew, rfl⟩)
theorem gu_src1 (hN0 : 0 < N) (hN : N ≤ 12) (hP : PR N stepCount kind target first second forkVariable yes no starts mMany mKinds mVs mWs mXs mEnds mEndVariable mYes mNo mStarts) (hPar : HasPar (gsc N yes no) N) {R : Int32} (hR : ∀ c, bt R c = true ↔ Rch (gsc N yes no) okT c) {D : Nat → Int32} (hD : ∀ c, c < N → ∀ x, bt (D c) x = true ↔ Dm (gsc N yes no) x c) {mn sn hb hp num : Nat → Int32} {nm : Nat → Prop} (h : NSA N yes no stepCount kind target mn sn hb hp num nm) {b v : Nat} (hbr : Rch (gsc N yes no) okT b) (hv : v < 6) {S0 : Nat → Int32} {K : Int32 → (Nat → Int32) → Prop}
    (hK : ∀ S, (∀ j, (∀ p, p ≤ N → j ≠ 13 * (b * 6 + v) + p) → S j = S0 j) → (MT N yes no stepCount kind target b v → ∀ p, p ≤ N → MU N yes no (MT N yes no stepCount kind target) (LA N yes no stepCount kind target) (nsF stepCount) b v p (S (13 * (b * 6 + v) + p))) → ∀ y, K y S) :
    ∀ (d i : Nat) (S : Nat → Int32), i + d = N + 1 → (∀ j, (∀ p, p < i → j ≠ 13 * (b * 6 + v) + p) → S j = S0 j) → (MT N yes no stepCount kind target b v → ∀ p, p < i → MU N yes no (MT N yes no stepCount kind target) (LA N yes no stepCount kind target) (nsF stepCount) b v p (S (13 * (b * 6 + v) + p))) → lpMd_giveUses_146 N (nI b) (nI v) R mMany mKinds mVs mEnds mYes mNo D mn sn K (d + 1) (nI i) S := by
  have hbN := hbr.lt hN0 gsc_lt
  have hbo := (ord_mem hN0 gsc_lt hPar b).mpr hbr
  have hmt := h.mtp hbN hbo hv
  intro d
  induction d with
  | zero =>
    intro i S hi h1 h2
    have : i = N + 1 := by omega
    subst this
    refine ⟨fun _ => hK S (fun j hj => h1 j fun p hp => hj p (by omega)) (fun m p hp => h2 m p (by omega)) _, fun q => ?_⟩
    rw [jI_lt (by omega) (by omega)] at q; omega
  | succ d ih =>
    intro i S hi h1 h2
    refine ⟨fun q => ?_, fun _ => ?_⟩
    · rw [jI_lt (by omega) (by omega)] at q; omega
    rw [jt6, jI_mul, jI_add, show 6 * b + v = b * 6 + v by omega, show (13 : Int32) = nI 13 from rfl, jI_mul, jI_add, jI_in (show b * 6 + v < 2147483648 by omega), jI_nat (show b * 6 + v < 2147483648 by omega), jI_in (show 13 * (b * 6 + v) + i < 2147483648 by omega), jI_nat (show 13 * (b * 6 + v) + i < 2147483648 by omega), jI_in (show i < 2147483648 by omega), jI_nat (show i < 2147483648 by omega), jI_one]
    refine ⟨by omega, fun q => hK S (fun j hj => h1 j fun p hp => hj p (by omega)) (fun m => ?_) _, fun q => ?_⟩
    · rw [hmt.1 m] at q
      have := mNm_lt (stepCount := stepCount) (kind := kind) (target := target) hN0 hN hPar hbo v
      exact absurd q (jI_neg (by omega))
    have hm : MT N yes no stepCount kind target b v := Classical.byContradiction fun z => q (by rw [hmt.2 z]; decide)
    have go : ∀ x, MU N yes no (MT N yes no stepCount kind target) (LA N yes no stepCount kind target) (nsF stepCount) b v i x → lpMd_giveUses_146 N (nI b) (nI v) R mMany mKinds mVs mEnds mYes mNo D mn sn K (d + 1) (nI (i + 1)) (upd S (13 * (b * 6 + v) + i) x) := by
      intro x hx
      refine ih (i + 1) _ (by omega) (fun j hj => ?_) (fun m p hp => ?_)
      · rw [upd_other _ _ (hj i (by omega))]; exact h1 j fun p hp => hj p (by omega)
      · by_cases e : p = i
        · subst e; rw [upd_same]; exact hx
        · rw [upd_other _ _ (by omega)]; exact h2 m p (by omega)
    have fol : ∀ post : Bool → Prop, (∀ z, (z = true ↔ (i = N ∧ b = 0) ∨ gsc N yes no i b) → post z) → wpMd_follows N mEnds mYes mNo (nI i) (nI b) post := by
      intro post hp
      by_cases e : i = N
      · unfold wpMd_follows
        rw [jI_eq (by omega) (by omega)]
        refine ⟨fun z => absurd e z, fun _ => ?_⟩
        rw [jt0, jI_eq (by omega) (by omega)]
        refine ⟨fun z => hp false ⟨fun w => by (cases w), fun w => ?_⟩, fun z => hp true ⟨fun _ => Or.inl ⟨e, z⟩, fun _ => rfl⟩⟩
        rcases w with w | w
        · exact absurd w.2 z
        · have := w.1; omega
      · refine md_follows hN hP.endr (by omega) hbN fun z hz => hp z (hz.trans ⟨Or.inr, fun w => w.resolve_left fun w => e w.1⟩)
    refine fol _ fun z hz => ⟨fun t => (t = true ↔ Lead N yes no i b), fun t ht => ⟨fun q1 => ?_, fun q1 => ⟨by omega, go _ (Or.inr ⟨fun w => ?_, rfl⟩)⟩⟩, ¬ Lead N yes no i b, fun w => ⟨fun w2 => by (cases w2), fun w2 => absurd w2 w⟩, fun q1 w => ?_, fun q1 => ?_⟩
    · have hl := ht.mp q1
      rw [jI_eq (by omega) (by omega)]
      refine ⟨fun q2 => ⟨by omega, ?_⟩, fun q2 => ⟨by omega, go _ (Or.inl ⟨hm, hl, ?_⟩)⟩⟩
      · have hir : Rch (gsc N yes no) okT i := by
          rcases hl with w | w
          · exact w.1
          · exact absurd w.1 q2
        obtain ⟨n, hn, en, em⟩ := hP.ct i (by omega)
        rw [em]
        refine mdLatest_sp hN0 hN hP hPar hD h hv hir (by rw [nsF_eq hn en]; omega) ⟨by omega, go _ (Or.inl ⟨hm, hl, ?_⟩)⟩
        rw [if_neg q2, nsF_eq hn en]
      · rw [if_pos q2, show (100 : Int32) = nI 100 from rfl, jI_mul]
    · rw [ht.mpr w.2] at q1; cases q1
    · rcases w with w | w
      · rw [hz.mpr (Or.inr w.2)] at q1; cases q1
      · rw [hz.mpr (Or.inl w)] at q1; cases q1
    · rw [jI_eq (by omega) (by omega)]
      refine ⟨fun q2 => ⟨fun _ => ?_, fun _ => rfl⟩, fun q2 => md_has (by omega) ⟨fun q3 w => ?_, fun q3 => ⟨fun _ => ?_, fun _ => rfl⟩⟩⟩
      · rcases hz.mp q1 with w | w
        · exact Or.inr w
        · have := w.1; omega
      · rcases w with w | w
        · rw [(hR i).mpr w.1] at q3; cases q3
        · exact absurd w.1 q2
      · rcases hz.mp q1 with w | w
        · exact absurd w.1 q2
        · exact Or.inl ⟨(hR i).mp q3, w⟩
theorem giveUses_sp (hN0 : 0 < N) (hN : N ≤ 12) (hP : PR N stepCount kind target first second forkVariable yes no starts mMany mKinds mVs mWs mXs mEnds mEndVariable mYes mNo mStarts) (hPar : HasPar (gsc N yes no) N) {R : Int32} (hR : ∀ c, bt R c = true ↔ Rch (gsc N yes no) okT c) {D : Nat → Int32} (hD : ∀ c, c < N → ∀ x, bt (D c) x = true ↔ Dm (gsc N yes no) x c) {mn sn hb hp num : Nat → Int32} {nm : Nat → Prop} (h : NSA N yes no stepCount kind target mn sn hb hp num nm) {b : Nat} (hbr : Rch (gsc N yes no) okT b) {S0 W0 X0 E0 : Nat → Int32} (h0 : ∀ k, k < 6 → W0 (b * 6 + k) = -1 ∧ X0 (b * 6 + k) = -1) {post : (Nat → Int32) → (Nat → Int32) → (Nat → Int32) → (Nat → Int32) → Prop}
    (hpost : ∀ S W X E, (∀ j, (∀ v, v < 6 → ∀ p, p ≤ N → j ≠ 13 * (b * 6 + v) + p) → S j = S0 j) → (∀ v, v < 6 → MT N yes no stepCount kind target b v → ∀ p, p ≤ N → MU N yes no (MT N yes no stepCount kind target) (LA N yes no stepCount kind target) (nsF stepCount) b v p (S (13 * (b * 6 + v) + p))) → (∀ j, (∀ k, k < 6 → j ≠ b * 6 + k) → W j = W0 j ∧ X j = X0 j) → (∀ k, k < 6 → UW (nsF stepCount) kind first (LA N yes no stepCount kind target) b k (W (b * 6 + k)) ∧ UX (nsF stepCount) kind second (LA N yes no stepCount kind target) b k (X (b * 6 + k))) → (∀ j, j ≠ b → E j = E0 j) → UE (nsF stepCount) forkVariable (LA N yes no stepCount kind target) b (E b) → post S W X E) : wpMd_giveUses N R mMany mKinds mVs mWs mXs mEnds mEndVariable mYes mNo D mn S0 sn W0 X0 E0 (nI b) post := by
  have hbN := hbr.lt hN0 gsc_lt
  have hns6 : nsF stepCount b ≤ 6 := by unfold nsF; omega
  refine ⟨nsF stepCount b + 1, gu_steps hN0 hN hP hPar hD h hbr (W0 := W0) (X0 := X0) (fun W X g1 g2 y => ?_) (nsF stepCount b) 0 W0 X0 (by omega) (fun _ _ => ⟨rfl, rfl⟩) (fun k hk => by omega)⟩
  rw [jI_in (by omega), jI_nat (by omega)]
  have gW : ∀ k, k < 6 → UW (nsF stepCount) kind first (LA N yes no stepCount kind target) b k (W (b * 6 + k)) ∧ UX (nsF stepCount) kind second (LA N yes no stepCount kind target) b k (X (b * 6 + k)) := by
    intro k hk
    by_cases e : k < nsF stepCount b
    · exact g2 k e
    · have := g1 (b * 6 + k) fun j hj e2 => by omega
      rw [this.1, this.2, (h0 k hk).1, (h0 k hk).2]
      exact ⟨Or.inr ⟨Or.inl e, rfl⟩, Or.inr ⟨Or.inl e, rfl⟩⟩
  refine ⟨by omega, fun t => UE (nsF stepCount) forkVariable (LA N yes no stepCount kind target) b t, fun t ht => ⟨by omega, 6 + 1, ?_⟩, fun q => ?_, fun q => ⟨by omega, by omega, ?_⟩⟩
  · have key : ∀ (d i : Nat) (S : Nat → Int32), i + d = 6 → (∀ j, (∀ v, v < 6 → ∀ p, p ≤ N → j ≠ 13 * (b * 6 + v) + p) → S j = S0 j) → (∀ v, v < i → MT N yes no stepCount kind target b v → ∀ p, p ≤ N → MU N yes no (MT N yes no stepCount kind target) (LA N yes no stepCount kind target) (nsF stepCount) b v p (S (13 * (b * 6 + v) + p))) → lpMd_giveUses_138 N (nI b) R mMany mKinds mVs mEnds mYes mNo D mn sn W X (upd E0 b t) post (d + 1) (nI i) S := by
      intro d
      induction d with
      | zero =>
        intro i S hi s1 s2
        have : i = 6 := by omega
        subst this
        refine ⟨fun _ => hpost S W X (upd E0 b t) s1 s2 (fun j hj => g1 j fun k hk => hj k (by omega)) gW (fun j hj => upd_other _ _ hj) (by rw [upd_same]; exact ht), fun q => absurd (Int32.le_refl _) q⟩
      | succ d ih =>
        intro i S hi s1 s2
        refine ⟨fun q => ?_, fun _ => ⟨N + 1 + 1, ?_⟩⟩
        · rw [jt6, jI_le (by omega) (by omega)] at q; omega
        · rw [jI_one]
          refine gu_src1 hN0 hN hP hPar hR hD h hbr (by omega) (S0 := S) (fun S' w1 w2 y => ih (i + 1) S' (by omega) (fun j hj => ?_) (fun v hv m p hp => ?_)) (N + 1) 0 S (by omega) (fun _ _ => rfl) (fun _ p hp => by omega)
          · rw [w1 j fun p hp => hj i (by omega) p hp]; exact s1 j hj
          · by_cases e : v = i
            · subst e; exact w2 m p hp
            · rw [w1 _ fun p' hp' e2 => by omega]
              exact s2 v (by omega) m p hp
    exact key 6 0 S0 (by omega) (fun _ _ => rfl) (fun v hv => by omega)
  · rcases hP.en b hbN with ⟨-, e, -⟩ | ⟨y, z, -, -, -, -, -, -, ⟨-, e, -⟩ | ⟨e, -⟩⟩
    · exact Or.inr ⟨e, rfl⟩
    · exact Or.inr ⟨e, rfl⟩
    · exact absurd e q
  · rcases hP.en b hbN with ⟨e, -⟩ | ⟨y, z, -, -, -, -, -, -, ⟨e, -⟩ | ⟨-, v, hv, e1, e2⟩⟩
    · rw [e] at q; exact absurd q (by decide)
    · rw [e] at q; exact absurd q (by decide)
    · obtain ⟨n, hn, en, em⟩ := hP.ct b hbN
      rw [e2, em]
      have e5 := nsF_eq hn en
      refine mdLatest_sp hN0 hN hP hPar hD h hv hbr (by omega) (Or.inl ⟨v, hv, e1, ?_⟩)
      rw [e5]
end GU
/-! the reference's build, and the relation of what was built -/
theorem UW.uniq {ns : Nat → Nat} {kind first : Nat → Int32} {la : Nat → Nat → Nat → Nat} {c k : Nat} {x y : Int32} (h1 : UW ns kind first la c k x) (h2 : UW ns kind first la c k y) : x = y := by
  rcases h1 with ⟨a1, a2, w, hw, e1, rfl⟩ | ⟨a1, rfl⟩ <;> rcases h2 with ⟨b1, b2, w', hw', e2, rfl⟩ | ⟨b1, rfl⟩
  · rw [(jI_eq (by omega) (by omega)).mp (e1.symm.trans e2)]
  · rcases b1 with b1 | b1
    · exact absurd a1 b1
    · exact absurd b1 a2
  · rcases a1 with a1 | a1
    · exact absurd b1 a1
    · exact absurd a1 b2
  · rfl
theorem UX.uniq {ns : Nat → Nat} {kind first : Nat → Int32} {la : Nat → Nat → Nat → Nat} {c k : Nat} {x y : Int32} (h1 : UX ns kind first la c k x) (h2 : UX ns kind first la c k y) : x = y := by
  rcases h1 with ⟨a1, a2, w, hw, e1, rfl⟩ | ⟨a1, rfl⟩ <;> rcases h2 with ⟨b1, b2, w', hw', e2, rfl⟩ | ⟨b1, rfl⟩
  · rw [(jI_eq (by omega) (by omega)).mp (e1.symm.trans e2)]
  · rcases b1 with b1 | b1
    · exact absurd a1 b1
    · exact absurd a2 b1
  · rcases a1 with a1 | a1
    · exact absurd b1 a1
    · exact absurd b2 a1
  · rfl
theorem UE.uniq {ns : Nat → Nat} {fv : Nat → Int32} {la : Nat → Nat → Nat → Nat} {c : Nat} {x y : Int32} (h1 : UE ns fv la c x) (h2 : UE ns fv la c y) : x = y := by
  rcases h1 with ⟨w, hw, e1, rfl⟩ | ⟨a1, rfl⟩ <;> rcases h2 with ⟨w', hw', e2, rfl⟩ | ⟨b1, rfl⟩
  · rw [(jI_eq (by omega) (by omega)).mp (e1.symm.trans e2)]
  · exact absurd (e1.symm.trans b1) (jI_m1 (by omega))
  · exact absurd (e2.symm.trans a1) (jI_m1 (by omega))
  · rfl
theorem MU.uniq {N : Nat} {yes no : Nat → Int32} {mt : Nat → Nat → Prop} {la : Nat → Nat → Nat → Nat} {ns : Nat → Nat} {b v p : Nat} {x y : Int32} (h1 : MU N yes no mt la ns b v p x) (h2 : MU N yes no mt la ns b v p y) : x = y := by
  rcases h1 with ⟨a1, a2, rfl⟩ | ⟨a1, rfl⟩ <;> rcases h2 with ⟨b1, b2, rfl⟩ | ⟨b1, rfl⟩
  · rfl
  · exact absurd ⟨a1, a2⟩ b1
  · exact absurd ⟨b1, b2⟩ a1
  · rfl
section BB
variable {N : Nat} {stepCount kind target first second forkVariable yes no starts mMany mKinds mVs mWs mXs mEnds mEndVariable mYes mNo mStarts : Nat → Int32}
theorem mdBuild_sp (hN0 : 0 < N) (hN : N ≤ 12) (hP : PR N stepCount kind target first second forkVariable yes no starts mMany mKinds mVs mWs mXs mEnds mEndVariable mYes mNo mStarts) (hPar : HasPar (gsc N yes no) N) {a1 a2 a3 a4 a5 a6 a7 : Nat → Int32} {a8 a9 : Nat → Bool} {a10 a11 a12 a13 : Nat → Int32} {post : Int32 → Int32 → Int32 → Bool → (Nat → Int32) → (Nat → Int32) → (Nat → Int32) → (Nat → Int32) → (Nat → Int32) → (Nat → Int32) → (Nat → Int32) → (Nat → Bool) → (Nat → Bool) → (Nat → Int32) → (Nat → Int32) → (Nat → Int32) → (Nat → Int32) → Prop}
    (hp : ∀ mn sn gone isn nb nst num W X E S op R D, NSA N yes no stepCount kind target mn sn nb nst num (fun m => isn m = true) → (∀ i, i < 72 → gone i = false) → (∀ j, j < 72 → (∀ c, c < N → ∀ k, k < nsF stepCount c → j ≠ c * 6 + k) → sn j = -1) → UsO N (nsF stepCount) kind first second forkVariable (LA N yes no stepCount kind target) (ordOf (gsc N yes no) N) W X E → (∀ b, b < N → ∀ v, v < 6 → MT N yes no stepCount kind target b v → ∀ p, p ≤ N → MU N yes no (MT N yes no stepCount kind target) (LA N yes no stepCount kind target) (nsF stepCount) b v p (S (13 * (b * 6 + v) + p))) → post (nI (sumN (cnA N yes no stepCount kind target) 6)) 0 R true D mn S sn W X E gone isn nb nst num op) : wpMd_build N mMany mKinds mVs mWs mXs mEnds mEndVariable mYes mNo a1 a2 a3 a4 a5 a6 a7 a8 a9 a10 a11 a12 a13 post := by
  have hmem := fun x => ord_mem hN0 gsc_lt hPar x
  refine md_look hN0 hN hP.endr fun R D hR hD => findMeetings_sp hN0 hN hP hR hD fun mk hmk => giveNames_sp hN0 hN hP hPar hR hD hmk fun mn sn gone isn nb nst num op h hcn hgone hsx => ⟨N + 1, ?_⟩
  have l0 : ∀ (b : Nat), b < N → ∀ (K : Int32 → (Nat → Int32) → (Nat → Int32) → Prop) (W0 X0 : Nat → Int32), (∀ W X, (∀ j, (∀ k, k < 6 → j ≠ b * 6 + k) → W j = W0 j ∧ X j = X0 j) → (∀ k, k < 6 → W (b * 6 + k) = -1 ∧ X (b * 6 + k) = -1) → ∀ y, K y W X) → ∀ (d i : Nat) (W X : Nat → Int32), i + d = 6 → (∀ j, (∀ k, k < 6 → j ≠ b * 6 + k) → W j = W0 j ∧ X j = X0 j) → (∀ k, k < i → W (b * 6 + k) = -1 ∧ X (b * 6 + k) = -1) → lpMd_build_36 (nI b) K (d + 1) (nI i) W X := by
    intro b hb K W0 X0 hK d
    induction d with
    | zero =>
      intro i W X hi h1 h2
      have : i = 6 := by omega
      subst this
      exact ⟨fun _ => hK W X h1 h2 _, fun q => absurd (Int32.le_refl _) q⟩
    | succ d ih =>
      intro i W X hi h1 h2
      refine ⟨fun q => ?_, fun _ => ?_⟩
      · rw [jt6, jI_le (by omega) (by omega)] at q; omega
      · rw [jt6, jI_mul, jI_add, jI_in (by omega), jI_nat (by omega), jI_one, show 6 * b + i = b * 6 + i by omega]
        refine ⟨by omega, by omega, ih (i + 1) _ _ (by omega) (fun j hj => ?_) (fun k hk => ?_)⟩
        · rw [upd_other _ _ (hj i (by omega)), upd_other _ _ (hj i (by omega))]; exact h1 j hj
        · by_cases e : k = i
          · subst e; rw [upd_same, upd_same]; exact ⟨rfl, rfl⟩
          · rw [upd_other _ _ (by omega), upd_other _ _ (by omega)]; exact h2 k (by omega)
  have key : ∀ (K : Int32 → (Nat → Int32) → (Nat → Int32) → (Nat → Int32) → (Nat → Int32) → Prop), (∀ S W X E, UsO N (nsF stepCount) kind first second forkVariable (LA N yes no stepCount kind target) (ordOf (gsc N yes no) N) W X E → (∀ b, b < N → ∀ v, v < 6 → MT N yes no stepCount kind target b v → ∀ p, p ≤ N → MU N yes no (MT N yes no stepCount kind target) (LA N yes no stepCount kind target) (nsF stepCount) b v p (S (13 * (b * 6 + v) + p))) → ∀ y, K y S W X E) → ∀ (d i : Nat) (S W X E : Nat → Int32), i + d = N → (∀ c, c < i → (Rch (gsc N yes no) okT c → (∀ k, k < 6 → UW (nsF stepCount) kind first (LA N yes no stepCount kind target) c k (W (c * 6 + k)) ∧ UX (nsF stepCount) kind second (LA N yes no stepCount kind target) c k (X (c * 6 + k))) ∧ UE (nsF stepCount) forkVariable (LA N yes no stepCount kind target) c (E c)) ∧ (¬ Rch (gsc N yes no) okT c → (∀ k, k < 6 → W (c * 6 + k) = -1 ∧ X (c * 6 + k) = -1) ∧ E c = -1)) → (∀ b, b < i → ∀ v, v < 6 → MT N yes no stepCount kind target b v → ∀ p, p ≤ N → MU N yes no (MT N yes no stepCount kind target) (LA N yes no stepCount kind target) (nsF stepCount) b v p (S (13 * (b * 6 + v) + p))) → lpMd_build_19 N R mMany mKinds mVs mWs mXs mEnds mEndVariable mYes mNo D mn sn K (d + 1) (nI i) S W X E := by
    intro K hK d
    induction d with
    | zero =>
      intro i S W X E hi h1 h2
      have : i = N := by omega
      subst this
      refine ⟨fun _ => hK S W X E ⟨fun c hc => ?_, fun c hc => ?_, fun c hc hn => ?_⟩ h2 _, fun q => absurd (Int32.le_refl _) q⟩
      · have hr := (hmem c).mp hc
        exact ((h1 c (hr.lt hN0 gsc_lt)).1 hr).1
      · have hr := (hmem c).mp hc
        exact ((h1 c (hr.lt hN0 gsc_lt)).1 hr).2
      · exact (h1 c hc).2 fun z => hn ((hmem c).mpr z)
    | succ d ih =>
      intro i S W X E hi h1 h2
      refine ⟨fun q => ?_, fun _ => ?_⟩
      · rw [jI_le (by omega) (by omega)] at q; omega
      · rw [jI_in (by omega), jI_nat (by omega), jI_one]
        refine ⟨by omega, 6 + 1, l0 i (by omega) _ W X (fun W1 X1 g1 g2 y => ?_) 6 0 W X (by omega) (fun _ _ => ⟨rfl, rfl⟩) (fun k hk => by omega)⟩
        have old : ∀ c, c < i → ∀ k, k < 6 → W1 (c * 6 + k) = W (c * 6 + k) ∧ X1 (c * 6 + k) = X (c * 6 + k) := fun c hc k hk => g1 _ fun k' hk' e => by omega
        refine md_has (by omega) ⟨fun q => ih (i + 1) S W1 X1 _ (by omega) (fun c hc => ?_) (fun b hb v hv m p hp => ?_), fun q => giveUses_sp hN0 hN hP hPar hR hD h ((hR i).mp q) g2 fun S' W2 X2 E2 w1 w2 w3 w4 w5 w6 => ih (i + 1) S' W2 X2 E2 (by omega) (fun c hc => ?_) (fun b hb v hv m p hp => ?_)⟩
        · by_cases e : c = i
          · subst e
            rw [upd_same]
            exact ⟨fun z => (by rw [(hR c).mpr z] at q; cases q), fun _ => ⟨g2, rfl⟩⟩
          · rw [upd_other _ _ e]
            refine ⟨fun z => ⟨fun k hk => ?_, ((h1 c (by omega)).1 z).2⟩, fun z => ⟨fun k hk => ?_, ((h1 c (by omega)).2 z).2⟩⟩
            · rw [(old c (by omega) k hk).1, (old c (by omega) k hk).2]; exact ((h1 c (by omega)).1 z).1 k hk
            · rw [(old c (by omega) k hk).1, (old c (by omega) k hk).2]; exact ((h1 c (by omega)).2 z).1 k hk
        · by_cases e : b = i
          · subst e
            rw [(hR b).mpr (Mt.re m)] at q; cases q
          · exact h2 b (by omega) v hv m p hp
        · by_cases e : c = i
          · subst e
            exact ⟨fun _ => ⟨w4, w6⟩, fun z => absurd ((hR c).mp q) z⟩
          · rw [w5 c e, upd_other _ _ e]
            have o2 : ∀ k, k < 6 → W2 (c * 6 + k) = W (c * 6 + k) ∧ X2 (c * 6 + k) = X (c * 6 + k) := fun k hk => by
              have := w3 (c * 6 + k) fun k' hk' e2 => by omega
              rw [this.1, this.2]; exact old c (by omega) k hk
            refine ⟨fun z => ⟨fun k hk => ?_, ((h1 c (by omega)).1 z).2⟩, fun z => ⟨fun k hk => ?_, ((h1 c (by omega)).2 z).2⟩⟩
            · rw [(o2 k hk).1, (o2 k hk).2]; exact ((h1 c (by omega)).1 z).1 k hk
            · rw [(o2 k hk).1, (o2 k hk).2]; exact ((h1 c (by omega)).2 z).1 k hk
        · by_cases e : b = i
          · subst e; exact w2 v hv m p hp
          · rw [w1 _ fun v' hv' p' hp' e2 => by omega]
            exact h2 b (by omega) v hv m p hp
  refine key _ (fun S W X E hU hM y => ⟨600 + 1, ?_⟩) N 0 a3 a5 a6 a7 (by omega) (fun c hc => by omega) (fun b hb => by omega)
  have hsum : cntB isn 600 = sumN (cnA N yes no stepCount kind target) 6 := by
    have e : ∀ v, v < 6 → (num v).toNatClampNeg = cnA N yes no stepCount kind target v := by
      intro v hv
      rw [h.num hv, jI_nat]
      have hx := NX.of (stepCount := stepCount) (kind := kind) (target := target) hN0 hN hPar
      have h2 := tot_le (st := sets kind target) (mt := MT N yes no stepCount kind target) hx.2.2.2.2.1 v (ordOf (gsc N yes no) N)
      have h3 := hx.2.2.1
      unfold cnA cN
      omega
    rw [hcn]
    unfold sm
    simp only [sumN]
    rw [e 0 (by omega), e 1 (by omega), e 2 (by omega), e 3 (by omega), e 4 (by omega), e 5 (by omega)]
  have cl : ∀ n, cntB isn n ≤ n := by
    intro n
    induction n with
    | zero => exact Nat.le_refl _
    | succ n ih => simp only [cntB]; split <;> omega
  have key2 : ∀ (d i : Nat), i + d = 600 → lpMd_build_104 0 R true D mn S sn W X E gone isn nb nst num op post (d + 1) (nI (cntB isn i)) (nI i) := by
    intro d
    induction d with
    | zero =>
      intro i hi
      have : i = 600 := by omega
      subst this
      refine ⟨fun _ => ?_, fun q => absurd (Int32.le_refl _) q⟩
      rw [hsum]
      exact hp mn sn gone isn nb nst num W X E S op R D h hgone hsx hU hM
    | succ d ih =>
      intro i hi
      refine ⟨fun q => ?_, fun _ => ?_⟩
      · rw [show (600 : Int32) = nI 600 from rfl, jI_le (by omega) (by omega)] at q; omega
      · rw [jI_in (by omega), jI_nat (by omega), jI_one]
        refine ⟨by omega, fun q v hv => ?_, fun q v hv => ?_⟩
        · have e : v = nI (cntB isn (i + 1)) := by
            rw [hv, Int32.add_zero]
            simp only [cntB]
            rw [q]
            rfl
          rw [e]; exact ih (i + 1) (by omega)
        · have e : v = nI (cntB isn (i + 1)) := by
            rw [hv, jI_one]
            simp only [cntB]
            rw [if_pos q]
          rw [e]; exact ih (i + 1) (by omega)
  exact key2 600 0 (by omega)
theorem sNm_lt (hN0 : 0 < N) (hN : N ≤ 12) (hPar : HasPar (gsc N yes no) N) {b : Nat} (hm : b ∈ ordOf (gsc N yes no) N) {k : Nat} (hk : k ≤ nsF stepCount b) (v : Nat) : sNm (ordOf (gsc N yes no) N) (nsF stepCount) (sets kind target) (MT N yes no stepCount kind target) b k v < 100 * v + 98 := by
  have hx := NX.of (stepCount := stepCount) (kind := kind) (target := target) hN0 hN hPar
  have h1 := cN_pre (ord := ordOf (gsc N yes no) N) (ns := nsF stepCount) (st := sets kind target) (mt := MT N yes no stepCount kind target) (vis := ordOf (gsc N yes no) N) (tl := []) (by simp) hm v
  have h2 := tot_le (st := sets kind target) (mt := MT N yes no stepCount kind target) hx.2.2.2.2.1 v (ordOf (gsc N yes no) N)
  have h3 := hx.2.2.1
  have h4 := sB_mono (st := sets kind target) b v hk
  unfold sNm
  unfold nB at h1
  unfold cN at *
  omega
theorem Hm.lt600 (hN0 : 0 < N) (hN : N ≤ 12) (hPar : HasPar (gsc N yes no) N) {m c : Nat} {pl : Int32} (h : Hm (ordOf (gsc N yes no) N) (nsF stepCount) (sets kind target) (MT N yes no stepCount kind target) N (ordOf (gsc N yes no) N) 0 0 0 m c pl) : m < 600 := by
  have no0 : ∀ c x, mD (ordOf (gsc N yes no) N) 0 0 c x → c ∈ ordOf (gsc N yes no) N := by
    rintro c x (z | z)
    · exact z
    · omega
  rcases h with ⟨v, hv, rfl, -⟩ | ⟨v, hv, a1, a2, rfl, -⟩ | ⟨v, hv, j, a1, a2, a3, rfl, -⟩
  · omega
  · have := mNm_lt (stepCount := stepCount) (kind := kind) (target := target) hN0 hN hPar (no0 _ _ a1) v; omega
  · have := sNm_lt (stepCount := stepCount) (kind := kind) (target := target) hN0 hN hPar (no0 _ _ a1) (Nat.le_of_lt a2) v; omega
theorem LA_ok (hN0 : 0 < N) (hN : N ≤ 12) (hPar : HasPar (gsc N yes no) N) {mn sn hb hp num : Nat → Int32} (h : NSA N yes no stepCount kind target mn sn hb hp num (fun m => ¬ hb m = -1)) {b v k : Nat} (hbr : Rch (gsc N yes no) okT b) (hv : v < 6) (hk : k ≤ nsF stepCount b) : useOK hb (nI (LA N yes no stepCount kind target b v k)) ∧ ¬ nI (LA N yes no stepCount kind target b v k) = -1 := by
  have hmem := fun x => ord_mem hN0 gsc_lt hPar x
  have hd := dcn_le (gsc N yes no) b N
  obtain ⟨c, pl, hm⟩ := lat_name (N := N) (ord := ordOf (gsc N yes no) N) (ns := nsF stepCount) (st := sets kind target) (mt := MT N yes no stepCount kind target) (Fal.of hN0 hPar) (fun b hb => (hmem b).mpr hb) 0 hv 13 b hbr (by omega) (by omega) k hk
  have h1 := hm.lt600 hN0 hN hPar
  exact ⟨Or.inr ⟨_, h1, rfl, (h.2.2.2.1 _ _ _ hm).1⟩, jI_m1 (show LA N yes no stepCount kind target b v k < _ from by unfold LA; omega)⟩
theorem ns_lt (hP : PR N stepCount kind target first second forkVariable yes no starts mMany mKinds mVs mWs mXs mEnds mEndVariable mYes mNo mStarts) {b : Nat} (hb : b < N) {k : Nat} (hk : k < 6) : nI k < stepCount b ↔ k < nsF stepCount b := by
  obtain ⟨n, hn, en, -⟩ := hP.ct b hb
  rw [nsF_eq hn en, en, jI_lt (by omega) (by omega)]
theorem FR.built (hN0 : 0 < N) (hN : N ≤ 12) (hP : PR N stepCount kind target first second forkVariable yes no starts mMany mKinds mVs mWs mXs mEnds mEndVariable mYes mNo mStarts) (hPar : HasPar (gsc N yes no) N) {mn mu sn fu su eu num hb hp mn' sn' nb nst num' W X E S : Nat → Int32} {gone isn : Nat → Bool} (a1 : NSA N yes no stepCount kind target mn sn hb hp num (fun m => ¬ hb m = -1)) (a2 : UsO N (nsF stepCount) kind first second forkVariable (LA N yes no stepCount kind target) (ordOf (gsc N yes no) N) fu su eu) (a3 : ∀ b, b < N → ∀ v, v < 6 → ∀ p, p ≤ N → MU N yes no (MT N yes no stepCount kind target) (LA N yes no stepCount kind target) (nsF stepCount) b v p (mu ((b * 6 + v) * (N + 1) + p)))
    (b1 : NSA N yes no stepCount kind target mn' sn' nb nst num' (fun m => isn m = true)) (b2 : ∀ i, i < 72 → gone i = false) (b3 : ∀ j, j < 72 → (∀ c, c < N → ∀ k, k < nsF stepCount c → j ≠ c * 6 + k) → sn' j = -1) (b4 : UsO N (nsF stepCount) kind first second forkVariable (LA N yes no stepCount kind target) (ordOf (gsc N yes no) N) W X E) (b5 : ∀ b, b < N → ∀ v, v < 6 → MT N yes no stepCount kind target b v → ∀ p, p ≤ N → MU N yes no (MT N yes no stepCount kind target) (LA N yes no stepCount kind target) (nsF stepCount) b v p (S (13 * (b * 6 + v) + p))) : FR N stepCount kind forkVariable yes no mn mu sn fu su eu hb hp mn' S sn' W X E gone isn nb nst := by
  have hmem := fun x => ord_mem hN0 gsc_lt hPar x
  have inord : ∀ c x, mD (ordOf (gsc N yes no) N) 0 0 c x → c ∈ ordOf (gsc N yes no) N := by
    rintro c x (z | z)
    · exact z
    · omega
  have mtm : ∀ b, b < N → ∀ v, v < 6 → (MT N yes no stepCount kind target b v → ∃ m, m < 600 ∧ mn (b * 6 + v) = nI m ∧ mn' (b * 6 + v) = nI m ∧ m / 100 = v ∧ hb m = nI b ∧ hp m = -1) ∧ (¬ MT N yes no stepCount kind target b v → mn (b * 6 + v) = -1 ∧ mn' (b * 6 + v) = -1) := by
    intro b hbN v hv
    refine ⟨fun z => ?_, fun z => ⟨(a1.2.1 b hbN v hv).2.2 z, (b1.2.1 b hbN v hv).2.2 z⟩⟩
    have hbo := (hmem b).mpr (Mt.re z)
    have hlt := mNm_lt (stepCount := stepCount) (kind := kind) (target := target) hN0 hN hPar hbo v
    have hge : 100 * v ≤ mNm (ordOf (gsc N yes no) N) (nsF stepCount) (sets kind target) (MT N yes no stepCount kind target) b v := by unfold mNm; omega
    have hH : Hm (ordOf (gsc N yes no) N) (nsF stepCount) (sets kind target) (MT N yes no stepCount kind target) N (ordOf (gsc N yes no) N) 0 0 0 (mNm (ordOf (gsc N yes no) N) (nsF stepCount) (sets kind target) (MT N yes no stepCount kind target) b v) b (-1) := Or.inr (Or.inl ⟨v, hv, Or.inl hbo, z, rfl, rfl⟩)
    have := a1.2.2.2.1 _ _ _ hH
    exact ⟨_, by omega, (a1.mtp hbN hbo hv).1 z, (b1.mtp hbN hbo hv).1 z, by omega, this.2.1, this.2.2⟩
  have stm : ∀ b, b < N → ∀ k, k < 6 → k < nsF stepCount b → (Rch (gsc N yes no) okT b ∧ ¬ kind (b * 6 + k) = 7 ∧ ∃ m, m < 600 ∧ sn (b * 6 + k) = nI m ∧ sn' (b * 6 + k) = nI m ∧ hb m = nI b ∧ hp m = nI k) ∨ ((¬ Rch (gsc N yes no) okT b ∨ kind (b * 6 + k) = 7) ∧ sn (b * 6 + k) = -1 ∧ sn' (b * 6 + k) = -1) := by
    intro b hbN k hk hkn
    obtain ⟨-, -, hvar⟩ := st_var hP hbN hkn
    by_cases hr : Rch (gsc N yes no) okT b
    · have hbo := (hmem b).mpr hr
      rcases hvar with ⟨q, hno⟩ | ⟨q, v, hv, et, hs⟩
      · exact Or.inr ⟨Or.inr q, (a1.2.2.1 b hbN k hk).2 (Or.inr (Or.inr fun v _ => hno v)), (b1.2.2.1 b hbN k hk).2 (Or.inr (Or.inr fun v _ => hno v))⟩
      · have hH : Hm (ordOf (gsc N yes no) N) (nsF stepCount) (sets kind target) (MT N yes no stepCount kind target) N (ordOf (gsc N yes no) N) 0 0 0 (sNm (ordOf (gsc N yes no) N) (nsF stepCount) (sets kind target) (MT N yes no stepCount kind target) b k v) b (nI k) := Or.inr (Or.inr ⟨v, hv, k, Or.inl hbo, hkn, hs, rfl, rfl⟩)
        have := a1.2.2.2.1 _ _ _ hH
        exact Or.inl ⟨hr, q, _, hH.lt600 hN0 hN hPar, a1.stp hbN hbo hkn hk hv hs, b1.stp hbN hbo hkn hk hv hs, this.2.1, this.2.2⟩
    · have hno : ¬ mD (ordOf (gsc N yes no) N) 0 0 b k := fun z => hr ((hmem b).mp (inord b k z))
      exact Or.inr ⟨Or.inl hr, (a1.2.2.1 b hbN k hk).2 (Or.inl hno), (b1.2.2.1 b hbN k hk).2 (Or.inl hno)⟩
  have uok : ∀ {b v k : Nat}, Rch (gsc N yes no) okT b → v < 6 → k ≤ nsF stepCount b → useOK hb (nI (LA N yes no stepCount kind target b v k)) ∧ ¬ nI (LA N yes no stepCount kind target b v k) = -1 := fun h1 h2 h3 => LA_ok hN0 hN hPar a1 h1 h2 h3
  have uoe : ∀ v, v < 6 → useOK hb (nI (100 * v)) := fun v hv => Or.inr ⟨100 * v, by omega, rfl, (a1.2.2.2.1 (100 * v) N (-1) (Or.inl ⟨v, hv, rfl, rfl, rfl⟩)).1⟩
  refine FR.mk (nm := ?_) (mt := ?_) (so := ?_) (se := ?_) (sx := ?_) (us := ?_) (eu := ?_) (gn := ?_)
  · intro m hm
    by_cases hH : ∃ c pl, Hm (ordOf (gsc N yes no) N) (nsF stepCount) (sets kind target) (MT N yes no stepCount kind target) N (ordOf (gsc N yes no) N) 0 0 0 m c pl
    · obtain ⟨c, pl, hH⟩ := hH
      have e1 := a1.2.2.2.1 m c pl hH
      have e2 := b1.2.2.2.1 m c pl hH
      refine Or.inr ⟨e2.1, e2.2.1.trans e1.2.1.symm, e2.2.2.trans e1.2.2.symm, ?_⟩
      rcases hH with ⟨v, hv, -, rfl, rfl⟩ | ⟨v, hv, q1, q2, -, rfl⟩ | ⟨v, hv, j, q1, q2, q3, rfl, rfl⟩
      · exact ⟨c, Nat.le_refl _, e1.2.1, Or.inl ⟨rfl, e1.2.2⟩⟩
      · have hr := (hmem c).mp (inord _ _ q1)
        have := hr.lt hN0 gsc_lt
        exact ⟨c, by omega, e1.2.1, Or.inr ⟨this, hr, Or.inl e1.2.2⟩⟩
      · have hr := (hmem c).mp (inord _ _ q1)
        have hc := hr.lt hN0 gsc_lt
        have hj6 : j < 6 := by unfold nsF at q2; omega
        exact ⟨c, by omega, e1.2.1, Or.inr ⟨hc, hr, Or.inr ⟨j, hj6, (ns_lt hP hc hj6).mpr q2, e1.2.2, a1.stp hc (inord _ _ q1) q2 hj6 hv q3⟩⟩⟩
    · have hno : ∀ c pl, ¬ Hm (ordOf (gsc N yes no) N) (nsF stepCount) (sets kind target) (MT N yes no stepCount kind target) N (ordOf (gsc N yes no) N) 0 0 0 m c pl := fun c pl z => hH ⟨c, pl, z⟩
      exact Or.inl ⟨Classical.not_not.mp (a1.2.2.2.2 m hm hno), Bool.eq_false_iff.mpr (b1.2.2.2.2 m hm hno)⟩
  · intro b hbN v hv
    by_cases z : MT N yes no stepCount kind target b v
    · obtain ⟨m, h1, h2, h3, h4, h5, h6⟩ := (mtm b hbN v hv).1 z
      exact ⟨h3.trans h2.symm, Or.inr ⟨Mt.re z, m, h1, h2, h4, h5, h6⟩⟩
    · obtain ⟨h1, h2⟩ := (mtm b hbN v hv).2 z
      exact ⟨h2.trans h1.symm, Or.inl h1⟩
  · intro b hbN v hv p hp2
    have hmu := a3 b hbN v hv p hp2
    have hmt : ¬ mn (b * 6 + v) = -1 ↔ MT N yes no stepCount kind target b v := by
      constructor
      · exact fun q => Classical.byContradiction fun z => q ((mtm b hbN v hv).2 z).1
      · intro z
        obtain ⟨m, h1, h2, -⟩ := (mtm b hbN v hv).1 z
        rw [h2]; exact jI_m1 (by omega)
    have lok : Lead N yes no p b → useOK hb (nI (if p = N then 100 * v else LA N yes no stepCount kind target p v (nsF stepCount p))) ∧ ¬ nI (if p = N then 100 * v else LA N yes no stepCount kind target p v (nsF stepCount p)) = -1 := by
      intro hl
      by_cases e : p = N
      · rw [if_pos e]; exact ⟨uoe v hv, jI_m1 (by omega)⟩
      · rw [if_neg e]
        rcases hl with hl | hl
        · exact uok hl.1 hv (Nat.le_refl _)
        · exact absurd hl.1 e
    refine ⟨fun q => ?_, fun q => ⟨(b5 b hbN v hv (hmt.mp q) p hp2).uniq hmu, fun hl => ?_⟩, fun hl => ?_, ?_⟩
    · rcases hmu with ⟨z, -⟩ | ⟨-, z⟩
      · exact absurd q (hmt.mpr z)
      · exact z
    · rcases hmu with ⟨-, -, z⟩ | ⟨z, -⟩
      · rw [z]; exact (lok hl).2
      · exact absurd ⟨hmt.mp q, hl⟩ z
    · rcases hmu with ⟨-, z, -⟩ | ⟨-, z⟩
      · exact absurd z hl
      · exact z
    · rcases hmu with ⟨-, hl, z⟩ | ⟨-, z⟩
      · rw [z]; exact (lok hl).1
      · exact Or.inl z
  · intro b hbN k hk hlt
    rcases stm b hbN k hk ((ns_lt hP hbN hk).mp hlt) with ⟨-, -, m, h1, h2, h3, h4⟩ | ⟨-, h1, h2⟩
    · exact ⟨h3.trans h2.symm, Or.inr ⟨m, h1, h2, h4⟩⟩
    · exact ⟨h2.trans h1.symm, Or.inl h1⟩
  · intro i hi h
    refine b3 i hi fun c hc k hk => ?_
    have hk6 : k < 6 := by unfold nsF at hk; omega
    exact h c hc k hk6 ((ns_lt hP hc hk6).mpr hk)
  · intro b hbN k hk
    by_cases hr : Rch (gsc N yes no) okT b
    · have hbo := (hmem b).mpr hr
      have u1 := a2.1 b hbo k hk
      have u2 := b4.1 b hbo k hk
      refine ⟨u2.1.uniq u1.1, u2.2.uniq u1.2, ?_, ?_, fun z => ?_⟩
      · rcases u1.1 with ⟨h1, -, w, hw, -, e⟩ | ⟨-, e⟩
        · rw [e]; exact (uok hr hw (Nat.le_of_lt h1)).1
        · exact Or.inl e
      · rcases u1.2 with ⟨h1, -, w, hw, -, e⟩ | ⟨-, e⟩
        · rw [e]; exact (uok hr hw (Nat.le_of_lt h1)).1
        · exact Or.inl e
      · have hk2 : ¬ k < nsF stepCount b := by
          rcases z with z | z
          · exact fun w => z ((ns_lt hP hbN hk).mpr w)
          · exact absurd hr z
        constructor
        · rcases u1.1 with ⟨h1, -⟩ | ⟨-, e⟩
          · exact absurd h1 hk2
          · exact e
        · rcases u1.2 with ⟨h1, -⟩ | ⟨-, e⟩
          · exact absurd h1 hk2
          · exact e
    · have hbo : b ∉ ordOf (gsc N yes no) N := fun z => hr ((hmem b).mp z)
      have u1 := (a2.2.2 b hbN hbo).1 k hk
      have u2 := (b4.2.2 b hbN hbo).1 k hk
      exact ⟨u2.1.trans u1.1.symm, u2.2.trans u1.2.symm, Or.inl u1.1, Or.inl u1.2, fun _ => u1⟩
  · intro b hbN
    by_cases hr : Rch (gsc N yes no) okT b
    · have hbo := (hmem b).mpr hr
      have u1 := a2.2.1 b hbo
      have u2 := b4.2.1 b hbo
      refine ⟨u2.uniq u1, ?_, fun z => absurd hr z, fun _ z => ?_⟩
      · rcases u1 with ⟨w, hw, -, e⟩ | ⟨-, e⟩
        · rw [e]; exact (uok hr hw (Nat.le_refl _)).1
        · exact Or.inl e
      · rcases u1 with ⟨w, hw, -, e⟩ | ⟨e, -⟩
        · rw [e]; exact (uok hr hw (Nat.le_refl _)).2
        · exact absurd e z
    · have hbo : b ∉ ordOf (gsc N yes no) N := fun z => hr ((hmem b).mp z)
      have u1 := (a2.2.2 b hbN hbo).2
      have u2 := (b4.2.2 b hbN hbo).2
      exact ⟨u2.trans u1.symm, Or.inl u1, fun _ => u1, fun z => absurd z hr⟩
  · intro b hbN hr k hk hlt
    have hkn := (ns_lt hP hbN hk).mp hlt
    have hbo := (hmem b).mpr hr
    have u1 := a2.1 b hbo k hk
    refine Or.inr ⟨b2 _ (by omega), fun q => ?_, fun q => ?_, fun q q2 => ?_⟩
    · rcases stm b hbN k hk hkn with ⟨-, -, m, h1, h2, -⟩ | ⟨z | z, -⟩
      · rw [h2]; exact jI_m1 (by omega)
      · exact absurd hr z
      · exact absurd z q
    · rcases u1.1 with ⟨h1, -, w, hw, -, e⟩ | ⟨z | z, -⟩
      · rw [e]; exact (uok hr hw (Nat.le_of_lt h1)).2
      · exact absurd hkn z
      · exact absurd z q
    · rcases u1.2 with ⟨h1, -, w, hw, -, e⟩ | ⟨z | z, -⟩
      · rw [e]; exact (uok hr hw (Nat.le_of_lt h1)).2
      · exact absurd hkn z
      · exact absurd ⟨q, q2⟩ z
end BB
theorem k_build {N L : Nat} {xs : Nat → Int32} {v4 : Int32} (hN0 : 0 < N) (hN : N ≤ 12) (hv : ∀ j, j < 6 → vp_in (v4 + nI j) L) (formStands : Bool) (stepCount : Nat → Int32) (kind : Nat → Int32) (target : Nat → Int32) (first : Nat → Int32) (second : Nat → Int32) (forkVariable : Nat → Int32) (yes : Nat → Int32) (no : Nat → Int32) (starts : Nat → Int32) (orderSize : Int32) (reached : Int32) (forerunners : Nat → Int32) (blw : Nat → Int32) (frontiers : Nat → Int32) (parents : Nat → Int32) (order : Nat → Int32) (waiting : Nat → Int32) (meetingNames : Nat → Int32) (meetingUses : Nat → Int32) (stepNames : Nat → Int32) (firstUses : Nat → Int32) (secondUses : Nat → Int32) (endUses : Nat → Int32) (lastNames : Nat → Int32) (namesOf : Nat → Int32) (homeBlock : Nat → Int32) (homePlace : Nat → Int32) (standsFor : Nat → Int32) (pending : Int32) (length : Int32) (pendingTo : Nat → Int32) (pendingFrom : Nat → Int32) (copyTo : Nat → Int32) (copyFrom : Nat → Int32) (way : Int32) (values : Nat → Int32) (arriving : Nat → Int32) (T0size : Int32) (T0out : Int32) (T0num : Nat → Int32) (T1size : Int32) (T1out : Int32) (T1num : Nat → Int32) (T2size : Int32) (T2out : Int32) (T2num : Nat → Int32) (outc : Nat → Int64) (mThrown : Int32) (mReached : Int32) (mForm : Bool) (mSlot : Int32) (mOver : Bool) (mMany : Nat → Int32) (mKinds : Nat → Int32) (mVs : Nat → Int32) (mWs : Nat → Int32) (mXs : Nat → Int32) (mEnds : Nat → Int32) (mEndVariable : Nat → Int32) (mYes : Nat → Int32) (mNo : Nat → Int32) (mStarts : Nat → Int32) (mDominators : Nat → Int32) (mMeets : Nat → Int32) (mSources : Nat → Int32) (mSet : Nat → Int32) (mUseW : Nat → Int32) (mUseX : Nat → Int32) (mEndUse : Nat → Int32) (mGone : Nat → Bool) (mIsName : Nat → Bool) (mNameBlock : Nat → Int32) (mNameStep : Nat → Int32) (mNumbers : Nat → Int32) (mSaid : Nat → Int32) (mSaidCount : Nat → Int32) (mFailed : Nat → Int32) (mValues : Nat → Int32) (mNextValues : Nat → Int32) (mOpen : Nat → Int32) (h : JJ N formStands stepCount kind target first second forkVariable yes no starts orderSize reached forerunners blw frontiers parents order waiting meetingNames meetingUses stepNames firstUses secondUses endUses lastNames namesOf homeBlock homePlace standsFor pending length pendingTo pendingFrom copyTo copyFrom way values arriving T0size T0out T0num T1size T1out T1num T2size T2out T2num outc mThrown mReached mForm mSlot mOver mMany mKinds mVs mWs mXs mEnds mEndVariable mYes mNo mStarts mDominators mMeets mSources mSet mUseW mUseX mEndUse mGone mIsName mNameBlock mNameStep mNumbers mSaid mSaidCount mFailed mValues mNextValues mOpen) : wpLc_build N L xs v4 formStands stepCount kind target first second forkVariable yes no starts orderSize reached forerunners blw frontiers parents order waiting meetingNames meetingUses stepNames firstUses secondUses endUses lastNames namesOf homeBlock homePlace standsFor pending length pendingTo pendingFrom copyTo copyFrom way values arriving T0size T0out T0num T1size T1out T1num T2size T2out T2num outc mThrown mReached mForm mSlot mOver mMany mKinds mVs mWs mXs mEnds mEndVariable mYes mNo mStarts mDominators mMeets mSources mSet mUseW mUseX mEndUse mGone mIsName mNameBlock mNameStep mNumbers mSaid mSaidCount mFailed mValues mNextValues mOpen (JJ N) := by
  obtain ⟨hP, hS, hT, hf, hF⟩ := h
  unfold wpLc_build wpOn_build
  have hPar := hS.pa.has hN0 gsc_lt
  refine assemble_sp hN0 hN hP hS fun mn mu sn fu su eu LN num hb hpl a1 a2 a3 => ?_
  refine mdBuild_sp hN0 hN hP hPar fun mn' sn' gone isn nb nst num' W X E S op R D b1 b2 b3 b4 b5 => ?_
  exact ⟨fun _ => ⟨hP, hS, hT, rfl, fun _ => FR.built hN0 hN hP hPar a1 a2 a3 b1 b2 b3 b4 b5⟩, fun q => absurd rfl q⟩
