/-! the moves of a block and a forerunner, and the plan drawn for them -/
def tmF (mn : Nat → Int32) (b v : Nat) : Nat := (mn (b * 6 + v)).toNatClampNeg
def s0F (N : Nat) (mu : Nat → Int32) (b p v : Nat) : Nat := (mu ((b * 6 + v) * (N + 1) + p)).toNatClampNeg
def mvF (N : Nat) (mn mu : Nat → Int32) (b p v : Nat) : Prop := v < 6 ∧ ¬ mu ((b * 6 + v) * (N + 1) + p) = -1 ∧ ¬ mu ((b * 6 + v) * (N + 1) + p) = mn (b * 6 + v)
noncomputable def nM (mv : Nat → Prop) : Nat → Nat
  | 0 => 0
  | n + 1 => nM mv n + cif (mv n) 1 0
theorem nM_le (mv : Nat → Prop) (n : Nat) : nM mv n ≤ n := by
  induction n with
  | zero => exact Nat.le_refl _
  | succ n ih =>
    simp only [nM]
    by_cases h : mv n
    · rw [cif_pos h]; omega
    · rw [cif_neg h]; omega
def E0F (mv : Nat → Prop) (t s0 : Nat → Nat) (u w : Nat) : Prop := mv u ∧ mv w ∧ s0 u = t w
noncomputable def ttF (mv : Nat → Prop) (t s0 : Nat → Nat) : Nat := nM mv 6 + qc (E0F mv t s0) 6
section DW
variable {N : Nat} {stepCount kind forkVariable yes no meetingNames meetingUses stepNames firstUses secondUses endUses homeBlock homePlace mMeets mSources mSet mUseW mUseX mEndUse : Nat → Int32} {mGone mIsName : Nat → Bool} {mNameBlock mNameStep : Nat → Int32}
theorem FR.mv (hN : N ≤ 12) (F : FR N stepCount kind forkVariable yes no meetingNames meetingUses stepNames firstUses secondUses endUses homeBlock homePlace mMeets mSources mSet mUseW mUseX mEndUse mGone mIsName mNameBlock mNameStep) {b p : Nat} (hb : b < N) (hp : p ≤ N) {v : Nat} (hv : v < 6) : (meetingUses ((b * 6 + v) * (N + 1) + p) = -1 ∨ (meetingUses ((b * 6 + v) * (N + 1) + p) = nI (s0F N meetingUses b p v) ∧ s0F N meetingUses b p v < 600 ∧ ¬ meetingNames (b * 6 + v) = -1)) ∧ (meetingNames (b * 6 + v) = -1 ∨ (meetingNames (b * 6 + v) = nI (tmF meetingNames b v) ∧ tmF meetingNames b v < 600 ∧ tmF meetingNames b v / 100 = v)) := by
  have so := F.so b hb v hv p hp
  have mt := F.mt b hb v hv
  constructor
  · rcases so.2.2.2 with z | ⟨m, hm, e, -⟩
    · exact Or.inl z
    · refine Or.inr ?_
      unfold s0F
      rw [e, jI_nat (by omega)]
      refine ⟨rfl, hm, fun z => ?_⟩
      have := so.1 z
      rw [e] at this
      exact jI_m1 (by omega) this
  · rcases mt.2 with z | ⟨-, m, hm, e, e2, -⟩
    · exact Or.inl z
    · refine Or.inr ?_
      unfold tmF
      rw [e, jI_nat (by omega)]
      exact ⟨rfl, hm, e2⟩
theorem FR.mvs (hN : N ≤ 12) (F : FR N stepCount kind forkVariable yes no meetingNames meetingUses stepNames firstUses secondUses endUses homeBlock homePlace mMeets mSources mSet mUseW mUseX mEndUse mGone mIsName mNameBlock mNameStep) {b p : Nat} (hb : b < N) (hp : p ≤ N) : Mvs (mvF N meetingNames meetingUses b p) (tmF meetingNames b) (s0F N meetingUses b p) := by
  have key : ∀ v, mvF N meetingNames meetingUses b p v → meetingUses ((b * 6 + v) * (N + 1) + p) = nI (s0F N meetingUses b p v) ∧ s0F N meetingUses b p v < 600 ∧ meetingNames (b * 6 + v) = nI (tmF meetingNames b v) ∧ tmF meetingNames b v < 600 ∧ tmF meetingNames b v / 100 = v := by
    rintro v ⟨hv, h1, h2⟩
    have := F.mv hN hb hp hv
    rcases this.1 with z | ⟨z1, z2, z3⟩
    · exact absurd z h1
    · rcases this.2 with w | ⟨w1, w2, w3⟩
      · exact absurd w z3
      · exact ⟨z1, z2, w1, w2, w3⟩
  refine ⟨fun v h => ?_, fun v w h1 h2 e => ?_⟩
  · have := key v h
    exact ⟨h.1, this.2.2.2.1, this.2.1, fun e => h.2.2 (by rw [this.1, this.2.2.1, e])⟩
  · have k1 := (key v h1).2.2.2.2
    have k2 := (key w h2).2.2.2.2
    rw [← k1, ← k2, e]
theorem meetingName_sp (hN : N ≤ 12) {mn : Nat → Int32} {b v : Nat} (hb : b < N) (hv : v < 6) {post : Int32 → Prop} (hp : post (mn (b * 6 + v))) : wpNamedForm_meetingName N mn (nI b) (nI v) post := by
  unfold wpNamedForm_meetingName
  rw [jt6, jI_mul, jI_add, jI_in (by omega), jI_nat (by omega)]
  exact ⟨by omega, hp⟩
theorem E0_eq {mv : Nat → Prop} {t s0 : Nat → Nat} {n : Nat} {a : Nat → Nat} (h : ∀ v, alv n a v ↔ mv v) : Eg n a t s0 = E0F mv t s0 := by
  funext u w
  unfold Eg E0F
  rw [h u, h w]
theorem draw_sp (hN0 : 0 < N) (hN : N ≤ 12) (F : FR N stepCount kind forkVariable yes no meetingNames meetingUses stepNames firstUses secondUses endUses homeBlock homePlace mMeets mSources mSet mUseW mUseX mEndUse mGone mIsName mNameBlock mNameStep) {b p : Nat} (hb : b < N) (hp : p ≤ N) {pT0 pF0 cT0 cF0 : Nat → Int32} {post : Int32 → Int32 → (Nat → Int32) → (Nat → Int32) → (Nat → Int32) → (Nat → Int32) → Prop} (hpost : ∀ a src pT pF cT cF, DR (mvF N meetingNames meetingUses b p) (tmF meetingNames b) (s0F N meetingUses b p) (ttF (mvF N meetingNames meetingUses b p) (tmF meetingNames b) (s0F N meetingUses b p)) 0 a src (ttF (mvF N meetingNames meetingUses b p) (tmF meetingNames b) (s0F N meetingUses b p)) pT pF cT cF → ttF (mvF N meetingNames meetingUses b p) (tmF meetingNames b) (s0F N meetingUses b p) ≤ 9 → post (nI 0) (nI (ttF (mvF N meetingNames meetingUses b p) (tmF meetingNames b) (s0F N meetingUses b p))) pT pF cT cF) : wpCopyPlan_draw N meetingNames meetingUses pT0 pF0 cT0 cF0 (nI b) (nI p) post := by
  have hM := F.mvs hN hb hp
  have htt : ttF (mvF N meetingNames meetingUses b p) (tmF meetingNames b) (s0F N meetingUses b p) ≤ 9 := by
    unfold ttF
    have h1 := nM_le (mvF N meetingNames meetingUses b p) 6
    have h2 := qc_three (E := E0F (mvF N meetingNames meetingUses b p) (tmF meetingNames b) (s0F N meetingUses b p)) (fun u w w' g1 g2 => hM.2 _ _ g1.2.1 g2.2.1 (g1.2.2.symm.trans g2.2.2)) (fun v g => (hM.1 v g.1).2.2.2 g.2.2) (fun u w g => ⟨g.1.1, g.2.1.1⟩)
    omega
  have key : ∀ (d i n : Nat) (a : Nat → Nat) (pT pF : Nat → Int32), i + d = 6 → n = nM (mvF N meetingNames meetingUses b p) i → (∀ j, j < n → mvF N meetingNames meetingUses b p (a j) ∧ a j < i ∧ pT j = meetingNames (b * 6 + a j) ∧ pF j = meetingUses ((b * 6 + a j) * (N + 1) + p)) → (∀ j k, j < n → k < n → a j = a k → j = k) → (∀ v, v < i → mvF N meetingNames meetingUses b p v → ∃ j, j < n ∧ a j = v) → lpCopyPlan_collect_8 N (nI b) (nI p) meetingNames meetingUses (fun pending_4 pendingTo_4 pendingFrom_4 => (∃ k15 : Nat, lpCopyPlan_draw_15 post k15 0 pending_4 0 pendingTo_4 pendingFrom_4 cT0 cF0)) (d + 1) (nI i) (nI n) pT pF := by
    intro d
    induction d with
    | zero =>
      intro i n a pT pF hi hn h1 h2 h3
      have : i = 6 := by omega
      subst this
      have hn6 := nM_le (mvF N meetingNames meetingUses b p) 6
      refine ⟨fun _ => ⟨9 + 1, ?_⟩, fun q => absurd (Int32.le_refl _) q⟩
      have hal : ∀ v, alv n a v ↔ mvF N meetingNames meetingUses b p v := by
        intro v
        constructor
        · rintro ⟨j, hj, rfl⟩; exact (h1 j hj).1
        · exact fun z => h3 v z.1 z
      refine draw_loop hM htt (fun a src pT pF cT cF hD => hpost a src pT pF cT cF hD htt) 9 n 0 a (s0F N meetingUses b p) pT pF cT0 cF0 (by omega) ⟨⟨by omega, fun j hj => ?_, h2⟩, ?_, fun i hi => by omega, fun val => ⟨fun v _ => rfl, fun v hm hna => absurd ((hal v).mpr hm) hna, fun x _ _ => rfl⟩⟩
      · obtain ⟨g1, g2, g3, g4⟩ := h1 j hj
        have mm := hM.1 _ g1
        have := F.mv hN hb hp g1.1
        refine ⟨g1, ?_, ?_, by omega, mm.2.2.2⟩
        · rcases this.1 with z | ⟨-, -, z⟩
          · exact absurd z g1.2.1
          · rcases this.2 with w | w
            · exact absurd w z
            · rw [g3, w.1]
        · rcases this.1 with z | z
          · exact absurd z g1.2.1
          · rw [g4, z.1]
      · rw [E0_eq hal]
        unfold ttF
        omega
    | succ d ih =>
      intro i n a pT pF hi hn h1 h2 h3
      have hni := nM_le (mvF N meetingNames meetingUses b p) i
      refine ⟨fun q => ?_, fun _ => ?_⟩
      · rw [jt6, jI_le (by omega) (by omega)] at q; omega
      · rw [jI_one]
        have skip : ¬ mvF N meetingNames meetingUses b p i → lpCopyPlan_collect_8 N (nI b) (nI p) meetingNames meetingUses (fun pending_4 pendingTo_4 pendingFrom_4 => (∃ k15 : Nat, lpCopyPlan_draw_15 post k15 0 pending_4 0 pendingTo_4 pendingFrom_4 cT0 cF0)) (d + 1) (nI (i + 1)) (nI n) pT pF := by
          intro hs
          refine ih (i + 1) n a pT pF (by omega) ?_ (fun j hj => ?_) h2 (fun v hv hm => ?_)
          · simp only [nM]; rw [cif_neg hs]; omega
          · have := h1 j hj
            exact ⟨this.1, by omega, this.2.2⟩
          · by_cases e : v = i
            · subst e; exact absurd hm hs
            · exact h3 v (by omega) hm
        refine useOfMeeting_sp hN hb (by omega) hp (meetingName_sp hN hb (by omega) ⟨fun q => skip fun z => z.2.1 q, fun q => ⟨fun q2 => skip fun z => z.2.2 q2, fun q2 => ?_⟩⟩)
        have hm : mvF N meetingNames meetingUses b p i := ⟨by omega, q, q2⟩
        rw [jI_in (by omega), jI_nat (by omega), jI_one]
        refine ⟨by omega, by omega, ih (i + 1) (n + 1) (fun j => if j = n then i else a j) _ _ (by omega) ?_ (fun j hj => ?_) (fun j k hj hk e => ?_) (fun v hv hm2 => ?_)⟩
        · simp only [nM]; rw [cif_pos hm]; omega
        · by_cases e : j = n
          · rw [if_pos e, e, upd_same, upd_same]; exact ⟨hm, by omega, rfl, rfl⟩
          · rw [if_neg e, upd_other _ _ e, upd_other _ _ e]
            have := h1 j (by omega)
            exact ⟨this.1, by omega, this.2.2⟩
        · by_cases z1 : j = n <;> by_cases z2 : k = n
          · omega
          · rw [if_pos z1, if_neg z2] at e
            have := (h1 k (by omega)).2.1; omega
          · rw [if_neg z1, if_pos z2] at e
            have := (h1 j (by omega)).2.1; omega
          · rw [if_neg z1, if_neg z2] at e
            exact h2 j k (by omega) (by omega) e
        · by_cases e : v = i
          · exact ⟨n, by omega, by rw [if_pos rfl, e]⟩
          · obtain ⟨j, hj, e2⟩ := h3 v (by omega) hm2
            exact ⟨j, by omega, by rw [if_neg (by omega)]; exact e2⟩
  exact ⟨6 + 1, key 6 0 0 (fun _ => 0) pT0 pF0 (by omega) rfl (fun j hj => by omega) (fun j k hj => by omega) (fun v hv => by omega)⟩
end DW
/-! the reference's count of copies -/
def GF (N : Nat) (mn mu : Nat → Int32) (b p v w : Nat) : Prop := v < 6 ∧ w < 6 ∧ ¬ mu ((b * 6 + v) * (N + 1) + p) = -1 ∧ mu ((b * 6 + v) * (N + 1) + p) = mn (b * 6 + w)
section MC
variable {N : Nat} {stepCount kind forkVariable yes no meetingNames meetingUses stepNames firstUses secondUses endUses homeBlock homePlace mMeets mSources mSet mUseW mUseX mEndUse : Nat → Int32} {mGone mIsName : Nat → Bool} {mNameBlock mNameStep : Nat → Int32}
theorem mn_inj (hN : N ≤ 12) (F : FR N stepCount kind forkVariable yes no meetingNames meetingUses stepNames firstUses secondUses endUses homeBlock homePlace mMeets mSources mSet mUseW mUseX mEndUse mGone mIsName mNameBlock mNameStep) {b : Nat} (hb : b < N) {v w : Nat} (hv : v < 6) (hw : w < 6) (h : ¬ meetingNames (b * 6 + v) = -1) (e : meetingNames (b * 6 + v) = meetingNames (b * 6 + w)) : v = w := by
  have h1 := (F.mv hN hb (Nat.zero_le N) hv).2
  have h2 := (F.mv hN hb (Nat.zero_le N) hw).2
  rcases h1 with z | ⟨a1, a2, a3⟩
  · exact absurd z h
  rcases h2 with z | ⟨b1, b2, b3⟩
  · rw [e] at h; exact absurd z h
  rw [a1, b1, jI_eq (by omega) (by omega)] at e
  rw [← a3, ← b3, e]
theorem GF.det (hN : N ≤ 12) (F : FR N stepCount kind forkVariable yes no meetingNames meetingUses stepNames firstUses secondUses endUses homeBlock homePlace mMeets mSources mSet mUseW mUseX mEndUse mGone mIsName mNameBlock mNameStep) {b p : Nat} (hb : b < N) : det (GF N meetingNames meetingUses b p) := by
  rintro u w w' ⟨h1, h2, h3, h4⟩ ⟨-, g2, -, g4⟩
  exact mn_inj hN F hb h2 g2 (fun z => h3 (h4.trans z)) (h4.symm.trans g4)
theorem meetingWith_sp (hN : N ≤ 12) (F : FR N stepCount kind forkVariable yes no meetingNames meetingUses stepNames firstUses secondUses endUses homeBlock homePlace mMeets mSources mSet mUseW mUseX mEndUse mGone mIsName mNameBlock mNameStep) {b : Nat} (hb : b < N) {x : Int32} {post : Int32 → Prop} (h1 : ∀ w, w < 6 → x = meetingNames (b * 6 + w) → post (nI w)) (h2 : (∀ w, w < 6 → ¬ x = meetingNames (b * 6 + w)) → post (-1)) : wpMd_meetingWith mMeets (nI b) x post := by
  have key : ∀ (d i : Nat), i + d = 6 → (∀ w, w < i → ¬ x = meetingNames (b * 6 + w)) → lpMd_meetingWith_2 (nI b) x mMeets post (d + 1) (nI i) := by
    intro d
    induction d with
    | zero =>
      intro i hi h
      have : i = 6 := by omega
      subst this
      exact ⟨fun _ => h2 h, fun q => absurd (Int32.le_refl _) q⟩
    | succ d ih =>
      intro i hi h
      refine ⟨fun q => ?_, fun _ => ?_⟩
      · rw [jt6, jI_le (by omega) (by omega)] at q; omega
      · rw [jt6, jI_mul, jI_add, jI_in (by omega), jI_nat (by omega), show 6 * b + i = b * 6 + i by omega, (F.mt b hb i (by omega)).1, jI_one]
        refine ⟨by omega, fun q => ih (i + 1) (by omega) fun w hw => ?_, fun q => h1 i (by omega) q.symm⟩
        by_cases e : w = i
        · subst e; exact fun z => q z.symm
        · exact h w (by omega)
  exact ⟨6 + 1, key 6 0 (by omega) (fun w hw => by omega)⟩
/-- the successor of v among the meetings -/
theorem next_sp (hN : N ≤ 12) (F : FR N stepCount kind forkVariable yes no meetingNames meetingUses stepNames firstUses secondUses endUses homeBlock homePlace mMeets mSources mSet mUseW mUseX mEndUse mGone mIsName mNameBlock mNameStep) {b p : Nat} (hb : b < N) (hp : p ≤ N) {v : Nat} (hv : v < 6) {post : Int32 → Prop} (h1 : ∀ w, GF N meetingNames meetingUses b p v w → post (nI w)) (h2 : (∀ w, ¬ GF N meetingNames meetingUses b p v w) → post (-1)) : wpMd_sourceOf mMeets mSources (nI b) (nI v) (nI p) (fun r151 => ((0 ≤ r151 → wpMd_sourceOf mMeets mSources (nI b) (nI v) (nI p) (fun r168 => wpMd_meetingWith mMeets (nI b) r168 (fun r171 => post r171))) ∧ (¬ 0 ≤ r151 → post (-1)))) := by
  have so := F.so b hb v hv p hp
  refine sourceOf_sp hN F hb hv hp ⟨fun q => sourceOf_sp hN F hb hv hp ?_, fun q => h2 fun w z => q ((nn_use so.2.2.2).mpr z.2.2.1)⟩
  have hne := (nn_use so.2.2.2).mp q
  exact meetingWith_sp hN F hb (fun w hw e => h1 w ⟨hv, hw, hne, e⟩) (fun h => h2 fun w z => h w z.2.1 z.2.2.2)
/-- the ring that is gone through from v -/
theorem ring_sp (hN : N ≤ 12) (F : FR N stepCount kind forkVariable yes no meetingNames meetingUses stepNames firstUses secondUses endUses homeBlock homePlace mMeets mSources mSet mUseW mUseX mEndUse mGone mIsName mNameBlock mNameStep) {b p : Nat} (hb : b < N) (hp : p ≤ N) {v : Nat} (hv : v < 6) {K : Int32 → Int32 → Int32 → Prop} (hK : ∀ ring x, (x = -1 ∨ ∃ w, w < 6 ∧ x = nI w) → (x = nI v ↔ Rp (GF N meetingNames meetingUses b p) v v) → (x = nI v → ∀ w, bt ring w = true ↔ Rp (GF N meetingNames meetingUses b p) v w) → ∀ y, K ring x y) :
    ∃ k, lpMd_copies_114 (nI b) (nI p) mMeets mSources K k 0 (nI v) 0 := by
  have hd := GF.det (p := p) hN F hb
  have key : ∀ (d k : Nat) (ring : Int32) (x : Int32) (f : Nat → Nat), k + d = 6 → f 0 = v → (∀ j, j + 1 < k → GF N meetingNames meetingUses b p (f j) (f (j + 1))) → (∀ i j, i < k → j < k → f i = f j → i = j) → (∀ j, j < k → f j < 6) → (∀ w, bt ring w = true ↔ ∃ j, j < k ∧ f j = w) → ((k = 0 ∧ x = nI v) ∨ (0 < k ∧ ((∃ w, x = nI w ∧ GF N meetingNames meetingUses b p (f (k - 1)) w) ∨ (x = -1 ∧ ∀ w, ¬ GF N meetingNames meetingUses b p (f (k - 1)) w)))) → lpMd_copies_114 (nI b) (nI p) mMeets mSources K (d + 1) ring x (nI k) := by
    intro d
    -- what is said at the end
    have fin : ∀ (k : Nat) (ring : Int32) (x : Int32) (f : Nat → Nat), 0 < k → f 0 = v → (∀ j, j + 1 < k → GF N meetingNames meetingUses b p (f j) (f (j + 1))) → (∀ i j, i < k → j < k → f i = f j → i = j) → (∀ w, bt ring w = true ↔ ∃ j, j < k ∧ f j = w) → ((∃ w, x = nI w ∧ GF N meetingNames meetingUses b p (f (k - 1)) w ∧ ∃ i, i < k ∧ f i = w) ∨ (x = -1 ∧ ∀ w, ¬ GF N meetingNames meetingUses b p (f (k - 1)) w)) → ∀ y, K ring x y := by
      intro k ring x f hk f0 hc hinj hr hx y
      have pth : ∀ i j, i + j < k → Pth (GF N meetingNames meetingUses b p) j (f i) (f (i + j)) := by
        intro i j
        induction j with
        | zero => intro _; exact rfl
        | succ j ih => intro h; exact (ih (by omega)).app (m := 1) ⟨_, hc (i + j) (by omega), rfl⟩
      have pv : ∀ j, j < k → Pth (GF N meetingNames meetingUses b p) j v (f j) := fun j hj => by
        have := pth 0 j (by omega)
        rw [f0, Nat.zero_add] at this
        exact this
      rcases hx with ⟨w, ew, hw, i, hi, ei⟩ | ⟨ex, hno⟩
      · have closed : ∀ n u z, (∃ j, i ≤ j ∧ j < k ∧ f j = u) → Pth (GF N meetingNames meetingUses b p) n u z → ∃ j, i ≤ j ∧ j < k ∧ f j = z := by
          intro n
          induction n with
          | zero => intro u z h1 h2; have h2 : u = z := h2; subst h2; exact h1
          | succ n ih =>
            rintro u z ⟨j, h1, h2, h3⟩ ⟨y, h4, h5⟩
            refine ih y z ?_ h5
            rw [← h3] at h4
            by_cases e : j = k - 1
            · rw [e] at h4
              rw [hd _ _ _ h4 hw, ← ei]
              exact ⟨i, Nat.le_refl _, hi, rfl⟩
            · rw [hd _ _ _ h4 (hc j (by omega))]
              exact ⟨j + 1, by omega, by omega, rfl⟩
        refine hK ring x (Or.inr ⟨w, hw.2.1, ew⟩) ⟨fun e => ?_, fun r => ?_⟩ (fun e u => ?_) y
        · have : w = v := (jI_eq (by have := hw.2.1; omega) (by omega)).mp (ew.symm.trans e)
          subst this
          exact ⟨k - 1, (pv (k - 1) (by omega)).app (m := 1) ⟨_, hw, rfl⟩⟩
        · by_cases e : i = 0
          · subst e; rw [ew, ← ei, f0]
          · have r1 : Rp (GF N meetingNames meetingUses b p) v (f i) := by
              have := pv i hi
              obtain ⟨i', rfl⟩ : ∃ i', i = i' + 1 := ⟨i - 1, by omega⟩
              exact ⟨i', this⟩
            obtain ⟨n, h1⟩ := cyc_back hd r r1
            obtain ⟨j, h2, h3, h4⟩ := closed _ _ _ ⟨i, Nat.le_refl _, hi, rfl⟩ h1
            have := hinj j 0 h3 hk (h4.trans f0.symm)
            omega
        · have hwv : w = v := (jI_eq (by have := hw.2.1; omega) (by omega)).mp (ew.symm.trans e)
          have hi0 : i = 0 := hinj i 0 hi hk (by rw [ei, hwv, f0])
          rw [hwv] at hw
          rw [hr u]
          constructor
          · rintro ⟨j, hj, rfl⟩
            by_cases ej : j = 0
            · subst ej; rw [f0]; exact ⟨k - 1, (pv (k - 1) (by omega)).app (m := 1) ⟨_, hw, rfl⟩⟩
            · obtain ⟨j', rfl⟩ : ∃ j', j = j' + 1 := ⟨j - 1, by omega⟩
              exact ⟨j', pv _ hj⟩
          · rintro ⟨n, h1⟩
            obtain ⟨j, -, h3, h4⟩ := closed _ v u ⟨0, by omega, hk, f0⟩ h1
            exact ⟨j, h3, h4⟩
      · refine hK ring x (Or.inl ex) ⟨fun e => absurd (ex.symm.trans e).symm (jI_m1 (by omega)), fun r => ?_⟩ (fun e => absurd (ex.symm.trans e).symm (jI_m1 (by omega))) y
        obtain ⟨z, hz⟩ := cyc_next hd r (pv (k - 1) (by omega))
        exact absurd hz (hno z)
    induction d with
    | zero =>
      intro k ring x f hk f0 hc hinj h6 hr hx
      have : k = 6 := by omega
      subst this
      refine ⟨fun _ => fin 6 ring x f (by omega) f0 hc hinj hr ?_ _, fun q => absurd (Int32.le_refl _) q⟩
      rcases hx with hx | ⟨-, ⟨w, ew, hw⟩ | hx⟩
      · omega
      · refine Or.inl ⟨w, ew, hw, ?_⟩
        refine Classical.byContradiction fun hn => ?_
        have hnd : (w :: (List.range 6).map f).Nodup := by
          rw [List.nodup_cons]
          refine ⟨fun z => ?_, ?_⟩
          · obtain ⟨i, hi, e⟩ := List.mem_map.mp z
            exact hn ⟨i, List.mem_range.mp hi, e⟩
          · rw [List.nodup_iff_pairwise_ne, List.pairwise_map]
            refine List.Pairwise.imp_of_mem ?_ (List.pairwise_lt_range (n := 6))
            intro i j hi hj hlt e
            have := hinj i j (List.mem_range.mp hi) (List.mem_range.mp hj) e
            omega
        have := nodup_len 6 _ hnd fun z hz => by
          rcases List.mem_cons.mp hz with rfl | hz
          · exact hw.2.1
          · obtain ⟨i, hi, rfl⟩ := List.mem_map.mp hz
            exact h6 i (List.mem_range.mp hi)
        rw [List.length_cons, List.length_map, List.length_range] at this
        omega
      · exact Or.inr hx
    | succ d ih =>
      intro k ring x f hk f0 hc hinj h6 hr hx
      refine ⟨fun q => ?_, fun _ => ⟨fun q => ?_, fun q => ?_⟩⟩
      · rw [jt6, jI_le (by omega) (by omega)] at q; omega
      · rcases hx with ⟨-, hx⟩ | ⟨hk0, ⟨w, ew, hw⟩ | hx⟩
        · rw [hx] at q; exact absurd q (jI_neg (by omega))
        · rw [ew] at q; exact absurd q (jI_neg (by have := hw.2.1; omega))
        · exact fin k ring x f hk0 f0 hc hinj hr (Or.inr hx) _
      · -- x is a meeting
        have hxw : ∃ w, w < 6 ∧ x = nI w ∧ ((k = 0 ∧ w = v) ∨ (0 < k ∧ GF N meetingNames meetingUses b p (f (k - 1)) w)) := by
          rcases hx with ⟨h0, hx⟩ | ⟨hk0, ⟨w, ew, hw⟩ | hx⟩
          · exact ⟨v, hv, hx, Or.inl ⟨h0, rfl⟩⟩
          · exact ⟨w, hw.2.1, ew, Or.inr ⟨hk0, hw⟩⟩
          · rw [hx.1] at q; exact absurd (by decide) q
        obtain ⟨w, hw6, ew, hw⟩ := hxw
        subst ew
        refine md_has (by omega) ⟨fun q2 => ?_, fun q2 ring' hring' => ?_⟩
        · obtain ⟨i, hi, ei⟩ := (hr w).mp q2
          rcases hw with ⟨hw, -⟩ | ⟨hk0, hw⟩
          · omega
          · exact fin k ring _ f hk0 f0 hc hinj hr (Or.inl ⟨w, rfl, hw, i, hi, ei⟩) _
        · have hnew : ∀ j, j < k → f j ≠ w := fun j hj e => by rw [(hr w).mpr ⟨j, hj, e⟩] at q2; cases q2
          have go : ∀ y, ((∃ z, y = nI z ∧ GF N meetingNames meetingUses b p w z) ∨ (y = -1 ∧ ∀ z, ¬ GF N meetingNames meetingUses b p w z)) → lpMd_copies_114 (nI b) (nI p) mMeets mSources K (d + 1) ring' y (nI (k + 1)) := by
            intro y hy
            refine ih (k + 1) ring' y (fun j => if j = k then w else f j) (by omega) ?_ (fun j hj => ?_) (fun i j hi hj e => ?_) (fun j hj => ?_) (fun u => ?_) (Or.inr ⟨by omega, ?_⟩)
            · rcases hw with ⟨hw, e⟩ | ⟨hw, -⟩
              · rw [if_pos hw.symm, e]
              · rw [if_neg (by omega)]; exact f0
            · rw [if_neg (by omega)]
              by_cases e : j + 1 = k
              · rw [if_pos e]
                rcases hw with ⟨hw, -⟩ | ⟨-, hw⟩
                · omega
                · rw [show k - 1 = j by omega] at hw; exact hw
              · rw [if_neg e]; exact hc j (by omega)
            · by_cases z1 : i = k <;> by_cases z2 : j = k
              · omega
              · rw [if_pos z1, if_neg z2] at e; exact absurd e.symm (hnew j (by omega))
              · rw [if_neg z1, if_pos z2] at e; exact absurd e (hnew i (by omega))
              · rw [if_neg z1, if_neg z2] at e; exact hinj i j (by omega) (by omega) e
            · by_cases z : j = k
              · rw [if_pos z]; exact hw6
              · rw [if_neg z]; exact h6 j (by omega)
            · rw [hring', bit_set (by omega), hr u]
              constructor
              · rintro (⟨j, hj, e⟩ | e)
                · exact ⟨j, by omega, by rw [if_neg (by omega)]; exact e⟩
                · exact ⟨k, by omega, by rw [if_pos rfl]; exact e.symm⟩
              · rintro ⟨j, hj, e⟩
                by_cases z : j = k
                · rw [if_pos z] at e; exact Or.inr e.symm
                · rw [if_neg z] at e; exact Or.inl ⟨j, by omega, e⟩
            · rw [show k + 1 - 1 = k by omega, if_pos rfl]; exact hy
          rw [jI_one]
          exact next_sp hN F hb hp hw6 (fun z hz => go _ (Or.inl ⟨z, rfl, hz⟩)) (fun hno => go _ (Or.inr ⟨rfl, hno⟩))
  exact ⟨6 + 1, key 6 0 0 (nI v) (fun _ => v) (by omega) rfl (fun j hj => by omega) (fun i j hi => by omega) (fun j hj => hv) (fun w => by rw [b_0]; exact ⟨fun z => by (cases z), fun ⟨j, hj, _⟩ => by omega⟩) (Or.inl ⟨rfl, rfl⟩)⟩
/-- rings of moves are rings of meetings -/
theorem E0_G (hN : N ≤ 12) (F : FR N stepCount kind forkVariable yes no meetingNames meetingUses stepNames firstUses secondUses endUses homeBlock homePlace mMeets mSources mSet mUseW mUseX mEndUse mGone mIsName mNameBlock mNameStep) {b p : Nat} (hb : b < N) (hp : p ≤ N) (u w : Nat) : (E0F (mvF N meetingNames meetingUses b p) (tmF meetingNames b) (s0F N meetingUses b p)) u w ↔ mvF N meetingNames meetingUses b p u ∧ mvF N meetingNames meetingUses b p w ∧ GF N meetingNames meetingUses b p u w := by
  unfold E0F
  refine ⟨fun ⟨h1, h2, h3⟩ => ⟨h1, h2, h1.1, h2.1, h1.2.1, ?_⟩, fun ⟨h1, h2, h3⟩ => ⟨h1, h2, ?_⟩⟩
  · have a1 := (F.mv hN hb hp h1.1).1
    have a2 := F.mv hN hb hp h2.1
    rcases a1 with z | ⟨z1, -⟩
    · exact absurd z h1.2.1
    rcases a2.1 with z | ⟨-, -, z3⟩
    · exact absurd z h2.2.1
    rcases a2.2 with z | ⟨z4, -⟩
    · exact absurd z z3
    rw [z1, z4, h3]
  · have a1 := (F.mv hN hb hp h1.1).1
    have a2 := F.mv hN hb hp h2.1
    rcases a1 with z | ⟨z1, z2, -⟩
    · exact absurd z h1.2.1
    rcases a2.1 with z | ⟨-, -, z3⟩
    · exact absurd z h2.2.1
    rcases a2.2 with z | ⟨z4, z5, -⟩
    · exact absurd z z3
    have := h3.2.2.2
    rw [z1, z4, jI_eq (by omega) (by omega)] at this
    exact this
theorem ring_E0 (hN : N ≤ 12) (F : FR N stepCount kind forkVariable yes no meetingNames meetingUses stepNames firstUses secondUses endUses homeBlock homePlace mMeets mSources mSet mUseW mUseX mEndUse mGone mIsName mNameBlock mNameStep) {b p : Nat} (hb : b < N) (hp : p ≤ N) {v : Nat} (hm : mvF N meetingNames meetingUses b p v) (hr : Rp (GF N meetingNames meetingUses b p) v v) : ∀ n w, Pth (GF N meetingNames meetingUses b p) n v w → Pth (E0F (mvF N meetingNames meetingUses b p) (tmF meetingNames b) (s0F N meetingUses b p)) n v w ∧ mvF N meetingNames meetingUses b p w := by
  have hd := GF.det (p := p) hN F hb
  have all : ∀ n w, Pth (GF N meetingNames meetingUses b p) n v w → mvF N meetingNames meetingUses b p w := by
    intro n w h
    obtain ⟨x, hx⟩ := cyc_next hd hr h
    refine ⟨hx.1, hx.2.2.1, fun e => ?_⟩
    -- w reads itself: then v is w
    have self : GF N meetingNames meetingUses b p w w := ⟨hx.1, hx.1, hx.2.2.1, e⟩
    have stay : ∀ n z, Pth (GF N meetingNames meetingUses b p) n w z → z = w := by
      intro n
      induction n with
      | zero => intro z h; exact h.symm
      | succ n ih =>
        rintro z ⟨y, h1, h2⟩
        rw [hd _ _ _ h1 self] at h2
        exact ih z h2
    have hvw : v = w := by
      cases n with
      | zero => exact h
      | succ n =>
        obtain ⟨k, hk⟩ := cyc_back hd hr ⟨n, h⟩
        exact stay _ _ hk
    subst hvw
    exact hm.2.2 e
  intro n
  induction n with
  | zero => intro w h; exact ⟨h, all 0 w h⟩
  | succ n ih =>
    intro w h
    refine ⟨?_, all _ w h⟩
    obtain ⟨y, g1, g2⟩ := Pth.split (n := n) (m := 1) h
    obtain ⟨x, g3, g4⟩ := g2
    have g4 : x = w := g4
    subst g4
    exact (ih y g1).1.app (m := 1) ⟨x, (E0_G hN F hb hp y x).mpr ⟨(ih y g1).2, all _ x h, g3⟩, rfl⟩
theorem ring_iff (hN : N ≤ 12) (F : FR N stepCount kind forkVariable yes no meetingNames meetingUses stepNames firstUses secondUses endUses homeBlock homePlace mMeets mSources mSet mUseW mUseX mEndUse mGone mIsName mNameBlock mNameStep) {b p : Nat} (hb : b < N) (hp : p ≤ N) {v : Nat} (hm : mvF N meetingNames meetingUses b p v) : (Rp (GF N meetingNames meetingUses b p) v v ↔ Rp (E0F (mvF N meetingNames meetingUses b p) (tmF meetingNames b) (s0F N meetingUses b p)) v v) ∧ (Rp (GF N meetingNames meetingUses b p) v v → ∀ w, Rp (GF N meetingNames meetingUses b p) v w ↔ Rp (E0F (mvF N meetingNames meetingUses b p) (tmF meetingNames b) (s0F N meetingUses b p)) v w) := by
  have sub : ∀ u w, (E0F (mvF N meetingNames meetingUses b p) (tmF meetingNames b) (s0F N meetingUses b p)) u w → GF N meetingNames meetingUses b p u w := fun u w h => ((E0_G hN F hb hp u w).mp h).2.2
  refine ⟨⟨fun h => ?_, fun h => h.mono sub⟩, fun hr w => ⟨fun ⟨n, h⟩ => ⟨n, (ring_E0 hN F hb hp hm hr _ w h).1⟩, fun h => h.mono sub⟩⟩
  obtain ⟨n, h1⟩ := h
  exact ⟨n, (ring_E0 hN F hb hp hm ⟨n, h1⟩ _ v h1).1⟩
/-- nobody outside reads the ring -/
theorem alone_sp (hN : N ≤ 12) (F : FR N stepCount kind forkVariable yes no meetingNames meetingUses stepNames firstUses secondUses endUses homeBlock homePlace mMeets mSources mSet mUseW mUseX mEndUse mGone mIsName mNameBlock mNameStep) {b p : Nat} (hb : b < N) (hp : p ≤ N) {ring : Int32} {cl : Bool} {K : Bool → Int32 → Prop} (hK : ∀ z, (cl = true → (z = true ↔ ∀ u w, GF N meetingNames meetingUses b p u w → bt ring w = true → bt ring u = true)) → ∀ y, K z y) : ∃ k, lpMd_copies_235 (nI b) (nI p) ring cl mMeets mSources K k true 0 := by
  have hd := GF.det (p := p) hN F hb
  have key : ∀ (d i : Nat) (z : Bool), i + d = 6 → (cl = true → (z = true ↔ ∀ u w, u < i → GF N meetingNames meetingUses b p u w → bt ring w = true → bt ring u = true)) → lpMd_copies_235 (nI b) (nI p) ring cl mMeets mSources K (d + 1) z (nI i) := by
    intro d
    induction d with
    | zero =>
      intro i z hi h
      have : i = 6 := by omega
      subst this
      exact ⟨fun _ => hK z (fun hc => (h hc).trans ⟨fun q u w g => q u w g.1 g, fun q u w _ g => q u w g⟩) _, fun q => absurd (Int32.le_refl _) q⟩
    | succ d ih =>
      intro i z hi h
      refine ⟨fun q => ?_, fun _ => ⟨fun q => hK z (fun hc => by (rw [q] at hc; cases hc)) _, fun q => ?_⟩⟩
      · rw [jt6, jI_le (by omega) (by omega)] at q; omega
      · have h := h q
        rw [jI_one]
        have go : ∀ y, ((∃ w, y = nI w ∧ GF N meetingNames meetingUses b p i w) ∨ (y = -1 ∧ ∀ w, ¬ GF N meetingNames meetingUses b p i w)) → ((z = false → (lpMd_copies_235 (nI b) (nI p) ring cl mMeets mSources K (d + 1) false (nI (i + 1)))) ∧ (z = true → wpMd_has ring (nI i) (fun (r287 : Bool) => ((r287 = true → (lpMd_copies_235 (nI b) (nI p) ring cl mMeets mSources K (d + 1) true (nI (i + 1)))) ∧ (r287 = false → ((y < 0 → (lpMd_copies_235 (nI b) (nI p) ring cl mMeets mSources K (d + 1) true (nI (i + 1)))) ∧ (¬ y < 0 → wpMd_has ring y (fun (r303 : Bool) => ((r303 = true → (lpMd_copies_235 (nI b) (nI p) ring cl mMeets mSources K (d + 1) false (nI (i + 1)))) ∧ (r303 = false → (lpMd_copies_235 (nI b) (nI p) ring cl mMeets mSources K (d + 1) true (nI (i + 1))))))))))))) := by
          intro y hy
          have ok : z = true → (∀ w, GF N meetingNames meetingUses b p i w → bt ring w = true → bt ring i = true) → lpMd_copies_235 (nI b) (nI p) ring cl mMeets mSources K (d + 1) true (nI (i + 1)) := by
            intro hz hw
            refine ih (i + 1) true (by omega) fun _ => ⟨fun _ u w hu g => ?_, fun _ => rfl⟩
            by_cases e : u = i
            · subst e; exact hw w g
            · exact h.mp hz u w (by omega) g
          refine ⟨fun q1 => ih (i + 1) false (by omega) fun _ => ⟨fun w => by (cases w), fun w => ?_⟩, fun q1 => md_has (by omega) ⟨fun q2 => ok q1 fun _ _ _ => q2, fun q2 => ⟨fun q3 => ok q1 fun w g _ => ?_, fun q3 => ?_⟩⟩⟩
          · rw [h.mpr fun u w' hu => w u w' (by omega)] at q1; cases q1
          · rcases hy with ⟨w', e, g'⟩ | ⟨-, hno⟩
            · rw [e] at q3; exact absurd q3 (jI_neg (by have := g'.2.1; omega))
            · exact absurd g (hno w)
          · rcases hy with ⟨w', e, g'⟩ | ⟨e, -⟩
            · subst e
              have := g'.2.1
              refine md_has (by omega) ⟨fun q4 => ih (i + 1) false (by omega) fun _ => ⟨fun w => by (cases w), fun w => ?_⟩, fun q4 => ok q1 fun w g hb2 => ?_⟩
              · rw [w i w' (by omega) g' q4] at q2; cases q2
              · rw [hd _ _ _ g g', q4] at hb2; cases hb2
            · rw [e] at q3; exact absurd (by decide) q3
        have so := F.so b hb i (by omega) p hp
        refine sourceOf_sp hN F hb (by omega) hp ⟨fun y => (∃ w, y = nI w ∧ GF N meetingNames meetingUses b p i w) ∨ (y = -1 ∧ ∀ w, ¬ GF N meetingNames meetingUses b p i w), go, fun q1 => sourceOf_sp hN F hb (by omega) hp ?_, fun q1 => Or.inr ⟨rfl, fun w z => q1 ((nn_use so.2.2.2).mpr z.2.2.1)⟩⟩
        have hne := (nn_use so.2.2.2).mp q1
        exact meetingWith_sp hN F hb (fun w hw e => Or.inl ⟨w, rfl, by omega, hw, hne, e⟩) (fun h => Or.inr ⟨rfl, fun w z => h w z.2.1 z.2.2.2⟩)
  exact ⟨6 + 1, key 6 0 true (by omega) fun _ => ⟨fun _ u w hu => by omega, fun _ => rfl⟩⟩
theorem mdCopies_sp (hN : N ≤ 12) (F : FR N stepCount kind forkVariable yes no meetingNames meetingUses stepNames firstUses secondUses endUses homeBlock homePlace mMeets mSources mSet mUseW mUseX mEndUse mGone mIsName mNameBlock mNameStep) {b p : Nat} (hb : b < N) (hp : p ≤ N) {thr : Int32} {post : Int32 → Int32 → Prop} (hpost : post (nI (ttF (mvF N meetingNames meetingUses b p) (tmF meetingNames b) (s0F N meetingUses b p))) thr) : ∃ k, lpMd_copies_57 (nI b) (nI p) thr mMeets mSources post k 0 0 0 := by
  have hd := GF.det (p := p) hN F hb
  have hM := F.mvs hN hb hp
  have hdE : det (E0F (mvF N meetingNames meetingUses b p) (tmF meetingNames b) (s0F N meetingUses b p)) := fun u w w' g1 g2 => hM.2 _ _ g1.2.1 g2.2.1 (g1.2.2.symm.trans g2.2.2)
  have key : ∀ (d i : Nat) (seen : Int32), i + d = 6 → (∀ w, bt seen w = true ↔ ∃ v, v < i ∧ Rp (E0F (mvF N meetingNames meetingUses b p) (tmF meetingNames b) (s0F N meetingUses b p)) v v ∧ Rp (E0F (mvF N meetingNames meetingUses b p) (tmF meetingNames b) (s0F N meetingUses b p)) v w) → lpMd_copies_57 (nI b) (nI p) thr mMeets mSources post (d + 1) (nI (nM (mvF N meetingNames meetingUses b p) i + qc (E0F (mvF N meetingNames meetingUses b p) (tmF meetingNames b) (s0F N meetingUses b p)) i)) seen (nI i) := by
    intro d
    induction d with
    | zero =>
      intro i seen hi h
      have : i = 6 := by omega
      subst this
      exact ⟨fun _ => hpost, fun q => absurd (Int32.le_refl _) q⟩
    | succ d ih =>
      intro i seen hi h
      have hi6 : i < 6 := by omega
      have so := F.so b hb i hi6 p hp
      refine ⟨fun q => ?_, fun _ => ?_⟩
      · rw [jt6, jI_le (by omega) (by omega)] at q; omega
      rw [jI_one]
      refine sourceOf_sp hN F hb hi6 hp ?_
      rw [jt6, jI_mul, jI_add, show 6 * b + i = b * 6 + i by omega, jI_in (by omega), jI_nat (by omega), (F.mt b hb i hi6).1]
      refine ⟨fun t => (t = true ↔ mvF N meetingNames meetingUses b p i), fun t ht v3 hv3 => ?_, ¬ mvF N meetingNames meetingUses b p i, fun z => ⟨fun w => by (cases w), fun w => absurd w z⟩, fun q z => z.2.1 ((neg_1 so.2.2.2).mp q), fun q => ⟨by omega, fun q2 z => z.2.2 q2, fun q2 => ⟨fun _ => ⟨hi6, fun z => q (by rw [z]; decide), q2⟩, fun _ => rfl⟩⟩⟩
      have e3 : v3 = nI (nM (mvF N meetingNames meetingUses b p) (i + 1) + qc (E0F (mvF N meetingNames meetingUses b p) (tmF meetingNames b) (s0F N meetingUses b p)) i) := by
        rw [hv3]
        simp only [nM]
        cases t with
        | true => rw [cif_pos (ht.mp rfl), show bI true = nI 1 from rfl, jI_add]; congr 1; omega
        | false => rw [cif_neg (fun z => (by have := ht.mpr z; cases this)), show bI false = nI 0 from rfl, jI_add]; congr 1
      subst e3
      clear hv3 ht
      refine ring_sp hN F hb hp hi6 fun ring x hx hcl hring y => ?_
      -- closed, and not seen
      have hmin : Rp (E0F (mvF N meetingNames meetingUses b p) (tmF meetingNames b) (s0F N meetingUses b p)) i i → ((∀ w, Rp (E0F (mvF N meetingNames meetingUses b p) (tmF meetingNames b) (s0F N meetingUses b p)) i w → i ≤ w) ↔ ¬ bt seen i = true) := by
        intro hr
        rw [h i]
        constructor
        · rintro h1 ⟨v, hv, r1, r2⟩
          have := h1 v (cyc_back hdE r1 r2)
          omega
        · intro h1 w hw
          refine Nat.not_lt.mp fun hlt => h1 ⟨w, hlt, ?_, ?_⟩
          · exact (cyc_back hdE hr hw).trans hw
          · exact cyc_back hdE hr hw
      have step : ∀ cl : Bool, (cl = true ↔ Rp (E0F (mvF N meetingNames meetingUses b p) (tmF meetingNames b) (s0F N meetingUses b p)) i i ∧ ∀ w, Rp (E0F (mvF N meetingNames meetingUses b p) (tmF meetingNames b) (s0F N meetingUses b p)) i w → i ≤ w) → (cl = true → x = nI i ∧ mvF N meetingNames meetingUses b p i) → (∃ k235 : Nat, lpMd_copies_235 (nI b) (nI p) ring cl mMeets mSources (fun (v10_x322 : Bool) (v11_x322 : Int32) => (∃ J337 : Int32 → Prop, (∀ (t337_0 : Int32), (J337 t337_0) → ((cl = false → ∀ v3_356 : Int32, v3_356 = (nI (nM (mvF N meetingNames meetingUses b p) (i + 1) + qc (E0F (mvF N meetingNames meetingUses b p) (tmF meetingNames b) (s0F N meetingUses b p)) i) + 0) → (lpMd_copies_57 (nI b) (nI p) thr mMeets mSources post (d + 1) v3_356 t337_0 (nI (i + 1)))) ∧ (cl = true → ((v10_x322 = false → ∀ v3_356 : Int32, v3_356 = (nI (nM (mvF N meetingNames meetingUses b p) (i + 1) + qc (E0F (mvF N meetingNames meetingUses b p) (tmF meetingNames b) (s0F N meetingUses b p)) i) + 0) → (lpMd_copies_57 (nI b) (nI p) thr mMeets mSources post (d + 1) v3_356 t337_0 (nI (i + 1)))) ∧ (v10_x322 = true → ∀ v3_356 : Int32, v3_356 = (nI (nM (mvF N meetingNames meetingUses b p) (i + 1) + qc (E0F (mvF N meetingNames meetingUses b p) (tmF meetingNames b) (s0F N meetingUses b p)) i) + 1) → (lpMd_copies_57 (nI b) (nI p) thr mMeets mSources post (d + 1) v3_356 t337_0 (nI (i + 1)))))))) ∧ ((cl = false → (J337 seen)) ∧ (cl = true → (J337 (seen ||| ring)))))) k235 true 0) := by
        intro cl hcl2 hcl3
        refine alone_sp hN F hb hp fun z hz y => ?_
        refine ⟨fun s => ∀ w, bt s w = true ↔ ∃ v, v < i + 1 ∧ Rp (E0F (mvF N meetingNames meetingUses b p) (tmF meetingNames b) (s0F N meetingUses b p)) v v ∧ Rp (E0F (mvF N meetingNames meetingUses b p) (tmF meetingNames b) (s0F N meetingUses b p)) v w, fun s hs => ⟨fun q v hv => ?_, fun q => ⟨fun q2 v hv => ?_, fun q2 v hv => ?_⟩⟩, fun q w => ?_, fun q w => ?_⟩
        · have hnq : ¬ Qr (E0F (mvF N meetingNames meetingUses b p) (tmF meetingNames b) (s0F N meetingUses b p)) i := fun z => by rw [hcl2.mpr ⟨z.1, z.2.2⟩] at q; cases q
          rw [Int32.add_zero] at hv
          subst hv
          have := ih (i + 1) s (by omega) hs
          simp only [qc] at this
          rw [cif_neg hnq, Nat.add_zero] at this
          exact this
        · have hnq : ¬ Qr (E0F (mvF N meetingNames meetingUses b p) (tmF meetingNames b) (s0F N meetingUses b p)) i := fun w => by
            obtain ⟨ex, hm⟩ := hcl3 q
            have ri := ring_iff hN F hb hp hm
            have hG := hcl.mp ex
            rw [(hz q).mpr fun u w' g hw' => ?_] at q2
            · cases q2
            · have rw' := (ri.2 hG w').mp ((hring ex w').mp hw')
              refine (hring ex u).mpr ((ri.2 hG u).mpr ?_)
              by_cases hu : mvF N meetingNames meetingUses b p u
              · refine w.2.1 u w' ((E0_G hN F hb hp u w').mpr ⟨hu, ?_, g⟩) rw'
                obtain ⟨n, hn⟩ := (ri.2 hG w').mpr rw'
                exact (ring_E0 hN F hb hp hm hG _ w' hn).2
              · -- u reads itself
                have e : meetingUses ((b * 6 + u) * (N + 1) + p) = meetingNames (b * 6 + u) := Classical.byContradiction fun z => hu ⟨g.1, g.2.2.1, z⟩
                have : u = w' := hd _ _ _ ⟨g.1, g.1, g.2.2.1, e⟩ g
                rw [this]; exact rw'
          rw [Int32.add_zero] at hv
          subst hv
          have := ih (i + 1) s (by omega) hs
          simp only [qc] at this
          rw [cif_neg hnq, Nat.add_zero] at this
          exact this
        · have hq : Qr (E0F (mvF N meetingNames meetingUses b p) (tmF meetingNames b) (s0F N meetingUses b p)) i := by
            obtain ⟨ex, hm⟩ := hcl3 q
            have ri := ring_iff hN F hb hp hm
            have hG := hcl.mp ex
            refine ⟨(hcl2.mp q).1, fun u w e r => ?_, (hcl2.mp q).2⟩
            have := (hz q).mp q2 u w ((E0_G hN F hb hp u w).mp e).2.2 ((hring ex w).mpr ((ri.2 hG w).mpr r))
            exact (ri.2 hG u).mp ((hring ex u).mp this)
          rw [jI_one] at hv
          subst hv
          have := ih (i + 1) s (by omega) hs
          simp only [qc] at this
          rw [cif_pos hq] at this
          exact this
        · rw [h w]
          constructor
          · rintro ⟨v, hv, g⟩; exact ⟨v, by omega, g⟩
          · rintro ⟨v, hv, r1, r2⟩
            by_cases e : v = i
            · subst e
              have hs : bt seen v = true := Classical.byContradiction fun z => by
                rw [hcl2.mpr ⟨r1, (hmin r1).mpr z⟩] at q; cases q
              obtain ⟨v', h1, h2, h3⟩ := (h v).mp hs
              exact ⟨v', h1, h2, h3.trans r2⟩
            · exact ⟨v, by omega, r1, r2⟩
        · obtain ⟨ex, hm⟩ := hcl3 q
          have ri := ring_iff hN F hb hp hm
          have hG := hcl.mp ex
          rw [b_or, Bool.or_eq_true, h w, hring ex w, ri.2 hG w]
          constructor
          · rintro (⟨v, hv, g⟩ | g)
            · exact ⟨v, by omega, g⟩
            · exact ⟨i, by omega, (hcl2.mp q).1, g⟩
          · rintro ⟨v, hv, r1, r2⟩
            by_cases e : v = i
            · subst e; exact Or.inr r2
            · exact Or.inl ⟨v, by omega, r1, r2⟩
      refine ⟨fun cl => (cl = true ↔ Rp (E0F (mvF N meetingNames meetingUses b p) (tmF meetingNames b) (s0F N meetingUses b p)) i i ∧ ∀ w, Rp (E0F (mvF N meetingNames meetingUses b p) (tmF meetingNames b) (s0F N meetingUses b p)) i w → i ≤ w) ∧ (cl = true → x = nI i ∧ mvF N meetingNames meetingUses b p i), fun cl hc => step cl hc.1 hc.2, ¬ (Rp (E0F (mvF N meetingNames meetingUses b p) (tmF meetingNames b) (s0F N meetingUses b p)) i i ∧ ∀ w, Rp (E0F (mvF N meetingNames meetingUses b p) (tmF meetingNames b) (s0F N meetingUses b p)) i w → i ≤ w), fun z => ⟨⟨fun w => by (cases w), fun w => absurd w z⟩, fun w => by (cases w)⟩, fun q z => ?_, fun q => ⟨fun q2 z => ?_, fun q2 => ⟨by omega, fun q3 z => ?_, fun q3 => md_has (by omega) ⟨fun q4 z => ?_, fun q4 => ?_⟩⟩⟩⟩
      · obtain ⟨n, y, hy, -⟩ := z.1
        exact q (hcl.mpr ((ring_iff hN F hb hp hy.1).1.mpr z.1))
      · obtain ⟨n, y, hy, -⟩ := z.1
        exact hy.1.2.1 ((neg_1 so.2.2.2).mp q2)
      · obtain ⟨n, y, hy, -⟩ := z.1
        exact hy.1.2.2 q3
      · exact (hmin z.1).mp z.2 q4
      · have hm : mvF N meetingNames meetingUses b p i := ⟨hi6, fun z => q2 (by rw [z]; decide), q3⟩
        have hr := (ring_iff hN F hb hp hm).1.mp (hcl.mp q)
        exact ⟨⟨fun _ => ⟨hr, (hmin hr).mpr (by rw [q4]; decide)⟩, fun _ => rfl⟩, fun _ => ⟨q, hm⟩⟩
  exact ⟨6 + 1, key 6 0 0 (by omega) fun w => by rw [b_0]; exact ⟨fun z => by (cases z), fun ⟨v, hv, _⟩ => by omega⟩⟩
end MC
