/-! propagate: what a name stands for -/
def cpy (N : Nat) (kind hb hp : Nat → Int32) (m : Nat) : Prop := ∃ h k, h < N ∧ k < 6 ∧ hb m = nI h ∧ hp m = nI k ∧ kind (h * 6 + k) = 1
def nxt (hb hp fu : Nat → Int32) (m : Nat) : Nat := (fu ((hb m).toNatClampNeg * 6 + (hp m).toNatClampNeg)).toNatClampNeg
noncomputable def rtF (N : Nat) (kind hb hp fu : Nat → Int32) : Nat → Nat → Nat
  | 0 => fun m => m
  | f + 1 => fun m => cif (cpy N kind hb hp m) (rtF N kind hb hp fu f (nxt hb hp fu m)) m
noncomputable def rt (N : Nat) (kind hb hp fu : Nat → Int32) (m : Nat) : Nat := rtF N kind hb hp fu 100 m
noncomputable def muN (N : Nat) (sc : Nat → Nat → Prop) (hb hp : Nat → Int32) (m : Nat) : Nat := if hb m = nI N then 0 else 7 * dcn sc (hb m).toNatClampNeg N + ((hp m).toInt + 1).toNat
/-- a name that is there -/
def Ex (hb : Nat → Int32) (m : Nat) : Prop := m < 600 ∧ ¬ hb m = -1
section PG
variable {N : Nat} {stepCount kind forkVariable yes no meetingNames meetingUses stepNames firstUses secondUses endUses homeBlock homePlace mMeets mSources mSet mUseW mUseX mEndUse : Nat → Int32} {mGone mIsName : Nat → Bool} {mNameBlock mNameStep : Nat → Int32}
theorem FR.home (hN : N ≤ 12) (F : FR N stepCount kind forkVariable yes no meetingNames meetingUses stepNames firstUses secondUses endUses homeBlock homePlace mMeets mSources mSet mUseW mUseX mEndUse mGone mIsName mNameBlock mNameStep) {m : Nat} (h : Ex homeBlock m) : ∃ x, x ≤ N ∧ homeBlock m = nI x ∧ ((x = N ∧ homePlace m = -1) ∨ (x < N ∧ Rch (gsc N yes no) okT x ∧ (homePlace m = -1 ∨ ∃ k, k < 6 ∧ nI k < stepCount x ∧ homePlace m = nI k ∧ stepNames (x * 6 + k) = nI m))) := by
  rcases F.nm m h.1 with z | ⟨-, -, -, z⟩
  · exact absurd z.1 h.2
  · exact z
theorem FR.copy (hN0 : 0 < N) (hN : N ≤ 12) (F : FR N stepCount kind forkVariable yes no meetingNames meetingUses stepNames firstUses secondUses endUses homeBlock homePlace mMeets mSources mSet mUseW mUseX mEndUse mGone mIsName mNameBlock mNameStep) (V : (∀ b, b < N → VB N (gsc N yes no) stepCount homeBlock homePlace firstUses secondUses endUses b ∧ VM N (gsc N yes no) homeBlock homePlace meetingUses b)) {m : Nat} (h : Ex homeBlock m) {x k : Nat} (hx : x < N) (hk : k < 6) (e1 : homeBlock m = nI x) (e2 : homePlace m = nI k) (e3 : kind (x * 6 + k) = 1) : Rch (gsc N yes no) okT x ∧ nI k < stepCount x ∧ stepNames (x * 6 + k) = nI m ∧ firstUses (x * 6 + k) = nI (nxt homeBlock homePlace firstUses m) ∧ Ex homeBlock (nxt homeBlock homePlace firstUses m) ∧ muN N (gsc N yes no) homeBlock homePlace (nxt homeBlock homePlace firstUses m) < muN N (gsc N yes no) homeBlock homePlace m ∧ ((∃ y j, y < N ∧ j < 6 ∧ homeBlock (nxt homeBlock homePlace firstUses m) = nI y ∧ homePlace (nxt homeBlock homePlace firstUses m) = nI j ∧ ((y ≠ x ∧ Dm (gsc N yes no) y x) ∨ (y = x ∧ j < k))) ∨ ∀ y j, y < N → homeBlock (nxt homeBlock homePlace firstUses m) = nI y → ¬ homePlace (nxt homeBlock homePlace firstUses m) = nI j ∨ 6 ≤ j) := by
  obtain ⟨x', hx', ex, hh⟩ := F.home hN h
  have : x' = x := (jI_eq (by omega) (by omega)).mp (ex.symm.trans e1)
  subst this
  rcases hh with ⟨z, -⟩ | ⟨-, hr, z | ⟨k', hk', hlt, ek, es⟩⟩
  · omega
  · exact absurd (e2.symm.trans z) (jI_m1 (by omega))
  have : k' = k := (jI_eq (by omega) (by omega)).mp (ek.symm.trans e2)
  subst this
  have hxN : x' < N := hx
  rcases F.gn x' hxN hr k' hk hlt with ⟨-, -, z, -⟩ | ⟨-, -, gf, -⟩
  · rw [es] at z; exact absurd z (jI_m1 (by have := h.1; omega))
  have hf : ¬ firstUses (x' * 6 + k') = -1 := gf (by rw [e3]; decide)
  have us := F.us x' hxN k' hk
  have hn : nxt homeBlock homePlace firstUses m = (firstUses (x' * 6 + k')).toNatClampNeg := by
    unfold nxt
    rw [e1, e2, jI_nat (by omega), jI_nat (by omega)]
  rcases us.2.2.1 with z | ⟨n, hn6, en, hne⟩
  · exact absurd z hf
  rw [hn, en, jI_nat (by omega)]
  have hEn : Ex homeBlock n := ⟨hn6, hne⟩
  obtain ⟨y, hy, ey, hh⟩ := F.home hN hEn
  have hpl : homePlace n = -1 ∨ ∃ j, j < 6 ∧ homePlace n = nI j := by
    rcases hh with ⟨-, z⟩ | ⟨-, -, z | ⟨j, hj, -, z, -⟩⟩
    · exact Or.inl z
    · exact Or.inl z
    · exact Or.inr ⟨j, hj, z⟩
  have vu := ((V x' hxN).1.1 k' hk hlt).1
  rw [en] at vu
  have vu : y = N ∨ (y ≠ x' ∧ Dm (gsc N yes no) y x') ∨ (y = x' ∧ ¬ nI k' ≤ homePlace n) := by
    rcases vu with z | ⟨m', h', hm', hh', q1, q2, z⟩
    · exact absurd z (jI_m1 (by omega))
    · have : n = m' := (jI_eq (by omega) (by omega)).mp q1
      subst this
      rw [ey] at q2
      have : y = h' := (jI_eq (by omega) (by omega)).mp q2
      subst this
      exact z
  have m1 : muN N (gsc N yes no) homeBlock homePlace m = 7 * dcn (gsc N yes no) x' N + (k' + 1) := by
    unfold muN
    rw [e1, if_neg (by rw [jI_eq (by omega) (by omega)]; omega), jI_nat (by omega), e2, jI_int (by omega)]
    omega
  have m2 : y < N → ∃ t, t ≤ 6 ∧ muN N (gsc N yes no) homeBlock homePlace n = 7 * dcn (gsc N yes no) y N + t ∧ (homePlace n = -1 → t = 0) ∧ ∀ j, j < 6 → homePlace n = nI j → t = j + 1 := by
    intro hy
    unfold muN
    rw [ey, if_neg (by rw [jI_eq (by omega) (by omega)]; omega), jI_nat (by omega)]
    rcases hpl with z | ⟨j, hj, z⟩
    · rw [z]
      refine ⟨0, by omega, ?_, fun _ => rfl, fun j hj q => absurd q.symm (jI_m1 (by omega))⟩
      rw [show (-1 : Int32).toInt = -1 from rfl]
      rfl
    · rw [z, jI_int (by omega)]
      refine ⟨j + 1, by omega, by omega, fun q => absurd q (jI_m1 (by omega)), fun j' hj' q => ?_⟩
      rw [(jI_eq (by omega) (by omega)).mp q]
  refine ⟨hr, hlt, es, rfl, hEn, ?_, ?_⟩
  · rw [m1]
    rcases vu with z | ⟨z1, z2⟩ | ⟨z1, z2⟩
    · unfold muN
      rw [ey, z, if_pos rfl]; omega
    · obtain ⟨t, ht, e, -⟩ := m2 (z2.lt hN0).1
      have := dcn_lt z2 z1 hxN
      omega
    · subst z1
      obtain ⟨t, ht, e, q1, q2⟩ := m2 hxN
      rw [e]
      rcases hpl with z | ⟨j, hj, z⟩
      · rw [q1 z]; omega
      · rw [q2 j hj z]
        rw [z, jI_le (by omega) (by omega)] at z2
        omega
  · rcases hpl with z | ⟨j, hj, z⟩
    · exact Or.inr fun y' j' _ _ => by
        by_cases hj' : j' < 6
        · exact Or.inl fun q => jI_m1 (by omega) (q.symm.trans z)
        · exact Or.inr (by omega)
    · by_cases hyN : y = N
      · exact Or.inr fun y' j' hy' q => absurd ((jI_eq (by omega) (by omega)).mp (ey.symm.trans q)) (by omega)
      · refine Or.inl ⟨y, j, by omega, hj, ey, z, ?_⟩
        rcases vu with w | w | ⟨w1, w2⟩
        · exact absurd w hyN
        · exact Or.inl w
        · refine Or.inr ⟨w1, ?_⟩
          rw [z, jI_le (by omega) (by omega)] at w2
          omega
theorem rtF_stable (hN0 : 0 < N) (hN : N ≤ 12) (F : FR N stepCount kind forkVariable yes no meetingNames meetingUses stepNames firstUses secondUses endUses homeBlock homePlace mMeets mSources mSet mUseW mUseX mEndUse mGone mIsName mNameBlock mNameStep) (V : (∀ b, b < N → VB N (gsc N yes no) stepCount homeBlock homePlace firstUses secondUses endUses b ∧ VM N (gsc N yes no) homeBlock homePlace meetingUses b)) : ∀ f m, Ex homeBlock m → muN N (gsc N yes no) homeBlock homePlace m < f → rtF N kind homeBlock homePlace firstUses (f + 1) m = rtF N kind homeBlock homePlace firstUses f m := by
  intro f
  induction f with
  | zero => intro m _ h; omega
  | succ f ih =>
    intro m hm h
    show cif (cpy N kind homeBlock homePlace m) _ m = cif (cpy N kind homeBlock homePlace m) _ m
    by_cases hc : cpy N kind homeBlock homePlace m
    · rw [cif_pos hc, cif_pos hc]
      obtain ⟨x, k, h1, h2, h3, h4, h5⟩ := hc
      have := F.copy hN0 hN V hm h1 h2 h3 h4 h5
      exact ih _ this.2.2.2.2.1 (by omega)
    · rw [cif_neg hc, cif_neg hc]
theorem mu_le (hN0 : 0 < N) (hN : N ≤ 12) (F : FR N stepCount kind forkVariable yes no meetingNames meetingUses stepNames firstUses secondUses endUses homeBlock homePlace mMeets mSources mSet mUseW mUseX mEndUse mGone mIsName mNameBlock mNameStep) {m : Nat} (hm : Ex homeBlock m) : muN N (gsc N yes no) homeBlock homePlace m < 99 := by
  obtain ⟨x, hx, e, hh⟩ := F.home hN hm
  have hd := dcn_le (gsc N yes no) x N
  unfold muN
  rw [e]
  by_cases hxN : x = N
  · rw [hxN, if_pos rfl]; omega
  · rw [if_neg (by rw [jI_eq (by omega) (by omega)]; exact hxN), jI_nat (by omega)]
    rcases hh with ⟨-, z⟩ | ⟨-, -, z | ⟨j, hj, -, z, -⟩⟩
    · rw [z, show (-1 : Int32).toInt = -1 from rfl]; omega
    · rw [z, show (-1 : Int32).toInt = -1 from rfl]; omega
    · rw [z, jI_int (by omega)]; omega
theorem rt_copy (hN0 : 0 < N) (hN : N ≤ 12) (F : FR N stepCount kind forkVariable yes no meetingNames meetingUses stepNames firstUses secondUses endUses homeBlock homePlace mMeets mSources mSet mUseW mUseX mEndUse mGone mIsName mNameBlock mNameStep) (V : (∀ b, b < N → VB N (gsc N yes no) stepCount homeBlock homePlace firstUses secondUses endUses b ∧ VM N (gsc N yes no) homeBlock homePlace meetingUses b)) {m : Nat} (hm : Ex homeBlock m) (hc : cpy N kind homeBlock homePlace m) : rt N kind homeBlock homePlace firstUses m = rt N kind homeBlock homePlace firstUses (nxt homeBlock homePlace firstUses m) := by
  unfold rt
  have hx := hc
  obtain ⟨x, k, h1, h2, h3, h4, h5⟩ := hx
  have cp := F.copy hN0 hN V hm h1 h2 h3 h4 h5
  have h6 := mu_le hN0 hN F hm
  rw [← rtF_stable hN0 hN F V 100 m hm (by omega)]
  show cif (cpy N kind homeBlock homePlace m) _ m = _
  rw [cif_pos hc]
theorem rt_no {m : Nat} (hc : ¬ cpy N kind homeBlock homePlace m) : rt N kind homeBlock homePlace firstUses m = m := by
  unfold rt
  show cif (cpy N kind homeBlock homePlace m) _ m = _
  rw [cif_neg hc]
theorem rt_is (hN0 : 0 < N) (hN : N ≤ 12) (F : FR N stepCount kind forkVariable yes no meetingNames meetingUses stepNames firstUses secondUses endUses homeBlock homePlace mMeets mSources mSet mUseW mUseX mEndUse mGone mIsName mNameBlock mNameStep) (V : (∀ b, b < N → VB N (gsc N yes no) stepCount homeBlock homePlace firstUses secondUses endUses b ∧ VM N (gsc N yes no) homeBlock homePlace meetingUses b)) : ∀ f m, Ex homeBlock m → muN N (gsc N yes no) homeBlock homePlace m < f → Ex homeBlock (rt N kind homeBlock homePlace firstUses m) ∧ ¬ cpy N kind homeBlock homePlace (rt N kind homeBlock homePlace firstUses m) := by
  intro f
  induction f with
  | zero => intro m _ h; omega
  | succ f ih =>
    intro m hm h
    by_cases hc : cpy N kind homeBlock homePlace m
    · rw [rt_copy hN0 hN F V hm hc]
      obtain ⟨x, k, h1, h2, h3, h4, h5⟩ := hc
      have := F.copy hN0 hN V hm h1 h2 h3 h4 h5
      exact ih _ this.2.2.2.2.1 (by omega)
    · rw [rt_no hc]; exact ⟨hm, hc⟩
/-- what a use becomes -/
def rU (N : Nat) (kind hb hp fu : Nat → Int32) (u x : Int32) : Prop := (u = -1 ∧ x = -1) ∨ ∃ m, Ex hb m ∧ u = nI m ∧ x = nI (rt N kind hb hp fu m)
theorem rU.uniq {hb hp fu : Nat → Int32} {u x y : Int32} (h1 : rU N kind hb hp fu u x) (h2 : rU N kind hb hp fu u y) : x = y := by
  rcases h1 with ⟨rfl, rfl⟩ | ⟨m, hm, rfl, rfl⟩ <;> rcases h2 with ⟨e, rfl⟩ | ⟨m', hm', e, rfl⟩
  · rfl
  · exact absurd e.symm (jI_m1 (by have := hm'.1; omega))
  · exact absurd e (jI_m1 (by have := hm.1; omega))
  · rw [(jI_eq (by have := hm.1; omega) (by have := hm'.1; omega)).mp e]
/-- strict dominators come before -/
theorem ord_dom {sc : Nat → Nat → Prop} (hN0 : 0 < N) (hsc : ∀ b c, sc b c → c < N) (hPar : HasPar sc N) : ∀ (n : Nat) (vis rest : List Nat) (b : Nat), vis.length ≤ n → ordOf sc N = vis ++ b :: rest → ∀ h, h ≠ b → Dm sc h b → h ∈ vis := by
  intro n
  induction n with
  | zero =>
    intro vis rest b hl ho h hne hd
    have hv : vis = [] := List.eq_nil_of_length_eq_zero (by omega)
    obtain ⟨p, hp⟩ := hPar b hd.re
    have hb0 : b ≠ 0 := fun e => by subst e; exact hne hd.of0
    have := ord_split hN0 hsc ho p (hp.lt hd.re hb0).1 hp
    rw [hv] at this
    cases this
  | succ n ih =>
    intro vis rest b hl ho h hne hd
    obtain ⟨p, hp⟩ := hPar b hd.re
    have hb0 : b ≠ 0 := fun e => by subst e; exact hne hd.of0
    have hpl := hp.lt hd.re hb0
    have hpv := ord_split hN0 hsc ho p hpl.1 hp
    by_cases e : h = p
    · subst e; exact hpv
    · obtain ⟨v1, v2, hv⟩ := List.append_of_mem hpv
      have := ih v1 (v2 ++ b :: rest) p (by rw [hv, List.length_append, List.length_cons] at hl; omega) (by rw [ho, hv]; simp) h e (hpl.2.2.2 h hne hd)
      rw [hv]; simp [this]
end PG
/-! propagate in the class -/
/-- a copy's step -/
def isC (N : Nat) (stepCount kind : Nat → Int32) (i : Nat) : Prop := ∃ b k, b < N ∧ k < 6 ∧ nI k < stepCount b ∧ i = b * 6 + k ∧ kind i = 1
noncomputable def ccn (N : Nat) (stepCount kind S : Nat → Int32) : Nat → Nat
  | 0 => 0
  | n + 1 => ccn N stepCount kind S n + cif (isC N stepCount kind n ∧ ¬ S n = -1) 1 0
theorem ccn_le (N : Nat) (stepCount kind S : Nat → Int32) (n : Nat) : ccn N stepCount kind S n ≤ n := by
  induction n with
  | zero => exact Nat.le_refl _
  | succ n ih =>
    simp only [ccn]
    by_cases h : isC N stepCount kind n ∧ ¬ S n = -1
    · rw [cif_pos h]; omega
    · rw [cif_neg h]; omega
theorem ccn_upd {N : Nat} {stepCount kind S : Nat → Int32} {i : Nat} (h : isC N stepCount kind i) (h2 : ¬ S i = -1) (n : Nat) : ccn N stepCount kind (upd S i (-1)) n + (if i < n then 1 else 0) = ccn N stepCount kind S n := by
  induction n with
  | zero => rfl
  | succ n ih =>
    simp only [ccn]
    by_cases e : n = i
    · subst e
      rw [upd_same, cif_neg (fun z => z.2 rfl), cif_pos ⟨h, h2⟩, if_pos (by omega)]
      rw [if_neg (by omega)] at ih
      omega
    · rw [upd_other _ _ e]
      by_cases e2 : i < n
      · rw [if_pos e2] at ih; rw [if_pos (by omega)]; omega
      · rw [if_neg e2] at ih; rw [if_neg (by omega)]; omega
theorem ccn_zero {N : Nat} {stepCount kind S : Nat → Int32} {n : Nat} (h : ∀ i, i < n → isC N stepCount kind i → S i = -1) : ccn N stepCount kind S n = 0 := by
  induction n with
  | zero => rfl
  | succ n ih =>
    simp only [ccn]
    rw [ih (fun i hi => h i (by omega)), cif_neg (fun z => z.2 (h n (by omega) z.1))]
theorem ccn_cong {N : Nat} {stepCount kind S T : Nat → Int32} {n : Nat} (h : ∀ i, i < n → isC N stepCount kind i → S i = T i) : ccn N stepCount kind S n = ccn N stepCount kind T n := by
  induction n with
  | zero => rfl
  | succ n ih =>
    simp only [ccn]
    rw [ih (fun i hi => h i (by omega))]
    congr 1
    by_cases z : isC N stepCount kind n
    · rw [h n (by omega) z]
    · rw [cif_neg (fun w => z w.1), cif_neg (fun w => z w.1)]
/-- the copies of vis, and of b under its step k, are dropped -/
def dn (stepCount kind : Nat → Int32) (vis : List Nat) (b k c j : Nat) : Prop := mD vis b k c j ∧ nI j < stepCount c ∧ kind (c * 6 + j) = 1
def DCI (N : Nat) (stepCount kind SN fu hb hp : Nat → Int32) (vis : List Nat) (b k g : Nat) (SNc fuc hbc sf : Nat → Int32) : Prop :=
  (∀ c, c < N → ∀ j, j < 6 → (dn stepCount kind vis b k c j → SNc (c * 6 + j) = -1 ∧ fuc (c * 6 + j) = -1) ∧ (¬ dn stepCount kind vis b k c j → SNc (c * 6 + j) = SN (c * 6 + j) ∧ fuc (c * 6 + j) = fu (c * 6 + j))) ∧
  (∀ m, m < 600 → ((∃ c j, c < N ∧ j < 6 ∧ dn stepCount kind vis b k c j ∧ SN (c * 6 + j) = nI m) → hbc m = -1 ∧ sf m = nI (rt N kind hb hp fu m)) ∧ ((∀ c j, c < N → j < 6 → dn stepCount kind vis b k c j → ¬ SN (c * 6 + j) = nI m) → hbc m = hb m ∧ sf m = nI m)) ∧
  g + ccn N stepCount kind SNc (N * 6) = ccn N stepCount kind SN (N * 6)
section PC
variable {N : Nat} {stepCount kind forkVariable yes no meetingNames meetingUses stepNames firstUses secondUses endUses homeBlock homePlace mMeets mSources mSet mUseW mUseX mEndUse : Nat → Int32} {mGone mIsName : Nat → Bool} {mNameBlock mNameStep : Nat → Int32}
theorem dn_succ {vis : List Nat} {b k c j : Nat} : dn stepCount kind vis b (k + 1) c j ↔ dn stepCount kind vis b k c j ∨ (c = b ∧ j = k ∧ nI k < stepCount b ∧ kind (b * 6 + k) = 1) := by
  unfold dn
  rw [mD_succ]
  constructor
  · rintro ⟨z | ⟨rfl, rfl⟩, z2, z3⟩
    · exact Or.inl ⟨z, z2, z3⟩
    · exact Or.inr ⟨rfl, rfl, z2, z3⟩
  · rintro (⟨z, z2⟩ | ⟨rfl, rfl, z2⟩)
    · exact ⟨Or.inl z, z2⟩
    · exact ⟨Or.inr ⟨rfl, rfl⟩, z2⟩
theorem dropOf_sp (hN0 : 0 < N) (hN : N ≤ 12) (hc : ∀ b, b < N → ∃ k, k ≤ 6 ∧ stepCount b = nI k) (hPar : HasPar (gsc N yes no) N) (F : FR N stepCount kind forkVariable yes no meetingNames meetingUses stepNames firstUses secondUses endUses homeBlock homePlace mMeets mSources mSet mUseW mUseX mEndUse mGone mIsName mNameBlock mNameStep) (V : (∀ b, b < N → VB N (gsc N yes no) stepCount homeBlock homePlace firstUses secondUses endUses b ∧ VM N (gsc N yes no) homeBlock homePlace meetingUses b)) {vis rest : List Nat} {b : Nat} (ho : ordOf (gsc N yes no) N = vis ++ b :: rest) {g0 : Nat} {post : Int32 → (Nat → Int32) → (Nat → Int32) → (Nat → Int32) → (Nat → Int32) → Prop} (hp : ∀ g SNc fuc hbc sf, g ≤ 6 → (∀ b', DCI N stepCount kind stepNames firstUses homeBlock homePlace (vis ++ [b]) b' 0 (g0 + g) SNc fuc hbc sf) → post (nI g) SNc fuc hbc sf) {SNc fuc hbc sf : Nat → Int32} (h : DCI N stepCount kind stepNames firstUses homeBlock homePlace vis b 0 g0 SNc fuc hbc sf) : wpNamedForm_dropCopiesOf N stepCount kind SNc fuc hbc sf (nI b) post := by
  have hmem := fun x => ord_mem hN0 gsc_lt hPar x
  have hbr : Rch (gsc N yes no) okT b := (hmem b).mp (by rw [ho]; simp)
  have hbN := hbr.lt hN0 gsc_lt
  have hbv : b ∉ vis := by
    obtain ⟨l, e, T⟩ := ord_all hN0 gsc_lt hPar
    have := T.nd
    rw [List.append_nil, e, ho, List.nodup_append] at this
    exact fun q => this.2.2 b q b (by simp) rfl
  obtain ⟨n, hn, en⟩ := hc b hbN
  have key : ∀ (d i g : Nat) (SNc fuc hbc sf : Nat → Int32), i + d = n → g ≤ i → DCI N stepCount kind stepNames firstUses homeBlock homePlace vis b i (g0 + g) SNc fuc hbc sf → lpNamedForm_dropCopiesOf_4 N (nI b) stepCount kind post (d + 1) (nI g) (nI i) SNc fuc hbc sf := by
    intro d
    induction d with
    | zero =>
      intro i g SNc fuc hbc sf hi hg h
      unfold lpNamedForm_dropCopiesOf_4 wpProgram_stepsOf
      rw [jI_in (by omega), jI_nat (by omega), en, show i = n by omega]
      refine ⟨hbN, fun _ => hp g SNc fuc hbc sf (by omega) fun b' => ?_, fun q => absurd (Int32.le_refl _) q⟩
      have e : ∀ c j, j < 6 → (dn stepCount kind (vis ++ [b]) b' 0 c j ↔ dn stepCount kind vis b i c j) := by
        intro c j hj
        unfold dn mD
        constructor
        · rintro ⟨z | z, z2⟩
          · rcases List.mem_append.mp z with z | z
            · exact ⟨Or.inl z, z2⟩
            · have : c = b := by simpa using z
              subst this
              refine ⟨Or.inr ⟨rfl, ?_⟩, z2⟩
              have := z2.1
              rw [en, jI_lt (by omega) (by omega)] at this; omega
          · omega
        · rintro ⟨z | z, z2⟩
          · exact ⟨Or.inl (by simp [z]), z2⟩
          · exact ⟨Or.inl (by simp [z.1]), z2⟩
      refine ⟨fun c hc j hj => ?_, fun m hm => ⟨fun ⟨c, j, h1, h2, h3, h4⟩ => (h.2.1 m hm).1 ⟨c, j, h1, h2, (e c j h2).mp h3, h4⟩, fun w => (h.2.1 m hm).2 fun c j h1 h2 h3 => w c j h1 h2 ((e c j h2).mpr h3)⟩, h.2.2⟩
      rw [e c j hj]; exact h.1 c hc j hj
    | succ d ih =>
      intro i g SNc fuc hbc sf hi hg h
      have hi6 : i < 6 := by omega
      have hlt : nI i < stepCount b := by rw [en, jI_lt (by omega) (by omega)]; omega
      have ndn : ¬ dn stepCount kind vis b i b i := by
        rintro ⟨z | z, -⟩
        · exact hbv z
        · omega
      have cur0 := (h.1 b hbN i hi6).2 ndn
      unfold lpNamedForm_dropCopiesOf_4 wpProgram_stepsOf
      rw [jI_in (by omega), jI_nat (by omega), en]
      refine ⟨hbN, fun q => ?_, fun _ v hv => ?_⟩
      · rw [jI_le (by omega) (by omega)] at q; omega
      rw [jt6, jI_mul, jI_add] at hv
      subst hv
      unfold wpProgram_kindOf
      rw [jt6, jI_mul, jI_add, jI_in (by omega), jI_nat (by omega), jI_one]
      refine ⟨by omega, fun q => ?_, fun q => ⟨by omega, fun q2 => ?_, fun q2 => ?_⟩⟩
      · refine ih (i + 1) g SNc fuc hbc sf (by omega) (by omega) ?_
        have e : ∀ c j, dn stepCount kind vis b (i + 1) c j ↔ dn stepCount kind vis b i c j := fun c j => dn_succ.trans ⟨fun z => z.elim id fun z => absurd z.2.2.2 q, Or.inl⟩
        refine ⟨fun c hc j hj => ?_, fun m hm => ⟨fun ⟨c, j, h1, h2, h3, h4⟩ => (h.2.1 m hm).1 ⟨c, j, h1, h2, (e c j).mp h3, h4⟩, fun w => (h.2.1 m hm).2 fun c j h1 h2 h3 => w c j h1 h2 ((e c j).mpr h3)⟩, h.2.2⟩
        rw [e c j]; exact h.1 c hc j hj
      · -- the copy is gone
        rw [cur0.1] at q2
        have hfu : firstUses (b * 6 + i) = -1 := by
          rcases F.gn b hbN hbr i hi6 hlt with z | z
          · exact z.2.2.2
          · exact absurd q2 (z.2.1 (by rw [q]; decide))
        refine ih (i + 1) g SNc fuc hbc sf (by omega) (by omega) ⟨fun c hc j hj => ⟨fun z => ?_, fun z => (h.1 c hc j hj).2 fun w => z (dn_succ.mpr (Or.inl w))⟩, fun m hm => ⟨fun ⟨c, j, h1, h2, h3, h4⟩ => ?_, fun w => (h.2.1 m hm).2 fun c j h1 h2 h3 => w c j h1 h2 (dn_succ.mpr (Or.inl h3))⟩, h.2.2⟩
        · rcases dn_succ.mp z with z | ⟨rfl, rfl, -⟩
          · exact (h.1 c hc j hj).1 z
          · rw [cur0.1, cur0.2]; exact ⟨q2, hfu⟩
        · rcases dn_succ.mp h3 with z | ⟨rfl, rfl, -⟩
          · exact (h.2.1 m hm).1 ⟨c, j, h1, h2, z, h4⟩
          · rw [q2] at h4; exact absurd h4.symm (jI_m1 (by omega))
      · -- a copy goes
        rw [cur0.1] at q2
        rw [cur0.1, cur0.2]
        rcases (F.se b hbN i hi6 hlt).2 with z | ⟨m, hm, em, eb, ep⟩
        · exact absurd z q2
        have hEm : Ex homeBlock m := ⟨hm, by rw [eb]; exact jI_m1 (by omega)⟩
        have cp := F.copy hN0 hN V hEm hbN hi6 eb ep q
        have hcm : cpy N kind homeBlock homePlace m := ⟨b, i, hbN, hi6, eb, ep, q⟩
        have hEn := cp.2.2.2.2.1
        have hn6 := hEn.1
        have hsf : sf (nxt homeBlock homePlace firstUses m) = nI (rt N kind homeBlock homePlace firstUses m) := by
          rw [rt_copy hN0 hN F V hEm hcm]
          by_cases hcn : cpy N kind homeBlock homePlace (nxt homeBlock homePlace firstUses m)
          · obtain ⟨y, j, hy, hj, e1, e2, e3⟩ := hcn
            have cn := F.copy hN0 hN V hEn hy hj e1 e2 e3
            refine ((h.2.1 _ hn6).1 ⟨y, j, hy, hj, ⟨?_, cn.2.1, e3⟩, cn.2.2.1⟩).2
            rcases cp.2.2.2.2.2.2 with ⟨y', j', hy', hj', f1, f2, f3⟩ | f
            · have : y = y' := (jI_eq (by omega) (by omega)).mp (e1.symm.trans f1)
              subst this
              have : j = j' := (jI_eq (by omega) (by omega)).mp (e2.symm.trans f2)
              subst this
              rcases f3 with f3 | f3
              · exact Or.inl (ord_dom hN0 gsc_lt hPar vis.length vis rest b (Nat.le_refl _) ho y f3.1 f3.2)
              · exact Or.inr f3
            · rcases f y j hy e1 with w | w
              · exact absurd e2 w
              · omega
          · rw [rt_no hcn]
            refine ((h.2.1 _ hn6).2 fun c j hc hj hd es => hcn ?_).2
            rcases (F.se c hc j hj hd.2.1).2 with w | ⟨m', hm', w1, w2, w3⟩
            · rw [w] at es; exact absurd es.symm (jI_m1 (by omega))
            · have : m' = nxt homeBlock homePlace firstUses m := (jI_eq (by omega) (by omega)).mp (w1.symm.trans es)
              rw [← this]
              exact ⟨c, j, hc, hj, w2, w3, hd.2.2⟩
        rw [em, cp.2.2.2.1, jI_in (by omega), jI_nat (by omega), jI_in (by omega), jI_nat (by omega), hsf, jI_one g]
        refine ⟨by omega, by omega, by omega, by omega, by omega, by omega, by omega, by omega, ih (i + 1) (g + 1) _ _ _ _ (by omega) (by omega) ⟨fun c hc j hj => ?_, fun m' hm' => ?_, ?_⟩⟩
        · by_cases e : c * 6 + j = b * 6 + i
          · have e1 : c = b := by omega
            have e2 : j = i := by omega
            subst e1 e2
            rw [upd_same, upd_same]
            exact ⟨fun _ => ⟨rfl, rfl⟩, fun z => absurd (dn_succ.mpr (Or.inr ⟨rfl, rfl, hlt, q⟩)) z⟩
          · rw [upd_other _ _ e, upd_other _ _ e]
            have hcj : ¬ (c = b ∧ j = i) := fun z => e (by rw [z.1, z.2])
            exact ⟨fun z => (h.1 c hc j hj).1 ((dn_succ.mp z).resolve_right fun w => hcj ⟨w.1, w.2.1⟩), fun z => (h.1 c hc j hj).2 fun w => z (dn_succ.mpr (Or.inl w))⟩
        · by_cases e : m' = m
          · subst e
            rw [upd_same, upd_same]
            exact ⟨fun _ => ⟨rfl, rfl⟩, fun w => absurd em (w b i hbN hi6 (dn_succ.mpr (Or.inr ⟨rfl, rfl, hlt, q⟩)))⟩
          · rw [upd_other _ _ e, upd_other _ _ e]
            refine ⟨fun ⟨c, j, h1, h2, h3, h4⟩ => (h.2.1 m' hm').1 ⟨c, j, h1, h2, (dn_succ.mp h3).resolve_right fun w => e ?_, h4⟩, fun w => (h.2.1 m' hm').2 fun c j h1 h2 h3 => w c j h1 h2 (dn_succ.mpr (Or.inl h3))⟩
            rw [w.1, w.2.1, em] at h4
            exact ((jI_eq (by omega) (by omega)).mp h4).symm
        · have h3 := h.2.2
          have hS : ¬ SNc (b * 6 + i) = -1 := by rw [cur0.1, em]; exact jI_m1 (by omega)
          have := ccn_upd (N := N) (stepCount := stepCount) (kind := kind) (S := SNc) (i := b * 6 + i) ⟨b, i, hbN, hi6, hlt, rfl, q⟩ hS (N * 6)
          rw [if_pos (by omega)] at this
          omega
  exact ⟨n + 1, key n 0 0 SNc fuc hbc sf (by omega) (by omega) h⟩
end PC
theorem replaceAll_sp {N n : Nat} (hn : n < 100000) {kind hb hp fu sf f : Nat → Int32} (hsf : ∀ m, Ex hb m → sf m = nI (rt N kind hb hp fu m)) (hf : ∀ i, i < n → f i = -1 ∨ ∃ m, Ex hb m ∧ f i = nI m) {post : (Nat → Int32) → Prop} (hpost : ∀ g, (∀ i, i < n → rU N kind hb hp fu (f i) (g i)) → post g) : wpNamedForm_replaceAll n sf f post := by
  have key : ∀ (d i : Nat) (g : Nat → Int32), i + d = n → (∀ j, j < i → rU N kind hb hp fu (f j) (g j)) → (∀ j, i ≤ j → g j = f j) → lpNamedForm_replaceAll_2 n sf post (d + 1) (nI i) g := by
    intro d
    induction d with
    | zero =>
      intro i g hi h1 h2
      have : i = n := by omega
      subst this
      exact ⟨fun _ => hpost g h1, fun q => absurd (Int32.le_refl _) q⟩
    | succ d ih =>
      intro i g hi h1 h2
      refine ⟨fun q => ?_, fun _ => ?_⟩
      · rw [jI_le (by omega) (by omega)] at q; omega
      · rw [jI_in (by omega), jI_nat (by omega), jI_one, h2 i (Nat.le_refl _)]
        refine ⟨by omega, fun q => ih (i + 1) g (by omega) (fun j hj => ?_) (fun j hj => h2 j (by omega)), fun q => ?_⟩
        · by_cases e : j = i
          · subst e; rw [h2 j (Nat.le_refl _)]; exact Or.inl ⟨q, q⟩
          · exact h1 j (by omega)
        · rcases hf i (by omega) with z | ⟨m, hm, em⟩
          · exact absurd z q
          · have hm6 := hm.1
            rw [em, jI_in (by omega), jI_nat (by omega), hsf m hm]
            refine ⟨by omega, hm6, by omega, ih (i + 1) _ (by omega) (fun j hj => ?_) (fun j hj => by rw [upd_other _ _ (by omega)]; exact h2 j (by omega))⟩
            by_cases e : j = i
            · subst e; rw [upd_same]; exact Or.inr ⟨m, hm, em, rfl⟩
            · rw [upd_other _ _ e]; exact h1 j (by omega)
  exact ⟨n + 1, key n 0 f (by omega) (fun j hj => by omega) (fun _ _ => rfl)⟩
section PD
variable {N : Nat} {stepCount kind forkVariable yes no meetingNames meetingUses stepNames firstUses secondUses endUses homeBlock homePlace mMeets mSources mSet mUseW mUseX mEndUse : Nat → Int32} {mGone mIsName : Nat → Bool} {mNameBlock mNameStep : Nat → Int32}
theorem useOK.ex {u : Int32} (h : useOK homeBlock u) : u = -1 ∨ ∃ m, Ex homeBlock m ∧ u = nI m := by
  rcases h with h | ⟨m, hm, e, hne⟩
  · exact Or.inl h
  · exact Or.inr ⟨m, ⟨hm, hne⟩, e⟩
theorem div6 {N i : Nat} (h : i < N * 6) : ∃ b k, b < N ∧ k < 6 ∧ i = b * 6 + k := ⟨i / 6, i % 6, by omega, by omega, by omega⟩
theorem div13 {N i : Nat} (h : i < N * 6 * (N + 1)) : ∃ b v p, b < N ∧ v < 6 ∧ p ≤ N ∧ i = (b * 6 + v) * (N + 1) + p := by
  have h1 : i / (N + 1) < N * 6 := Nat.div_lt_of_lt_mul (by rw [Nat.mul_comm]; exact h)
  obtain ⟨b, v, hb, hv, e⟩ := div6 h1
  refine ⟨b, v, i % (N + 1), hb, hv, Nat.le_of_lt_succ (Nat.mod_lt _ (by omega)), ?_⟩
  rw [← e, Nat.mul_comm]
  exact (Nat.div_add_mod i (N + 1)).symm
theorem dropCopies_sp (hN0 : 0 < N) (hN : N ≤ 12) (hc : ∀ b, b < N → ∃ k, k ≤ 6 ∧ stepCount b = nI k) {orderSize reached : Int32} {forerunners blw frontiers parents order : Nat → Int32} (hS : SurvIs N yes no orderSize reached forerunners blw frontiers parents order) (F : FR N stepCount kind forkVariable yes no meetingNames meetingUses stepNames firstUses secondUses endUses homeBlock homePlace mMeets mSources mSet mUseW mUseX mEndUse mGone mIsName mNameBlock mNameStep) (V : (∀ b, b < N → VB N (gsc N yes no) stepCount homeBlock homePlace firstUses secondUses endUses b ∧ VM N (gsc N yes no) homeBlock homePlace meetingUses b)) {sf0 : Nat → Int32} {post : Int32 → (Nat → Int32) → (Nat → Int32) → (Nat → Int32) → (Nat → Int32) → (Nat → Int32) → (Nat → Int32) → (Nat → Int32) → Prop}
    (hp : ∀ mu SN fu su eu hb sf, (∀ c, c < N → ∀ j, j < 6 → (nI j < stepCount c ∧ kind (c * 6 + j) = 1 → SN (c * 6 + j) = -1 ∧ fu (c * 6 + j) = -1) ∧ (¬ (nI j < stepCount c ∧ kind (c * 6 + j) = 1) → SN (c * 6 + j) = stepNames (c * 6 + j) ∧ rU N kind homeBlock homePlace firstUses (firstUses (c * 6 + j)) (fu (c * 6 + j))) ∧ rU N kind homeBlock homePlace firstUses (secondUses (c * 6 + j)) (su (c * 6 + j))) → (∀ c, c < N → rU N kind homeBlock homePlace firstUses (endUses c) (eu c)) → (∀ b, b < N → ∀ v, v < 6 → ∀ p, p ≤ N → rU N kind homeBlock homePlace firstUses (meetingUses ((b * 6 + v) * (N + 1) + p)) (mu ((b * 6 + v) * (N + 1) + p))) → (∀ m, m < 600 → (Ex homeBlock m ∧ cpy N kind homeBlock homePlace m → hb m = -1) ∧ (¬ (Ex homeBlock m ∧ cpy N kind homeBlock homePlace m) → hb m = homeBlock m)) → post (nI (ccn N stepCount kind stepNames (N * 6))) mu SN fu su eu hb sf) : wpNamedForm_dropCopies N stepCount kind orderSize order meetingUses stepNames firstUses secondUses endUses homeBlock sf0 post := by
  have hPar := hS.pa.has hN0 gsc_lt
  have hlen := ord_len hN0 gsc_lt hPar
  have hmem := fun x => ord_mem hN0 gsc_lt hPar x
  obtain ⟨e0, eo⟩ := hS.od
  have l1 : ∀ (K : Int32 → (Nat → Int32) → Prop), (∀ sf, (∀ m, m < 600 → sf m = nI m) → ∀ x, K x sf) → ∀ (d i : Nat) (sf : Nat → Int32), i + d = 600 → (∀ m, m < i → sf m = nI m) → lpNamedForm_dropCopies_2 K (d + 1) (nI i) sf := by
    intro K hK d
    induction d with
    | zero =>
      intro i sf hi h
      have : i = 600 := by omega
      subst this
      exact ⟨fun _ => hK sf h _, fun q => absurd (Int32.le_refl _) q⟩
    | succ d ih =>
      intro i sf hi h
      refine ⟨fun q => ?_, fun _ => ?_⟩
      · rw [show (600 : Int32) = nI 600 from rfl, jI_le (by omega) (by omega)] at q; omega
      · rw [jI_in (by omega), jI_one, jI_nat (by omega)]
        refine ⟨by omega, ih (i + 1) _ (by omega) fun c hc => ?_⟩
        by_cases e : c = i
        · subst e; rw [upd_same]
        · rw [upd_other _ _ e]; exact h c (by omega)
  have l2 : ∀ (K : Int32 → Int32 → (Nat → Int32) → (Nat → Int32) → (Nat → Int32) → (Nat → Int32) → Prop), (∀ g SNc fuc hbc sf, DCI N stepCount kind stepNames firstUses homeBlock homePlace (ordOf (gsc N yes no) N) 0 0 g SNc fuc hbc sf → ∀ x, K (nI g) x SNc fuc hbc sf) → ∀ (d i g : Nat) (vis rest : List Nat) (SNc fuc hbc sf : Nat → Int32), i + d = (ordOf (gsc N yes no) N).length → vis.length = i → ordOf (gsc N yes no) N = vis ++ rest → (∀ b', DCI N stepCount kind stepNames firstUses homeBlock homePlace vis b' 0 g SNc fuc hbc sf) → lpNamedForm_dropCopies_26 N stepCount kind orderSize order K (d + 1) (nI g) (nI i) SNc fuc hbc sf := by
    intro K hK d
    induction d with
    | zero =>
      intro i g vis rest SNc fuc hbc sf hi hvi ho h
      have hr : rest = [] := by
        have := congrArg List.length ho
        rw [List.length_append] at this
        exact List.eq_nil_of_length_eq_zero (by omega)
      subst hr
      rw [List.append_nil] at ho
      rw [← ho] at h
      unfold lpNamedForm_dropCopies_26 wpGraph_reachedCount
      dsimp only
      rw [e0, show i = (ordOf (gsc N yes no) N).length by omega]
      exact ⟨fun _ => hK g SNc fuc hbc sf (h 0) _, fun q => absurd (Int32.le_refl _) q⟩
    | succ d ih =>
      intro i g vis rest SNc fuc hbc sf hi hvi ho h
      cases rest with
      | nil =>
        have := congrArg List.length ho
        rw [List.length_append, List.length_nil] at this
        omega
      | cons b rest =>
        have hxi : (ordOf (gsc N yes no) N)[i]? = some b := by
          rw [ho, List.getElem?_append_right (by omega), show i - vis.length = 0 by omega]
          rfl
        unfold lpNamedForm_dropCopies_26 wpGraph_reachedCount wpGraph_inOrder
        dsimp only
        rw [e0]
        refine ⟨fun q => ?_, fun _ => ?_⟩
        · rw [jI_le (by omega) (by omega)] at q; omega
        · rw [jI_in (by omega), jI_nat (by omega), eo i b hxi, jI_one, ← e0]
          refine ⟨by omega, dropOf_sp hN0 hN hc hPar F V ho (g0 := g) (fun g1 SNc fuc hbc sf hg h v hv => ?_) (h b)⟩
          rw [jI_add] at hv
          subst hv
          exact ih (i + 1) (g + g1) (vis ++ [b]) rest SNc fuc hbc sf (by omega) (by rw [List.length_append, List.length_singleton]; omega) (by rw [ho]; simp) h
  have hNN : N * 6 * (N + 1) ≤ 72 * 13 := Nat.mul_le_mul (by omega) (by omega)
  have ini : ∀ sf : Nat → Int32, (∀ m, m < 600 → sf m = nI m) → ∀ b', DCI N stepCount kind stepNames firstUses homeBlock homePlace [] b' 0 0 stepNames firstUses homeBlock sf := by
    intro sf hsf b'
    have no : ∀ c j, ¬ dn stepCount kind [] b' 0 c j := by
      rintro c j ⟨w | w, -⟩
      · cases w
      · omega
    exact ⟨fun c hc j hj => ⟨fun z => absurd z (no c j), fun _ => ⟨rfl, rfl⟩⟩, fun m hm => ⟨fun ⟨c, j, _, _, z, _⟩ => absurd z (no c j), fun _ => ⟨rfl, hsf m hm⟩⟩, by omega⟩
  refine ⟨600 + 1, l1 _ (fun sf hsf x => ⟨(ordOf (gsc N yes no) N).length + 1, l2 _ (fun g SNc fuc hbc sf h x => ?_) (ordOf (gsc N yes no) N).length 0 0 [] (ordOf (gsc N yes no) N) stepNames firstUses homeBlock sf (by omega) rfl rfl (ini sf hsf)⟩) 600 0 sf0 (by omega) (fun m hm => by omega)⟩
  -- behind the loop over the blocks
  have dno : ∀ c j, dn stepCount kind (ordOf (gsc N yes no) N) 0 0 c j ↔ Rch (gsc N yes no) okT c ∧ nI j < stepCount c ∧ kind (c * 6 + j) = 1 := by
    intro c j
    unfold dn mD
    rw [hmem c]
    exact ⟨fun z => ⟨z.1.resolve_right fun w => by omega, z.2⟩, fun z => ⟨Or.inl z.1, z.2⟩⟩
  have sunr : ∀ c, c < N → ∀ j, j < 6 → nI j < stepCount c → ¬ Rch (gsc N yes no) okT c → stepNames (c * 6 + j) = -1 := by
    intro c hc j hj hlt hr
    rcases (F.se c hc j hj hlt).2 with z | ⟨m, hm, e, eb, -⟩
    · exact z
    · obtain ⟨x, hx, ex, hh⟩ := F.home hN (m := m) ⟨hm, by rw [eb]; exact jI_m1 (by omega)⟩
      have : x = c := (jI_eq (by omega) (by omega)).mp (ex.symm.trans eb)
      subst this
      rcases hh with z | z
      · omega
      · exact absurd z.2.1 hr
  have hsfa : ∀ m, Ex homeBlock m → sf m = nI (rt N kind homeBlock homePlace firstUses m) := by
    intro m hm
    by_cases hcm : cpy N kind homeBlock homePlace m
    · obtain ⟨y, j, hy, hj, e1, e2, e3⟩ := hcm
      have cn := F.copy hN0 hN V hm hy hj e1 e2 e3
      exact ((h.2.1 m hm.1).1 ⟨y, j, hy, hj, (dno y j).mpr ⟨cn.1, cn.2.1, e3⟩, cn.2.2.1⟩).2
    · rw [rt_no hcm]
      refine ((h.2.1 m hm.1).2 fun c j hc hj hd es => hcm ?_).2
      have hd := (dno c j).mp hd
      rcases (F.se c hc j hj hd.2.1).2 with w | ⟨m', hm', w1, w2, w3⟩
      · rw [w] at es; exact absurd es.symm (jI_m1 (by have := hm.1; omega))
      · have : m' = m := (jI_eq (by omega) (by have := hm.1; omega)).mp (w1.symm.trans es)
        rw [← this]
        exact ⟨c, j, hc, hj, w2, w3, hd.2.2⟩
  have hcc : ccn N stepCount kind SNc (N * 6) = 0 := by
    refine ccn_zero fun i hi ⟨b, k, hb, hk, hlt, e, hkd⟩ => ?_
    rw [e]
    rw [e] at hkd
    by_cases hr : Rch (gsc N yes no) okT b
    · exact ((h.1 b hb k hk).1 ((dno b k).mpr ⟨hr, hlt, hkd⟩)).1
    · rw [((h.1 b hb k hk).2 fun z => hr ((dno b k).mp z).1).1]
      exact sunr b hb k hk hlt hr
  have hg := h.2.2
  rw [hcc, Nat.add_zero] at hg
  rw [hg]
  have use6 : ∀ (f : Nat → Int32), (∀ b, b < N → ∀ k, k < 6 → useOK homeBlock (f (b * 6 + k))) → ∀ i, i < N * 6 → f i = -1 ∨ ∃ m, Ex homeBlock m ∧ f i = nI m := by
    intro f hf i hi
    obtain ⟨b, k, hb, hk, e⟩ := div6 hi
    rw [e]
    exact (hf b hb k hk).ex
  refine replaceAll_sp (by omega) hsfa (use6 fuc fun b hb k hk => ?_) fun fu' w1 => replaceAll_sp (by omega) hsfa (use6 secondUses fun b hb k hk => (F.us b hb k hk).2.2.2.1) fun su' w2 => replaceAll_sp (by omega) hsfa (fun i hi => (F.eu i hi).2.1.ex) fun eu' w3 => replaceAll_sp (by omega) hsfa (fun i hi => ?_) fun mu' w4 => ?_
  · by_cases z : dn stepCount kind (ordOf (gsc N yes no) N) 0 0 b k
    · rw [((h.1 b hb k hk).1 z).2]; exact Or.inl rfl
    · rw [((h.1 b hb k hk).2 z).2]; exact (F.us b hb k hk).2.2.1
  · obtain ⟨b, v, p, hb, hv, hp2, e⟩ := div13 hi
    rw [e]
    exact (F.so b hb v hv p hp2).2.2.2.ex
  · refine hp mu' SNc fu' su' eu' hbc sf (fun c hc j hj => ⟨fun z => ?_, fun z => ?_, w2 _ (by omega)⟩) (fun c hc => w3 c hc) (fun b hb v hv p hp2 => w4 _ (ixlt hb hv hp2)) (fun m hm => ⟨fun z => ?_, fun z => ?_⟩)
    · have hf := w1 (c * 6 + j) (by omega)
      by_cases hr : Rch (gsc N yes no) okT c
      · have := (h.1 c hc j hj).1 ((dno c j).mpr ⟨hr, z⟩)
        refine ⟨this.1, ?_⟩
        rw [this.2] at hf
        rcases hf with w | ⟨m, hm, w, -⟩
        · exact w.2
        · exact absurd w.symm (jI_m1 (by have := hm.1; omega))
      · have := (h.1 c hc j hj).2 fun z => hr ((dno c j).mp z).1
        rw [this.1, sunr c hc j hj z.1 hr]
        refine ⟨rfl, ?_⟩
        rw [this.2, ((F.us c hc j hj).2.2.2.2 (Or.inr hr)).1] at hf
        rcases hf with w | ⟨m, hm, w, -⟩
        · exact w.2
        · exact absurd w.symm (jI_m1 (by have := hm.1; omega))
    · have := (h.1 c hc j hj).2 fun w => z ((dno c j).mp w).2
      have hf := w1 (c * 6 + j) (by omega)
      rw [this.2] at hf
      exact ⟨this.1, hf⟩
    · obtain ⟨hm, y, j, hy, hj, e1, e2, e3⟩ := z
      have cn := F.copy hN0 hN V hm hy hj e1 e2 e3
      exact ((h.2.1 m hm.1).1 ⟨y, j, hy, hj, (dno y j).mpr ⟨cn.1, cn.2.1, e3⟩, cn.2.2.1⟩).1
    · refine ((h.2.1 m hm).2 fun c j hc hj hd es => z ?_).1
      have hd := (dno c j).mp hd
      rcases (F.se c hc j hj hd.2.1).2 with w | ⟨m', hm', w1, w2, w3⟩
      · rw [w] at es; exact absurd es.symm (jI_m1 (by omega))
      · have : m' = m := (jI_eq (by omega) (by omega)).mp (w1.symm.trans es)
        subst this
        exact ⟨⟨hm, by rw [w2]; exact jI_m1 (by omega)⟩, c, j, hc, hj, w2, w3, hd.2.2⟩
end PD
