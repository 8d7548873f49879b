/-! build: which blocks set a variable, and where its ways meet -/
/-- step k of block b sets v -/
def sets (kind target : Nat → Int32) (b k v : Nat) : Prop := ¬ kind (b * 6 + k) = 7 ∧ target (b * 6 + k) = nI v
def setsIn (stepCount kind target : Nat → Int32) (b v : Nat) : Prop := ∃ k, k < 6 ∧ nI k < stepCount b ∧ sets kind target b k v
section BS
variable {N : Nat} {stepCount kind target first second forkVariable yes no starts mMany mKinds mVs mWs mXs mEnds mEndVariable mYes mNo mStarts : Nat → Int32}
theorem variableSet_sp (hN : N ≤ 12) {b k : Nat} (hb : b < N) (hk : k < 6) {post : Int32 → Prop} (h1 : kind (b * 6 + k) = 7 → post (-1)) (h2 : ¬ kind (b * 6 + k) = 7 → post (target (b * 6 + k))) : wpProgram_variableSet N kind target (nI b) (nI k) post := by
  intro v hv
  rw [jt6, jI_mul, jI_add] at hv
  subst hv
  rw [jI_in (by omega), jI_nat (by omega)]
  exact ⟨by omega, fun q => ⟨fun _ => h1 q, fun z => by (cases z)⟩, fun q => ⟨fun z => by (cases z), fun _ => ⟨by omega, h2 q⟩⟩⟩
theorem setsInBlock_sp (hN : N ≤ 12) (hP : PR N stepCount kind target first second forkVariable yes no starts mMany mKinds mVs mWs mXs mEnds mEndVariable mYes mNo mStarts) {b v : Nat} (hb : b < N) (hv : v < 6) {post : Bool → Prop} (hp : ∀ z, (z = true ↔ setsIn stepCount kind target b v) → post z) : wpProgram_setsInBlock N stepCount kind target (nI b) (nI v) post := by
  obtain ⟨n, hn, en, -⟩ := hP.ct b hb
  have key : ∀ (d i : Nat), i + d = n → (∀ k, k < i → ¬ sets kind target b k v) → lpProgram_setsInBlock_2 N (nI b) (nI v) stepCount kind target post (d + 1) (nI i) := by
    intro d
    induction d with
    | zero =>
      intro i hi h
      have : i = n := by omega
      subst this
      unfold lpProgram_setsInBlock_2
      rw [jI_in (by omega), jI_nat (by omega), en]
      refine ⟨hb, fun _ => hp false ⟨fun z => by (cases z), ?_⟩, fun q => absurd (Int32.le_refl _) q⟩
      rintro ⟨k, hk, hlt, hs⟩
      rw [en, jI_lt (by omega) (by omega)] at hlt
      exact absurd hs (h k hlt)
    | succ d ih =>
      intro i hi h
      have hlt : nI i < stepCount b := by rw [en, jI_lt (by omega) (by omega)]; omega
      unfold lpProgram_setsInBlock_2
      rw [jI_in (by omega), jI_nat (by omega), en, jI_one]
      refine ⟨hb, fun q => ?_, fun _ => variableSet_sp hN hb (by omega) (fun q => ⟨fun _ => ih (i + 1) (by omega) fun k hk => ?_, fun z => absurd z.symm (jI_m1 (by omega))⟩) (fun q => ⟨fun z => ih (i + 1) (by omega) fun k hk => ?_, fun z => hp true ⟨fun _ => ⟨i, by omega, hlt, q, z⟩, fun _ => rfl⟩⟩)⟩
      · rw [jI_le (by omega) (by omega)] at q; omega
      · by_cases e : k = i
        · subst e; exact fun w => w.1 q
        · exact h k (by omega)
      · by_cases e : k = i
        · subst e; exact fun w => z w.2
        · exact h k (by omega)
  exact ⟨n + 1, key n 0 (by omega) (fun k hk => by omega)⟩
theorem kind7 {kd tg fi se : Int32} (h : SP kd tg fi se) : 7 ≤ kd ↔ kd = 7 := by
  obtain ⟨k, hk, rfl⟩ := h.1
  rw [jt7, jI_le (by omega) (by omega), jI_eq (by omega) (by omega)]
  omega
theorem mdSets_sp (hN : N ≤ 12) (hP : PR N stepCount kind target first second forkVariable yes no starts mMany mKinds mVs mWs mXs mEnds mEndVariable mYes mNo mStarts) {b v : Nat} (hb : b < N) (hv : v < 6) {post : Bool → Prop} (hp : ∀ z, (z = true ↔ setsIn stepCount kind target b v) → post z) : wpMd_setsVariable mMany mKinds mVs (nI b) (nI v) post := by
  obtain ⟨n, hn, en, em⟩ := hP.ct b hb
  intro x hx
  rw [jt6, jI_mul] at hx
  subst hx
  have key : ∀ (d i : Nat) (z : Bool), i + d = n → (z = true ↔ ∃ k, k < i ∧ sets kind target b k v) → lpMd_setsVariable_8 (nI b) (nI v) mMany mKinds mVs post (d + 1) z (nI (6 * b + i)) := by
    intro d
    induction d with
    | zero =>
      intro i z hi h
      have : i = n := by omega
      subst this
      unfold lpMd_setsVariable_8
      rw [jI_in (by omega), jI_nat (by omega), em, jt6, jI_mul, jI_add]
      refine ⟨by omega, fun _ => hp z (h.trans ⟨?_, ?_⟩), fun q => absurd (Int32.le_refl _) q⟩
      · rintro ⟨k, hk, hs⟩
        exact ⟨k, by omega, by rw [en, jI_lt (by omega) (by omega)]; exact hk, hs⟩
      · rintro ⟨k, hk, hlt, hs⟩
        rw [en, jI_lt (by omega) (by omega)] at hlt
        exact ⟨k, hlt, hs⟩
    | succ d ih =>
      intro i z hi h
      have hlt : nI i < stepCount b := by rw [en, jI_lt (by omega) (by omega)]; omega
      have st := hP.st b hb i (by omega) hlt
      unfold lpMd_setsVariable_8
      rw [jI_in (by omega), jI_nat (by omega), em, jt6, jI_mul, jI_add, jI_one, jI_in (by omega), jI_nat (by omega), show 6 * b + i = b * 6 + i by omega, ← st.1, ← st.2.1, show b * 6 + i + 1 = 6 * b + (i + 1) by omega]
      have skip : ∀ y : Bool, y = z → ¬ sets kind target b i v → lpMd_setsVariable_8 (nI b) (nI v) mMany mKinds mVs post (d + 1) y (nI (6 * b + (i + 1))) := by
        intro y hy hs
        subst hy
        refine ih (i + 1) y (by omega) (h.trans ⟨fun ⟨k, hk, w⟩ => ⟨k, by omega, w⟩, fun ⟨k, hk, w⟩ => ⟨k, ?_, w⟩⟩)
        by_cases e : k = i
        · subst e; exact absurd w hs
        · omega
      refine ⟨by omega, fun q => ?_, fun _ => ?_⟩
      · rw [jI_le (by omega) (by omega)] at q; omega
      · refine ⟨fun q => ?_, fun q => ?_⟩
        · subst q
          refine ih (i + 1) true (by omega) ⟨fun _ => ?_, fun _ => rfl⟩
          obtain ⟨k, hk, w⟩ := h.mp rfl
          exact ⟨k, by omega, w⟩
        · subst q
          refine ⟨by omega, fun q => skip false rfl fun w => w.1 ((kind7 st.2.2.2.2).mp q), fun q => ⟨by omega, fun q2 => skip false rfl fun w => q2 w.2, fun q2 => ih (i + 1) true (by omega) ⟨fun _ => ⟨i, by omega, fun w => q ((kind7 st.2.2.2.2).mpr w), q2⟩, fun _ => rfl⟩⟩⟩
  exact ⟨n + 1, key n 0 false (by omega) ⟨fun z => by (cases z), fun ⟨k, hk, _⟩ => by omega⟩⟩
end BS
/-- where ways of a variable meet, within n rounds -/
def MtN (sc : Nat → Nat → Prop) (S : Nat → Prop) : Nat → Nat → Prop
  | 0 => fun _ => False
  | n + 1 => fun b => ∃ c, DF sc c b ∧ (S c ∨ MtN sc S n c)
def Mt (sc : Nat → Nat → Prop) (S : Nat → Prop) (b : Nat) : Prop := ∃ n, MtN sc S n b
section MT
variable {sc : Nat → Nat → Prop} {S : Nat → Prop}
theorem MtN.mono {n b : Nat} (h : MtN sc S n b) : MtN sc S (n + 1) b := by
  induction n generalizing b with
  | zero => exact h.elim
  | succ n ih =>
    obtain ⟨c, h1, h2⟩ := h
    exact ⟨c, h1, h2.imp id ih⟩
theorem MtN.stable {n : Nat} (h : ∀ b, MtN sc S (n + 1) b → MtN sc S n b) : ∀ k b, MtN sc S (n + k) b → MtN sc S n b := by
  intro k
  induction k with
  | zero => exact fun b h => h
  | succ k ih =>
    rintro b ⟨c, h1, h2⟩
    exact h b ⟨c, h1, h2.imp id (ih c)⟩
theorem Mt.of_stable {n : Nat} (h : ∀ b, MtN sc S (n + 1) b → MtN sc S n b) (b : Nat) : Mt sc S b ↔ MtN sc S n b := by
  refine ⟨fun ⟨k, hk⟩ => ?_, fun h => ⟨n, h⟩⟩
  have up : ∀ j b, MtN sc S k b → MtN sc S (k + j) b := by
    intro j
    induction j with
    | zero => exact fun b h => h
    | succ j ih => exact fun b h => (ih b h).mono
  have := up n b hk
  rw [Nat.add_comm] at this
  exact MtN.stable h k b this
theorem Mt.step {b c : Nat} (h : DF sc c b) (h2 : S c ∨ Mt sc S c) : Mt sc S b := by
  rcases h2 with h2 | ⟨n, h2⟩
  · exact ⟨1, c, h, Or.inl h2⟩
  · exact ⟨n + 1, c, h, Or.inr h2⟩
theorem Mt.re {b : Nat} (h : Mt sc S b) : Rch sc okT b := by
  obtain ⟨n, h⟩ := h
  cases n with
  | zero => exact h.elim
  | succ n =>
    obtain ⟨c, ⟨⟨p, h1, h2⟩, -⟩, -⟩ := h
    exact .step h1.re h2 trivial
end MT
theorem cnt_full {x : Int32} {n : Nat} (h : n ≤ cnt x n) : ∀ c, c < n → bt x c = true := by
  induction n with
  | zero => intro c hc; omega
  | succ n ih =>
    intro c hc
    simp only [cnt] at h
    have := cnt_le x n
    by_cases e : bt x n = true
    · rw [if_pos e] at h
      by_cases e2 : c = n
      · subst e2; exact e
      · exact ih (by omega) c (by omega)
    · rw [if_neg e] at h; omega
section MK
variable {N : Nat} {stepCount kind target first second forkVariable yes no starts mMany mKinds mVs mWs mXs mEnds mEndVariable mYes mNo mStarts : Nat → Int32}
theorem frontierOfAll_sp (hN : N ≤ 12) {sc : Nat → Nat → Prop} {fn : Nat → Int32} (hF : FnIs sc N fn) {X : Int32} {post : Int32 → Prop} (hp : ∀ x, (∀ b, bt x b = true ↔ b < N ∧ ∃ c, c < N ∧ bt X c = true ∧ DF sc c b) → post x) : wpGraph_frontierOfAll N fn X post := by
  have key : ∀ (d i : Nat) (x : Int32), i + d = N → (∀ b, bt x b = true ↔ b < N ∧ ∃ c, c < i ∧ bt X c = true ∧ DF sc c b) → lpGraph_frontierOfAll_4 N X fn post (d + 1) x (nI i) := by
    intro d
    induction d with
    | zero =>
      intro i x hi h
      have : i = N := by omega
      subst this
      exact ⟨fun _ => hp x h, fun q => absurd (Int32.le_refl _) q⟩
    | succ d ih =>
      intro i x hi h
      refine ⟨fun q => ?_, fun _ => ?_⟩
      · rw [jI_le (by omega) (by omega)] at q; omega
      · rw [jI_one, jI_in (by omega), jI_nat (by omega)]
        refine on_has (by omega) ⟨fun q => ih (i + 1) x (by omega) fun b => (h b).trans ?_, fun q => ⟨by omega, fun y hy => ih (i + 1) y (by omega) fun b => ?_⟩⟩
        · refine ⟨fun ⟨w, c, hc, w2⟩ => ⟨w, c, by omega, w2⟩, fun ⟨w, c, hc, w2⟩ => ⟨w, c, ?_, w2⟩⟩
          by_cases e : c = i
          · subst e; rw [w2.1] at q; cases q
          · omega
        · rw [hy, b_or, Bool.or_eq_true, h b, hF i (by omega) b]
          constructor
          · rintro (⟨w, c, hc, w2⟩ | w)
            · exact ⟨w, c, by omega, w2⟩
            · exact ⟨w.1, i, by omega, q, w.2⟩
          · rintro ⟨w, c, hc, w2⟩
            by_cases e : c = i
            · subst e; exact Or.inr ⟨w, w2.2⟩
            · exact Or.inl ⟨w, c, by omega, w2⟩
  refine ⟨N + 1, key N 0 0 (by omega) fun b => ?_⟩
  rw [b_0]
  exact ⟨fun z => by (cases z), fun ⟨_, c, hc, _⟩ => by omega⟩
theorem markMeetings_sp (hN0 : 0 < N) (hN : N ≤ 12) (hP : PR N stepCount kind target first second forkVariable yes no starts mMany mKinds mVs mWs mXs mEnds mEndVariable mYes mNo mStarts) {orderSize reached : Int32} {forerunners blw frontiers parents order : Nat → Int32} (hS : SurvIs N yes no orderSize reached forerunners blw frontiers parents order) {mn : Nat → Int32} {v : Nat} (hv : v < 6) {post : (Nat → Int32) → Prop} (hp : ∀ mn', (∀ i, (∀ b, b < N → Mt (gsc N yes no) (setsIn stepCount kind target · v) b → i ≠ b * 6 + v) → mn' i = mn i) → (∀ b, b < N → Mt (gsc N yes no) (setsIn stepCount kind target · v) b → mn' (b * 6 + v) = 0) → post mn') : wpNamedForm_markMeetings N stepCount kind target orderSize frontiers order mn (nI v) post := by
  have hPar := hS.pa.has hN0 gsc_lt
  have hlen := ord_len hN0 gsc_lt hPar
  have hmem := fun x => ord_mem hN0 gsc_lt hPar x
  obtain ⟨e0, eo⟩ := hS.od
  have l1 : ∀ (K : Int32 → Int32 → Prop), (∀ X x, (∀ b, bt X b = true ↔ Rch (gsc N yes no) okT b ∧ setsIn stepCount kind target b v) → K X x) → ∀ (d i : Nat) (X : Int32), i + d = (ordOf (gsc N yes no) N).length → (∀ b, bt X b = true ↔ (∃ j, j < i ∧ (ordOf (gsc N yes no) N)[j]? = some b) ∧ setsIn stepCount kind target b v) → lpNamedForm_markMeetings_4 N (nI v) stepCount kind target orderSize order K (d + 1) X (nI i) := by
    intro K hK d
    induction d with
    | zero =>
      intro i X hi h
      unfold lpNamedForm_markMeetings_4 wpGraph_reachedCount
      dsimp only
      rw [e0, show i = (ordOf (gsc N yes no) N).length by omega]
      refine ⟨fun _ => hK X _ fun b => (h b).trans ?_, fun q => absurd (Int32.le_refl _) q⟩
      refine ⟨fun ⟨⟨j, hj, w⟩, w2⟩ => ⟨(hmem b).mp (List.mem_of_getElem? w), w2⟩, fun ⟨w, w2⟩ => ⟨?_, w2⟩⟩
      obtain ⟨j, hj⟩ := List.getElem?_of_mem ((hmem b).mpr w)
      exact ⟨j, by have := (List.getElem?_eq_some_iff.mp hj).1; omega, hj⟩
    | succ d ih =>
      intro i X hi h
      have hil : i < (ordOf (gsc N yes no) N).length := by omega
      have hx : (ordOf (gsc N yes no) N)[i]? = some ((ordOf (gsc N yes no) N)[i]) := List.getElem?_eq_getElem hil
      generalize (ordOf (gsc N yes no) N)[i] = x at hx
      have hxN : x < N := ((hmem x).mp (List.mem_of_getElem? hx)).lt hN0 gsc_lt
      unfold lpNamedForm_markMeetings_4 wpGraph_reachedCount wpGraph_inOrder
      dsimp only
      rw [e0]
      refine ⟨fun q => ?_, fun _ => ?_⟩
      · rw [jI_le (by omega) (by omega)] at q; omega
      · rw [jI_in (by omega), jI_nat (by omega), eo i x hx, jI_one, ← e0]
        have hi1 : ∀ b, (∃ j, j < i + 1 ∧ (ordOf (gsc N yes no) N)[j]? = some b) ↔ (∃ j, j < i ∧ (ordOf (gsc N yes no) N)[j]? = some b) ∨ b = x := by
          intro b
          constructor
          · rintro ⟨j, hj, w⟩
            by_cases e : j = i
            · subst e; rw [hx] at w; cases w; exact Or.inr rfl
            · exact Or.inl ⟨j, by omega, w⟩
          · rintro (⟨j, hj, w⟩ | rfl)
            · exact ⟨j, by omega, w⟩
            · exact ⟨i, by omega, hx⟩
        refine ⟨by omega, setsInBlock_sp hN hP hxN hv fun z hz => ⟨fun q => ih (i + 1) X (by omega) fun b => (h b).trans ?_, fun q y hy => ih (i + 1) y (by omega) fun b => ?_⟩⟩
        · rw [hi1 b]
          refine ⟨fun w => ⟨Or.inl w.1, w.2⟩, fun ⟨w, w2⟩ => ⟨w.resolve_right fun e => ?_, w2⟩⟩
          subst e
          rw [hz.mpr w2] at q; cases q
        · rw [hy, bit_set (by omega), h b, hi1 b]
          constructor
          · rintro (w | rfl)
            · exact ⟨Or.inl w.1, w.2⟩
            · exact ⟨Or.inr rfl, hz.mp q⟩
          · rintro ⟨w | w, w2⟩
            · exact Or.inl ⟨w, w2⟩
            · exact Or.inr w
  have dfre : ∀ {c b}, DF (gsc N yes no) c b → c < N ∧ b < N ∧ Rch (gsc N yes no) okT c := fun ⟨⟨p, h1, h2⟩, _⟩ => ⟨(h1.lt hN0).1, h2.2.1, h1.re1⟩
  have l2 : ∀ (X : Int32), (∀ b, bt X b = true ↔ Rch (gsc N yes no) okT b ∧ setsIn stepCount kind target b v) → ∀ (K : Int32 → Int32 → Prop), (∀ x y, (∀ b, bt x b = true ↔ Mt (gsc N yes no) (setsIn stepCount kind target · v) b) → K x y) → ∀ (d i : Nat) (x : Int32), i + d = N → (∀ b, bt x b = true ↔ MtN (gsc N yes no) (setsIn stepCount kind target · v) i b) → (i ≤ cnt x N ∨ ∀ b, MtN (gsc N yes no) (setsIn stepCount kind target · v) (i + 1) b → MtN (gsc N yes no) (setsIn stepCount kind target · v) i b) → lpNamedForm_markMeetings_56 N X frontiers K (d + 1) x (nI i) := by
    intro X hX K hK d
    induction d with
    | zero =>
      intro i x hi h h2
      have : i = N := by omega
      subst this
      refine ⟨fun _ => hK x _ fun b => (h b).trans (Mt.of_stable ?_ b).symm, fun q => absurd (Int32.le_refl _) q⟩
      rcases h2 with h2 | h2
      · rintro b ⟨c, w, -⟩
        exact (h b).mp (cnt_full h2 b (dfre w).2.1)
      · exact h2
    | succ d ih =>
      intro i x hi h h2
      refine ⟨fun q => ?_, fun _ => ?_⟩
      · rw [jI_le (by omega) (by omega)] at q; omega
      · rw [jI_one]
        refine frontierOfAll_sp hN hS.fn fun y hy => ?_
        have hy2 : ∀ b, bt y b = true ↔ MtN (gsc N yes no) (setsIn stepCount kind target · v) (i + 1) b := by
          intro b
          rw [hy b]
          constructor
          · rintro ⟨w, c, hc, w1, w2⟩
            rw [b_or, Bool.or_eq_true, hX c, h c] at w1
            exact ⟨c, w2, w1.imp (fun z => z.2) id⟩
          · rintro ⟨c, w, w2⟩
            refine ⟨(dfre w).2.1, c, (dfre w).1, ?_, w⟩
            rw [b_or, Bool.or_eq_true, hX c, h c]
            exact w2.imp (fun z => ⟨(dfre w).2.2, z⟩) id
        refine ih (i + 1) y (by omega) hy2 ?_
        have hsub : ∀ c, bt x c = true → bt y c = true := fun c hc => (hy2 c).mpr ((h c).mp hc).mono
        by_cases hst : ∀ b, MtN (gsc N yes no) (setsIn stepCount kind target · v) (i + 1) b → MtN (gsc N yes no) (setsIn stepCount kind target · v) i b
        · right
          intro b hb
          have := MtN.stable hst 2 b hb
          exact this.mono
        · left
          obtain ⟨b, hb⟩ := Classical.not_forall.mp hst
          obtain ⟨hb1, hb2⟩ := Classical.not_imp.mp hb
          have hbN : b < N := by
            obtain ⟨c, w, -⟩ := hb1
            exact (dfre w).2.1
          have := cnt_lt hsub hbN (fun z => hb2 ((h b).mp z)) ((hy2 b).mpr hb1)
          rcases h2 with h2 | h2
          · omega
          · exact absurd (h2 b hb1) hb2
  have l3 : ∀ (x : Int32), (∀ b, bt x b = true ↔ Mt (gsc N yes no) (setsIn stepCount kind target · v) b) → ∀ (d i : Nat) (m : Nat → Int32), i + d = N → (∀ j, (∀ b, b < i → Mt (gsc N yes no) (setsIn stepCount kind target · v) b → j ≠ b * 6 + v) → m j = mn j) → (∀ b, b < i → Mt (gsc N yes no) (setsIn stepCount kind target · v) b → m (b * 6 + v) = 0) → lpNamedForm_markMeetings_85 N (nI v) x post (d + 1) (nI i) m := by
    intro x hx d
    induction d with
    | zero =>
      intro i m hi h1 h2
      have : i = N := by omega
      subst this
      exact ⟨fun _ => hp m h1 h2, fun q => absurd (Int32.le_refl _) q⟩
    | succ d ih =>
      intro i m hi h1 h2
      refine ⟨fun q => ?_, fun _ => ?_⟩
      · rw [jI_le (by omega) (by omega)] at q; omega
      · rw [jI_one, jt6, jI_mul, jI_add, jI_in (by omega), jI_nat (by omega)]
        refine on_has (by omega) ⟨fun q => ih (i + 1) m (by omega) (fun j hj => h1 j fun b hb w => hj b (by omega) w) (fun b hb w => ?_), fun q => ⟨by omega, ih (i + 1) _ (by omega) (fun j hj => ?_) (fun b hb w => ?_)⟩⟩
        · by_cases e : b = i
          · subst e; rw [(hx b).mpr w] at q; cases q
          · exact h2 b (by omega) w
        · rw [upd_other _ _ (hj i (by omega) ((hx i).mp q))]
          exact h1 j fun b hb w => hj b (by omega) w
        · by_cases e : b = i
          · subst e; rw [upd_same]
          · rw [upd_other _ _ (by omega)]; exact h2 b (by omega) w
  refine ⟨_, l1 _ (fun X _ hX => ⟨N + 1, l2 X hX _ (fun x _ hx => ⟨N + 1, l3 x hx N 0 mn (by omega) (fun j _ => rfl) (fun b hb => by omega)⟩) N 0 0 (by omega) (fun b => ?_) (Or.inl (by omega))⟩) (ordOf (gsc N yes no) N).length 0 0 (by omega) (fun b => ?_)⟩
  · rw [b_0]; exact ⟨fun z => by (cases z), fun ⟨⟨j, hj, _⟩, _⟩ => by omega⟩
  · rw [b_0]; exact ⟨fun z => by (cases z), fun z => z.elim⟩
end MK
/-! build: the marks of the meetings in class and reference -/
/-- v's ways meet in b -/
def MT (N : Nat) (yes no stepCount kind target : Nat → Int32) (b v : Nat) : Prop := Mt (gsc N yes no) (setsIn stepCount kind target · v) b
def MkIs (N : Nat) (yes no stepCount kind target mn : Nat → Int32) : Prop := ∀ b, b < N → ∀ v, v < 6 → (MT N yes no stepCount kind target b v → mn (b * 6 + v) = 0) ∧ (¬ MT N yes no stepCount kind target b v → mn (b * 6 + v) = -1)
section FG
variable {N : Nat} {stepCount kind target first second forkVariable yes no starts mMany mKinds mVs mWs mXs mEnds mEndVariable mYes mNo mStarts : Nat → Int32}
theorem forgetAll_sp (hN0 : 0 < N) (hN : N ≤ 12) (hP : PR N stepCount kind target first second forkVariable yes no starts mMany mKinds mVs mWs mXs mEnds mEndVariable mYes mNo mStarts) {orderSize reached : Int32} {forerunners blw frontiers parents order : Nat → Int32} (hS : SurvIs N yes no orderSize reached forerunners blw frontiers parents order) {a1 a2 a3 a4 a5 a6 a7 a8 : Nat → Int32} {post : (Nat → Int32) → (Nat → Int32) → (Nat → Int32) → (Nat → Int32) → (Nat → Int32) → (Nat → Int32) → (Nat → Int32) → (Nat → Int32) → Prop} (hp : ∀ mn mu sn fu su eu num hb, MkIs N yes no stepCount kind target mn → (∀ i, i < N * 6 * (N + 1) → mu i = -1) → (∀ i, i < N * 6 → sn i = -1) → (∀ i, i < N * 6 → fu i = -1) → (∀ i, i < N * 6 → su i = -1) → (∀ i, i < N → eu i = -1) → (∀ i, i < 6 → num i = 0) → (∀ i, i < 600 → hb i = -1) → post mn mu sn fu su eu num hb) : wpNamedForm_forgetAll N stepCount kind target orderSize frontiers order a1 a2 a3 a4 a5 a6 a7 a8 post := by
  have hNN : N * 6 * (N + 1) ≤ 72 * 13 := Nat.mul_le_mul (by omega) (by omega)
  refine fill_sp (by omega) fun mn0 h1 => fill_sp (by omega) fun mu h2 => fill_sp (by omega) fun sn h3 => fill_sp (by omega) fun fu h4 => fill_sp (by omega) fun su h5 => fill_sp (by omega) fun eu h6 => fill_sp (by omega) fun num h7 => fill_sp (by omega) fun hb h8 => ?_
  have key : ∀ (d i : Nat) (mn : Nat → Int32), i + d = 6 → (∀ b, b < N → ∀ v, v < 6 → (v < i ∧ MT N yes no stepCount kind target b v → mn (b * 6 + v) = 0) ∧ (¬ (v < i ∧ MT N yes no stepCount kind target b v) → mn (b * 6 + v) = -1)) → lpNamedForm_forgetAll_66 N stepCount kind target orderSize frontiers order mu sn fu su eu num hb post (d + 1) (nI i) mn := by
    intro d
    induction d with
    | zero =>
      intro i mn hi h
      have : i = 6 := by omega
      subst this
      refine ⟨fun _ => hp mn mu sn fu su eu num hb (fun b hb v hv => ⟨fun w => (h b hb v hv).1 ⟨hv, w⟩, fun w => (h b hb v hv).2 fun z => w z.2⟩) h2 h3 h4 h5 h6 h7 h8, fun q => absurd (Int32.le_refl _) q⟩
    | succ d ih =>
      intro i mn hi h
      refine ⟨fun q => ?_, fun _ => ?_⟩
      · rw [jt6, jI_le (by omega) (by omega)] at q; omega
      · rw [jI_one]
        refine markMeetings_sp hN0 hN hP hS (by omega) fun mn' g1 g2 => ih (i + 1) mn' (by omega) fun b hb v hv => ?_
        by_cases e : v = i
        · subst e
          refine ⟨fun w => g2 b hb w.2, fun w => ?_⟩
          rw [g1 (b * 6 + v) fun c hc z e2 => w ⟨by omega, by
            have : b = c := by omega
            subst this; exact z⟩]
          exact (h b hb v hv).2 fun z => by omega
        · have e2 : mn' (b * 6 + v) = mn (b * 6 + v) := g1 _ fun c hc z e2 => by omega
          rw [e2]
          refine ⟨fun w => (h b hb v hv).1 ⟨by omega, w.2⟩, fun w => (h b hb v hv).2 fun z => w ⟨by omega, z.2⟩⟩
  exact ⟨6 + 1, key 6 0 mn0 (by omega) fun b hb v hv => ⟨fun w => by omega, fun _ => h1 _ (by omega)⟩⟩
end FG
/-- how many of the first n entries are marked -/
def mcn (m : Nat → Int32) : Nat → Nat
  | 0 => 0
  | n + 1 => mcn m n + (if m n = 0 then 1 else 0)
theorem mcn_le (m : Nat → Int32) (n : Nat) : mcn m n ≤ n := by
  induction n with
  | zero => exact Nat.le_refl _
  | succ n ih => simp only [mcn]; split <;> omega
theorem mcn_upd {m : Nat → Int32} {k : Nat} (h : ¬ m k = 0) (n : Nat) : mcn (upd m k 0) n = mcn m n + (if k < n then 1 else 0) := by
  induction n with
  | zero => rfl
  | succ n ih =>
    simp only [mcn, ih]
    by_cases e : n = k
    · subst e
      rw [upd_same, if_pos rfl, if_neg h, if_neg (by omega), if_pos (by omega)]
    · rw [upd_other _ _ e]
      by_cases e2 : k < n
      · rw [if_pos e2, if_pos (show k < n + 1 by omega)]; omega
      · rw [if_neg e2, if_neg (show ¬ k < n + 1 by omega)]; omega
/-- what a pass over the blocks keeps: m0 at its beginning -/
def Pss (N : Nat) (yes no stepCount kind target : Nat → Int32) (m0 : Nat → Int32) (more : Bool) (m : Nat → Int32) : Prop :=
  (∀ i, i < 72 → m i = -1 ∨ m i = 0) ∧ (∀ b, b < N → ∀ v, v < 6 → m (b * 6 + v) = 0 → MT N yes no stepCount kind target b v) ∧ (more = false → ∀ i, i < 72 → m i = m0 i) ∧ (more = true → mcn m0 72 < mcn m 72)
section FM
variable {N : Nat} {stepCount kind target first second forkVariable yes no starts mMany mKinds mVs mWs mXs mEnds mEndVariable mYes mNo mStarts : Nat → Int32}
/-- pairs gone through in the pass are closed, if nothing was marked -/
def Cls (N : Nat) (yes no stepCount kind target m0 : Nat → Int32) (b c v : Nat) : Prop := DF (gsc N yes no) b c → (setsIn stepCount kind target b v ∨ m0 (b * 6 + v) = 0) → m0 (c * 6 + v) = 0
theorem fm_in (hN0 : 0 < N) (hN : N ≤ 12) (hP : PR N stepCount kind target first second forkVariable yes no starts mMany mKinds mVs mWs mXs mEnds mEndVariable mYes mNo mStarts) {m0 : Nat → Int32} {b c : Nat} (hb : b < N) (hc : c < N) {r : Bool} (hr : r = true ↔ DF (gsc N yes no) b c) {more0 : Bool} {K : Bool → Int32 → (Nat → Int32) → Prop} (hK : ∀ more m, Pss N yes no stepCount kind target m0 more m → (more = false → more0 = false ∧ ∀ v, v < 6 → Cls N yes no stepCount kind target m0 b c v) → ∀ x, K more x m) :
    ∀ (d i : Nat) (more : Bool) (m : Nat → Int32), i + d = 6 → Pss N yes no stepCount kind target m0 more m → (more = false → more0 = false ∧ ∀ v, v < i → Cls N yes no stepCount kind target m0 b c v) → lpMd_findMeetings_60 (nI b) (nI c) r mMany mKinds mVs K (d + 1) more (nI i) m := by
  intro d
  induction d with
  | zero =>
    intro i more m hi h h2
    have : i = 6 := by omega
    subst this
    exact ⟨fun _ => hK more m h h2 _, fun q => absurd (Int32.le_refl _) q⟩
  | succ d ih =>
    intro i more m hi h h2
    refine ⟨fun q => ?_, fun _ => ⟨fun q => hK more m h (fun w => ⟨(h2 w).1, fun v hv z => ?_⟩) _, fun q => ?_⟩⟩
    · rw [jt6, jI_le (by omega) (by omega)] at q; omega
    · rw [hr.mpr z] at q; cases q
    · have hd := hr.mp q
      rw [jt6, jI_mul, jI_mul, jI_add, jI_add, jI_in (by omega), jI_nat (by omega), jI_in (by omega), jI_nat (by omega), jI_one, show 6 * c + i = c * 6 + i by omega, show 6 * b + i = b * 6 + i by omega]
      have skip : (more = false → Cls N yes no stepCount kind target m0 b c i) → lpMd_findMeetings_60 (nI b) (nI c) r mMany mKinds mVs K (d + 1) more (nI (i + 1)) m := by
        intro hs
        refine ih (i + 1) more m (by omega) h fun w => ⟨(h2 w).1, fun v hv => ?_⟩
        by_cases e : v = i
        · subst e; exact hs w
        · exact (h2 w).2 v (by omega)
      refine ⟨by omega, fun q2 => skip fun w _ _ => ?_, fun q2 => mdSets_sp hN hP hb (by omega) fun z hz => ⟨setsIn stepCount kind target b i ∨ m (b * 6 + i) = 0, fun g => ⟨by omega, ?_⟩, fun w => Or.inl (hz.mp w), fun w => ⟨by omega, fun q3 => skip fun w2 _ w3 => ?_, fun q3 => Or.inr ?_⟩⟩⟩
      · rw [← h.2.2.1 w _ (by omega)]
        rcases h.1 (c * 6 + i) (by omega) with z | z
        · rw [z] at q2; exact absurd q2 (by decide)
        · exact z
      · have hne : ¬ m (c * 6 + i) = 0 := fun z => by rw [z] at q2; exact q2 (by decide)
        refine ih (i + 1) true _ (by omega) ⟨fun j hj => ?_, fun b' hb' v' hv' w => ?_, fun w => by (cases w), fun _ => ?_⟩ (fun w => by (cases w))
        · by_cases e : j = c * 6 + i
          · subst e; rw [upd_same]; exact Or.inr rfl
          · rw [upd_other _ _ e]; exact h.1 j hj
        · by_cases e : b' * 6 + v' = c * 6 + i
          · have e1 : b' = c := by omega
            have e2 : v' = i := by omega
            subst e1 e2
            refine Mt.step hd (g.imp id fun z => h.2.1 b hb v' (by omega) z)
          · rw [upd_other _ _ e] at w; exact h.2.1 b' hb' v' hv' w
        · rw [mcn_upd hne, if_pos (by omega)]
          cases more with
          | true => have := h.2.2.2 rfl; omega
          | false =>
            have e : ∀ n, n ≤ 72 → mcn m n = mcn m0 n := by
              intro n
              induction n with
              | zero => intro _; rfl
              | succ n ih => intro hn; simp only [mcn]; rw [ih (by omega), h.2.2.1 rfl n (by omega)]
            rw [e 72 (by omega)]; omega
      · rcases w3 with w3 | w3
        · rw [hz.mpr w3] at w; cases w
        · rw [← h.2.2.1 w2 _ (by omega)] at w3
          rw [w3] at q3; exact absurd q3 (by decide)
      · rcases h.1 (b * 6 + i) (by omega) with z | z
        · exact absurd (by rw [z]; decide) q3
        · exact z
theorem fm_pass (hN0 : 0 < N) (hN : N ≤ 12) (hP : PR N stepCount kind target first second forkVariable yes no starts mMany mKinds mVs mWs mXs mEnds mEndVariable mYes mNo mStarts) {R : Int32} (hR : ∀ c, bt R c = true ↔ Rch (gsc N yes no) okT c) {D : Nat → Int32} (hD : ∀ c, c < N → ∀ x, bt (D c) x = true ↔ Dm (gsc N yes no) x c) {m0 : Nat → Int32} {K : Bool → Int32 → (Nat → Int32) → Prop} (hK : ∀ more m, Pss N yes no stepCount kind target m0 more m → (more = false → ∀ b, b < N → ∀ c, c < N → ∀ v, v < 6 → Cls N yes no stepCount kind target m0 b c v) → ∀ x, K more x m) :
    ∀ (d i : Nat) (more : Bool) (m : Nat → Int32), i + d = N → Pss N yes no stepCount kind target m0 more m → (more = false → ∀ b, b < i → ∀ c, c < N → ∀ v, v < 6 → Cls N yes no stepCount kind target m0 b c v) → lpMd_findMeetings_31 N R mMany mKinds mVs mEnds mYes mNo D K (d + 1) more (nI i) m := by
  intro d
  induction d with
  | zero =>
    intro i more m hi h h2
    have : i = N := by omega
    subst this
    exact ⟨fun _ => hK more m h h2 _, fun q => absurd (Int32.le_refl _) q⟩
  | succ d ih =>
    intro i more m hi h h2
    refine ⟨fun q => ?_, fun _ => ⟨N + 1, ?_⟩⟩
    · rw [jI_le (by omega) (by omega)] at q; omega
    · rw [jI_one]
      have hin : ∀ (d' j : Nat) (more : Bool) (m : Nat → Int32), j + d' = N → Pss N yes no stepCount kind target m0 more m → (more = false → (∀ b, b < i → ∀ c, c < N → ∀ v, v < 6 → Cls N yes no stepCount kind target m0 b c v) ∧ ∀ c, c < j → ∀ v, v < 6 → Cls N yes no stepCount kind target m0 i c v) → lpMd_findMeetings_41 N (nI i) R mMany mKinds mVs mEnds mYes mNo D (fun (v1_x139 : Bool) (v3_x139 : Int32) (mMeets_x139 : Nat → Int32) => (lpMd_findMeetings_31 N R mMany mKinds mVs mEnds mYes mNo D K (d + 1) v1_x139 (nI (i + 1)) mMeets_x139)) (d' + 1) more (nI j) m := by
        intro d'
        induction d' with
        | zero =>
          intro j more m hj h h2
          have : j = N := by omega
          subst this
          refine ⟨fun _ => ih (i + 1) more m (by omega) h fun w b hb c hc v hv => ?_, fun q => absurd (Int32.le_refl _) q⟩
          by_cases e : b = i
          · subst e; exact (h2 w).2 c hc v hv
          · exact (h2 w).1 b (by omega) c hc v hv
        | succ d' ih' =>
          intro j more m hj h h2
          refine ⟨fun q => ?_, fun _ => ?_⟩
          · rw [jI_le (by omega) (by omega)] at q; omega
          · rw [jI_one]
            refine md_frontier hN0 hN hP.endr hR hD (by omega) (by omega) fun z hz => ⟨6 + 1, ?_⟩
            refine fm_in hN0 hN hP (b := i) (c := j) (by omega) (by omega) hz (m0 := m0) (more0 := more) (fun more' m' h' h2' x => ih' (j + 1) more' m' (by omega) h' fun w => ⟨(h2 (h2' w).1).1, fun c hc v hv => ?_⟩) 6 0 more m (by omega) h (fun w => ⟨w, fun v hv => by omega⟩)
            by_cases e : c = j
            · subst e; exact (h2' w).2 v hv
            · exact (h2 (h2' w).1).2 c (by omega) v hv
      exact hin N 0 more m (by omega) h fun w => ⟨h2 w, fun c hc => by omega⟩
theorem findMeetings_sp (hN0 : 0 < N) (hN : N ≤ 12) (hP : PR N stepCount kind target first second forkVariable yes no starts mMany mKinds mVs mWs mXs mEnds mEndVariable mYes mNo mStarts) {R : Int32} (hR : ∀ c, bt R c = true ↔ Rch (gsc N yes no) okT c) {D : Nat → Int32} (hD : ∀ c, c < N → ∀ x, bt (D c) x = true ↔ Dm (gsc N yes no) x c) {mm : Nat → Int32} {post : (Nat → Int32) → Prop} (hp : ∀ m, MkIs N yes no stepCount kind target m → post m) : wpMd_findMeetings N R mMany mKinds mVs mEnds mYes mNo D mm post := by
  have l1 : ∀ (K : Int32 → (Nat → Int32) → Prop), (∀ m : Nat → Int32, (∀ i, i < 72 → m i = -1) → ∀ x, K x m) → ∀ (d i : Nat) (m : Nat → Int32), i + d = 72 → (∀ j, j < i → m j = -1) → lpMd_findMeetings_2 K (d + 1) (nI i) m := by
    intro K hK d
    induction d with
    | zero =>
      intro i m hi h
      have : i = 72 := by omega
      subst this
      exact ⟨fun _ => hK m h _, fun q => absurd (Int32.le_refl _) q⟩
    | succ d ih =>
      intro i m hi h
      refine ⟨fun q => ?_, fun _ => ?_⟩
      · rw [show (72 : Int32) = nI 72 from rfl, jI_le (by omega) (by omega)] at q; omega
      · rw [jI_in (by omega), jI_one, jI_nat (by omega)]
        refine ⟨by omega, ih (i + 1) _ (by omega) fun c hc => ?_⟩
        by_cases e : c = i
        · subst e; rw [upd_same]
        · rw [upd_other _ _ e]; exact h c (by omega)
  have fin : ∀ m : Nat → Int32, (∀ i, i < 72 → m i = -1 ∨ m i = 0) → (∀ b, b < N → ∀ v, v < 6 → m (b * 6 + v) = 0 → MT N yes no stepCount kind target b v) → (∀ b, b < N → ∀ c, c < N → ∀ v, v < 6 → Cls N yes no stepCount kind target m b c v) → post m := by
    intro m h1 h2 cl
    refine hp m fun b hb v hv => ⟨fun w => ?_, fun w => ?_⟩
    · obtain ⟨n, hn⟩ := w
      clear hb
      have key : ∀ n b, MtN (gsc N yes no) (setsIn stepCount kind target · v) n b → m (b * 6 + v) = 0 := by
        intro n
        induction n with
        | zero => intro b h; exact h.elim
        | succ n ihn =>
          rintro b ⟨c, w1, w2⟩
          have hcN : c < N := by
            obtain ⟨⟨p, g1, g2⟩, -⟩ := w1
            exact (g1.lt hN0).1
          have hbN : b < N := by
            obtain ⟨⟨p, g1, g2⟩, -⟩ := w1
            exact g2.2.1
          exact cl c hcN b hbN v hv w1 (w2.imp id (ihn c))
      exact key n b hn
    · rcases h1 (b * 6 + v) (by omega) with z | z
      · exact z
      · exact absurd (h2 b hb v hv z) w
  have l2 : ∀ (f : Nat) (m : Nat → Int32), 72 - mcn m 72 < f → (∀ i, i < 72 → m i = -1 ∨ m i = 0) → (∀ b, b < N → ∀ v, v < 6 → m (b * 6 + v) = 0 → MT N yes no stepCount kind target b v) → lpMd_findMeetings_23 N R mMany mKinds mVs mEnds mYes mNo D post (f + 1) true m := by
    intro f
    induction f with
    | zero => intro m h; omega
    | succ f ih =>
      intro m hf h1 h2
      refine ⟨fun q => by (cases q), fun q => ⟨N + 1, ?_⟩⟩
      refine fm_pass hN0 hN hP hR hD (m0 := m) (fun more' m' h' h2' x => ?_) N 0 false m (by omega) ⟨h1, h2, fun _ _ _ => rfl, fun w => by (cases w)⟩ (fun _ b hb => by omega)
      have hml := mcn_le m' 72
      cases more' with
      | true =>
        have := h'.2.2.2 rfl
        exact ih m' (by omega) h'.1 h'.2.1
      | false =>
        refine ⟨fun _ => fin m' h'.1 h'.2.1 fun b hb c hc v hv => ?_, fun w => by (cases w)⟩
        have e := h'.2.2.1 rfl
        have := h2' rfl b hb c hc v hv
        unfold Cls at this ⊢
        rw [e _ (by omega), e _ (by omega)]
        exact this
  exact ⟨72 + 1, l1 _ (fun m hm x => ⟨_, l2 74 m (by omega) (fun i hi => Or.inl (hm i hi)) (fun b hb v hv w => by rw [hm _ (by omega)] at w; exact absurd w (by decide))⟩) 72 0 mm (by omega) (fun j hj => by omega)⟩
end FM
