/-! reaching and dominating -/
def RchN (sc : Nat → Nat → Prop) (ok : Nat → Prop) : Nat → Nat → Prop
  | 0 => fun c => c = 0 ∧ ok 0
  | n + 1 => fun c => ∃ b, RchN sc ok n b ∧ sc b c ∧ ok c
def Rch (sc : Nat → Nat → Prop) (ok : Nat → Prop) (c : Nat) : Prop := ∃ n, RchN sc ok n c
theorem Rch.zero {sc : Nat → Nat → Prop} {ok : Nat → Prop} (h : ok 0) : Rch sc ok 0 := ⟨0, rfl, h⟩
theorem Rch.step {sc : Nat → Nat → Prop} {ok : Nat → Prop} {b c : Nat} (h : Rch sc ok b) (s : sc b c) (o : ok c) : Rch sc ok c := by
  obtain ⟨n, hn⟩ := h
  exact ⟨n + 1, b, hn, s, o⟩
theorem Rch.ind {sc : Nat → Nat → Prop} {ok : Nat → Prop} {motive : ∀ c, Rch sc ok c → Prop} (zero : ∀ h : ok 0, motive 0 (Rch.zero h)) (step : ∀ {b c : Nat} (h1 : Rch sc ok b) (h2 : sc b c) (h3 : ok c), motive b h1 → motive c (Rch.step h1 h2 h3)) {c : Nat} (h : Rch sc ok c) : motive c h := by
  obtain ⟨n, hn⟩ := h
  induction n generalizing c with
  | zero =>
    obtain ⟨h1, h2⟩ := hn
    subst h1
    exact zero h2
  | succ n ih =>
    obtain ⟨b, h1, h2, h3⟩ := hn
    exact step ⟨n, h1⟩ h2 h3 (ih h1)
def okT : Nat → Prop := fun _ => True
def okN (a : Nat) : Nat → Prop := fun x => x ≠ a
def Dm (sc : Nat → Nat → Prop) (b c : Nat) : Prop := Rch sc okT c ∧ ¬ Rch sc (okN b) c
section GRT
variable {sc : Nat → Nat → Prop}
theorem Rch.ok {ok : Nat → Prop} {c : Nat} (h : Rch sc ok c) : ok c := by
  induction h using Rch.ind with
  | zero h => exact h
  | step _ _ h _ => exact h
theorem Rch.mono {ok ok' : Nat → Prop} (hm : ∀ z, ok z → ok' z) {c : Nat} (h : Rch sc ok c) : Rch sc ok' c := by
  induction h using Rch.ind with
  | zero h => exact .zero (hm _ h)
  | step _ h2 h3 ih => exact .step ih h2 (hm _ h3)
theorem Rch.top {ok : Nat → Prop} {c : Nat} (h : Rch sc ok c) : Rch sc okT c := by
  induction h using Rch.ind with
  | zero _ => exact .zero trivial
  | step _ h2 _ ih => exact .step ih h2 trivial
theorem Rch.lt {N : Nat} (hN : 0 < N) (hsc : ∀ b c, sc b c → c < N) {ok : Nat → Prop} {c : Nat} (h : Rch sc ok c) : c < N := by
  induction h using Rch.ind with
  | zero _ => exact hN
  | step _ h2 _ _ => exact hsc _ _ h2
/-- a way to c shuns b, or it comes to b -/
theorem Rch.cut {ok : Nat → Prop} (b : Nat) {c : Nat} (h : Rch sc ok c) : Rch sc (okN b) c ∨ Rch sc ok b := by
  induction h using Rch.ind with
  | zero h =>
    by_cases e : 0 = b
    · subst e; exact Or.inr (.zero h)
    · exact Or.inl (.zero e)
  | @step x c h1 h2 h3 ih =>
    rcases ih with ih | ih
    · by_cases e : c = b
      · subst e; exact Or.inr (.step h1 h2 h3)
      · exact Or.inl (.step ih h2 e)
    · exact Or.inr ih
theorem Dm.re {b c : Nat} (h : Dm sc b c) : Rch sc okT c := h.1
theorem Dm.re1 {b c : Nat} (h : Dm sc b c) : Rch sc okT b := (h.1.cut b).resolve_left h.2
theorem Dm.refl {c : Nat} (h : Rch sc okT c) : Dm sc c c := ⟨h, fun q => q.ok rfl⟩
theorem Dm.trans {a b c : Nat} (h1 : Dm sc a b) (h2 : Dm sc b c) : Dm sc a c := ⟨h2.1, fun q => (q.cut b).elim h2.2 h1.2⟩
theorem Dm.anti {b c : Nat} (h1 : Dm sc b c) (h2 : Dm sc c b) : b = c := by
  refine Classical.byContradiction fun hne => ?_
  have key : ∀ x, Rch sc okT x → Rch sc (okN b) c ∨ Rch sc (okN c) b ∨ Rch sc (fun z => z ≠ b ∧ z ≠ c) x := by
    intro x hx
    induction hx using Rch.ind with
    | zero _ =>
      by_cases e1 : 0 = b
      · subst e1; exact Or.inr (Or.inl (.zero hne))
      · by_cases e2 : 0 = c
        · subst e2; exact Or.inl (.zero e1)
        · exact Or.inr (Or.inr (.zero ⟨e1, e2⟩))
    | @step x y _ s _ ih =>
      rcases ih with ih | ih | ih
      · exact Or.inl ih
      · exact Or.inr (Or.inl ih)
      · have hb : Rch sc (okN b) x := ih.mono fun z h => h.1
        have hc : Rch sc (okN c) x := ih.mono fun z h => h.2
        by_cases e1 : y = b
        · subst e1; exact Or.inr (Or.inl (.step hc s hne))
        · by_cases e2 : y = c
          · subst e2; exact Or.inl (.step hb s e1)
          · exact Or.inr (Or.inr (.step ih s ⟨e1, e2⟩))
  rcases key c h1.1 with h | h | h
  · exact h1.2 h
  · exact h2.2 h
  · exact h.ok.2 rfl
theorem Dm.chain {b b' c : Nat} (h1 : Dm sc b c) (h2 : Dm sc b' c) : Dm sc b b' ∨ Dm sc b' b := by
  by_cases hne : b = b'
  · subst hne; exact Or.inl (Dm.refl h1.re1)
  refine Classical.byContradiction fun hn => ?_
  have n1 : Rch sc (okN b) b' := Classical.byContradiction fun q => hn (Or.inl ⟨h2.re1, q⟩)
  have n2 : Rch sc (okN b') b := Classical.byContradiction fun q => hn (Or.inr ⟨h1.re1, q⟩)
  have key : ∀ x, Rch sc okT x → Rch sc (okN b) x ∨ Rch sc (okN b') x := by
    intro x hx
    induction hx using Rch.ind with
    | zero _ =>
      by_cases e : 0 = b
      · subst e; exact Or.inr (.zero hne)
      · exact Or.inl (.zero e)
    | @step x y _ s _ ih =>
      rcases ih with ih | ih
      · by_cases e : y = b
        · subst e; exact Or.inr n2
        · exact Or.inl (.step ih s e)
      · by_cases e : y = b'
        · subst e; exact Or.inl n1
        · exact Or.inr (.step ih s e)
  exact (key c h1.1).elim h1.2 h2.2
theorem Dm.zero {c : Nat} (h : Rch sc okT c) : Dm sc 0 c := ⟨h, fun q => by
  have : ∀ x, ¬ Rch sc (okN 0) x := by
    intro x hx
    induction hx using Rch.ind with
    | zero h => exact h rfl
    | step _ _ _ ih => exact ih
  exact this c q⟩
theorem Dm.out {b : Nat} (h : ¬ Rch sc okT b) (c : Nat) : ¬ Dm sc b c := fun q => h q.re1
end GRT
/-- p is the nearest that strictly dominates c -/
def IsPar (sc : Nat → Nat → Prop) (c p : Nat) : Prop := p ≠ c ∧ Dm sc p c ∧ ∀ b, b ≠ c → Dm sc b c → Dm sc b p
theorem IsPar.uniq {sc : Nat → Nat → Prop} {c p q : Nat} (h1 : IsPar sc c p) (h2 : IsPar sc c q) : p = q := (h2.2.2 p h1.1 h1.2.1).anti (h1.2.2 q h2.1 h2.2.1)
/-! the reached blocks, in the class and in the reference -/
/-- the ends of a program: none, or two blocks -/
def GE (N : Nat) (yes no : Nat → Int32) : Prop := ∀ b, b < N → (yes b = -1 ∧ no b = -1) ∨ ∃ y z, y < N ∧ z < N ∧ yes b = nI y ∧ no b = nI z
def gsc (N : Nat) (yes no : Nat → Int32) (b c : Nat) : Prop := b < N ∧ c < N ∧ (yes b = nI c ∨ no b = nI c)
theorem gsc_lt {N : Nat} {yes no : Nat → Int32} : ∀ b c, gsc N yes no b c → c < N := fun _ _ h => h.2.1
def cnt (x : Int32) : Nat → Nat
  | 0 => 0
  | n + 1 => cnt x n + (if bt x n = true then 1 else 0)
theorem cnt_le (x : Int32) (n : Nat) : cnt x n ≤ n := by
  induction n with
  | zero => exact Nat.le_refl _
  | succ n ih => simp only [cnt]; split <;> omega
theorem cnt_mono {x y : Int32} (h : ∀ c, bt x c = true → bt y c = true) (n : Nat) : cnt x n ≤ cnt y n := by
  induction n with
  | zero => exact Nat.le_refl _
  | succ n ih =>
    simp only [cnt]
    by_cases h1 : bt x n = true
    · simp only [h1, h n h1, if_true]; omega
    · rw [if_neg h1]; omega
theorem cnt_lt {x y : Int32} (h : ∀ c, bt x c = true → bt y c = true) {n c : Nat} (hc : c < n) (h1 : ¬ bt x c = true) (h2 : bt y c = true) : cnt x n < cnt y n := by
  induction n with
  | zero => omega
  | succ n ih =>
    simp only [cnt]
    by_cases e : c = n
    · subst e
      have := cnt_mono h c
      simp only [h1, h2, if_true]
      simp
      omega
    · have := ih (by omega)
      by_cases h3 : bt x n = true
      · simp only [h3, h n h3, if_true]; omega
      · rw [if_neg h3]; omega
theorem cnt_pos {x : Int32} {n c : Nat} (hc : c < n) (h : bt x c = true) : 0 < cnt x n := by
  induction n with
  | zero => omega
  | succ n ih =>
    simp only [cnt]
    by_cases e : c = n
    · subst e; simp [h]
    · have := ih (by omega); omega
/-- what a round over the blocks does to the set -/
def RI (N : Nat) (sc : Nat → Nat → Prop) (ok : Nat → Prop) (S S' : Int32) : Prop := (∀ c, bt S' c = true → Rch sc ok c) ∧ (∀ c, bt S c = true → bt S' c = true) ∧ ∀ b, b < N → bt S b = true → ∀ c, sc b c → ok c → bt S' c = true
theorem jI_small {N a : Nat} (hN : N ≤ 12) (h : a < N) : a < 2147483648 := by omega
theorem followers_sp {N : Nat} {yes no : Nat → Int32} (hN : N ≤ 12) (hE : GE N yes no) {b : Nat} (hb : b < N) {post : Int32 → Prop} (h : ∀ x, (∀ c, bt x c = true ↔ gsc N yes no b c) → post x) : wpProgram_followers N yes no (nI b) post := by
  have hs : b < 2147483648 := by omega
  unfold wpProgram_followers
  rw [jI_in hs, jI_nat hs]
  refine ⟨hb, ?_, ?_⟩
  · intro hy
    refine ⟨hb, hb, h _ fun c => ?_⟩
    rcases hE b hb with q | ⟨y, z, hy2, hz, e1, e2⟩
    · exact absurd q.1 hy
    · rw [e1, e2]
      by_cases hc : c < 32
      · rw [b_or, b_one (by omega) hc, b_one (by omega) hc]
        unfold gsc
        rw [e1, e2]
        simp only [Bool.or_eq_true, decide_eq_true_eq]
        constructor
        · rintro (rfl | rfl)
          · exact ⟨hb, hy2, Or.inl rfl⟩
          · exact ⟨hb, hz, Or.inr rfl⟩
        · rintro ⟨-, hcN, q⟩
          rw [jI_eq (by omega) (by omega), jI_eq (by omega) (by omega)] at q
          omega
      · rw [b_big (by omega)]
        constructor
        · intro q; cases q
        · intro q; have := q.2.1; omega
  · intro hy
    refine h _ fun c => ?_
    rw [b_0]
    constructor
    · intro q; cases q
    · rintro ⟨-, hcN, q⟩
      rcases hE b hb with z | ⟨y, z, hy2, hz, e1, e2⟩
      · rw [z.1, z.2] at q
        rcases q with q | q <;> exact absurd q.symm (jI_m1 (by omega))
      · rw [e1] at hy; exact absurd hy (jI_m1 (by omega))
section RW
variable {N : Nat} {yes no : Nat → Int32} {ok : Nat → Prop} {mask : Int32}
theorem gr_in (hN : N ≤ 12) (hE : GE N yes no) (hm : ∀ c, c < 32 → (bt mask c = true ↔ ok c)) {S0 : Int32} {K : Int32 → Int32 → Prop} (hK : ∀ S', RI N (gsc N yes no) ok S0 S' → K S' (nI N)) :
    ∀ (d i : Nat) (S : Int32), i + d = N → (∀ c, bt S c = true → Rch (gsc N yes no) ok c) → (∀ c, bt S0 c = true → bt S c = true) → (∀ b, b < i → bt S0 b = true → ∀ c, gsc N yes no b c → ok c → bt S c = true) → lpGraph_reachedWithout_39 N mask yes no K (d + 1) S (nI i) := by
  intro d
  induction d with
  | zero =>
    intro i S hi h1 h2 h3
    have : i = N := by omega
    subst this
    refine ⟨fun _ => hK S ⟨h1, h2, h3⟩, fun q => absurd (Int32.le_refl _) q⟩
  | succ d ih =>
    intro i S hi h1 h2 h3
    refine ⟨fun q => ?_, fun _ => ?_⟩
    · rw [jI_le (by omega) (by omega)] at q; omega
    · refine on_has (by omega) ⟨fun q => ?_, fun q => ?_⟩
      · rw [jI_one]
        refine ih (i + 1) S (by omega) h1 h2 fun b hb h4 => ?_
        by_cases e : b = i
        · subst e; rw [h2 b h4] at q; cases q
        · exact h3 b (by omega) h4
      · refine followers_sp hN hE (by omega) fun x hx v hv => ?_
        subst hv
        rw [jI_one]
        refine ih (i + 1) _ (by omega) (fun c hc => ?_) (fun c hc => ?_) fun b hb h4 c s o => ?_
        · rw [b_or, b_and] at hc
          by_cases hc32 : c < 32
          · simp only [Bool.or_eq_true, Bool.and_eq_true] at hc
            rcases hc with hc | ⟨hc, ho⟩
            · exact h1 c hc
            · exact .step (h1 i q) ((hx c).mp hc) ((hm c hc32).mp ho)
          · rw [b_big (by omega), b_big (by omega)] at hc; cases hc
        · rw [b_or, h2 c hc]; rfl
        · rw [b_or, b_and]
          by_cases e : b = i
          · subst e
            rw [(hx c).mpr s, (hm c (by have := s.2.1; omega)).mpr o]
            simp
          · rw [h3 b (by omega) h4 c s o]; rfl
theorem gr_done {S : Int32} (h1 : ∀ c, bt S c = true → Rch (gsc N yes no) ok c) (h0 : ok 0 → bt S 0 = true) (h2 : ∀ b, b < N → bt S b = true → ∀ c, gsc N yes no b c → ok c → bt S c = true) : ∀ c, bt S c = true ↔ Rch (gsc N yes no) ok c := by
  intro c
  refine ⟨h1 c, fun h => ?_⟩
  induction h using Rch.ind with
  | zero h => exact h0 h
  | step _ s o ih => exact h2 _ s.1 ih _ s o
theorem gr_none (h : ¬ ok 0) (c : Nat) : ¬ Rch (gsc N yes no) ok c := by
  intro q
  induction q using Rch.ind with
  | zero q => exact h q
  | step _ _ _ ih => exact ih
theorem gr_out (hN0 : 0 < N) (hN : N ≤ 12) (hE : GE N yes no) (hm : ∀ c, c < 32 → (bt mask c = true ↔ ok c)) {post : Int32 → Prop} (hp : ∀ S', (∀ c, bt S' c = true ↔ Rch (gsc N yes no) ok c) → post S') :
    ∀ (d i : Nat) (S : Int32), i + d = N → (∀ c, bt S c = true → Rch (gsc N yes no) ok c) → (ok 0 → bt S 0 = true) → (i + 1 ≤ cnt S N ∨ ¬ ok 0) → lpGraph_reachedWithout_23 N mask yes no post (d + 1) S (nI i) := by
  intro d
  induction d with
  | zero =>
    intro i S hi h1 h2 h3
    have : i = N := by omega
    subst this
    refine ⟨fun _ => ?_, fun q => absurd (Int32.le_refl _) q⟩
    rcases h3 with h3 | h3
    · have := cnt_le S i; omega
    · exact hp S fun c => ⟨h1 c, fun q => absurd q (gr_none h3 c)⟩
  | succ d ih =>
    intro i S hi h1 h2 h3
    refine ⟨fun q => ?_, fun _ => ⟨N + 1, ?_⟩⟩
    · rw [jI_le (by omega) (by omega)] at q; omega
    · refine gr_in hN hE hm (S0 := S) (fun S' hS' => ?_) N 0 S (by omega) h1 (fun _ h => h) (fun b hb => by omega)
      refine ⟨fun hne => ?_, fun he => ?_⟩
      · rw [jI_one]
        refine ih (i + 1) S' (by omega) hS'.1 (fun q => hS'.2.1 0 (h2 q)) ?_
        rcases h3 with h3 | h3
        · left
          have hex : ∃ c, c < N ∧ ¬ bt S c = true ∧ bt S' c = true := by
            refine Classical.byContradiction fun hn => hne ?_
            apply b_ext
            intro j _
            by_cases h4 : bt S' j = true
            · by_cases h5 : bt S j = true
              · rw [h4, h5]
              · exact absurd ⟨j, (hS'.1 j h4).lt hN0 gsc_lt, h5, h4⟩ hn
            · by_cases h5 : bt S j = true
              · exact absurd (hS'.2.1 j h5) h4
              · rw [Bool.eq_false_iff.mpr h4, Bool.eq_false_iff.mpr h5]
          obtain ⟨c, c1, c2, c3⟩ := hex
          have := cnt_lt hS'.2.1 c1 c2 c3
          omega
        · exact Or.inr h3
      · rw [he] at hS' ⊢
        exact hp S (gr_done h1 h2 hS'.2.2)
theorem gr_without (hN0 : 0 < N) (hN : N ≤ 12) (hE : GE N yes no) {v : Int32} (hv : (v = -1 ∧ ok = okT) ∨ ∃ a, a < N ∧ v = nI a ∧ ok = okN a) {post : Int32 → Prop} (hp : ∀ S', (∀ c, bt S' c = true ↔ Rch (gsc N yes no) ok c) → post S') : wpGraph_reachedWithout N yes no v post := by
  refine ⟨fun t => ∀ c, c < 32 → (bt t c = true ↔ ok c), fun t ht v4 hv4 => ⟨N + 1, ?_⟩, fun h => ?_, fun h => ?_⟩
  · subst hv4
    have h0 : ∀ c, bt (1 &&& t) c = true ↔ c = 0 ∧ ok 0 := by
      intro c
      rw [b_and]
      by_cases hc : c < 32
      · rw [b_1 c hc]
        by_cases e : c = 0
        · subst e
          rw [Bool.and_eq_true, ht 0 (by omega)]
          simp
        · simp [e]
      · rw [b_big (by omega), b_big (by omega)]
        constructor
        · intro q; cases q
        · intro q; omega
    refine gr_out hN0 hN hE ht hp N 0 _ (by omega) (fun c hc => ?_) (fun h => (h0 0).mpr ⟨rfl, h⟩) ?_
    · obtain ⟨rfl, h⟩ := (h0 c).mp hc
      exact .zero h
    · by_cases h : ok 0
      · exact Or.inl (cnt_pos (c := 0) hN0 ((h0 0).mpr ⟨rfl, h⟩))
      · exact Or.inr h
  · rcases hv with ⟨h1, h2⟩ | ⟨a, ha, rfl, rfl⟩
    · exact absurd h1 h
    · intro c hc
      rw [b_not hc, b_one (by omega) hc]
      simp [okN]
  · rcases hv with ⟨h1, rfl⟩ | ⟨a, ha, rfl, rfl⟩
    · intro c hc
      rw [b_m1 c hc]
      simp [okT]
    · exact absurd h (jI_m1 (by omega))
end RW
/-! the reference's reached blocks and dominators -/
def EndR (N : Nat) (mEnds mYes mNo yes no : Nat → Int32) : Prop := ∀ b, b < N → (mEnds b = 0 ∧ yes b = -1 ∧ no b = -1) ∨ (¬ mEnds b = 0 ∧ mYes b = yes b ∧ mNo b = no b ∧ ∃ y z, y < N ∧ z < N ∧ yes b = nI y ∧ no b = nI z)
theorem EndR.ge {N : Nat} {mEnds mYes mNo yes no : Nat → Int32} (h : EndR N mEnds mYes mNo yes no) : GE N yes no := fun b hb => by
  rcases h b hb with ⟨-, h1, h2⟩ | ⟨-, -, -, h⟩
  · exact Or.inl ⟨h1, h2⟩
  · exact Or.inr h
def okV (v : Int32) (ok : Nat → Prop) : Prop := ∀ c, c < 12 → (nI c = v ↔ ¬ ok c)
section RM
variable {N : Nat} {mEnds mYes mNo yes no : Nat → Int32} {ok : Nat → Prop} {v : Int32}
theorem md_in (hN : N ≤ 12) (hR : EndR N mEnds mYes mNo yes no) (hm : okV v ok) {S0 : Int32} {K : Int32 → Int32 → Prop} (hK : ∀ S', RI N (gsc N yes no) ok S0 S' → K S' (nI N)) :
    ∀ (d i : Nat) (S : Int32), i + d = N → (∀ c, bt S c = true → Rch (gsc N yes no) ok c) → (∀ c, bt S0 c = true → bt S c = true) → (∀ b, b < i → bt S0 b = true → ∀ c, gsc N yes no b c → ok c → bt S c = true) → lpMd_reachedWithout_23 N v mEnds mYes mNo K (d + 1) S (nI i) := by
  intro d
  induction d with
  | zero =>
    intro i S hi h1 h2 h3
    have : i = N := by omega
    subst this
    refine ⟨fun _ => hK S ⟨h1, h2, h3⟩, fun q => absurd (Int32.le_refl _) q⟩
  | succ d ih =>
    intro i S hi h1 h2 h3
    have hi12 : i < 12 := by omega
    have hiN : i < N := by omega
    have hs : i < 2147483648 := by omega
    refine ⟨fun q => ?_, fun _ => ?_⟩
    · rw [jI_le (by omega) (by omega)] at q; omega
    · rw [jI_one]
      refine md_has (by omega) ⟨fun q => ?_, fun q => ?_⟩
      · refine ih (i + 1) S (by omega) h1 h2 fun b hb h4 => ?_
        by_cases e : b = i
        · subst e; rw [h2 b h4] at q; cases q
        · exact h3 b (by omega) h4
      · rw [jI_in hs, jI_nat hs]
        refine ⟨hi12, fun h0 => ?_, fun h0 => ⟨hi12, ?_⟩⟩
        · refine ih (i + 1) S (by omega) h1 h2 fun b hb h4 c s o => ?_
          by_cases e : b = i
          · subst e
            rcases hR b hiN with ⟨-, e1, e2⟩ | ⟨e1, -⟩
            · have s3 := s.2.2
              have hcN := s.2.1
              rw [e1, e2] at s3
              rcases s3 with q | q <;> exact absurd q.symm (jI_m1 (by omega))
            · exact absurd h0 e1
          · exact h3 b (by omega) h4 c s o
        · rcases hR i hiN with ⟨e1, -⟩ | ⟨-, e1, e2, y, z, hy, hz, e3, e4⟩
          · exact absurd e1 h0
          rw [e1, e2, e3, e4]
          have sy : gsc N yes no i y := ⟨hiN, hy, Or.inl e3⟩
          have sz : gsc N yes no i z := ⟨hiN, hz, Or.inr e4⟩
          have hss : ∀ c, gsc N yes no i c → c = y ∨ c = z := by
            rintro c ⟨-, hc, q⟩
            rw [e3, e4, jI_eq (by omega) (by omega), jI_eq (by omega) (by omega)] at q
            omega
          have one : ∀ (T : Int32) (x : Nat), x < 12 → ∀ c, bt (T ||| ((1 : Int32) <<< (nI x &&& 31))) c = true ↔ bt T c = true ∨ c = x := by
            intro T x hx c
            rw [b_or, Bool.or_eq_true]
            by_cases hc : c < 32
            · rw [b_one (by omega) hc]; simp
            · rw [b_big (by omega), b_big (by omega)]
              constructor
              · intro q; rcases q with q | q <;> cases q
              · intro q; rcases q with q | q
                · cases q
                · omega
          refine ⟨fun t => (∀ c, bt t c = true ↔ bt S c = true ∨ (c = y ∧ ok y)), fun t ht => ⟨hi12, fun hne => ⟨hi12, fun w hw => ?_⟩, fun he => ?_⟩, fun hne => ⟨hi12, fun c => ?_⟩, fun he c => ?_⟩
          · subst hw
            have okz : ok z := Classical.byContradiction fun q => hne ((hm z (by omega)).mpr q)
            refine ih (i + 1) _ (by omega) (fun c hc => ?_) (fun c hc => ?_) fun b hb h4 c s o => ?_
            · rw [one t z (by omega), ht] at hc
              rcases hc with (hc | ⟨rfl, hc⟩) | rfl
              · exact h1 c hc
              · exact .step (h1 i q) sy hc
              · exact .step (h1 i q) sz okz
            · rw [one t z (by omega), ht]; exact Or.inl (Or.inl (h2 c hc))
            · rw [one t z (by omega), ht]
              by_cases e : b = i
              · subst e
                rcases hss c s with rfl | rfl
                · exact Or.inl (Or.inr ⟨rfl, o⟩)
                · exact Or.inr rfl
              · exact Or.inl (Or.inl (h3 b (by omega) h4 c s o))
          · have okz : ¬ ok z := (hm z (by omega)).mp he
            refine ih (i + 1) _ (by omega) (fun c hc => ?_) (fun c hc => ?_) fun b hb h4 c s o => ?_
            · rw [ht] at hc
              rcases hc with hc | ⟨rfl, hc⟩
              · exact h1 c hc
              · exact .step (h1 i q) sy hc
            · rw [ht]; exact Or.inl (h2 c hc)
            · rw [ht]
              by_cases e : b = i
              · subst e
                rcases hss c s with rfl | rfl
                · exact Or.inr ⟨rfl, o⟩
                · exact absurd o okz
              · exact Or.inl (h3 b (by omega) h4 c s o)
          · have oky : ok y := Classical.byContradiction fun q => hne ((hm y (by omega)).mpr q)
            rw [one S y (by omega)]
            constructor
            · rintro (h | h)
              · exact Or.inl h
              · exact Or.inr ⟨h, oky⟩
            · rintro (h | h)
              · exact Or.inl h
              · exact Or.inr h.1
          · have oky : ¬ ok y := (hm y (by omega)).mp he
            exact ⟨Or.inl, fun h => h.elim id fun h => absurd h.2 oky⟩
theorem md_out (hN0 : 0 < N) (hN : N ≤ 12) (hR : EndR N mEnds mYes mNo yes no) (hm : okV v ok) {post : Int32 → Prop} (hp : ∀ S', (∀ c, bt S' c = true ↔ Rch (gsc N yes no) ok c) → post S') :
    ∀ (d i : Nat) (S : Int32), i + d = N → (∀ c, bt S c = true → Rch (gsc N yes no) ok c) → (ok 0 → bt S 0 = true) → (i + 1 ≤ cnt S N ∨ ∀ c, bt S c = true ↔ Rch (gsc N yes no) ok c) → lpMd_reachedWithout_12 N v mEnds mYes mNo post (d + 1) S (nI i) := by
  intro d
  induction d with
  | zero =>
    intro i S hi h1 h2 h3
    have : i = N := by omega
    subst this
    refine ⟨fun _ => ?_, fun q => absurd (Int32.le_refl _) q⟩
    rcases h3 with h3 | h3
    · have := cnt_le S i; omega
    · exact hp S h3
  | succ d ih =>
    intro i S hi h1 h2 h3
    refine ⟨fun q => ?_, fun _ => ⟨N + 1, ?_⟩⟩
    · rw [jI_le (by omega) (by omega)] at q; omega
    · refine md_in hN hR hm (S0 := S) (fun S' hS' => ?_) N 0 S (by omega) h1 (fun _ h => h) (fun b hb => by omega)
      rw [jI_one]
      refine ih (i + 1) S' (by omega) hS'.1 (fun q => hS'.2.1 0 (h2 q)) ?_
      rcases h3 with h3 | h3
      · by_cases hex : ∃ c, c < N ∧ ¬ bt S c = true ∧ bt S' c = true
        · left
          obtain ⟨c, c1, c2, c3⟩ := hex
          have := cnt_lt hS'.2.1 c1 c2 c3
          omega
        · right
          have hsub : ∀ c, bt S' c = true → bt S c = true := fun c hc => Classical.byContradiction fun q => hex ⟨c, (hS'.1 c hc).lt hN0 gsc_lt, q, hc⟩
          have := gr_done h1 h2 fun b hb h4 c s o => hsub c (hS'.2.2 b hb h4 c s o)
          exact fun c => ⟨hS'.1 c, fun h => hS'.2.1 c ((this c).mpr h)⟩
      · right
        exact fun c => ⟨hS'.1 c, fun h => hS'.2.1 c ((h3 c).mpr h)⟩
theorem md_without (hN0 : 0 < N) (hN : N ≤ 12) (hR : EndR N mEnds mYes mNo yes no) (hv : (v = -1 ∧ ok = okT) ∨ ∃ a, a < N ∧ v = nI a ∧ ok = okN a) {post : Int32 → Prop} (hp : ∀ S', (∀ c, bt S' c = true ↔ Rch (gsc N yes no) ok c) → post S') : wpMd_reachedWithout N mEnds mYes mNo v post := by
  have hm : okV v ok := by
    intro c hc
    rcases hv with ⟨rfl, rfl⟩ | ⟨a, ha, rfl, rfl⟩
    · exact ⟨fun q => absurd q (jI_m1 (by omega)), fun q => absurd trivial q⟩
    · rw [jI_eq (by omega) (by omega)]
      simp [okN]
  have h0 : v = 0 ↔ ¬ ok 0 := by
    have := hm 0 (by omega)
    exact ⟨fun h => this.mp h.symm, fun h => (this.mpr h).symm⟩
  refine ⟨fun t => t = true ↔ ok 0, fun t ht => ⟨N + 1, ?_⟩, fun h => ?_, fun h => ?_⟩
  · have hb : ∀ c, bt (bI t) c = true ↔ c = 0 ∧ ok 0 := by
      intro c
      cases t with
      | false =>
        show bt 0 c = true ↔ _
        rw [b_0]
        constructor
        · intro q; cases q
        · intro q; have := ht.mpr q.2; cases this
      | true =>
        show bt 1 c = true ↔ _
        by_cases hc : c < 32
        · rw [b_1 c hc]; simp [ht.mp rfl]
        · rw [b_big (by omega)]
          constructor
          · intro q; cases q
          · intro q; omega
    refine md_out hN0 hN hR hm hp N 0 _ (by omega) (fun c hc => ?_) (fun h => (hb 0).mpr ⟨rfl, h⟩) ?_
    · obtain ⟨rfl, h⟩ := (hb c).mp hc
      exact .zero h
    · by_cases h : ok 0
      · exact Or.inl (cnt_pos (c := 0) hN0 ((hb 0).mpr ⟨rfl, h⟩))
      · exact Or.inr fun c => ⟨fun q => absurd ((hb c).mp q).2 h, fun q => absurd q (gr_none h c)⟩
  · exact ⟨fun _ => Classical.byContradiction fun q => h (h0.mpr q), fun _ => rfl⟩
  · exact ⟨fun q => by (cases q), fun q => absurd q (h0.mp h)⟩
end RM
/-! bit counts; the reference's look, countOf, parentOf, inFrontier -/
theorem Dm.lt {N : Nat} {yes no : Nat → Int32} (hN0 : 0 < N) {b c : Nat} (h : Dm (gsc N yes no) b c) : b < N ∧ c < N := ⟨h.re1.lt hN0 gsc_lt, h.re.lt hN0 gsc_lt⟩
def DF (sc : Nat → Nat → Prop) (b c : Nat) : Prop := (∃ p, Dm sc b p ∧ sc p c) ∧ ¬ (Dm sc b c ∧ b ≠ c)
def ParIs (sc : Nat → Nat → Prop) (N c p : Nat) : Prop := (p < N ∧ IsPar sc c p) ∨ (p = N ∧ ∀ b, b ≠ c → ¬ Dm sc b c)
theorem ParIs.uniq {sc : Nat → Nat → Prop} {N c p q : Nat} (h1 : ParIs sc N c p) (h2 : ParIs sc N c q) : p = q := by
  rcases h1 with ⟨-, h1⟩ | ⟨h1, g1⟩ <;> rcases h2 with ⟨-, h2⟩ | ⟨h2, g2⟩
  · exact h1.uniq h2
  · exact absurd h1.2.1 (g2 p h1.1)
  · exact absurd h2.2.1 (g1 q h2.1)
  · omega
theorem bit_set {T : Int32} {x : Nat} (hx : x < 32) (c : Nat) : bt (T ||| ((1 : Int32) <<< (nI x &&& 31))) c = true ↔ bt T c = true ∨ c = x := by
  rw [b_or, Bool.or_eq_true]
  by_cases hc : c < 32
  · rw [b_one hx hc]; simp
  · rw [b_big (by omega), b_big (by omega)]
    constructor
    · intro q; rcases q with q | q <;> cases q
    · intro q; rcases q with q | q
      · cases q
      · omega
section LK
variable {N : Nat} {mEnds mYes mNo yes no : Nat → Int32}
theorem md_look0 (hN : N ≤ 12) {K : Int32 → (Nat → Int32) → Prop} (hK : ∀ D : Nat → Int32, (∀ c, c < N → D c = 0) → K (nI N) D) : ∀ (d i : Nat) (D : Nat → Int32), i + d = N → (∀ c, c < i → D c = 0) → lpMd_look_11 N K (d + 1) (nI i) D := by
  intro d
  induction d with
  | zero =>
    intro i D hi h
    have : i = N := by omega
    subst this
    exact ⟨fun _ => hK D h, fun q => absurd (Int32.le_refl _) q⟩
  | succ d ih =>
    intro i D hi h
    refine ⟨fun q => ?_, fun _ => ?_⟩
    · rw [jI_le (by omega) (by omega)] at q; omega
    · rw [jI_in (by omega), jI_one, jI_nat (by omega)]
      refine ⟨by omega, ih (i + 1) _ (by omega) fun c hc => ?_⟩
      by_cases e : c = i
      · subst e; rw [upd_same]
      · rw [upd_other _ _ e]; exact h c (by omega)
theorem md_look1 (hN : N ≤ 12) {a : Nat} (ha : a < N) {R X : Int32} (hR : ∀ c, bt R c = true ↔ Rch (gsc N yes no) okT c) (hX : ∀ c, bt X c = true ↔ Rch (gsc N yes no) (okN a) c) {K : Int32 → (Nat → Int32) → Prop} (hK : ∀ D : Nat → Int32, (∀ c, c < N → ∀ x, bt (D c) x = true ↔ x < a + 1 ∧ Dm (gsc N yes no) x c) → K (nI N) D) :
    ∀ (d i : Nat) (D : Nat → Int32), i + d = N → (∀ c, c < N → ∀ x, bt (D c) x = true ↔ x < (if c < i then a + 1 else a) ∧ Dm (gsc N yes no) x c) → lpMd_look_50 N (nI a) X R K (d + 1) (nI i) D := by
  intro d
  induction d with
  | zero =>
    intro i D hi h
    have : i = N := by omega
    subst this
    refine ⟨fun _ => hK D fun c hc x => ?_, fun q => absurd (Int32.le_refl _) q⟩
    rw [h c hc x, if_pos hc]
  | succ d ih =>
    intro i D hi h
    have hiN : i < N := by omega
    refine ⟨fun q => ?_, fun _ => ?_⟩
    · rw [jI_le (by omega) (by omega)] at q; omega
    · rw [jI_one]
      have skip : ¬ Dm (gsc N yes no) a i → lpMd_look_50 N (nI a) X R K (d + 1) (nI (i + 1)) D := by
        intro hn
        refine ih (i + 1) D (by omega) fun c hc x => ?_
        rw [h c hc x]
        by_cases e : c = i
        · subst e
          rw [if_neg (by omega), if_pos (by omega)]
          constructor
          · rintro ⟨q1, q2⟩; exact ⟨by omega, q2⟩
          · rintro ⟨q1, q2⟩
            refine ⟨?_, q2⟩
            by_cases e : x = a
            · subst e; exact absurd q2 hn
            · omega
        · by_cases h2 : c < i
          · rw [if_pos h2, if_pos (by omega)]
          · rw [if_neg h2, if_neg (by omega)]
      refine md_has (by omega) ⟨fun q => skip fun z => ?_, fun q1 => md_has (by omega) ⟨fun q => skip fun z => ?_, fun q2 => md_has (by omega) ⟨fun q => skip fun z => ?_, fun q3 => ?_⟩⟩⟩
      · rw [(hR a).mpr z.re1] at q; cases q
      · rw [(hR i).mpr z.re] at q; cases q
      · exact z.2 ((hX i).mp q)
      · have hd : Dm (gsc N yes no) a i := ⟨(hR i).mp q2, fun z => by rw [(hX i).mpr z] at q3; cases q3⟩
        rw [jI_in (by omega), jI_nat (by omega)]
        refine ⟨by omega, by omega, ih (i + 1) _ (by omega) fun c hc x => ?_⟩
        by_cases e : c = i
        · subst e
          rw [upd_same, bit_set (by omega), h c hc x, if_neg (by omega), if_pos (by omega)]
          constructor
          · rintro (q | q)
            · exact ⟨by omega, q.2⟩
            · subst q; exact ⟨by omega, hd⟩
          · rintro ⟨q1, q2⟩
            by_cases e : x = a
            · exact Or.inr e
            · exact Or.inl ⟨by omega, q2⟩
        · rw [upd_other _ _ e, h c hc x]
          by_cases h2 : c < i
          · rw [if_pos h2, if_pos (by omega)]
          · rw [if_neg h2, if_neg (by omega)]
theorem md_look2 (hN0 : 0 < N) (hN : N ≤ 12) (hE : EndR N mEnds mYes mNo yes no) {R : Int32} (hR : ∀ c, bt R c = true ↔ Rch (gsc N yes no) okT c) {post : Int32 → (Nat → Int32) → Prop} (hp : ∀ D : Nat → Int32, (∀ c, c < N → ∀ x, bt (D c) x = true ↔ Dm (gsc N yes no) x c) → post R D) :
    ∀ (d i : Nat) (D : Nat → Int32), i + d = N → (∀ c, c < N → ∀ x, bt (D c) x = true ↔ x < i ∧ Dm (gsc N yes no) x c) → lpMd_look_34 N R mEnds mYes mNo post (d + 1) (nI i) D := by
  intro d
  induction d with
  | zero =>
    intro i D hi h
    have : i = N := by omega
    subst this
    refine ⟨fun _ => hp D fun c hc x => ?_, fun q => absurd (Int32.le_refl _) q⟩
    rw [h c hc x]
    exact ⟨fun q => q.2, fun q => ⟨(q.lt hN0).1, q⟩⟩
  | succ d ih =>
    intro i D hi h
    have hiN : i < N := by omega
    refine ⟨fun q => ?_, fun _ => ?_⟩
    · rw [jI_le (by omega) (by omega)] at q; omega
    · rw [jI_one]
      refine md_without (ok := okN i) hN0 hN hE (Or.inr ⟨i, hiN, rfl, rfl⟩) fun X hX => ⟨N + 1, ?_⟩
      refine md_look1 (yes := yes) (no := no) hN hiN hR hX (fun D' h' => ih (i + 1) D' (by omega) h') N 0 D (by omega) fun c hc x => ?_
      rw [h c hc x, if_neg (by omega)]
theorem md_look (hN0 : 0 < N) (hN : N ≤ 12) (hE : EndR N mEnds mYes mNo yes no) {D0 : Nat → Int32} {post : Int32 → (Nat → Int32) → Prop} (hp : ∀ (R : Int32) (D : Nat → Int32), (∀ c, bt R c = true ↔ Rch (gsc N yes no) okT c) → (∀ c, c < N → ∀ x, bt (D c) x = true ↔ Dm (gsc N yes no) x c) → post R D) : wpMd_look N mEnds mYes mNo D0 post := by
  refine md_without (ok := okT) hN0 hN hE (Or.inl ⟨rfl, rfl⟩) fun R hR => ⟨N + 1, ?_⟩
  refine md_look0 hN (fun D hD => ⟨N + 1, ?_⟩) N 0 D0 (by omega) (fun c hc => by omega)
  refine md_look2 hN0 hN hE hR (fun D' h' => hp R D' hR h') N 0 D (by omega) fun c hc x => ?_
  rw [hD c hc, b_0]
  constructor
  · intro q; cases q
  · intro q; omega
theorem md_countOf (hN : N ≤ 12) (x : Int32) {post : Int32 → Prop} (hp : post (nI (cnt x N))) : wpMd_countOf N x post := by
  have key : ∀ (d i : Nat), i + d = N → lpMd_countOf_4 N x post (d + 1) (nI (cnt x i)) (nI i) := by
    intro d
    induction d with
    | zero =>
      intro i hi
      have : i = N := by omega
      subst this
      exact ⟨fun _ => hp, fun q => absurd (Int32.le_refl _) q⟩
    | succ d ih =>
      intro i hi
      refine ⟨fun q => ?_, fun _ v hv => ?_⟩
      · rw [jI_le (by omega) (by omega)] at q; omega
      · rw [jI_one]
        have : v = nI (cnt x (i + 1)) := by
          rw [hv, b_low x (by omega)]
          simp only [cnt]
          rw [← jI_add]
          congr 1
          cases bt x i <;> rfl
        rw [this]
        exact ih (i + 1) (by omega)
  exact ⟨N + 1, key N 0 (by omega)⟩
end LK
theorem cnt_beyond {x : Int32} {n : Nat} (h : ∀ c, n ≤ c → bt x c = false) : ∀ k, cnt x (n + k) = cnt x n := by
  intro k
  induction k with
  | zero => rfl
  | succ k ih =>
    show cnt x (n + k) + _ = _
    rw [ih, show bt x (n.add k) = false from h (n + k) (by omega)]
    simp
section PO
variable {N : Nat} {mEnds mYes mNo yes no : Nat → Int32}
/-- of two that strictly dominate, the nearer has more above it -/
theorem dom_lt (hN0 : 0 < N) {D : Nat → Int32} (hD : ∀ c, c < N → ∀ x, bt (D c) x = true ↔ Dm (gsc N yes no) x c) {p b : Nat} (h : Dm (gsc N yes no) p b) (hne : p ≠ b) : cnt (D p) N < cnt (D b) N := by
  have hl := h.lt hN0
  refine cnt_lt (c := b) (fun c hc => ?_) hl.2 (fun q => ?_) ((hD b hl.2 b).mpr (Dm.refl h.re))
  · exact (hD b hl.2 c).mpr (((hD p hl.1 c).mp hc).trans h)
  · exact hne (h.anti ((hD p hl.1 b).mp q))
theorem md_parent (hN0 : 0 < N) (hN : N ≤ 12) {D : Nat → Int32} (hD : ∀ c, c < N → ∀ x, bt (D c) x = true ↔ Dm (gsc N yes no) x c) {c : Nat} (hc : c < N) {post : Int32 → Prop} (hp : ∀ p, ParIs (gsc N yes no) N c p → post (nI p)) : wpMd_parentOf N D (nI c) post := by
  intro v2 hv2
  subst hv2
  have key : ∀ (d i p : Nat) (most : Nat), i + d = N → most ≤ 12 → ((p = N ∧ most = 0 ∧ ∀ b, b < i → b ≠ c → ¬ Dm (gsc N yes no) b c) ∨ (p ≠ c ∧ Dm (gsc N yes no) p c ∧ most = cnt (D p) N ∧ ∀ b, b < i → b ≠ c → Dm (gsc N yes no) b c → cnt (D b) N ≤ most)) → lpMd_parentOf_10 N (nI c) D post (d + 1) (nI p) (nI most) (nI i) := by
    intro d
    induction d with
    | zero =>
      intro i p most hi hm h
      have : i = N := by omega
      subst this
      refine ⟨fun _ => hp p ?_, fun q => absurd (Int32.le_refl _) q⟩
      rcases h with ⟨h1, h2, h3⟩ | ⟨h1, h2, h3, h4⟩
      · exact Or.inr ⟨h1, fun b hb q => h3 b (q.lt hN0).1 hb q⟩
      · refine Or.inl ⟨(h2.lt hN0).1, h1, h2, fun b hb q => ?_⟩
        by_cases e : p = b
        · subst e; exact Dm.refl h2.re1
        · rcases Dm.chain q h2 with z | z
          · exact z
          · have := dom_lt hN0 hD z e
            have := h4 b (q.lt hN0).1 hb q
            omega
    | succ d ih =>
      intro i p most hi hm h
      have hiN : i < N := by omega
      refine ⟨fun q => ?_, fun _ => ?_⟩
      · rw [jI_le (by omega) (by omega)] at q; omega
      · rw [jI_one]
        have skip : (i = c ∨ ¬ Dm (gsc N yes no) i c ∨ (cnt (D i) N ≤ most ∧ p ≠ N)) → lpMd_parentOf_10 N (nI c) D post (d + 1) (nI p) (nI most) (nI (i + 1)) := by
          intro hs
          refine ih (i + 1) p most (by omega) hm ?_
          rcases h with ⟨h1, h2, h3⟩ | ⟨h1, h2, h3, h4⟩
          · refine Or.inl ⟨h1, h2, fun b hb hbc q => ?_⟩
            by_cases e : b = i
            · subst e
              rcases hs with hs | hs | hs
              · exact hbc hs
              · exact hs q
              · exact hs.2 h1
            · exact h3 b (by omega) hbc q
          · refine Or.inr ⟨h1, h2, h3, fun b hb hbc q => ?_⟩
            by_cases e : b = i
            · subst e
              rcases hs with hs | hs | hs
              · exact absurd hs hbc
              · exact absurd q hs
              · exact hs.1
            · exact h4 b (by omega) hbc q
        refine ⟨fun q => skip (Or.inl ?_), fun q0 => ?_⟩
        · rw [jI_eq (by omega) (by omega)] at q; exact q
        · rw [jI_eq (by omega) (by omega)] at q0
          rw [jI_in (by omega), jI_nat (by omega), jI_in (by omega), jI_nat (by omega)]
          refine ⟨by omega, md_has (by omega) ⟨fun q => skip (Or.inr (Or.inl fun z => ?_)), fun q1 => ⟨by omega, md_countOf hN _ ⟨fun q => skip (Or.inr (Or.inr ⟨?_, fun z => ?_⟩)), fun q2 => ⟨by omega, md_countOf hN _ ?_⟩⟩⟩⟩⟩
          · rw [(hD c hc i).mpr z] at q; cases q
          · rw [jI_le (by have := cnt_le (D i) N; omega) (by omega)] at q; exact q
          · rcases h with ⟨h1, h2, h3⟩ | ⟨h1, h2, h3, h4⟩
            · subst h2
              rw [jI_le (by have := cnt_le (D i) N; omega) (by omega)] at q
              have := cnt_pos (x := D i) (c := i) hiN ((hD i hiN i).mpr (Dm.refl ((hD c hc i).mp q1).re1))
              omega
            · have := (h2.lt hN0).1; omega
          · have hdc := (hD c hc i).mp q1
            have hcl := cnt_le (D i) N
            refine ih (i + 1) i (cnt (D i) N) (by omega) (by omega) (Or.inr ⟨q0, hdc, rfl, fun b hb hbc z => ?_⟩)
            by_cases e : b = i
            · subst e; omega
            · rw [jI_le (by omega) (by omega)] at q2
              rcases h with ⟨h1, h2, h3⟩ | ⟨h1, h2, h3, h4⟩
              · exact absurd z (h3 b (by omega) hbc)
              · have := h4 b (by omega) hbc z; omega
  exact ⟨N + 1, key N 0 N 0 (by omega) (by omega) (Or.inl ⟨rfl, rfl, fun b hb => by omega⟩)⟩
theorem md_follows (hN : N ≤ 12) (hE : EndR N mEnds mYes mNo yes no) {b c : Nat} (hb : b < N) (hc : c < N) {post : Bool → Prop} (hp : ∀ z, (z = true ↔ gsc N yes no b c) → post z) : wpMd_follows N mEnds mYes mNo (nI b) (nI c) post := by
  unfold wpMd_follows
  rw [jI_eq (by omega) (by omega), jI_in (by omega), jI_nat (by omega)]
  refine ⟨fun _ => ⟨by omega, fun h0 => hp _ ?_, fun h0 => ?_⟩, fun h => by omega⟩
  · rcases hE b hb with ⟨-, e1, e2⟩ | ⟨e1, -⟩
    · constructor
      · intro q; cases q
      · rintro ⟨-, -, q⟩
        rw [e1, e2] at q
        rcases q with q | q <;> exact absurd q.symm (jI_m1 (by omega))
    · exact absurd h0 e1
  · rcases hE b hb with ⟨e1, -⟩ | ⟨-, e1, e2, -⟩
    · exact absurd e1 h0
    · rw [e1, e2]
      refine ⟨by omega, fun q => hp _ ⟨fun _ => ⟨hb, hc, Or.inl q⟩, fun _ => rfl⟩, fun q => ⟨by omega, fun q2 => hp _ ⟨fun z => by (cases z), fun z => ?_⟩, fun q2 => hp _ ⟨fun _ => ⟨hb, hc, Or.inr q2⟩, fun _ => rfl⟩⟩⟩
      exact (z.2.2.elim q q2).elim
theorem md_strictly (hN0 : 0 < N) (hN : N ≤ 12) {D : Nat → Int32} (hD : ∀ c, c < N → ∀ x, bt (D c) x = true ↔ Dm (gsc N yes no) x c) {b c : Nat} (hb : b < N) (hc : c < N) {post : Bool → Prop} (hp : ∀ z, (z = true ↔ (Dm (gsc N yes no) b c ∧ b ≠ c)) → post z) : wpMd_strictly N D (nI b) (nI c) post := by
  unfold wpMd_strictly
  rw [jI_eq (by omega) (by omega), jI_eq (by omega) (by omega), jI_in (by omega), jI_nat (by omega)]
  refine ⟨fun h => hp _ ⟨fun q => by (cases q), fun q => absurd h q.2⟩, fun h => ⟨fun q => by omega, fun _ => ⟨by omega, md_has (by omega) ⟨fun q => hp _ ⟨fun q => by (cases q), fun z => ?_⟩, fun q => hp _ ⟨fun _ => ⟨(hD c hc b).mp q, h⟩, fun _ => rfl⟩⟩⟩⟩⟩
  rw [(hD c hc b).mpr z.1] at q; cases q
theorem md_frontier (hN0 : 0 < N) (hN : N ≤ 12) (hE : EndR N mEnds mYes mNo yes no) {R : Int32} (hR : ∀ c, bt R c = true ↔ Rch (gsc N yes no) okT c) {D : Nat → Int32} (hD : ∀ c, c < N → ∀ x, bt (D c) x = true ↔ Dm (gsc N yes no) x c) {b c : Nat} (hb : b < N) (hc : c < N) {post : Bool → Prop} (hp : ∀ z, (z = true ↔ DF (gsc N yes no) b c) → post z) : wpMd_inFrontier N R mEnds mYes mNo D (nI b) (nI c) post := by
  refine md_has (by omega) ⟨fun q => hp _ ⟨fun q => by (cases q), fun z => ?_⟩, fun _ => md_has (by omega) ⟨fun q => hp _ ⟨fun q => by (cases q), fun z => ?_⟩, fun _ => md_strictly hN0 hN hD hb hc fun z hz => ⟨fun h => ⟨N + 1, ?_⟩, fun h => hp _ ⟨fun q => by (cases q), fun w => absurd (hz.mp h) w.2⟩⟩⟩⟩
  · obtain ⟨⟨p, h1, -⟩, -⟩ := z
    rw [(hR b).mpr h1.re1] at q; cases q
  · obtain ⟨⟨p, h1, h2⟩, -⟩ := z
    rw [(hR c).mpr (.step h1.re h2 trivial)] at q; cases q
  · have hns : ¬ (Dm (gsc N yes no) b c ∧ b ≠ c) := fun q => by rw [hz.mpr q] at h; cases h
    have key : ∀ (d i : Nat) (z : Bool), i + d = N → (z = true ↔ ∃ p, p < i ∧ Dm (gsc N yes no) b p ∧ gsc N yes no p c) → lpMd_inFrontier_40 N (nI b) (nI c) R mEnds mYes mNo D post (d + 1) z (nI i) := by
      intro d
      induction d with
      | zero =>
        intro i z hi h
        have : i = N := by omega
        subst this
        refine ⟨fun _ => hp z (h.trans ?_), fun q => absurd (Int32.le_refl _) q⟩
        exact ⟨fun ⟨p, _, h2, h3⟩ => ⟨⟨p, h2, h3⟩, hns⟩, fun ⟨⟨p, h2, h3⟩, _⟩ => ⟨p, h3.1, h2, h3⟩⟩
      | succ d ih =>
        intro i z hi h
        have hiN : i < N := by omega
        refine ⟨fun q => ?_, fun _ => ?_⟩
        · rw [jI_le (by omega) (by omega)] at q; omega
        · rw [jI_one, jI_in (by omega), jI_nat (by omega)]
          refine ⟨fun hz => ih (i + 1) true (by omega) ⟨fun _ => ?_, fun _ => rfl⟩, fun hz => ?_⟩
          · obtain ⟨p, h1, h2⟩ := h.mp hz
            exact ⟨p, by omega, h2⟩
          · subst hz
            have skip : ¬ (Dm (gsc N yes no) b i ∧ gsc N yes no i c) → lpMd_inFrontier_40 N (nI b) (nI c) R mEnds mYes mNo D post (d + 1) false (nI (i + 1)) := by
              intro hs
              refine ih (i + 1) false (by omega) ⟨fun q => by (cases q), fun ⟨p, h1, h2⟩ => ?_⟩
              by_cases e : p = i
              · subst e; exact absurd h2 hs
              · exact h.mpr ⟨p, by omega, h2⟩
            refine md_has (by omega) ⟨fun q => skip fun w => ?_, fun _ => ⟨by omega, md_has (by omega) ⟨fun q => skip fun w => ?_, fun q1 => md_follows hN hE hiN hc fun y hy => ⟨fun q => skip fun w => ?_, fun q => ?_⟩⟩⟩⟩
            · rw [(hR i).mpr w.1.re] at q; cases q
            · rw [(hD i hiN b).mpr w.1] at q; cases q
            · rw [hy.mpr w.2] at q; cases q
            · exact ih (i + 1) true (by omega) ⟨fun _ => ⟨i, by omega, (hD i hiN b).mp q1, hy.mp q⟩, fun _ => rfl⟩
    exact key N 0 false (by omega) ⟨fun q => by (cases q), fun ⟨p, h1, _⟩ => by omega⟩
end PO
