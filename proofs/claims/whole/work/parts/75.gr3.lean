/-! the class's forerunners, below, parents and frontiers -/
def FoIs (sc : Nat → Nat → Prop) (N : Nat) (f : Nat → Int32) : Prop := ∀ c, c < N → ∀ p, bt (f c) p = true ↔ (Rch sc okT p ∧ sc p c) ∨ (p = N ∧ c = 0)
def BlIs (sc : Nat → Nat → Prop) (N : Nat) (f : Nat → Int32) : Prop := ∀ b, b < N → ∀ c, bt (f b) c = true ↔ Dm sc b c
section SV
variable {N : Nat} {yes no : Nat → Int32}
theorem fr_in (hN : N ≤ 12) {p : Nat} (hp : p < N) {X : Int32} {F0 : Nat → Int32} {K : Int32 → (Nat → Int32) → Prop} (hK : ∀ F : Nat → Int32, (∀ c, c < N → ∀ x, bt (F c) x = true ↔ bt (F0 c) x = true ∨ (x = p ∧ bt X c = true)) → K (nI N) F) :
    ∀ (d i : Nat) (F : Nat → Int32), i + d = N → (∀ c, c < N → ∀ x, bt (F c) x = true ↔ bt (F0 c) x = true ∨ (x = p ∧ bt X c = true ∧ c < i)) → lpGraph_findForerunners_54 N (nI p) X K (d + 1) (nI i) F := by
  intro d
  induction d with
  | zero =>
    intro i F hi h
    have : i = N := by omega
    subst this
    refine ⟨fun _ => hK F fun c hc x => ?_, fun q => absurd (Int32.le_refl _) q⟩
    rw [h c hc x]
    exact ⟨fun q => q.imp id fun q => ⟨q.1, q.2.1⟩, fun q => q.imp id fun q => ⟨q.1, q.2, hc⟩⟩
  | succ d ih =>
    intro i F hi h
    refine ⟨fun q => ?_, fun _ => ?_⟩
    · rw [jI_le (by omega) (by omega)] at q; omega
    · rw [jI_one, jI_in (by omega), jI_nat (by omega)]
      refine on_has (by omega) ⟨fun q => ih (i + 1) F (by omega) fun c hc x => ?_, fun q => ⟨by omega, by omega, ih (i + 1) _ (by omega) fun c hc x => ?_⟩⟩
      · rw [h c hc x]
        refine ⟨fun z => z.imp id fun z => ⟨z.1, z.2.1, by omega⟩, fun z => z.imp id fun z => ⟨z.1, z.2.1, ?_⟩⟩
        by_cases e : c = i
        · subst e; rw [z.2.1] at q; cases q
        · omega
      · by_cases e : c = i
        · subst e
          rw [upd_same, bit_set (by omega), h c hc x]
          constructor
          · rintro ((z | z) | z)
            · exact Or.inl z
            · exact Or.inr ⟨z.1, z.2.1, by omega⟩
            · exact Or.inr ⟨z, q, by omega⟩
          · rintro (z | z)
            · exact Or.inl (Or.inl z)
            · exact Or.inr z.1
        · rw [upd_other _ _ e, h c hc x]
          exact ⟨fun z => z.imp id fun z => ⟨z.1, z.2.1, by omega⟩, fun z => z.imp id fun z => ⟨z.1, z.2.1, by omega⟩⟩
theorem fr_sp (hN0 : 0 < N) (hN : N ≤ 12) (hE : GE N yes no) {R : Int32} (hR : ∀ c, bt R c = true ↔ Rch (gsc N yes no) okT c) {f : Nat → Int32} {post : (Nat → Int32) → Prop} (hp : ∀ g, FoIs (gsc N yes no) N g → post g) : wpGraph_findForerunners N yes no R f post := by
  refine fill_sp (by omega) fun g hg => ?_
  have key : ∀ (d i : Nat) (F : Nat → Int32), i + d = N → (∀ c, c < N → ∀ x, bt (F c) x = true ↔ (x < i ∧ Rch (gsc N yes no) okT x ∧ gsc N yes no x c) ∨ (x = N ∧ c = 0)) → lpGraph_findForerunners_22 N yes no R post (d + 1) (nI i) F := by
    intro d
    induction d with
    | zero =>
      intro i F hi h
      have : i = N := by omega
      subst this
      refine ⟨fun _ => hp F fun c hc x => ?_, fun q => absurd (Int32.le_refl _) q⟩
      rw [h c hc x]
      exact ⟨fun z => z.imp (fun z => z.2) id, fun z => z.imp (fun z => ⟨z.2.1, z⟩) id⟩
    | succ d ih =>
      intro i F hi h
      refine ⟨fun q => ?_, fun _ => ?_⟩
      · rw [jI_le (by omega) (by omega)] at q; omega
      · rw [jI_one]
        refine on_has (by omega) ⟨fun X => ∀ c, bt X c = true ↔ Rch (gsc N yes no) okT i ∧ gsc N yes no i c, fun X hX => ⟨N + 1, ?_⟩, fun q c => ?_, fun q => followers_sp hN hE (by omega) fun X hX c => ?_⟩
        · refine fr_in hN (p := i) (by omega) (X := X) (F0 := F) (fun F' hF' => ih (i + 1) F' (by omega) fun c hc x => ?_) N 0 F (by omega) fun c hc x => ?_
          · rw [hF' c hc x, h c hc x, hX c]
            constructor
            · rintro ((z | z) | z)
              · exact Or.inl ⟨by omega, z.2⟩
              · exact Or.inr z
              · obtain ⟨rfl, z⟩ := z
                exact Or.inl ⟨by omega, z⟩
            · rintro (z | z)
              · by_cases e : x = i
                · subst e; exact Or.inr ⟨rfl, z.2⟩
                · exact Or.inl (Or.inl ⟨by omega, z.2⟩)
              · exact Or.inl (Or.inr z)
          · exact ⟨Or.inl, fun z => z.elim id fun z => by omega⟩
        · rw [b_0]
          refine ⟨fun z => by (cases z), fun z => ?_⟩
          rw [(hR i).mpr z.1] at q; cases q
        · rw [hX c]
          exact ⟨fun z => ⟨(hR i).mp q, z⟩, fun z => z.2⟩
  have h0 : vp_in 0 N := by rw [show (0 : Int32) = nI 0 from rfl, jI_in (by omega)]; exact hN0
  refine ⟨h0, N + 1, key N 0 _ (by omega) fun c hc x => ?_⟩
  rw [show (Int32.toNatClampNeg 0) = 0 from rfl]
  by_cases e : c = 0
  · subst e
    rw [upd_same]
    by_cases hx : x < 32
    · rw [b_one (by omega) hx]; simp
    · rw [b_big (by omega)]
      refine ⟨fun z => by (cases z), fun z => ?_⟩
      rcases z with z | z <;> omega
  · rw [upd_other _ _ e, hg c hc, b_0]
    refine ⟨fun z => by (cases z), fun z => ?_⟩
    rcases z with z | z <;> omega
theorem bl_sp (hN0 : 0 < N) (hN : N ≤ 12) (hE : GE N yes no) {R : Int32} (hR : ∀ c, bt R c = true ↔ Rch (gsc N yes no) okT c) {K : Int32 → (Nat → Int32) → Prop} (hK : ∀ B, BlIs (gsc N yes no) N B → K (nI N) B) :
    ∀ (d i : Nat) (B : Nat → Int32), i + d = N → (∀ b, b < i → ∀ c, bt (B b) c = true ↔ Dm (gsc N yes no) b c) → lpGraph_survey_17 N yes no R K (d + 1) (nI i) B := by
  intro d
  induction d with
  | zero =>
    intro i B hi h
    have : i = N := by omega
    subst this
    exact ⟨fun _ => hK B h, fun q => absurd (Int32.le_refl _) q⟩
  | succ d ih =>
    intro i B hi h
    refine ⟨fun q => ?_, fun _ => ?_⟩
    · rw [jI_le (by omega) (by omega)] at q; omega
    · rw [jI_one, jI_in (by omega), jI_nat (by omega)]
      refine gr_without (ok := okN i) hN0 hN hE (Or.inr ⟨i, by omega, rfl, rfl⟩) fun X hX => ⟨by omega, ih (i + 1) _ (by omega) fun b hb c => ?_⟩
      by_cases e : b = i
      · subst e
        rw [upd_same, b_and]
        by_cases hc : c < 32
        · rw [b_not hc]
          simp only [Bool.and_eq_true, Bool.not_eq_true', hR c]
          rw [← Bool.not_eq_true, hX c]
          exact Iff.rfl
        · rw [b_big (by omega)]
          refine ⟨fun z => by simp at z, fun z => ?_⟩
          have := (z.lt hN0).2; omega
      · rw [upd_other _ _ e]
        exact h b (by omega) c
theorem below_lt (hN0 : 0 < N) {B : Nat → Int32} (hB : BlIs (gsc N yes no) N B) {p b : Nat} (h : Dm (gsc N yes no) p b) (hne : p ≠ b) : cnt (B b) N < cnt (B p) N := by
  have hl := h.lt hN0
  refine cnt_lt (c := p) (fun c hc => ?_) hl.1 (fun q => ?_) ((hB p hl.1 p).mpr (Dm.refl h.re1))
  · exact (hB p hl.1 c).mpr (h.trans ((hB b hl.2 c).mp hc))
  · exact hne (h.anti ((hB b hl.2 p).mp q))
theorem bl_big (hN0 : 0 < N) {B : Nat → Int32} (hB : BlIs (gsc N yes no) N B) {b : Nat} (hb : b < N) : ∀ c, N ≤ c → bt (B b) c = false := by
  intro c hc
  rw [← Bool.not_eq_true, hB b hb c]
  intro q
  have := (q.lt hN0).2
  omega
theorem na_sp (hN0 : 0 < N) (hN : N ≤ 12) {B : Nat → Int32} (hB : BlIs (gsc N yes no) N B) {c : Nat} (hc : c < N) {post : Int32 → Prop} (hp : ∀ p, ParIs (gsc N yes no) N c p → post (nI p)) : wpGraph_nearestAbove N B (nI c) post := by
  intro v2 hv2 v3 hv3
  subst hv2
  rw [jI_one] at hv3
  subst hv3
  have key : ∀ (d i p : Nat) (few : Nat), i + d = N → few ≤ 13 → ((p = N ∧ few = N + 1 ∧ ∀ b, b < i → b ≠ c → ¬ Dm (gsc N yes no) b c) ∨ (p ≠ c ∧ Dm (gsc N yes no) p c ∧ few = cnt (B p) N ∧ ∀ b, b < i → b ≠ c → Dm (gsc N yes no) b c → few ≤ cnt (B b) N)) → lpGraph_nearestAbove_15 N (nI c) B post (d + 1) (nI p) (nI few) (nI i) := by
    intro d
    induction d with
    | zero =>
      intro i p few hi hm h
      have : i = N := by omega
      subst this
      refine ⟨fun _ => hp p ?_, fun q => absurd (Int32.le_refl _) q⟩
      rcases h with ⟨h1, h2, h3⟩ | ⟨h1, h2, h3, h4⟩
      · exact Or.inr ⟨h1, fun b hb q => h3 b (q.lt hN0).1 hb q⟩
      · refine Or.inl ⟨(h2.lt hN0).1, h1, h2, fun b hb q => ?_⟩
        by_cases e : p = b
        · subst e; exact Dm.refl h2.re1
        · rcases Dm.chain q h2 with z | z
          · exact z
          · have := below_lt hN0 hB z e
            have := h4 b (q.lt hN0).1 hb q
            omega
    | succ d ih =>
      intro i p few hi hm h
      have hiN : i < N := by omega
      have hcl := cnt_le (B i) N
      refine ⟨fun q => ?_, fun _ => ?_⟩
      · rw [jI_le (by omega) (by omega)] at q; omega
      · rw [jI_one, jI_in (by omega), jI_nat (by omega)]
        have skip : (i = c ∨ ¬ Dm (gsc N yes no) i c ∨ (few ≤ cnt (B i) N ∧ p ≠ N)) → lpGraph_nearestAbove_15 N (nI c) B post (d + 1) (nI p) (nI few) (nI (i + 1)) := by
          intro hs
          refine ih (i + 1) p few (by omega) hm ?_
          rcases h with ⟨h1, h2, h3⟩ | ⟨h1, h2, h3, h4⟩
          · refine Or.inl ⟨h1, h2, fun b hb hbc q => ?_⟩
            by_cases e : b = i
            · subst e
              rcases hs with hs | hs | hs
              · exact hbc hs
              · exact hs q
              · exact hs.2 h1
            · exact h3 b (by omega) hbc q
          · refine Or.inr ⟨h1, h2, h3, fun b hb hbc q => ?_⟩
            by_cases e : b = i
            · subst e
              rcases hs with hs | hs | hs
              · exact absurd hs hbc
              · exact absurd q hs
              · exact hs.1
            · exact h4 b (by omega) hbc q
        refine ⟨hiN, bit_count hN (bl_big hN0 hB hiN) ⟨fun q => skip (Or.inl ?_), fun q0 => ⟨hiN, on_has (by omega) ⟨fun q => skip (Or.inr (Or.inl fun z => ?_)), fun q1 => ⟨fun q => skip (Or.inr (Or.inr ⟨?_, fun z => ?_⟩)), fun q2 => ?_⟩⟩⟩⟩⟩
        · rw [jI_eq (by omega) (by omega)] at q; exact q
        · rw [(hB i hiN c).mpr z] at q; cases q
        · rw [jI_le (by omega) (by omega)] at q; exact q
        · rw [jI_le (by omega) (by omega)] at q
          rcases h with ⟨h1, h2, h3⟩ | ⟨h1, h2, h3, h4⟩
          · omega
          · have := (h2.lt hN0).1; omega
        · rw [jI_eq (by omega) (by omega)] at q0
          rw [jI_le (by omega) (by omega)] at q2
          refine ih (i + 1) i (cnt (B i) N) (by omega) (by omega) (Or.inr ⟨q0, (hB i hiN c).mp q1, rfl, fun b hb hbc z => ?_⟩)
          by_cases e : b = i
          · subst e; omega
          · rcases h with ⟨h1, h2, h3⟩ | ⟨h1, h2, h3, h4⟩
            · exact absurd z (h3 b (by omega) hbc)
            · have := h4 b (by omega) hbc z; omega
  exact ⟨N + 1, key N 0 N (N + 1) (by omega) (by omega) (Or.inl ⟨rfl, rfl, fun b hb => by omega⟩)⟩
theorem and_zero {x y : Int32} : (x &&& y) = 0 ↔ ∀ p, ¬ (bt x p = true ∧ bt y p = true) := by
  constructor
  · intro h p ⟨h1, h2⟩
    have := congrArg (bt · p) h
    simp only [b_and, h1, h2, b_0] at this
    cases this
  · intro h
    apply b_ext
    intro p _
    rw [b_0, b_and, ← Bool.not_eq_true, Bool.and_eq_true]
    exact h p
theorem ff_sp (hN0 : 0 < N) (hN : N ≤ 12) {F B : Nat → Int32} (hF : FoIs (gsc N yes no) N F) (hB : BlIs (gsc N yes no) N B) {b : Nat} (hb : b < N) {post : Int32 → Prop} (hp : ∀ x, (∀ c, bt x c = true ↔ c < N ∧ DF (gsc N yes no) b c) → post x) : wpGraph_findFrontier N F B (nI b) post := by
  unfold wpGraph_findFrontier
  rw [jI_in (by omega), jI_nat (by omega)]
  refine ⟨hb, fun X hX => ⟨N + 1, ?_⟩⟩
  have hXb : ∀ c, c < N → (bt X c = true ↔ (Dm (gsc N yes no) b c ∧ b ≠ c)) := by
    intro c hc
    rw [hX, b_and, b_not (by omega), b_one (by omega) (by omega), Bool.and_eq_true, hB b hb c]
    simp
    exact fun _ => ⟨fun h => fun e => h e.symm, fun h => fun e => h e.symm⟩
  have hbf : ∀ c, c < N → (¬ ((B b) &&& (F c)) = 0 ↔ ∃ p, Dm (gsc N yes no) b p ∧ gsc N yes no p c) := by
    intro c hc
    rw [and_zero]
    constructor
    · intro h
      obtain ⟨p, h⟩ := Classical.not_forall.mp h
      have h := Classical.not_not.mp h
      have h1 := (hB b hb p).mp h.1
      rcases (hF c hc p).mp h.2 with z | z
      · exact ⟨p, h1, z.2⟩
      · have := (h1.lt hN0).2; omega
    · rintro ⟨p, h1, h2⟩ h
      exact h p ⟨(hB b hb p).mpr h1, (hF c hc p).mpr (Or.inl ⟨h1.re, h2⟩)⟩
  have key : ∀ (d i : Nat) (x : Int32), i + d = N → (∀ c, bt x c = true ↔ c < i ∧ DF (gsc N yes no) b c) → lpGraph_findFrontier_18 N (nI b) X F B post (d + 1) x (nI i) := by
    intro d
    induction d with
    | zero =>
      intro i x hi h
      have : i = N := by omega
      subst this
      exact ⟨fun _ => hp x h, fun q => absurd (Int32.le_refl _) q⟩
    | succ d ih =>
      intro i x hi h
      have hiN : i < N := by omega
      refine ⟨fun q => ?_, fun _ => ?_⟩
      · rw [jI_le (by omega) (by omega)] at q; omega
      · rw [jI_one, jI_in (by omega), jI_nat (by omega), jI_in (by omega), jI_nat (by omega)]
        have skip : ¬ DF (gsc N yes no) b i → lpGraph_findFrontier_18 N (nI b) X F B post (d + 1) x (nI (i + 1)) := by
          intro hs
          refine ih (i + 1) x (by omega) fun c => ?_
          rw [h c]
          refine ⟨fun z => ⟨by omega, z.2⟩, fun z => ⟨?_, z.2⟩⟩
          by_cases e : c = i
          · subst e; exact absurd z.2 hs
          · omega
        refine ⟨hb, hiN, fun q => skip fun z => ?_, fun q => on_has (by omega) ⟨fun q1 => skip fun z => ?_, fun q1 v hv => ?_⟩⟩
        · exact (hbf i hiN).mpr z.1 q
        · exact z.2 ((hXb i hiN).mp q1)
        · subst hv
          have hd : DF (gsc N yes no) b i := ⟨(hbf i hiN).mp q, fun z => by rw [(hXb i hiN).mpr z] at q1; cases q1⟩
          refine ih (i + 1) _ (by omega) fun c => ?_
          rw [bit_set (by omega), h c]
          constructor
          · rintro (z | rfl)
            · exact ⟨by omega, z.2⟩
            · exact ⟨by omega, hd⟩
          · rintro ⟨z1, z2⟩
            by_cases e : c = i
            · exact Or.inr e
            · exact Or.inl ⟨by omega, z2⟩
  refine key N 0 0 (by omega) fun c => ?_
  rw [b_0]
  exact ⟨fun z => by (cases z), fun z => by omega⟩
def PaIs (sc : Nat → Nat → Prop) (N : Nat) (P : Nat → Int32) : Prop := ∀ c, c < N → (¬ Rch sc okT c ∧ P c = -1) ∨ (Rch sc okT c ∧ ∃ p, ParIs sc N c p ∧ P c = nI p)
def FnIs (sc : Nat → Nat → Prop) (N : Nat) (F : Nat → Int32) : Prop := ∀ b, b < N → ∀ c, bt (F b) c = true ↔ c < N ∧ DF sc b c
theorem pf_sp (hN0 : 0 < N) (hN : N ≤ 12) {R : Int32} (hR : ∀ c, bt R c = true ↔ Rch (gsc N yes no) okT c) {F B : Nat → Int32} (hF : FoIs (gsc N yes no) N F) (hB : BlIs (gsc N yes no) N B) {K : Int32 → (Nat → Int32) → (Nat → Int32) → Prop} (hK : ∀ Fn P, FnIs (gsc N yes no) N Fn → PaIs (gsc N yes no) N P → K (nI N) Fn P) :
    ∀ (d i : Nat) (Fn P : Nat → Int32), i + d = N → (∀ b, b < i → ∀ c, bt (Fn b) c = true ↔ c < N ∧ DF (gsc N yes no) b c) → (∀ c, c < i → (¬ Rch (gsc N yes no) okT c ∧ P c = -1) ∨ (Rch (gsc N yes no) okT c ∧ ∃ p, ParIs (gsc N yes no) N c p ∧ P c = nI p)) → lpGraph_survey_52 N R F B K (d + 1) (nI i) Fn P := by
  intro d
  induction d with
  | zero =>
    intro i Fn P hi h1 h2
    have : i = N := by omega
    subst this
    exact ⟨fun _ => hK Fn P h1 h2, fun q => absurd (Int32.le_refl _) q⟩
  | succ d ih =>
    intro i Fn P hi h1 h2
    have hiN : i < N := by omega
    refine ⟨fun q => ?_, fun _ => ?_⟩
    · rw [jI_le (by omega) (by omega)] at q; omega
    · rw [jI_one, jI_in (by omega), jI_nat (by omega)]
      refine on_has (by omega) ⟨fun v => (¬ Rch (gsc N yes no) okT i ∧ v = -1) ∨ (Rch (gsc N yes no) okT i ∧ ∃ p, ParIs (gsc N yes no) N i p ∧ v = nI p), fun v hv => ⟨hiN, ff_sp hN0 hN hF hB hiN fun x hx => ⟨hiN, ih (i + 1) _ _ (by omega) (fun b hb c => ?_) (fun c hc => ?_)⟩⟩, fun q => Or.inl ⟨fun z => ?_, rfl⟩, fun q => na_sp hN0 hN hB hiN fun p hp => Or.inr ⟨(hR i).mp q, p, hp, rfl⟩⟩
      · by_cases e : b = i
        · subst e; rw [upd_same]; exact hx c
        · rw [upd_other _ _ e]; exact h1 b (by omega) c
      · by_cases e : c = i
        · subst e; rw [upd_same]; exact hv
        · rw [upd_other _ _ e]; exact h2 c (by omega)
      · rw [(hR i).mpr z] at q; cases q
end SV
/-! the order of the blocks -/
noncomputable def cif {α : Type} (p : Prop) (a b : α) : α := @ite α p (Classical.propDecidable p) a b
theorem cif_pos {α : Type} {p : Prop} {a b : α} (h : p) : cif p a b = a := by
  unfold cif
  rw [if_pos h]
theorem cif_neg {α : Type} {p : Prop} {a b : α} (h : ¬ p) : cif p a b = b := by
  unfold cif
  rw [if_neg h]
noncomputable def kids (ch : Nat → Prop) (N : Nat) : Nat → List Nat
  | 0 => []
  | d + 1 => cif (ch (N - (d + 1))) ((N - (d + 1)) :: kids ch N d) (kids ch N d)
theorem kids_pos {ch : Nat → Prop} {N d : Nat} (h : ch (N - (d + 1))) : kids ch N (d + 1) = (N - (d + 1)) :: kids ch N d := by
  rw [kids, cif_pos h]
theorem kids_neg {ch : Nat → Prop} {N d : Nat} (h : ¬ ch (N - (d + 1))) : kids ch N (d + 1) = kids ch N d := by
  rw [kids, cif_neg h]
theorem kids_mem {ch : Nat → Prop} {N : Nat} : ∀ (d : Nat), d ≤ N → ∀ x, x ∈ kids ch N d ↔ N - d ≤ x ∧ x < N ∧ ch x := by
  intro d
  induction d with
  | zero => intro _ x; simp [kids]; omega
  | succ d ih =>
    intro hd x
    have ih := ih (by omega) x
    by_cases h : ch (N - (d + 1))
    · rw [kids_pos h, List.mem_cons, ih]
      constructor
      · rintro (rfl | z)
        · exact ⟨by omega, by omega, h⟩
        · exact ⟨by omega, z.2⟩
      · rintro ⟨z1, z2, z3⟩
        by_cases e : x = N - (d + 1)
        · exact Or.inl e
        · exact Or.inr ⟨by omega, z2, z3⟩
    · rw [kids_neg h, ih]
      constructor
      · rintro z
        exact ⟨by omega, z.2⟩
      · rintro ⟨z1, z2, z3⟩
        refine ⟨?_, z2, z3⟩
        by_cases e : x = N - (d + 1)
        · subst e; exact absurd z3 h
        · omega
theorem kids_nodup {ch : Nat → Prop} {N : Nat} : ∀ (d : Nat), d ≤ N → (kids ch N d).Nodup := by
  intro d
  induction d with
  | zero => intro _; simp [kids]
  | succ d ih =>
    intro hd
    by_cases h : ch (N - (d + 1))
    · rw [kids_pos h, List.nodup_cons]
      refine ⟨fun q => ?_, ih (by omega)⟩
      have := (kids_mem d (by omega) _).mp q
      omega
    · rw [kids_neg h]; exact ih (by omega)
theorem nodup_len : ∀ (N : Nat) (l : List Nat), l.Nodup → (∀ x ∈ l, x < N) → l.length ≤ N := by
  intro N
  induction N with
  | zero =>
    intro l _ h
    cases l with
    | nil => simp
    | cons x l => have := h x (by simp); omega
  | succ N ih =>
    intro l hn h
    by_cases hm : N ∈ l
    · have h1 := ih (l.erase N) (hn.erase N) fun x hx => by
        have := (hn.mem_erase_iff).mp hx
        have := h x this.2
        omega
      rw [List.length_erase_of_mem hm] at h1
      omega
    · have := ih l hn fun x hx => by
        have h1 := h x hx
        by_cases e : x = N
        · subst e; exact absurd hx hm
        · omega
      omega
def tr (kid : Nat → List Nat) : Nat → List Nat → List Nat
  | 0, _ => []
  | _ + 1, [] => []
  | k + 1, x :: st => x :: tr kid k (kid x ++ st)
theorem tr_nil (kid : Nat → List Nat) (k : Nat) : tr kid k [] = [] := by cases k <;> rfl
/-- c's parent is b -/
def chd (sc : Nat → Nat → Prop) (N b c : Nat) : Prop := Rch sc okT c ∧ ParIs sc N c b
noncomputable def kid (sc : Nat → Nat → Prop) (N b : Nat) : List Nat := kids (chd sc N b) N N
noncomputable def ordOf (sc : Nat → Nat → Prop) (N : Nat) : List Nat := tr (kid sc N) N [0]
theorem kid_mem {sc : Nat → Nat → Prop} {N b x : Nat} : x ∈ kid sc N b ↔ x < N ∧ chd sc N b x := by
  unfold kid
  rw [kids_mem N (Nat.le_refl _)]
  exact ⟨fun h => h.2, fun h => ⟨by omega, h⟩⟩
/-- the state of going through the tree -/
def Tr (sc : Nat → Nat → Prop) (N : Nat) (st vis : List Nat) : Prop :=
  ((vis ++ st).Nodup) ∧
  (∀ x ∈ vis ++ st, Rch sc okT x) ∧
  (∀ x ∈ vis ++ st, ∀ p, p < N → ParIs sc N x p → p ∈ vis) ∧
  (∀ x ∈ vis, ∀ c, chd sc N x c → c ∈ vis ++ st) ∧
  (0 ∈ vis ++ st) ∧
  (vis ++ tr (kid sc N) (N - vis.length) st = ordOf sc N)
theorem Tr.nd {sc : Nat → Nat → Prop} {N : Nat} {st vis : List Nat} (h : Tr sc N st vis) : (vis ++ st).Nodup := h.1
theorem Tr.re {sc : Nat → Nat → Prop} {N : Nat} {st vis : List Nat} (h : Tr sc N st vis) : ∀ x ∈ vis ++ st, Rch sc okT x := h.2.1
theorem Tr.up {sc : Nat → Nat → Prop} {N : Nat} {st vis : List Nat} (h : Tr sc N st vis) : ∀ x ∈ vis ++ st, ∀ p, p < N → ParIs sc N x p → p ∈ vis := h.2.2.1
theorem Tr.dn {sc : Nat → Nat → Prop} {N : Nat} {st vis : List Nat} (h : Tr sc N st vis) : ∀ x ∈ vis, ∀ c, chd sc N x c → c ∈ vis ++ st := h.2.2.2.1
theorem Tr.z {sc : Nat → Nat → Prop} {N : Nat} {st vis : List Nat} (h : Tr sc N st vis) : 0 ∈ vis ++ st := h.2.2.2.2.1
theorem Tr.od {sc : Nat → Nat → Prop} {N : Nat} {st vis : List Nat} (h : Tr sc N st vis) : vis ++ tr (kid sc N) (N - vis.length) st = ordOf sc N := h.2.2.2.2.2
theorem Tr.mk {sc : Nat → Nat → Prop} {N : Nat} {st vis : List Nat} (nd : (vis ++ st).Nodup) (re : ∀ x ∈ vis ++ st, Rch sc okT x) (up : ∀ x ∈ vis ++ st, ∀ p, p < N → ParIs sc N x p → p ∈ vis) (dn : ∀ x ∈ vis, ∀ c, chd sc N x c → c ∈ vis ++ st) (z : 0 ∈ vis ++ st) (od : vis ++ tr (kid sc N) (N - vis.length) st = ordOf sc N) : Tr sc N st vis := ⟨nd, re, up, dn, z, od⟩
theorem Dm.of0 {sc : Nat → Nat → Prop} {b : Nat} (h : Dm sc b 0) : b = 0 := by
  refine Classical.byContradiction fun q => h.2 (.zero ?_)
  exact fun e => q e.symm
section TR
variable {sc : Nat → Nat → Prop} {N : Nat}
theorem Tr.init : Tr sc N [0] [] :=
  Tr.mk
    (nd := by simp)
    (re := by intro x hx; simp at hx; subst hx; exact .zero trivial)
    (up := by
      intro x hx p hp h
      simp at hx
      subst hx
      rcases h with ⟨-, h⟩ | ⟨h, -⟩
      · exact absurd h.2.1.of0 h.1
      · omega)
    (dn := by intro x hx; simp at hx)
    (z := by simp)
    (od := rfl)
theorem Tr.len {st vis : List Nat} (hN0 : 0 < N) (hsc : ∀ b c, sc b c → c < N) (h : Tr sc N st vis) : vis.length + st.length ≤ N := by
  rw [← List.length_append]
  exact nodup_len N _ h.nd fun x hx => (h.re x hx).lt hN0 hsc
theorem Tr.step {x : Nat} {st vis : List Nat} (hN0 : 0 < N) (hsc : ∀ b c, sc b c → c < N) (h : Tr sc N (x :: st) vis) : Tr sc N (kid sc N x ++ st) (vis ++ [x]) :=
  Tr.mk
    (nd := by
      have h1 := h.nd
      have hx : x < N := (h.re x (by simp)).lt hN0 hsc
      have hnew : ∀ c ∈ kid sc N x, c ∉ vis ++ x :: st := by
        intro c hc hm
        have hcc := (kid_mem.mp hc).2
        have h2 := h.up c hm x hx hcc.2
        rw [List.nodup_append] at h1
        exact h1.2.2 x h2 x (by simp) rfl
      have e : vis ++ [x] ++ (kid sc N x ++ st) = (vis ++ [x]) ++ kid sc N x ++ st := by simp
      have h3 : (vis ++ [x] ++ st).Nodup := by simpa using h1
      rw [List.nodup_append] at h3 ⊢
      refine ⟨h3.1, ?_, ?_⟩
      · rw [List.nodup_append]
        refine ⟨kids_nodup N (Nat.le_refl _), h3.2.1, fun a ha b hb e => ?_⟩
        subst e
        exact hnew a ha (by simp [hb])
      · intro a ha b hb e
        subst e
        rcases List.mem_append.mp hb with hb | hb
        · exact hnew a hb (by
            rcases List.mem_append.mp ha with z | z
            · simp [z]
            · simp at z; simp [z])
        · exact h3.2.2 a ha a hb rfl)
    (re := by
      intro y hy
      simp only [List.mem_append, List.mem_singleton] at hy
      rcases hy with (hy | hy) | hy | hy
      · exact h.re y (by simp [hy])
      · exact h.re y (by simp [hy])
      · exact (kid_mem.mp hy).2.1
      · exact h.re y (by simp [hy]))
    (up := by
      intro y hy p hp hpar
      simp only [List.mem_append, List.mem_singleton] at hy ⊢
      rcases hy with (hy | hy) | hy | hy
      · exact Or.inl (h.up y (by simp [hy]) p hp hpar)
      · exact Or.inl (h.up y (by simp [hy]) p hp hpar)
      · exact Or.inr (hpar.uniq (kid_mem.mp hy).2.2)
      · exact Or.inl (h.up y (by simp [hy]) p hp hpar))
    (dn := by
      intro y hy c hc
      simp only [List.mem_append, List.mem_singleton] at hy ⊢
      rcases hy with hy | rfl
      · have := h.dn y hy c hc
        simp only [List.mem_append, List.mem_cons] at this
        rcases this with z | z | z
        · exact Or.inl (Or.inl z)
        · exact Or.inl (Or.inr z)
        · exact Or.inr (Or.inr z)
      · exact Or.inr (Or.inl (kid_mem.mpr ⟨hc.1.lt hN0 hsc, hc⟩)))
    (z := by
      have := h.z
      rcases List.mem_append.mp this with z | z
      · simp [z]
      · rcases List.mem_cons.mp z with z | z
        · simp [← z]
        · simp [z])
    (od := by
      have h1 := h.len hN0 hsc
      simp only [List.length_cons] at h1
      rw [← h.od, List.length_append, List.length_singleton]
      rw [show N - vis.length = (N - (vis.length + 1)) + 1 by omega]
      simp [tr])
theorem Tr.done {vis : List Nat} (h : Tr sc N [] vis) : vis = ordOf sc N := by
  have := h.od
  rw [tr_nil, List.append_nil] at this
  exact this
/-- what is known of the parents -/
def HasPar (sc : Nat → Nat → Prop) (N : Nat) : Prop := ∀ c, Rch sc okT c → ∃ p, ParIs sc N c p
theorem ParIs.lt {c p : Nat} (hc : Rch sc okT c) (h0 : c ≠ 0) (h : ParIs sc N c p) : p < N ∧ IsPar sc c p := by
  rcases h with h | ⟨-, h⟩
  · exact h
  · exact absurd (Dm.zero hc) (h 0 fun e => h0 e.symm)
theorem ParIs.zero : ParIs sc N 0 N := Or.inr ⟨rfl, fun _ hb h => hb h.of0⟩
/-- how many dominate c -/
noncomputable def dcn (sc : Nat → Nat → Prop) (c : Nat) : Nat → Nat
  | 0 => 0
  | n + 1 => dcn sc c n + cif (Dm sc n c) 1 0
theorem dcn_mono {a b : Nat} (h : Dm sc a b) (n : Nat) : dcn sc a n ≤ dcn sc b n := by
  induction n with
  | zero => exact Nat.le_refl _
  | succ n ih =>
    simp only [dcn]
    by_cases h1 : Dm sc n a
    · rw [cif_pos h1, cif_pos (h1.trans h)]; omega
    · rw [cif_neg h1]; omega
theorem dcn_lt {a b : Nat} (h : Dm sc a b) (hne : a ≠ b) {n : Nat} (hb : b < n) : dcn sc a n < dcn sc b n := by
  induction n with
  | zero => omega
  | succ n ih =>
    simp only [dcn]
    by_cases e : b = n
    · subst e
      have := dcn_mono h b
      rw [cif_neg (fun q => hne (h.anti q)), cif_pos (Dm.refl h.re)]
      omega
    · have := ih (by omega)
      by_cases h1 : Dm sc n a
      · rw [cif_pos h1, cif_pos (h1.trans h)]; omega
      · rw [cif_neg h1]; omega
theorem Tr.all {vis : List Nat} (hN0 : 0 < N) (hsc : ∀ b c, sc b c → c < N) (hP : HasPar sc N) (h : Tr sc N [] vis) : ∀ x, Rch sc okT x → x ∈ vis := by
  have key : ∀ (n x : Nat), dcn sc x N ≤ n → Rch sc okT x → x ∈ vis := by
    intro n
    induction n with
    | zero =>
      intro x h1 h2
      have hx := h2.lt hN0 hsc
      by_cases e : x = 0
      · have := h.z
        rw [List.append_nil] at this
        subst e; exact this
      · obtain ⟨p, hp⟩ := hP x h2
        have hp := (hp.lt h2 e).2
        have := dcn_lt hp.2.1 hp.1 hx
        omega
    | succ n ih =>
      intro x h1 h2
      have hx := h2.lt hN0 hsc
      by_cases e : x = 0
      · have := h.z
        rw [List.append_nil] at this
        subst e; exact this
      · obtain ⟨p, hp⟩ := hP x h2
        have hp2 := (hp.lt h2 e).2
        have := dcn_lt hp2.2.1 hp2.1 hx
        have h3 := h.dn p (ih p (by omega) hp2.2.1.re1) x ⟨h2, hp⟩
        rw [List.append_nil] at h3
        exact h3
  exact fun x hx => key _ x (Nat.le_refl _) hx
end TR
def Stk (W : Nat → Int32) : List Nat → Prop
  | [] => True
  | x :: st => W st.length = nI x ∧ Stk W st
theorem Stk.upd {W : Nat → Int32} {k : Nat} {v : Int32} : ∀ {st : List Nat}, st.length ≤ k → Stk W st → Stk (upd W k v) st := by
  intro st
  induction st with
  | nil => intro _ _; trivial
  | cons x st ih =>
    intro hk h
    simp only [List.length_cons] at hk
    refine ⟨?_, ih (by omega) h.2⟩
    rw [upd_other _ _ (by omega)]
    exact h.1
/-! the class's order, and its whole survey -/
def OrIs (sc : Nat → Nat → Prop) (N : Nat) (orderSize : Int32) (order : Nat → Int32) : Prop := orderSize = nI (ordOf sc N).length ∧ ∀ (j : Nat) (x : Nat), (ordOf sc N)[j]? = some x → order j = nI x
theorem PaIs.has {sc : Nat → Nat → Prop} {N : Nat} {P : Nat → Int32} (hN0 : 0 < N) (hsc : ∀ b c, sc b c → c < N) (h : PaIs sc N P) : HasPar sc N := fun c hc => by
  rcases h c (hc.lt hN0 hsc) with ⟨h1, -⟩ | ⟨-, p, h1, -⟩
  · exact absurd hc h1
  · exact ⟨p, h1⟩
theorem PaIs.ch {sc : Nat → Nat → Prop} {N : Nat} {P : Nat → Int32} (hN : N ≤ 12) (h : PaIs sc N P) {b c : Nat} (hb : b < N) (hc : c < N) : P c = nI b ↔ chd sc N b c := by
  rcases h c hc with ⟨h1, h2⟩ | ⟨h1, p, h2, h3⟩
  · rw [h2]
    exact ⟨fun q => absurd q.symm (jI_m1 (by omega)), fun q => absurd q.1 h1⟩
  · have hp : p ≤ N := by rcases h2 with h2 | h2 <;> omega
    rw [h3, jI_eq (by omega) (by omega)]
    exact ⟨fun q => ⟨h1, q ▸ h2⟩, fun q => h2.uniq q.2⟩
section FO
variable {sc : Nat → Nat → Prop} {N : Nat}
theorem fo_in (hN : N ≤ 12) {P : Nat → Int32} (hP : PaIs sc N P) {b : Nat} (hb : b < N) {st : List Nat} (hlen : (kid sc N b).length + st.length ≤ N) {K : Int32 → Int32 → (Nat → Int32) → Prop} (hK : ∀ W, Stk W (kid sc N b ++ st) → K (nI (kid sc N b ++ st).length) (-1) W) :
    ∀ (d i : Nat) (W : Nat → Int32), i + d = N → Stk W (kids (chd sc N b) N d ++ st) → lpGraph_findOrder_66 N (nI b) P K (i + 1) (nI (kids (chd sc N b) N d ++ st).length) (if i = 0 then -1 else nI (i - 1)) W := by
  intro d i
  induction i generalizing d with
  | zero =>
    intro W hi h
    have : d = N := by omega
    subst this
    refine ⟨fun _ => hK W h, fun q => absurd (by decide) q⟩
  | succ i ih =>
    intro W hi h
    rw [if_neg (by omega), show i + 1 - 1 = i by omega]
    refine ⟨fun q => absurd q (jI_neg (by omega)), fun _ => ?_⟩
    rw [jI_in (by omega), jI_nat (by omega)]
    have e1 : nI i + (-1) = if i = 0 then -1 else nI (i - 1) := by
      by_cases e : i = 0
      · subst e; rfl
      · rw [if_neg e, jI_pred (by omega)]
    rw [e1]
    have e2 : N - (d + 1) = i := by omega
    have hsub : ∀ d', d' ≤ N → (kids (chd sc N b) N d').length ≤ (kid sc N b).length := by
      intro d' hd'
      unfold kid
      have : ∀ k, (kids (chd sc N b) N d').length ≤ (kids (chd sc N b) N (d' + k)).length := by
        intro k
        induction k with
        | zero => exact Nat.le_refl _
        | succ k ih =>
          rw [← Nat.add_assoc]
          by_cases z : chd sc N b (N - (d' + k + 1))
          · rw [kids_pos z, List.length_cons]; omega
          · rw [kids_neg z]; exact ih
      have := this (N - d')
      rwa [show d' + (N - d') = N by omega] at this
    refine ⟨by omega, fun q => ?_, fun q => ?_⟩
    · have hn : ¬ chd sc N b (N - (d + 1)) := by rw [e2]; exact fun z => q ((hP.ch hN hb (by omega)).mpr z)
      have e3 : kids (chd sc N b) N (d + 1) = kids (chd sc N b) N d := kids_neg hn
      rw [← e3]
      exact ih (d + 1) W (by omega) (by rw [e3]; exact h)
    · have hn : chd sc N b (N - (d + 1)) := by rw [e2]; exact (hP.ch hN hb (by omega)).mp q
      have e3 : kids (chd sc N b) N (d + 1) = i :: kids (chd sc N b) N d := by
        rw [kids_pos hn, e2]
      have h4 := hsub (d + 1) (by omega)
      rw [e3, List.length_cons] at h4
      have h5 : (kids (chd sc N b) N d ++ st).length < N := by
        rw [List.length_append]; omega
      rw [jI_in (by omega), jI_nat (by omega), jI_one]
      refine ⟨h5, ?_⟩
      have := ih (d + 1) (upd W (kids (chd sc N b) N d ++ st).length (nI i)) (by omega) (by
        rw [e3]
        exact ⟨upd_same _ _ _, h.upd (Nat.le_refl _)⟩)
      rw [e3] at this
      exact this
theorem fo_sp (hN0 : 0 < N) (hN : N ≤ 12) (hsc : ∀ b c, sc b c → c < N) {P : Nat → Int32} (hP : PaIs sc N P) {O W : Nat → Int32} {post : Int32 → (Nat → Int32) → (Nat → Int32) → Prop} (hp : ∀ sz O W, OrIs sc N sz O → post sz O W) : wpGraph_findOrder N P O W post := by
  have fin : ∀ (vis : List Nat) (O W : Nat → Int32), vis = ordOf sc N → (∀ (j : Nat) (x : Nat), vis[j]? = some x → O j = nI x) → post (nI vis.length) O W := by
    intro vis O W e h
    subst e
    exact hp _ O W ⟨rfl, h⟩
  have key : ∀ (d t : Nat) (st vis : List Nat) (O W : Nat → Int32), t + d = N → vis.length = t → Tr sc N st vis → Stk W st → (∀ (j : Nat) (x : Nat), vis[j]? = some x → O j = nI x) → lpGraph_findOrder_16 N P post (d + 1) (nI st.length) (nI t) (nI t) O W := by
    intro d
    induction d with
    | zero =>
      intro t st vis O W ht hv hT hW hO
      have : t = N := by omega
      subst this
      have hl := hT.len hN0 hsc
      have : st = [] := List.eq_nil_of_length_eq_zero (by omega)
      subst this
      rw [← hv]
      refine ⟨fun _ => fin vis O W hT.done hO, fun q => absurd (Int32.le_refl _) q⟩
    | succ d ih =>
      intro t st vis O W ht hv hT hW hO
      have hl := hT.len hN0 hsc
      refine ⟨fun q => ?_, fun _ => ⟨fun q => ?_, fun q => ?_⟩⟩
      · rw [jI_le (by omega) (by omega)] at q; omega
      · rw [show (0 : Int32) = nI 0 from rfl, jI_le (by omega) (by omega)] at q
        have : st = [] := List.eq_nil_of_length_eq_zero (by omega)
        subst this
        rw [← hv]
        exact fin vis O W hT.done hO
      · cases st with
        | nil => exact absurd (by decide) q
        | cons x st =>
          simp only [List.length_cons] at hl
          rw [List.length_cons, jI_pred (by omega), show st.length + 1 - 1 = st.length by omega, jI_in (by omega), jI_nat (by omega), jI_in (by omega), jI_nat (by omega), jI_one]
          refine ⟨by omega, fun v hv3 => ⟨by omega, fun v4 hv4 => ?_⟩⟩
          have e1 : v = nI x := hv3.trans hW.1
          subst e1
          have hx : x < N := (hT.re x (by simp)).lt hN0 hsc
          have e4 : v4 = if N = 0 then -1 else nI (N - 1) := by
            rw [if_neg (by omega), hv4, show (1 : Int32) = nI 1 from rfl, jI_sub (by omega)]
          subst e4
          have hT' := hT.step hN0 hsc
          have hl' := hT'.len hN0 hsc
          simp only [List.length_append, List.length_singleton] at hl'
          refine ⟨N + 1, ?_⟩
          have := fo_in hN hP hx (st := st) (by omega) (K := fun v1_x99 v4_x99 waiting_x99 => lpGraph_findOrder_16 N P post (d + 1) v1_x99 (nI (t + 1)) (nI (t + 1)) (upd O t (nI x)) waiting_x99) (fun W' hW' => ?_) 0 N W (by omega) hW.2
          · exact this
          · refine ih (t + 1) (kid sc N x ++ st) (vis ++ [x]) _ W' (by omega) (by simp [hv]) hT' hW' fun j y hj => ?_
            by_cases e : j < vis.length
            · rw [List.getElem?_append_left e] at hj
              rw [upd_other _ _ (by omega)]
              exact hO j y hj
            · rw [List.getElem?_append_right (by omega)] at hj
              have hz : j - vis.length < 1 := (List.getElem?_eq_some_iff.mp hj).1
              have : j = t := by omega
              subst this
              rw [show j - vis.length = 0 by omega] at hj
              simp at hj
              subst hj
              rw [upd_same]
  have h0 : vp_in 0 N := by rw [show (0 : Int32) = nI 0 from rfl, jI_in (by omega)]; exact hN0
  exact ⟨h0, N + 1, key N 0 [0] [] O _ (by omega) rfl Tr.init ⟨by rw [show (Int32.toNatClampNeg 0) = 0 from rfl]; exact upd_same _ _ _, trivial⟩ (fun j x hj => by simp at hj)⟩
end FO
/-- all that the class's graph holds is what the program's ends say -/
def SurvIs (N : Nat) (yes no : Nat → Int32) (orderSize reached : Int32) (forerunners blw frontiers parents order : Nat → Int32) : Prop :=
  (∀ c, bt reached c = true ↔ Rch (gsc N yes no) okT c) ∧
  (FoIs (gsc N yes no) N forerunners) ∧
  (BlIs (gsc N yes no) N blw) ∧
  (FnIs (gsc N yes no) N frontiers) ∧
  (PaIs (gsc N yes no) N parents) ∧
  (OrIs (gsc N yes no) N orderSize order)
theorem SurvIs.re {N : Nat} {yes no : Nat → Int32} {orderSize reached : Int32} {forerunners blw frontiers parents order : Nat → Int32} (h : SurvIs N yes no orderSize reached forerunners blw frontiers parents order) : ∀ c, bt reached c = true ↔ Rch (gsc N yes no) okT c := h.1
theorem SurvIs.fo {N : Nat} {yes no : Nat → Int32} {orderSize reached : Int32} {forerunners blw frontiers parents order : Nat → Int32} (h : SurvIs N yes no orderSize reached forerunners blw frontiers parents order) : FoIs (gsc N yes no) N forerunners := h.2.1
theorem SurvIs.bl {N : Nat} {yes no : Nat → Int32} {orderSize reached : Int32} {forerunners blw frontiers parents order : Nat → Int32} (h : SurvIs N yes no orderSize reached forerunners blw frontiers parents order) : BlIs (gsc N yes no) N blw := h.2.2.1
theorem SurvIs.fn {N : Nat} {yes no : Nat → Int32} {orderSize reached : Int32} {forerunners blw frontiers parents order : Nat → Int32} (h : SurvIs N yes no orderSize reached forerunners blw frontiers parents order) : FnIs (gsc N yes no) N frontiers := h.2.2.2.1
theorem SurvIs.pa {N : Nat} {yes no : Nat → Int32} {orderSize reached : Int32} {forerunners blw frontiers parents order : Nat → Int32} (h : SurvIs N yes no orderSize reached forerunners blw frontiers parents order) : PaIs (gsc N yes no) N parents := h.2.2.2.2.1
theorem SurvIs.od {N : Nat} {yes no : Nat → Int32} {orderSize reached : Int32} {forerunners blw frontiers parents order : Nat → Int32} (h : SurvIs N yes no orderSize reached forerunners blw frontiers parents order) : OrIs (gsc N yes no) N orderSize order := h.2.2.2.2.2
theorem SurvIs.mk {N : Nat} {yes no : Nat → Int32} {orderSize reached : Int32} {forerunners blw frontiers parents order : Nat → Int32} (re : ∀ c, bt reached c = true ↔ Rch (gsc N yes no) okT c) (fo : FoIs (gsc N yes no) N forerunners) (bl : BlIs (gsc N yes no) N blw) (fn : FnIs (gsc N yes no) N frontiers) (pa : PaIs (gsc N yes no) N parents) (od : OrIs (gsc N yes no) N orderSize order) : SurvIs N yes no orderSize reached forerunners blw frontiers parents order := ⟨re, fo, bl, fn, pa, od⟩
theorem survey_sp {N : Nat} {yes no : Nat → Int32} (hN0 : 0 < N) (hN : N ≤ 12) (hE : GE N yes no) {f b fr p o w : Nat → Int32} {post : Int32 → Int32 → (Nat → Int32) → (Nat → Int32) → (Nat → Int32) → (Nat → Int32) → (Nat → Int32) → (Nat → Int32) → Prop} (hp : ∀ orderSize reached forerunners blw frontiers parents order waiting, SurvIs N yes no orderSize reached forerunners blw frontiers parents order → post orderSize reached forerunners blw frontiers parents order waiting) : wpGraph_survey N yes no f b fr p o w post := by
  refine gr_without (ok := okT) hN0 hN hE (Or.inl ⟨rfl, rfl⟩) fun R hR => fr_sp hN0 hN hE hR fun F hF => ⟨N + 1, ?_⟩
  refine bl_sp hN0 hN hE hR (fun B hB => ⟨N + 1, ?_⟩) N 0 b (by omega) (fun x hx => by omega)
  refine pf_sp hN0 hN hR hF hB (fun Fn P hFn hPa => ?_) N 0 fr p (by omega) (fun x hx => by omega) (fun x hx => by omega)
  exact fo_sp hN0 hN gsc_lt hPa fun sz O W hO => hp _ _ _ _ _ _ _ _ ⟨hR, hF, hB, hFn, hPa, hO⟩
