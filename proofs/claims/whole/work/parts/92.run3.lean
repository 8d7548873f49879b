/-! running in the reference -/
/-- what a slot holds of a run: the numbers said, and how it stands; other slots are as they were -/
def SI (s : Nat) (said0 sc0 fa0 said sc fa : Nat → Int32) (out : List Int32) (oc : Int32) : Prop := sc s = nI out.length ∧ OutIs said (50 * s) out ∧ fa s = oc ∧ (∀ j, ¬ (50 * s ≤ j ∧ j < 50 * s + 50) → said j = said0 j) ∧ ∀ j, j ≠ s → sc j = sc0 j ∧ fa j = fa0 j
theorem SI.fail {s : Nat} {said0 sc0 fa0 said sc fa : Nat → Int32} {out : List Int32} {oc : Int32} (h : SI s said0 sc0 fa0 said sc fa out oc) (x : Int32) : SI s said0 sc0 fa0 said sc (upd fa s x) out x := ⟨h.1, h.2.1, upd_same _ _ _, h.2.2.2.1, fun j hj => ⟨(h.2.2.2.2 j hj).1, by rw [upd_other _ _ hj]; exact (h.2.2.2.2 j hj).2⟩⟩
theorem SI.say {s : Nat} {said0 sc0 fa0 said sc fa : Nat → Int32} {out : List Int32} {oc : Int32} (h : SI s said0 sc0 fa0 said sc fa out oc) (hl : out.length < 50) (x : Int32) : SI s said0 sc0 fa0 (upd said (50 * s + out.length) x) (upd sc s (nI (out.length + 1))) fa (out ++ [x]) oc := by
  refine ⟨by rw [upd_same, List.length_append, List.length_singleton], h.2.1.snoc hl x, h.2.2.1, fun j hj => ?_, fun j hj => ?_⟩
  · rw [upd_other _ _ (by omega)]; exact h.2.2.2.1 j hj
  · rw [upd_other _ _ hj]; exact h.2.2.2.2 j hj
section MR
variable {N : Nat} {stepCount kind target first second forkVariable yes no starts mMany mKinds mVs mWs mXs mEnds mEndVariable mYes mNo mStarts meetingNames meetingUses stepNames firstUses secondUses endUses homeBlock homePlace mMeets mSources mSet mUseW mUseX mEndUse : Nat → Int32} {mGone mIsName : Nat → Bool} {mNameBlock mNameStep : Nat → Int32} {named : Bool} {TO P1 P2 PE : Nat → Int32} {meet : Nat → Nat → (Nat → Int32) → (Nat → Int32)}
theorem vOf_at {vals : Nat → Int32} {m : Nat} (hm : m < 600) : vOf vals (nI m) = vals m := by
  unfold vOf
  rw [if_neg (jI_m1 (by omega)), jI_nat (by omega)]
theorem md_steps (hN0 : 0 < N) (hN : N ≤ 12) (hP : PR N stepCount kind target first second forkVariable yes no starts mMany mKinds mVs mWs mXs mEnds mEndVariable mYes mNo mStarts) (hW : WayR N stepCount kind target first second forkVariable yes no meetingNames meetingUses stepNames firstUses secondUses endUses named TO P1 P2 PE meet) (hF : named = true → FR N stepCount kind forkVariable yes no meetingNames meetingUses stepNames firstUses secondUses endUses homeBlock homePlace mMeets mSources mSet mUseW mUseX mEndUse mGone mIsName mNameBlock mNameStep) {s : Nat} (hs : s < 3) {said0 sc0 fa0 : Nat → Int32} {b : Nat} (hb : b < N) (hbr : named = true → Rch (gsc N yes no) okT b) {post : Bool → (Nat → Int32) → (Nat → Int32) → (Nat → Int32) → (Nat → Int32) → Prop} {n : Nat} (hn : n ≤ 6) (en : stepCount b = nI n) :
    ∀ (d k : Nat) (said sc fa values vals : Nat → Int32) (out : List Int32), k + d = n → Ag values vals → SI s said0 sc0 fa0 said sc fa out 0 → (∀ over said' sc' fa' values', (over = true ↔ ¬ (sts kind first TO P1 P2 b d k vals out).2.2 = 0) → Ag values' (sts kind first TO P1 P2 b d k vals out).1 → SI s said0 sc0 fa0 said' sc' fa' (sts kind first TO P1 P2 b d k vals out).2.1 (sts kind first TO P1 P2 b d k vals out).2.2 → post over said' sc' fa' values') → lpMd_doSteps_5 (nI b) named (nI s) mMany mKinds mVs mWs mXs mSet mUseW mUseX mGone post (d + 1) (nI (6 * b + k)) false said sc fa values := by
  have em : mMany b = nI n := by
    obtain ⟨k, -, h1, h2⟩ := hP.ct b hb
    rw [h2, ← h1, en]
  intro d
  induction d with
  | zero =>
    intro k said sc fa values vals out hk hA hSI hp
    unfold lpMd_doSteps_5
    rw [jI_in (by omega), jI_nat (by omega), em, jt6, jI_mul, jI_add, show k = n by omega]
    exact ⟨by omega, fun _ => hp false said sc fa values ⟨fun z => by (cases z), fun z => absurd rfl z⟩ hA hSI, fun q => absurd (Int32.le_refl _) q⟩
  | succ d ih =>
    intro k said sc fa values vals out hk hA hSI hp
    have hk6 : k < 6 := by omega
    have hlt : nI k < stepCount b := by rw [en, jI_lt (by omega) (by omega)]; omega
    have st := hP.st b hb k hk6 hlt
    have sp := st.2.2.2.2
    obtain ⟨kk, hkk, ekk⟩ := sp_kind sp
    have hol := hSI.2.1.1
    have hsts : sts kind first TO P1 P2 b (d + 1) k vals out = if (stp (kind (b * 6 + k)) (first (b * 6 + k)) (TO (b * 6 + k)) (P1 (b * 6 + k)) (P2 (b * 6 + k)) vals out).2.2 = 0 then sts kind first TO P1 P2 b d (k + 1) (stp (kind (b * 6 + k)) (first (b * 6 + k)) (TO (b * 6 + k)) (P1 (b * 6 + k)) (P2 (b * 6 + k)) vals out).1 (stp (kind (b * 6 + k)) (first (b * 6 + k)) (TO (b * 6 + k)) (P1 (b * 6 + k)) (P2 (b * 6 + k)) vals out).2.1 else stp (kind (b * 6 + k)) (first (b * 6 + k)) (TO (b * 6 + k)) (P1 (b * 6 + k)) (P2 (b * 6 + k)) vals out := rfl
    rw [hsts] at hp
    -- go on behind the step
    have go0 : ∀ said' sc' fa' values', (stp (kind (b * 6 + k)) (first (b * 6 + k)) (TO (b * 6 + k)) (P1 (b * 6 + k)) (P2 (b * 6 + k)) vals out).2.2 = 0 → Ag values' (stp (kind (b * 6 + k)) (first (b * 6 + k)) (TO (b * 6 + k)) (P1 (b * 6 + k)) (P2 (b * 6 + k)) vals out).1 → SI s said0 sc0 fa0 said' sc' fa' (stp (kind (b * 6 + k)) (first (b * 6 + k)) (TO (b * 6 + k)) (P1 (b * 6 + k)) (P2 (b * 6 + k)) vals out).2.1 0 → lpMd_doSteps_5 (nI b) named (nI s) mMany mKinds mVs mWs mXs mSet mUseW mUseX mGone post (d + 1) (nI (6 * b + (k + 1))) false said' sc' fa' values' := by
      intro said' sc' fa' values' z hA' hSI'
      rw [if_pos z] at hp
      exact ih (k + 1) said' sc' fa' values' _ _ (by omega) hA' hSI' hp
    have goX : ∀ said' sc' fa' values', ¬ (stp (kind (b * 6 + k)) (first (b * 6 + k)) (TO (b * 6 + k)) (P1 (b * 6 + k)) (P2 (b * 6 + k)) vals out).2.2 = 0 → Ag values' (stp (kind (b * 6 + k)) (first (b * 6 + k)) (TO (b * 6 + k)) (P1 (b * 6 + k)) (P2 (b * 6 + k)) vals out).1 → SI s said0 sc0 fa0 said' sc' fa' (stp (kind (b * 6 + k)) (first (b * 6 + k)) (TO (b * 6 + k)) (P1 (b * 6 + k)) (P2 (b * 6 + k)) vals out).2.1 (stp (kind (b * 6 + k)) (first (b * 6 + k)) (TO (b * 6 + k)) (P1 (b * 6 + k)) (P2 (b * 6 + k)) vals out).2.2 → lpMd_doSteps_5 (nI b) named (nI s) mMany mKinds mVs mWs mXs mSet mUseW mUseX mGone post (d + 1) (nI (6 * b + (k + 1))) true said' sc' fa' values' := by
      intro said' sc' fa' values' z hA' hSI'
      rw [if_neg z] at hp
      have fin := hp true said' sc' fa' values' ⟨fun _ => z, fun _ => rfl⟩ hA' hSI'
      unfold lpMd_doSteps_5
      rw [jI_in (by omega), jI_nat (by omega), em, jt6, jI_mul, jI_add]
      exact ⟨by omega, fun _ => fin, fun _ => ⟨fun _ => fin, fun w => by (cases w)⟩⟩
    unfold lpMd_doSteps_5
    rw [jI_in (by omega), jI_nat (by omega), em, jt6, jI_mul, jI_add]
    refine ⟨by omega, fun q => ?_, fun _ => ⟨fun q => by (cases q), fun _ => ?_⟩⟩
    · rw [jI_le (by omega) (by omega)] at q; omega
    rw [jI_in (by omega), jI_nat (by omega), jI_one, show 6 * b + k + 1 = 6 * b + (k + 1) by omega, show 6 * b + k = b * 6 + k by omega, ← st.1, ← st.2.1, ← st.2.2.1, ← st.2.2.2.1]
    have le1 : kind (b * 6 + k) ≤ 1 ↔ kind (b * 6 + k) < 2 := by
      rw [ekk, jt1, jt2, jI_le (by omega) (by omega), jI_lt (by omega) (by omega)]; omega
    have le7 : 7 ≤ kind (b * 6 + k) ↔ 6 < kind (b * 6 + k) := by
      rw [ekk, jt7, jt6, jI_le (by omega) (by omega), jI_lt (by omega) (by omega)]; omega
    have le0 : kind (b * 6 + k) ≤ 0 ↔ kind (b * 6 + k) = 0 := by
      rw [ekk, jt0, jI_le (by omega) (by omega), jI_eq (by omega) (by omega)]; omega
    rw [le1, le7, le0]
    -- the step is done
    have J40 : (named = true → mGone (b * 6 + k) = false) → b * 6 + k < 72 ∧ (∃ J80 : Int32 → Prop, (∀ t80_0, (J80 t80_0) → b * 6 + k < 72 ∧ (∃ J134 : Int32 → Prop, (∀ t134_0, (J134 t134_0) → b * 6 + k < 72 ∧ ((¬ (kind (b * 6 + k)) = 7 → b * 6 + k < 72 ∧ (∃ J188 : Int32 → Bool → (Nat → Int32) → Prop, (∀ t188_0 (mOver_j188 : Bool) mFailed_j188, (J188 t188_0 mOver_j188 mFailed_j188) → ((mOver_j188 = true → (lpMd_doSteps_5 (nI b) named (nI s) mMany mKinds mVs mWs mXs mSet mUseW mUseX mGone post (d + 1) (nI (6 * b + (k + 1))) mOver_j188 said sc mFailed_j188 values)) ∧ (mOver_j188 = false → ((named = false → b * 6 + k < 72 ∧ vp_in (100 * (target (b * 6 + k))) 600 ∧ (lpMd_doSteps_5 (nI b) named (nI s) mMany mKinds mVs mWs mXs mSet mUseW mUseX mGone post (d + 1) (nI (6 * b + (k + 1))) mOver_j188 said sc mFailed_j188 (upd values (Int32.toNatClampNeg (100 * (target (b * 6 + k)))) t188_0))) ∧ (named = true → b * 6 + k < 72 ∧ vp_in (mSet (b * 6 + k)) 600 ∧ (lpMd_doSteps_5 (nI b) named (nI s) mMany mKinds mVs mWs mXs mSet mUseW mUseX mGone post (d + 1) (nI (6 * b + (k + 1))) mOver_j188 said sc mFailed_j188 (upd values (Int32.toNatClampNeg (mSet (b * 6 + k))) t188_0))))))) ∧ ((¬ (kind (b * 6 + k)) = 0 → b * 6 + k < 72 ∧ wpMd_result (nI s) false fa (kind (b * 6 + k)) t80_0 t134_0 (fun r185 (mOver_185 : Bool) mFailed_185 => (J188 r185 mOver_185 mFailed_185))) ∧ ((kind (b * 6 + k)) = 0 → b * 6 + k < 72 ∧ (J188 (first (b * 6 + k)) false fa))))) ∧ ((kind (b * 6 + k)) = 7 → wpMd_say (nI s) false said sc fa t80_0 (fun (mOver_150 : Bool) mSaid_150 mSaidCount_150 mFailed_150 => (lpMd_doSteps_5 (nI b) named (nI s) mMany mKinds mVs mWs mXs mSet mUseW mUseX mGone post (d + 1) (nI (6 * b + (k + 1))) mOver_150 mSaid_150 mSaidCount_150 mFailed_150 values))))) ∧ ∃ J133 : Prop, (J133 → (J134 0)) ∧ (((kind (b * 6 + k)) < 2 → (J133)) ∧ (¬ (kind (b * 6 + k)) < 2 → b * 6 + k < 72 ∧ ((6 < (kind (b * 6 + k)) → (J133)) ∧ (¬ 6 < (kind (b * 6 + k)) → ((named = false → b * 6 + k < 72 ∧ vp_in (100 * (second (b * 6 + k))) 600 ∧ (J134 (values (Int32.toNatClampNeg (100 * (second (b * 6 + k))))))) ∧ (named = true → b * 6 + k < 72 ∧ vp_in (mUseX (b * 6 + k)) 600 ∧ (J134 (values (Int32.toNatClampNeg (mUseX (b * 6 + k)))))))))))) ) ∧ (((kind (b * 6 + k)) = 0 → (J80 0)) ∧ (¬ (kind (b * 6 + k)) = 0 → ((named = false → b * 6 + k < 72 ∧ vp_in (100 * (first (b * 6 + k))) 600 ∧ (J80 (values (Int32.toNatClampNeg (100 * (first (b * 6 + k))))))) ∧ (named = true → b * 6 + k < 72 ∧ vp_in (mUseW (b * 6 + k)) 600 ∧ (J80 (values (Int32.toNatClampNeg (mUseW (b * 6 + k)))))))))) := by
      intro hgone
      -- a place by its way
      have place : ∀ (p : Int32) (m : Nat), m < 600 → p = nI m → vp_in p 600 ∧ values (Int32.toNatClampNeg p) = vOf vals p := by
        intro p m hm e
        subst e
        rw [jI_in (by omega), jI_nat (by omega), vOf_at hm]
        exact ⟨hm, hA m hm⟩
      have g100 : ∀ {x : Int32}, gB 6 x → ∃ m, m < 600 ∧ 100 * x = nI m := by
        rintro x ⟨v, hv, rfl⟩
        exact ⟨100 * v, by omega, by rw [show (100 : Int32) = nI 100 from rfl, jI_mul]⟩
      refine ⟨by omega, fun t => (¬ kind (b * 6 + k) = 0 → t = vOf vals (P1 (b * 6 + k))), fun a ha => ⟨by omega, fun t => (¬ kind (b * 6 + k) < 2 → ¬ 6 < kind (b * 6 + k) → t = vOf vals (P2 (b * 6 + k))), fun c hcx => ⟨by omega, fun q7 => ⟨by omega, ?_⟩, fun q7 => ?_⟩, (kind (b * 6 + k) < 2 ∨ 6 < kind (b * 6 + k)), fun z z1 z2 => absurd z (fun w => w.elim z1 z2), fun z => Or.inl z, fun z => ⟨by omega, fun z2 => Or.inr z2, fun z2 => ⟨fun hnm => ?_, fun hnm => ?_⟩⟩⟩, fun z z1 => absurd z z1, fun z => ⟨fun hnm => ?_, fun hnm => ?_⟩⟩
      · -- a step that sets
        refine ⟨fun t over fa' => (over = true ∧ fa' = upd fa s 1 ∧ kind (b * 6 + k) = 5 ∧ vOf vals (P2 (b * 6 + k)) = 0) ∨ (over = false ∧ fa' = fa ∧ ¬ (kind (b * 6 + k) = 5 ∧ vOf vals (P2 (b * 6 + k)) = 0) ∧ t = if kind (b * 6 + k) = 0 then first (b * 6 + k) else rk (kind (b * 6 + k)) (vOf vals (P1 (b * 6 + k))) (vOf vals (P2 (b * 6 + k)))), fun t over fa' hJ => ?_, fun q0 => ⟨by omega, ?_⟩, fun q0 => ⟨by omega, Or.inr ⟨rfl, rfl, fun w => by rw [q0] at w; exact absurd w.1 (by decide), by rw [if_pos q0]⟩⟩⟩
        · have es : stp (kind (b * 6 + k)) (first (b * 6 + k)) (TO (b * 6 + k)) (P1 (b * 6 + k)) (P2 (b * 6 + k)) vals out = if kind (b * 6 + k) = 5 ∧ vOf vals (P2 (b * 6 + k)) = 0 then (vals, out, 1) else if TO (b * 6 + k) = -1 then (vals, out, 0) else (upd vals (TO (b * 6 + k)).toNatClampNeg (if kind (b * 6 + k) = 0 then first (b * 6 + k) else rk (kind (b * 6 + k)) (vOf vals (P1 (b * 6 + k))) (vOf vals (P2 (b * 6 + k)))), out, 0) := by
            unfold stp
            rw [if_neg q7]
          rw [es] at go0 goX
          rcases hJ with ⟨rfl, rfl, h5, hz⟩ | ⟨rfl, hfa, hnz, ht⟩
          · rw [if_pos ⟨h5, hz⟩] at go0 goX
            exact ⟨fun _ => goX said sc _ values one_not hA (hSI.fail 1), fun w => by (cases w)⟩
          · rw [if_neg hnz] at go0 goX
            rw [hfa, ht]
            refine ⟨fun w => by (cases w), fun _ => ⟨fun hnm => ?_, fun hnm => ?_⟩⟩
            · rcases hW with ⟨w0, w1, w2, w3, w4, w5⟩ | ⟨w0, -⟩
              · have et : TO (b * 6 + k) = 100 * target (b * 6 + k) := by rw [w1]; unfold TOu; rw [if_neg q7]
                obtain ⟨m, hm, e⟩ := g100 (sp.2.2.1 q7)
                rw [et, e, if_neg (jI_m1 (by omega)), jI_nat (by omega)] at go0
                rw [e, jI_in (by omega), jI_nat (by omega)]
                exact ⟨by omega, hm, go0 said sc fa _ rfl (hA.upd _ _) hSI⟩
              · rw [w0] at hnm; cases hnm
            · rcases hW with ⟨w0, -⟩ | ⟨w0, w1, w2, w3, w4, w5⟩
              · rw [w0] at hnm; cases hnm
              · have F := hF w0
                have se := F.se b hb k hk6 hlt
                rw [w1] at go0
                rcases F.gn b hb (hbr w0) k hk6 hlt with z | z
                · rw [hgone w0] at z; cases z.1
                · rcases se.2 with w | ⟨m, hm, e, -⟩
                  · exact absurd w (z.2.1 q7)
                  · rw [e, if_neg (jI_m1 (by omega)), jI_nat (by omega)] at go0
                    rw [se.1, e, jI_in (by omega), jI_nat (by omega)]
                    exact ⟨by omega, hm, go0 said sc fa _ rfl (hA.upd _ _) hSI⟩
        · -- what is reckoned
          have ea := ha q0
          subst ea
          unfold wpMd_result wpMd_fail
          rw [jI_in (by omega), jI_nat (by omega)]
          refine ⟨¬ (kind (b * 6 + k) = 5 ∧ vOf vals (P2 (b * 6 + k)) = 0), fun hnz => ?_, fun z w => z w.1, fun z => ?_⟩
          · refine ⟨fun n1 => ⟨fun n2 => ⟨fun n3 => ⟨fun n4 => ⟨fun n5 => ?_, fun n5 => ?_⟩, fun n4 => ?_⟩, fun n3 => ?_⟩, fun n2 => ?_⟩, fun n1 => ?_⟩
            · have n6 : kind (b * 6 + k) = 6 := by
                rw [ekk] at q0 n1 n2 n3 n4 n5 q7 ⊢
                rw [jt0, jI_eq (by omega) (by omega)] at q0
                rw [jt1, jI_eq (by omega) (by omega)] at n1
                rw [jt2, jI_eq (by omega) (by omega)] at n2
                rw [show (3 : Int32) = nI 3 from rfl, jI_eq (by omega) (by omega)] at n3
                rw [show (4 : Int32) = nI 4 from rfl, jI_eq (by omega) (by omega)] at n4
                rw [jt5, jI_eq (by omega) (by omega)] at n5
                rw [jt7, jI_eq (by omega) (by omega)] at q7
                rw [jt6, jI_eq (by omega) (by omega)]
                omega
              have ec := hcx (by rw [n6]; decide) (by rw [n6]; decide)
              subst ec
              refine ⟨fun z => Or.inr ⟨rfl, rfl, hnz, ?_⟩, fun z => Or.inr ⟨rfl, rfl, hnz, ?_⟩⟩
              · rw [if_neg q0]; unfold rk; rw [if_neg n2, if_neg n3, if_neg n4, if_neg n5, if_pos n6, if_pos z]
              · rw [if_neg q0]; unfold rk; rw [if_neg n2, if_neg n3, if_neg n4, if_neg n5, if_pos n6, if_neg z]
            · have ec := hcx (by rw [n5]; decide) (by rw [n5]; decide)
              subst ec
              have hx : ¬ vOf vals (P2 (b * 6 + k)) = 0 := fun z => hnz ⟨n5, z⟩
              refine ⟨hx, Or.inr ⟨rfl, rfl, hnz, ?_⟩⟩
              rw [if_neg q0]; unfold rk; rw [if_neg n2, if_neg n3, if_neg n4, if_pos n5, if_neg hx]
            · have ec := hcx (by rw [n4]; decide) (by rw [n4]; decide)
              subst ec
              refine Or.inr ⟨rfl, rfl, hnz, ?_⟩
              rw [if_neg q0]; unfold rk; rw [if_neg n2, if_neg n3, if_pos n4]
            · have ec := hcx (by rw [n3]; decide) (by rw [n3]; decide)
              subst ec
              refine Or.inr ⟨rfl, rfl, hnz, ?_⟩
              rw [if_neg q0]; unfold rk; rw [if_neg n2, if_pos n3]
            · have ec := hcx (by rw [n2]; decide) (by rw [n2]; decide)
              subst ec
              refine Or.inr ⟨rfl, rfl, hnz, ?_⟩
              rw [if_neg q0]; unfold rk; rw [if_pos n2]
            · refine Or.inr ⟨rfl, rfl, hnz, ?_⟩
              rw [if_neg q0]; unfold rk
              rw [if_neg (by rw [n1]; decide), if_neg (by rw [n1]; decide), if_neg (by rw [n1]; decide), if_neg (by rw [n1]; decide), if_neg (by rw [n1]; decide)]
          · have ec := hcx (by rw [z]; decide) (by rw [z]; decide)
            subst ec
            exact ⟨fun w w2 => w w2.2, fun w => ⟨hs, Or.inl ⟨rfl, rfl, z, w⟩⟩⟩
      · -- a step that says
        have ea := ha (by rw [q7]; decide)
        subst ea
        have es : stp (kind (b * 6 + k)) (first (b * 6 + k)) (TO (b * 6 + k)) (P1 (b * 6 + k)) (P2 (b * 6 + k)) vals out = if out.length < 50 then (vals, out ++ [vOf vals (P1 (b * 6 + k))], 0) else (vals, out, 2) := by
          unfold stp
          rw [if_pos q7]
        rw [es] at go0 goX
        unfold wpMd_say wpMd_fail
        rw [jI_in (by omega), jI_nat (by omega), hSI.1, show (50 : Int32) = nI 50 from rfl, jI_mul, jI_add, jI_in (by omega), jI_nat (by omega), jI_one, jI_eq (by omega) (by omega)]
        refine ⟨hs, fun z => ⟨hs, by omega, hs, hs, ?_⟩, fun z => ⟨hs, ?_⟩⟩
        · rw [if_pos (by omega)] at go0
          exact go0 _ _ fa values rfl hA (hSI.say (by omega) _)
        · rw [if_neg (by omega)] at goX
          exact goX said sc _ values two_not hA (hSI.fail 2)
      · rcases hW with ⟨w0, w1, w2, w3, w4, w5⟩ | ⟨w0, -⟩
        · have e2 : P2 (b * 6 + k) = 100 * second (b * 6 + k) := by rw [w3]; unfold P2u; rw [if_pos ⟨z, z2⟩]
          obtain ⟨m, hm, e⟩ := g100 (sp.2.2.2.2 z z2)
          have := place _ m hm e
          exact ⟨by omega, this.1, fun _ _ => by rw [e2]; exact this.2⟩
        · rw [w0] at hnm; cases hnm
      · rcases hW with ⟨w0, -⟩ | ⟨w0, w1, w2, w3, w4, w5⟩
        · rw [w0] at hnm; cases hnm
        · have F := hF w0
          have us := F.us b hb k hk6
          rcases F.gn b hb (hbr w0) k hk6 hlt with g | g
          · rw [hgone w0] at g; cases g.1
          · rcases us.2.2.2.1.pv with w | ⟨m, hm, e⟩
            · exact absurd w (g.2.2.2 z z2)
            · have := place _ m hm e
              rw [us.2.1]
              exact ⟨by omega, this.1, fun _ _ => by rw [w3]; exact this.2⟩
      · rcases hW with ⟨w0, w1, w2, w3, w4, w5⟩ | ⟨w0, -⟩
        · have e1 : P1 (b * 6 + k) = 100 * first (b * 6 + k) := by rw [w2]; unfold P1u; rw [if_neg z]
          obtain ⟨m, hm, e⟩ := g100 (sp.2.2.2.1 z)
          have := place _ m hm e
          exact ⟨by omega, this.1, fun _ => by rw [e1]; exact this.2⟩
        · rw [w0] at hnm; cases hnm
      · rcases hW with ⟨w0, -⟩ | ⟨w0, w1, w2, w3, w4, w5⟩
        · rw [w0] at hnm; cases hnm
        · have F := hF w0
          have us := F.us b hb k hk6
          rcases F.gn b hb (hbr w0) k hk6 hlt with g | g
          · rw [hgone w0] at g; cases g.1
          · rcases us.2.2.1.pv with w | ⟨m, hm, e⟩
            · exact absurd w (g.2.2.1 z)
            · have := place _ m hm e
              rw [us.1]
              exact ⟨by omega, this.1, fun _ => by rw [w2]; exact this.2⟩
    refine ⟨named = true → mGone (b * 6 + k) = false, J40, fun z w => by (rw [z] at w; cases w), fun hnm => ⟨by omega, fun hg => ?_, fun hg _ => hg⟩⟩
    -- a copy that is gone
    rcases hW with ⟨w0, -⟩ | ⟨w0, w1, w2, w3, w4, w5⟩
    · rw [w0] at hnm; cases hnm
    · have F := hF w0
      rcases F.gn b hb (hbr w0) k hk6 hlt with g | g
      · have es : stp (kind (b * 6 + k)) (first (b * 6 + k)) (TO (b * 6 + k)) (P1 (b * 6 + k)) (P2 (b * 6 + k)) vals out = (vals, out, 0) := by
          unfold stp
          rw [if_neg (by rw [g.2.1]; decide), if_neg (fun w => by rw [g.2.1] at w; exact absurd w.1 (by decide)), if_pos (by rw [w1]; exact g.2.2.1)]
        rw [es] at go0
        exact go0 said sc fa values rfl hA hSI
      · rw [hg] at g; cases g.1
end MR
