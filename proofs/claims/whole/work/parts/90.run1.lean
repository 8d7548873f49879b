theorem md_copies_sp {N : Nat} (hN : N ≤ 12) {mForm : Bool} {mMeets mSources : Nat → Int32} {v1 v2 : Int32} {post : Int32 → Int32 → Prop} (h0 : mForm = false → post 0 1) (h1 : mForm = true → ¬ (gB N v1 ∧ gB (N + 1) v2) → post 0 2) (h2 : mForm = true → ∀ b p, b < N → p ≤ N → v1 = nI b → v2 = nI p → ∃ k, lpMd_copies_57 (nI b) (nI p) 0 mMeets mSources post k 0 0 0) : wpMd_copies N mForm mMeets mSources v1 v2 post := by
  have e3 := @leN_iff N hN v2
  refine ⟨fun t => (t = 1 ∧ mForm = false) ∨ (t = 2 ∧ mForm = true ∧ ¬ (gB N v1 ∧ gB (N + 1) v2)) ∨ (t = 0 ∧ mForm = true ∧ gB N v1 ∧ gB (N + 1) v2), fun t ht => ?_, fun hm => noBlock_sp hN (fun g1 => ⟨fun q => by (cases q), fun _ => ⟨fun q => Or.inr (Or.inl ⟨rfl, hm, fun z => (e3.mp z.2).1 q⟩), fun q => ⟨fun q2 => Or.inr (Or.inr ⟨rfl, hm, g1, e3.mpr ⟨q, q2⟩⟩), fun q2 => Or.inr (Or.inl ⟨rfl, hm, fun z => q2 (e3.mp z.2).2⟩)⟩⟩⟩) (fun g1 => ⟨fun _ => Or.inr (Or.inl ⟨rfl, hm, fun z => g1 z.1⟩), fun q => by (cases q)⟩), fun hm => Or.inl ⟨rfl, hm⟩⟩
  rcases ht with ⟨rfl, hm⟩ | ⟨rfl, hm, g⟩ | ⟨rfl, hm, ⟨b, hb, rfl⟩, p, hp, rfl⟩
  · exact ⟨fun q => absurd q one_not, fun _ => h0 hm⟩
  · exact ⟨fun q => absurd q two_not, fun _ => h1 hm g⟩
  · exact ⟨fun _ => h2 hm b p hb (by omega) rfl rfl, fun q => absurd rfl q⟩
theorem k_copies {N L : Nat} {xs : Nat → Int32} {v4 : Int32} (hN0 : 0 < N) (hN : N ≤ 12) (hv : ∀ j, j < 6 → vp_in (v4 + nI j) L) (formStands : Bool) (stepCount : Nat → Int32) (kind : Nat → Int32) (target : Nat → Int32) (first : Nat → Int32) (second : Nat → Int32) (forkVariable : Nat → Int32) (yes : Nat → Int32) (no : Nat → Int32) (starts : Nat → Int32) (orderSize : Int32) (reached : Int32) (forerunners : Nat → Int32) (blw : Nat → Int32) (frontiers : Nat → Int32) (parents : Nat → Int32) (order : Nat → Int32) (waiting : Nat → Int32) (meetingNames : Nat → Int32) (meetingUses : Nat → Int32) (stepNames : Nat → Int32) (firstUses : Nat → Int32) (secondUses : Nat → Int32) (endUses : Nat → Int32) (lastNames : Nat → Int32) (namesOf : Nat → Int32) (homeBlock : Nat → Int32) (homePlace : Nat → Int32) (standsFor : Nat → Int32) (pending : Int32) (length : Int32) (pendingTo : Nat → Int32) (pendingFrom : Nat → Int32) (copyTo : Nat → Int32) (copyFrom : Nat → Int32) (way : Int32) (values : Nat → Int32) (arriving : Nat → Int32) (T0size : Int32) (T0out : Int32) (T0num : Nat → Int32) (T1size : Int32) (T1out : Int32) (T1num : Nat → Int32) (T2size : Int32) (T2out : Int32) (T2num : Nat → Int32) (outc : Nat → Int64) (mThrown : Int32) (mReached : Int32) (mForm : Bool) (mSlot : Int32) (mOver : Bool) (mMany : Nat → Int32) (mKinds : Nat → Int32) (mVs : Nat → Int32) (mWs : Nat → Int32) (mXs : Nat → Int32) (mEnds : Nat → Int32) (mEndVariable : Nat → Int32) (mYes : Nat → Int32) (mNo : Nat → Int32) (mStarts : Nat → Int32) (mDominators : Nat → Int32) (mMeets : Nat → Int32) (mSources : Nat → Int32) (mSet : Nat → Int32) (mUseW : Nat → Int32) (mUseX : Nat → Int32) (mEndUse : Nat → Int32) (mGone : Nat → Bool) (mIsName : Nat → Bool) (mNameBlock : Nat → Int32) (mNameStep : Nat → Int32) (mNumbers : Nat → Int32) (mSaid : Nat → Int32) (mSaidCount : Nat → Int32) (mFailed : Nat → Int32) (mValues : Nat → Int32) (mNextValues : Nat → Int32) (mOpen : Nat → Int32) (h : JJ N formStands stepCount kind target first second forkVariable yes no starts orderSize reached forerunners blw frontiers parents order waiting meetingNames meetingUses stepNames firstUses secondUses endUses lastNames namesOf homeBlock homePlace standsFor pending length pendingTo pendingFrom copyTo copyFrom way values arriving T0size T0out T0num T1size T1out T1num T2size T2out T2num outc mThrown mReached mForm mSlot mOver mMany mKinds mVs mWs mXs mEnds mEndVariable mYes mNo mStarts mDominators mMeets mSources mSet mUseW mUseX mEndUse mGone mIsName mNameBlock mNameStep mNumbers mSaid mSaidCount mFailed mValues mNextValues mOpen) : wpLc_copies N L xs v4 formStands stepCount kind target first second forkVariable yes no starts orderSize reached forerunners blw frontiers parents order waiting meetingNames meetingUses stepNames firstUses secondUses endUses lastNames namesOf homeBlock homePlace standsFor pending length pendingTo pendingFrom copyTo copyFrom way values arriving T0size T0out T0num T1size T1out T1num T2size T2out T2num outc mThrown mReached mForm mSlot mOver mMany mKinds mVs mWs mXs mEnds mEndVariable mYes mNo mStarts mDominators mMeets mSources mSet mUseW mUseX mEndUse mGone mIsName mNameBlock mNameStep mNumbers mSaid mSaidCount mFailed mValues mNextValues mOpen (JJ N) := by
  obtain ⟨hP, hS, hT, hf, hF⟩ := h
  subst hf
  refine ⟨hv 1 (by omega), hv 2 (by omega), ?_⟩
  unfold wpLw_copies wpOn_copies wpCopyPlan_length
  refine ⟨fun hst => ?_, fun hst => ⟨Or.inl rfl, fun _ => ⟨hv 1 (by omega), hv 2 (by omega), md_copies_sp hN (fun _ => ⟨fun _ => ⟨fun _ => ⟨hP, hS, hT, rfl, hF⟩, fun q => absurd q (by decide)⟩, fun q => absurd rfl q⟩) (fun q => by rw [hst] at q; cases q) (fun q => by rw [hst] at q; cases q)⟩, fun q => by omega⟩⟩
  have F := hF hst
  refine requireBlock_sp hN (fun g1 => requireBE_sp hN (fun g3 => ?_) fun g3 => ⟨Or.inr rfl, fun q => by omega, fun _ => ⟨hv 1 (by omega), hv 2 (by omega), md_copies_sp hN (fun q => by rw [hst] at q; cases q) (fun _ _ => ⟨fun _ => ⟨fun _ => ⟨hP, hS, hT, rfl, hF⟩, fun q => absurd q (by decide)⟩, fun q => absurd rfl q⟩) (fun _ b p hb hp e1 e3 => absurd ⟨p, by omega, e3⟩ g3)⟩⟩) fun g1 => ⟨Or.inr rfl, fun q => by omega, fun _ => ⟨hv 1 (by omega), hv 2 (by omega), md_copies_sp hN (fun q => by rw [hst] at q; cases q) (fun _ _ => ⟨fun _ => ⟨fun _ => ⟨hP, hS, hT, rfl, hF⟩, fun q => absurd q (by decide)⟩, fun q => absurd rfl q⟩) (fun _ b p hb hp e1 e3 => absurd ⟨b, hb, e1⟩ g1)⟩⟩
  obtain ⟨b, hb, e1⟩ := g1
  obtain ⟨p, hp, e3⟩ := g3
  rw [e1, e3]
  refine draw_sp hN0 hN F hb (show p ≤ N by omega) fun a src pT pF cT cF hD htt => ⟨out_in, hv 1 (by omega), hv 2 (by omega), md_copies_sp hN (fun q => by rw [hst] at q; cases q) (fun _ g => absurd ⟨⟨b, hb, rfl⟩, p, hp, rfl⟩ g) (fun _ b' p' hb' hp' q1 q3 => ?_)⟩
  have q1 := (jI_eq (by omega) (by omega)).mp q1
  have q3 := (jI_eq (by omega) (by omega)).mp q3
  subst q1 q3
  exact mdCopies_sp hN F hb (by omega) ⟨fun _ => ⟨fun q => absurd rfl q, fun _ => ⟨out_in, fun _ => ⟨hP, hS, hT, rfl, hF⟩, fun q => q (by rw [out_at]; exact lg_same _)⟩⟩, fun q => absurd rfl q⟩
/-! running: what a run does, as a function -/
def Ag (f g : Nat → Int32) : Prop := ∀ i, i < 600 → f i = g i
def PV (p : Int32) : Prop := p = -1 ∨ ∃ m, m < 600 ∧ p = nI m
def vOf (vals : Nat → Int32) (p : Int32) : Int32 := if p = -1 then 0 else vals p.toNatClampNeg
def rk (kd w x : Int32) : Int32 := if kd = 2 then w + x else if kd = 3 then w - x else if kd = 4 then w * x else if kd = 5 then (if x = 0 then 0 else w / x) else if kd = 6 then (if x ≤ w then 0 else 1) else w
def stp (kd num to p1 p2 : Int32) (vals : Nat → Int32) (out : List Int32) : (Nat → Int32) × List Int32 × Int32 :=
  if kd = 7 then (if out.length < 50 then (vals, out ++ [vOf vals p1], 0) else (vals, out, 2))
  else if kd = 5 ∧ vOf vals p2 = 0 then (vals, out, 1)
  else if to = -1 then (vals, out, 0) else (upd vals to.toNatClampNeg (if kd = 0 then num else rk kd (vOf vals p1) (vOf vals p2)), out, 0)
def sts (kd fi TO P1 P2 : Nat → Int32) (b : Nat) : Nat → Nat → (Nat → Int32) → List Int32 → (Nat → Int32) × List Int32 × Int32
  | 0 => fun _ vals out => (vals, out, 0)
  | d + 1 => fun k vals out => if (stp (kd (b * 6 + k)) (fi (b * 6 + k)) (TO (b * 6 + k)) (P1 (b * 6 + k)) (P2 (b * 6 + k)) vals out).2.2 = 0 then sts kd fi TO P1 P2 b d (k + 1) (stp (kd (b * 6 + k)) (fi (b * 6 + k)) (TO (b * 6 + k)) (P1 (b * 6 + k)) (P2 (b * 6 + k)) vals out).1 (stp (kd (b * 6 + k)) (fi (b * 6 + k)) (TO (b * 6 + k)) (P1 (b * 6 + k)) (P2 (b * 6 + k)) vals out).2.1 else stp (kd (b * 6 + k)) (fi (b * 6 + k)) (TO (b * 6 + k)) (P1 (b * 6 + k)) (P2 (b * 6 + k)) vals out
/-- the block that comes next -/
def nbF (PE yes no : Nat → Int32) (c : Nat) (vals : Nat → Int32) : Int32 := if vOf vals (PE c) = 0 then no c else yes c
def runF (ns : Nat → Nat) (kd fi TO P1 P2 PE yes no : Nat → Int32) (meet : Nat → Nat → (Nat → Int32) → (Nat → Int32)) : Nat → Nat → Nat → (Nat → Int32) → List Int32 → List Int32 × Int32
  | 0 => fun _ _ _ out => (out, 2)
  | r + 1 => fun c fr vals out => if (sts kd fi TO P1 P2 c (ns c) 0 (meet c fr vals) out).2.2 = 0 then (if nbF PE yes no c (sts kd fi TO P1 P2 c (ns c) 0 (meet c fr vals) out).1 = -1 then ((sts kd fi TO P1 P2 c (ns c) 0 (meet c fr vals) out).2.1, 0) else runF ns kd fi TO P1 P2 PE yes no meet r (nbF PE yes no c (sts kd fi TO P1 P2 c (ns c) 0 (meet c fr vals) out).1).toNatClampNeg c (sts kd fi TO P1 P2 c (ns c) 0 (meet c fr vals) out).1 (sts kd fi TO P1 P2 c (ns c) 0 (meet c fr vals) out).2.1) else (sts kd fi TO P1 P2 c (ns c) 0 (meet c fr vals) out).2
def OutIs (num : Nat → Int32) (off : Nat) (out : List Int32) : Prop := out.length ≤ 50 ∧ ∀ i x, out[i]? = some x → num (off + i) = x
theorem Ag.upd {f g : Nat → Int32} (h : Ag f g) (i : Nat) (x : Int32) : Ag (upd f i x) (upd g i x) := by
  intro j hj
  by_cases e : j = i
  · subst e; rw [upd_same, upd_same]
  · rw [upd_other _ _ e, upd_other _ _ e]; exact h j hj
theorem Ag.vo {f g : Nat → Int32} (h : Ag f g) {p : Int32} (hp : PV p) : vOf f p = vOf g p := by
  unfold vOf
  rcases hp with rfl | ⟨m, hm, rfl⟩
  · rw [if_pos rfl, if_pos rfl]
  · rw [if_neg (jI_m1 (by omega)), if_neg (jI_m1 (by omega)), jI_nat (by omega)]; exact h m hm
theorem OutIs.snoc {num : Nat → Int32} {off : Nat} {out : List Int32} (h : OutIs num off out) (hl : out.length < 50) (x : Int32) : OutIs (upd num (off + out.length) x) off (out ++ [x]) := by
  refine ⟨by rw [List.length_append, List.length_singleton]; omega, fun i y hy => ?_⟩
  by_cases e : i < out.length
  · rw [List.getElem?_append_left e] at hy
    rw [upd_other _ _ (by omega)]; exact h.2 i y hy
  · rw [List.getElem?_append_right (by omega)] at hy
    have : i - out.length < 1 := (List.getElem?_eq_some_iff.mp hy).1
    have e2 : i = out.length := by omega
    subst e2
    rw [Nat.sub_self] at hy
    simp at hy
    subst hy
    rw [upd_same]
theorem stp_len {kd num to p1 p2 : Int32} {vals : Nat → Int32} {out : List Int32} (h : out.length ≤ 50) : (stp kd num to p1 p2 vals out).2.1.length ≤ 50 := by
  unfold stp
  split
  · split
    · rw [List.length_append, List.length_singleton]; omega
    · exact h
  · split
    · exact h
    · split <;> exact h
/-! running in the class -/
theorem valueOf_sp {values vals : Nat → Int32} (h : Ag values vals) {p : Int32} (hp : PV p) {post : Int32 → Prop} (hpost : post (vOf vals p)) : wpRunner_valueOf values p post := by
  unfold vOf at hpost
  rcases hp with rfl | ⟨m, hm, rfl⟩
  · rw [if_pos rfl] at hpost
    exact ⟨fun q => absurd rfl q, fun _ => hpost⟩
  · rw [if_neg (jI_m1 (by omega)), jI_nat (by omega)] at hpost
    refine ⟨fun _ => ?_, fun q => absurd q (jI_m1 (by omega))⟩
    rw [jI_in (by omega), jI_nat (by omega), h m hm]
    exact ⟨by omega, hpost⟩
theorem reckon_sp {kd w x : Int32} {post : Int32 → Prop} (hpost : post (rk kd w x)) : wpRunner_reckon kd w x post := by
  unfold rk at hpost
  refine ⟨fun e => ?_, fun e => ?_, fun e => ?_, fun e => ?_, fun e => ?_, fun n2 n3 n4 n5 n6 => ?_⟩
  · rw [if_pos e] at hpost; exact hpost
  · rw [if_neg (by rw [e]; decide), if_pos e] at hpost; exact hpost
  · rw [if_neg (by rw [e]; decide), if_neg (by rw [e]; decide), if_pos e] at hpost; exact hpost
  · rw [if_neg (by rw [e]; decide), if_neg (by rw [e]; decide), if_neg (by rw [e]; decide), if_pos e] at hpost
    refine ⟨fun q => ⟨q, ?_⟩, fun q => ?_⟩
    · rw [if_neg q] at hpost; exact hpost
    · rw [if_pos q] at hpost; exact hpost
  · rw [if_neg (by rw [e]; decide), if_neg (by rw [e]; decide), if_neg (by rw [e]; decide), if_neg (by rw [e]; decide), if_pos e] at hpost
    refine ⟨fun q => ?_, fun q => ?_⟩
    · rw [if_pos q] at hpost; exact hpost
    · rw [if_neg q] at hpost; exact hpost
  · rw [if_neg n2, if_neg n3, if_neg n4, if_neg n5, if_neg n6] at hpost; exact hpost
theorem doStep_sp {N : Nat} (hN : N ≤ 12) {kind first values vals num : Nat → Int32} {out : List Int32} {b k : Nat} (hb : b < N) (hk : k < 6) {to p1 p2 : Int32} (ht : PV to) (h1 : PV p1) (h2 : PV p2) (hA : Ag values vals) (hO : OutIs num 0 out) {post : (Nat → Int32) → Int32 → Int32 → (Nat → Int32) → Prop} (hp : ∀ values' num', Ag values' (stp (kind (b * 6 + k)) (first (b * 6 + k)) to p1 p2 vals out).1 → OutIs num' 0 (stp (kind (b * 6 + k)) (first (b * 6 + k)) to p1 p2 vals out).2.1 → post values' (nI (stp (kind (b * 6 + k)) (first (b * 6 + k)) to p1 p2 vals out).2.1.length) (stp (kind (b * 6 + k)) (first (b * 6 + k)) to p1 p2 vals out).2.2 num') : wpRunner_doStep N kind first values (nI out.length) 0 num (nI b) (nI k) to p1 p2 post := by
  have hl := hO.1
  unfold wpRunner_doStep wpProgram_kindOf
  rw [jt6, jI_mul, jI_add, jI_in (by omega), jI_nat (by omega)]
  refine ⟨by omega, valueOf_sp hA h1 (valueOf_sp hA h2 ⟨fun q => ?_, fun q => ?_⟩)⟩
  · unfold stp at hp
    rw [if_neg q] at hp
    refine ⟨¬ (kind (b * 6 + k) = 5 ∧ vOf vals p2 = 0), fun hn => ?_, fun q2 z => q2 z.1, fun q2 => ⟨fun q3 z => q3 z.2, fun q3 => ?_⟩⟩
    · rw [if_neg hn] at hp
      refine ⟨fun q2 => ?_, fun q2 => ?_⟩
      · rw [if_pos q2] at hp; exact hp values num hA hO
      · rw [if_neg q2] at hp
        rcases ht with z | ⟨m, hm, rfl⟩
        · exact absurd z q2
        rw [jI_nat (by omega)] at hp
        refine ⟨fun q3 => ?_, fun q3 => ?_⟩
        · rw [if_neg q3] at hp
          refine reckon_sp ?_
          rw [jI_in (by omega), jI_nat (by omega)]
          exact ⟨by omega, hp _ num (hA.upd _ _) hO⟩
        · rw [if_pos q3] at hp
          unfold wpProgram_numberPut
          rw [jt6, jI_mul, jI_add, jI_in (by omega), jI_nat (by omega)]
          dsimp only
          rw [jI_in (by omega), jI_nat (by omega)]
          exact ⟨by omega, by omega, hp _ num (hA.upd _ _) hO⟩
    · rw [if_pos ⟨q2, q3⟩] at hp
      exact hp values num hA hO
  · unfold stp at hp
    rw [if_pos q] at hp
    unfold wpTalk_say
    rw [show (50 : Int32) = nI 50 from rfl, jI_lt (by omega) (by omega), jI_in (by omega), jI_nat (by omega), jI_one]
    refine ⟨fun q2 => ⟨by omega, ?_⟩, fun q2 => ?_⟩
    · rw [if_pos q2] at hp
      have := hp values (upd num out.length (vOf vals p1)) hA (by
        have := hO.snoc q2 (vOf vals p1)
        rw [Nat.zero_add] at this
        exact this)
      rw [List.length_append, List.length_singleton] at this
      exact this
    · rw [if_neg q2] at hp
      exact hp values num hA hO
section RC
variable {N : Nat} {stepCount kind target first second forkVariable yes no starts mMany mKinds mVs mWs mXs mEnds mEndVariable mYes mNo mStarts : Nat → Int32}
/-- the places that the program itself uses -/
def TOu (kind target : Nat → Int32) (i : Nat) : Int32 := if kind i = 7 then -1 else 100 * target i
def P1u (kind first : Nat → Int32) (i : Nat) : Int32 := if kind i = 0 then -1 else 100 * first i
def P2u (kind second : Nat → Int32) (i : Nat) : Int32 := if ¬ kind i < 2 ∧ ¬ 6 < kind i then 100 * second i else -1
def PEu (forkVariable : Nat → Int32) (b : Nat) : Int32 := if forkVariable b = -1 then -1 else 100 * forkVariable b
theorem PV100 {x : Int32} (h : gB 6 x) : PV (100 * x) := by
  obtain ⟨v, hv, rfl⟩ := h
  exact Or.inr ⟨100 * v, by omega, by rw [show (100 : Int32) = nI 100 from rfl, jI_mul]⟩
theorem placeOf_sp {x : Int32} {post : Int32 → Prop} (h1 : x = -1 → post (-1)) (h2 : ¬ x = -1 → post (100 * x)) : wpRunner_placeOf x post := ⟨h2, h1⟩
theorem gB_m1 {x : Int32} (h : gB 6 x) : ¬ x = -1 := by
  obtain ⟨v, hv, rfl⟩ := h
  exact jI_m1 (by omega)
theorem pvu (hP : PR N stepCount kind target first second forkVariable yes no starts mMany mKinds mVs mWs mXs mEnds mEndVariable mYes mNo mStarts) {b k : Nat} (hb : b < N) (hk : k < 6) (hlt : nI k < stepCount b) : PV (TOu kind target (b * 6 + k)) ∧ PV (P1u kind first (b * 6 + k)) ∧ PV (P2u kind second (b * 6 + k)) := by
  have st := (hP.st b hb k hk hlt).2.2.2.2
  unfold TOu P1u P2u
  refine ⟨?_, ?_, ?_⟩
  · split
    · exact Or.inl rfl
    · exact PV100 (st.2.2.1 (by assumption))
  · split
    · exact Or.inl rfl
    · exact PV100 (st.2.2.2.1 (by assumption))
  · split
    · rename_i h; exact PV100 (st.2.2.2.2 h.1 h.2)
    · exact Or.inl rfl
/-- the steps of a block; TO, P1, P2 are the places in use -/
theorem doSteps_sp (hN : N ≤ 12) (hP : PR N stepCount kind target first second forkVariable yes no starts mMany mKinds mVs mWs mXs mEnds mEndVariable mYes mNo mStarts) {stepNames firstUses secondUses TO P1 P2 : Nat → Int32} {way : Int32} {b : Nat} (hb : b < N) (hw : (way = 0 ∧ TO = TOu kind target ∧ P1 = P1u kind first ∧ P2 = P2u kind second) ∨ (¬ way = 0 ∧ TO = stepNames ∧ P1 = firstUses ∧ P2 = secondUses ∧ ∀ k, k < 6 → nI k < stepCount b → PV (stepNames (b * 6 + k)) ∧ PV (firstUses (b * 6 + k)) ∧ PV (secondUses (b * 6 + k)))) {post : (Nat → Int32) → Int32 → Int32 → (Nat → Int32) → Prop} {n : Nat} (hn : n ≤ 6) (en : stepCount b = nI n) :
    ∀ (d k : Nat) (values vals num : Nat → Int32) (out : List Int32), k + d = n → Ag values vals → OutIs num 0 out → (∀ values' num', Ag values' (sts kind first TO P1 P2 b d k vals out).1 → OutIs num' 0 (sts kind first TO P1 P2 b d k vals out).2.1 → post values' (nI (sts kind first TO P1 P2 b d k vals out).2.1.length) (sts kind first TO P1 P2 b d k vals out).2.2 num') → lpRunner_doSteps_2 N (nI b) stepCount kind target first second stepNames firstUses secondUses way post (d + 1) (nI k) values (nI out.length) 0 num := by
  intro d
  induction d with
  | zero =>
    intro k values vals num out hk hA hO hp
    unfold lpRunner_doSteps_2 wpProgram_stepsOf
    rw [jI_in (by omega), jI_nat (by omega), en, show k = n by omega]
    exact ⟨hb, fun _ => hp values num hA hO, fun q => absurd (Int32.le_refl _) q⟩
  | succ d ih =>
    intro k values vals num out hk hA hO hp
    have hk6 : k < 6 := by omega
    have hlt : nI k < stepCount b := by rw [en, jI_lt (by omega) (by omega)]; omega
    unfold lpRunner_doSteps_2 wpProgram_stepsOf
    rw [jI_in (by omega), jI_nat (by omega), en]
    refine ⟨hb, fun q => ?_, fun _ => ⟨fun q => absurd rfl q, fun _ => ?_⟩⟩
    · rw [jI_le (by omega) (by omega)] at q; omega
    rw [jI_one]
    have fin : PV (TO (b * 6 + k)) → PV (P1 (b * 6 + k)) → PV (P2 (b * 6 + k)) → wpRunner_doStep N kind first values (nI out.length) 0 num (nI b) (nI k) (TO (b * 6 + k)) (P1 (b * 6 + k)) (P2 (b * 6 + k)) (fun values_126 R2size_126 R2out_126 R2num_126 => (lpRunner_doSteps_2 N (nI b) stepCount kind target first second stepNames firstUses secondUses way post (d + 1) (nI (k + 1)) values_126 R2size_126 R2out_126 R2num_126)) := by
      intro v1 v2 v3
      refine doStep_sp hN hb hk6 v1 v2 v3 hA hO fun values' num' hA' hO' => ?_
      have hsts : sts kind first TO P1 P2 b (d + 1) k vals out = if (stp (kind (b * 6 + k)) (first (b * 6 + k)) (TO (b * 6 + k)) (P1 (b * 6 + k)) (P2 (b * 6 + k)) vals out).2.2 = 0 then sts kind first TO P1 P2 b d (k + 1) (stp (kind (b * 6 + k)) (first (b * 6 + k)) (TO (b * 6 + k)) (P1 (b * 6 + k)) (P2 (b * 6 + k)) vals out).1 (stp (kind (b * 6 + k)) (first (b * 6 + k)) (TO (b * 6 + k)) (P1 (b * 6 + k)) (P2 (b * 6 + k)) vals out).2.1 else stp (kind (b * 6 + k)) (first (b * 6 + k)) (TO (b * 6 + k)) (P1 (b * 6 + k)) (P2 (b * 6 + k)) vals out := rfl
      rw [hsts] at hp
      generalize stp (kind (b * 6 + k)) (first (b * 6 + k)) (TO (b * 6 + k)) (P1 (b * 6 + k)) (P2 (b * 6 + k)) vals out = S at hp hA' hO' ⊢
      by_cases z : S.2.2 = 0
      · rw [if_pos z] at hp
        rw [z]
        exact ih (k + 1) values' S.1 num' S.2.1 (by omega) hA' hO' hp
      · rw [if_neg z] at hp
        -- the run is over
        have hfin := hp values' num' hA' hO'
        cases d with
        | zero =>
          unfold lpRunner_doSteps_2 wpProgram_stepsOf
          rw [jI_in (by omega), jI_nat (by omega), en, show k + 1 = n by omega]
          exact ⟨hb, fun _ => hfin, fun q => absurd (Int32.le_refl _) q⟩
        | succ d =>
          unfold lpRunner_doSteps_2 wpProgram_stepsOf
          rw [jI_in (by omega), jI_nat (by omega), en]
          exact ⟨hb, fun _ => hfin, fun _ => ⟨fun _ => hfin, fun q => absurd q z⟩⟩
    rcases hw with ⟨hw, rfl, rfl, rfl⟩ | ⟨hw, rfl, rfl, rfl, hpv⟩
    · refine ⟨fun q => absurd hw q, fun _ => ?_⟩
      have pv := pvu hP hb hk6 hlt
      have fin := fin pv.1 pv.2.1 pv.2.2
      have st := (hP.st b hb k hk6 hlt).2.2.2.2
      unfold TOu P1u P2u at fin
      refine firstVariable_sp hN hb hk6 (fun e1 => placeOf_sp (fun _ => ?_) fun z => absurd rfl z) (fun e1 => placeOf_sp (fun z => absurd z (gB_m1 (st.2.2.2.1 e1))) fun _ => ?_)
      all_goals (refine secondVariable_sp hN hb hk6 (fun e2 => placeOf_sp (fun _ => ?_) fun z => absurd rfl z) (fun e2 => placeOf_sp (fun z => absurd z (gB_m1 (st.2.2.2.2 e2.1 e2.2))) fun _ => ?_))
      all_goals (refine variableSet_sp hN hb hk6 (fun e3 => placeOf_sp (fun _ => ?_) fun z => absurd rfl z) (fun e3 => placeOf_sp (fun z => absurd z (gB_m1 (st.2.2.1 e3))) fun _ => ?_))
      · rw [if_pos e1, if_neg e2, if_pos e3] at fin; exact fin
      · rw [if_pos e1, if_neg e2, if_neg e3] at fin; exact fin
      · rw [if_pos e1, if_pos e2, if_pos e3] at fin; exact fin
      · rw [if_pos e1, if_pos e2, if_neg e3] at fin; exact fin
      · rw [if_neg e1, if_neg e2, if_pos e3] at fin; exact fin
      · rw [if_neg e1, if_neg e2, if_neg e3] at fin; exact fin
      · rw [if_neg e1, if_pos e2, if_pos e3] at fin; exact fin
      · rw [if_neg e1, if_pos e2, if_neg e3] at fin; exact fin
    · refine ⟨fun _ => ?_, fun q => absurd q hw⟩
      have pv := hpv k hk6 hlt
      have fin := fin pv.1 pv.2.1 pv.2.2
      unfold wpNamedForm_stepUse wpNamedForm_nameSet
      intro v4 hv4
      rw [jt6, jI_mul, jI_add] at hv4
      subst hv4
      rw [jI_in (by omega), jI_nat (by omega)]
      refine ⟨fun q => absurd rfl q, fun _ => ⟨by omega, fun v5 hv5 => ?_⟩⟩
      rw [jt6, jI_mul, jI_add] at hv5
      subst hv5
      rw [jI_in (by omega), jI_nat (by omega), jt6, jI_mul, jI_add, jI_in (by omega), jI_nat (by omega)]
      exact ⟨fun _ => ⟨by omega, by omega, fin⟩, fun q => absurd q (by decide)⟩
theorem nextBlock_sp (hN : N ≤ 12) (hP : PR N stepCount kind target first second forkVariable yes no starts mMany mKinds mVs mWs mXs mEnds mEndVariable mYes mNo mStarts) {endUses PE values vals : Nat → Int32} {way : Int32} {b : Nat} (hb : b < N) (hw : (way = 0 ∧ PE = PEu forkVariable) ∨ (¬ way = 0 ∧ PE = endUses ∧ PV (endUses b))) (hA : Ag values vals) {post : Int32 → Prop} (hp : post (nbF PE yes no b vals)) : wpRunner_nextBlock N forkVariable yes no endUses way values (nI b) post := by
  have go : ∀ t, t = PE b → PV t → wpRunner_valueOf values t (fun r38 => ((¬ r38 = 0 → wpProgram_blockAfter N yes no (nI b) false (fun r49 => (post r49))) ∧ (r38 = 0 → wpProgram_blockAfter N yes no (nI b) true (fun r49 => (post r49))))) := by
    intro t ht hpv
    subst ht
    refine valueOf_sp hA hpv ?_
    unfold wpProgram_blockAfter
    rw [jI_in (by omega), jI_nat (by omega)]
    unfold nbF at hp
    refine ⟨fun q => ⟨fun _ => ⟨hb, ?_⟩, fun z => by (cases z)⟩, fun q => ⟨fun z => by (cases z), fun _ => ⟨hb, ?_⟩⟩⟩
    · rw [if_neg q] at hp; exact hp
    · rw [if_pos q] at hp; exact hp
  refine ⟨fun t => t = PE b ∧ PV t, fun t ht => go t ht.1 ht.2, fun q => ?_, fun q => ?_⟩
  · rcases hw with ⟨z, -⟩ | ⟨-, rfl, hpv⟩
    · exact absurd z q
    · unfold wpNamedForm_endUse
      rw [jI_in (by omega), jI_nat (by omega)]
      exact ⟨hb, rfl, hpv⟩
  · rcases hw with ⟨-, rfl⟩ | ⟨z, -⟩
    · unfold wpProgram_variableOfFork PEu
      rw [jI_in (by omega), jI_nat (by omega)]
      refine ⟨hb, placeOf_sp (fun e => ?_) (fun e => ?_)⟩
      · rw [if_pos e]; exact ⟨rfl, Or.inl rfl⟩
      · rw [if_neg e]
        refine ⟨rfl, PV100 ?_⟩
        rcases fork_var hP hb with w | ⟨v, hv, w⟩
        · exact absurd w e
        · exact ⟨v, hv, w⟩
    · exact absurd q z
end RC
