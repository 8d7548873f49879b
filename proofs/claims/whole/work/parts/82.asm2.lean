/-! the class's assemble, block after block -/
theorem tr_at {sc : Nat → Nat → Prop} {N : Nat} (hN0 : 0 < N) (hsc : ∀ b c, sc b c → c < N) : ∀ i, i ≤ (ordOf sc N).length → ∃ st, Tr sc N st ((ordOf sc N).take i) := by
  intro i
  induction i with
  | zero => intro _; exact ⟨[0], by rw [List.take_zero]; exact Tr.init⟩
  | succ i ih =>
    intro hi
    obtain ⟨st, T⟩ := ih (by omega)
    cases st with
    | nil =>
      have := congrArg List.length T.done
      rw [List.length_take] at this
      omega
    | cons x st =>
      have T' := T.step hN0 hsc
      refine ⟨kid sc N x ++ st, ?_⟩
      have e : (ordOf sc N).take (i + 1) = (ordOf sc N).take i ++ [x] := by
        have hl : ((ordOf sc N).take i ++ [x]).length = i + 1 := by
          rw [List.length_append, List.length_take, List.length_singleton]
          omega
        have h2 := T'.od
        have h3 : (ordOf sc N).take (i + 1) = (((ordOf sc N).take i ++ [x]) ++ tr (kid sc N) (N - ((ordOf sc N).take i ++ [x]).length) (kid sc N x ++ st)).take (i + 1) := by rw [h2]
        rw [h3, ← hl, List.take_left']
        rfl
      rw [e]
      exact T'
theorem ord_split {sc : Nat → Nat → Prop} {N : Nat} (hN0 : 0 < N) (hsc : ∀ b c, sc b c → c < N) {vis rest : List Nat} {b : Nat} (ho : ordOf sc N = vis ++ b :: rest) : ∀ p, p < N → ParIs sc N b p → p ∈ vis := by
  obtain ⟨st, T⟩ := tr_at hN0 hsc vis.length (by rw [ho, List.length_append]; omega)
  have e : (ordOf sc N).take vis.length = vis := by rw [ho]; exact List.take_left' rfl
  rw [e] at T
  cases st with
  | nil =>
    have := congrArg List.length T.done
    rw [ho, List.length_append, List.length_cons] at this
    omega
  | cons x st =>
    have h1 := T.len hN0 hsc
    simp only [List.length_cons] at h1
    have h2 := T.od
    rw [ho, show N - vis.length = (N - vis.length - 1) + 1 by omega] at h2
    simp only [tr] at h2
    have h3 := List.append_cancel_left h2
    have h4 : x = b := (List.cons.inj h3).1
    subst h4
    exact fun p hp h => T.up x (by simp) p hp h
def LNo (N : Nat) (la : Nat → Nat → Nat → Nat) (ns : Nat → Nat) (vis : List Nat) (LN : Nat → Int32) : Prop := (∀ v, v < 6 → LN (N * 6 + v) = nI (100 * v)) ∧ ∀ c ∈ vis, ∀ v, v < 6 → LN (c * 6 + v) = nI (la c v (ns c))
def UsO (N : Nat) (ns : Nat → Nat) (kind first second forkVariable : Nat → Int32) (la : Nat → Nat → Nat → Nat) (vis : List Nat) (fu su eu : Nat → Int32) : Prop := (∀ c ∈ vis, ∀ k, k < 6 → UW ns kind first la c k (fu (c * 6 + k)) ∧ UX ns kind second la c k (su (c * 6 + k))) ∧ (∀ c ∈ vis, UE ns forkVariable la c (eu c)) ∧ ∀ c, c < N → c ∉ vis → (∀ k, k < 6 → fu (c * 6 + k) = -1 ∧ su (c * 6 + k) = -1) ∧ eu c = -1
section NB3
variable {N : Nat} {stepCount kind target first second forkVariable yes no starts mMany mKinds mVs mWs mXs mEnds mEndVariable mYes mNo mStarts : Nat → Int32} {ord vis rest : List Nat} {mt : Nat → Nat → Prop} {par : Nat → Nat} {b : Nat}
theorem fork_var (hP : PR N stepCount kind target first second forkVariable yes no starts mMany mKinds mVs mWs mXs mEnds mEndVariable mYes mNo mStarts) (hb : b < N) : forkVariable b = -1 ∨ ∃ v, v < 6 ∧ forkVariable b = nI v := by
  rcases hP.en b hb with ⟨-, h, -⟩ | ⟨y, z, -, -, -, -, -, -, ⟨-, h, -⟩ | ⟨-, v, hv, h, -⟩⟩
  · exact Or.inl h
  · exact Or.inl h
  · exact Or.inr ⟨v, hv, h⟩
theorem nameBlock_sp (hx : NX N ord (nsF stepCount) (sets kind target)) (ho : ord = vis ++ b :: rest) (hP : PR N stepCount kind target first second forkVariable yes no starts mMany mKinds mVs mWs mXs mEnds mEndVariable mYes mNo mStarts) {parents : Nat → Int32} {p : Nat} (hpar : parents b = nI p) (hpv : p = N ∨ p ∈ vis) (hup : ∀ v, v < 6 → upn N ord (nsF stepCount) (sets kind target) mt par 13 b v = if p = N then 100 * v else lat N ord (nsF stepCount) (sets kind target) mt par p v (nsF stepCount p)) {mn sn fu su eu LN num hb hp : Nat → Int32}
    (h : NS N ord (nsF stepCount) (sets kind target) mt vis b 0 0 mn sn hb hp num (fun m => ¬ hb m = -1)) (hL : LNo N (lat N ord (nsF stepCount) (sets kind target) mt par) (nsF stepCount) vis LN) (hU : UsO N (nsF stepCount) kind first second forkVariable (lat N ord (nsF stepCount) (sets kind target) mt par) vis fu su eu) {post : (Nat → Int32) → (Nat → Int32) → (Nat → Int32) → (Nat → Int32) → (Nat → Int32) → (Nat → Int32) → (Nat → Int32) → (Nat → Int32) → (Nat → Int32) → Prop}
    (hpost : ∀ mn sn fu su eu LN num hb hp, (∀ b', NS N ord (nsF stepCount) (sets kind target) mt (vis ++ [b]) b' 0 0 mn sn hb hp num (fun m => ¬ hb m = -1)) → LNo N (lat N ord (nsF stepCount) (sets kind target) mt par) (nsF stepCount) (vis ++ [b]) LN → UsO N (nsF stepCount) kind first second forkVariable (lat N ord (nsF stepCount) (sets kind target) mt par) (vis ++ [b]) fu su eu → post mn sn fu su eu LN num hb hp) : wpNamedForm_nameBlock N stepCount kind target first second forkVariable parents mn sn fu su eu LN num hb hp (nI b) post := by
  obtain ⟨o1, o2, o3⟩ := ordb hx ho
  have hN := hx.1
  have hpN : p ≤ N := by
    rcases hpv with h | h
    · omega
    · have := hx.2.2.2.1 p (by rw [ho]; simp [h]); omega
  have hpb : p ≠ b := by
    rcases hpv with z | z
    · omega
    · intro e; subst e; exact o1 z
  unfold wpNamedForm_nameBlock wpGraph_parentOf
  rw [jI_in (by omega), jI_nat (by omega), hpar]
  dsimp only
  rw [jt6, jI_mul, jI_mul, jI_nat (by omega), jI_nat (by omega), jI_nat (by omega)]
  refine ⟨o2, jI_neg (by omega), jI_neg (by omega), jI_neg (by omega), by omega, by omega, 6 + 1, ?_⟩
  refine nb_meets hx ho (x := fun v => upn N ord (nsF stepCount) (sets kind target) mt par 13 b v) (LN0 := LN) (fun mn LN1 num hb hp h hL1 hL2 y => ?_) 6 0 mn (va_cpy LN LN (p * 6) (b * 6) 6) num hb hp (by omega) h (fun j hj => ?_) (fun v hv => ?_)
  · refine ⟨nsF stepCount b + 1, ?_⟩
    refine nb_steps hx ho hP (par := par) (LN0 := LN1) (fu0 := fu) (su0 := su) (fun sn fu1 su1 LN2 num hb hp h g1 g2 g3 g4 g5 y => ?_) (nsF stepCount b) 0 sn fu su LN1 num hb hp (by omega) h (fun j _ => rfl) hL2 (fun j _ => ⟨rfl, rfl⟩) (fun k hk => by omega) (fun k hk _ => ⟨rfl, rfl⟩)
    have fin : ∀ r118, UE (nsF stepCount) forkVariable (lat N ord (nsF stepCount) (sets kind target) mt par) b r118 → post mn sn fu1 su1 (upd eu b r118) LN2 num hb hp := by
      intro r118 hE
      refine hpost mn sn fu1 su1 (upd eu b r118) LN2 num hb hp (fun b' => h.next hx b') ⟨fun v hv => ?_, fun c hc v hv => ?_⟩ ⟨fun c hc k hk => ?_, fun c hc => ?_, fun c hc hcv => ?_⟩
      · rw [g1 (N * 6 + v) (fun w hw => by omega), hL1 (N * 6 + v) (fun w hw => by omega)]; exact hL.1 v hv
      · by_cases e : c = b
        · subst e; exact g2 v hv
        · have hc : c ∈ vis := by
            rcases List.mem_append.mp hc with z | z
            · exact z
            · simp at z; exact absurd z e
          rw [g1 (c * 6 + v) (fun w hw => by omega), hL1 (c * 6 + v) (fun w hw => by omega)]; exact hL.2 c hc v hv
      · by_cases e : c = b
        · subst e
          by_cases hk2 : k < nsF stepCount c
          · exact g4 k hk2
          · have := g5 k hk (by omega)
            have h3 := (hU.2.2 c o2 o1).1 k hk
            rw [this.1, this.2, h3.1, h3.2]
            exact ⟨Or.inr ⟨Or.inl hk2, rfl⟩, Or.inr ⟨Or.inl hk2, rfl⟩⟩
        · have hc : c ∈ vis := by
            rcases List.mem_append.mp hc with z | z
            · exact z
            · simp at z; exact absurd z e
          have := g3 (c * 6 + k) (fun w hw => by omega)
          rw [this.1, this.2]
          exact hU.1 c hc k hk
      · by_cases e : c = b
        · subst e; rw [upd_same]; exact hE
        · have hc : c ∈ vis := by
            rcases List.mem_append.mp hc with z | z
            · exact z
            · simp at z; exact absurd z e
          rw [upd_other _ _ e]; exact hU.2.1 c hc
      · have e : c ≠ b := fun e => hcv (by simp [e])
        have hc2 : c ∉ vis := fun z => hcv (by simp [z])
        have h3 := hU.2.2 c hc hc2
        rw [upd_other _ _ e]
        refine ⟨fun k hk => ?_, h3.2⟩
        have := g3 (c * 6 + k) (fun w hw => by omega)
        rw [this.1, this.2]
        exact h3.1 k hk
    unfold wpProgram_variableOfFork
    rw [jI_in (by omega), jI_nat (by omega)]
    refine ⟨o2, ?_⟩
    rcases fork_var hP o2 with e | ⟨v, hv, e⟩
    · rw [e]
      exact lastName_no ⟨o2, fin _ (Or.inr ⟨e, rfl⟩)⟩
    · rw [e]
      exact lastName_sp hN (by omega) hv ⟨o2, fin _ (Or.inl ⟨v, hv, e, g2 v hv⟩)⟩
  · unfold va_cpy
    rw [if_neg]
    rintro ⟨z1, z2⟩
    exact hj (j - b * 6) (by omega) (by omega)
  · unfold va_cpy
    rw [if_pos ⟨by omega, by omega⟩, cif_neg (by omega)]
    rw [hup v hv, show p * 6 + (b * 6 + v - b * 6) = p * 6 + v by omega]
    by_cases e : p = N
    · rw [if_pos e, e]; exact hL.1 v hv
    · rw [if_neg e]; exact hL.2 p (hpv.resolve_left e) v hv
theorem NX.of (hN0 : 0 < N) (hN : N ≤ 12) (hPar : HasPar (gsc N yes no) N) : NX N (ordOf (gsc N yes no) N) (nsF stepCount) (sets kind target) := by
  obtain ⟨l, e, T⟩ := ord_all hN0 gsc_lt hPar
  refine ⟨hN, ?_, ord_len hN0 gsc_lt hPar, fun x hx => ((ord_mem hN0 gsc_lt hPar x).mp hx).lt hN0 gsc_lt, fun b => ?_, fun b k v v' hv hv' h h' => sets_uni hv hv' h h'⟩
  · rw [← e]
    have := T.nd
    rw [List.append_nil] at this
    exact this
  · unfold nsF; omega
theorem dcn_le (sc : Nat → Nat → Prop) (c n : Nat) : dcn sc c n ≤ n := by
  induction n with
  | zero => exact Nat.le_refl _
  | succ n ih =>
    simp only [dcn]
    by_cases h : Dm sc n c
    · rw [cif_pos h]; omega
    · rw [cif_neg h]; omega
theorem Fal.of (hN0 : 0 < N) (hPar : HasPar (gsc N yes no) N) : Fal N (parF (gsc N yes no) N) (fun b => dcn (gsc N yes no) b N) (fun b => Rch (gsc N yes no) okT b) := by
  intro b hb hne
  obtain ⟨p, hp⟩ := hPar b hb
  rw [parF_is hp] at hne ⊢
  rcases hp with ⟨-, hp⟩ | ⟨hp, -⟩
  · exact ⟨hp.2.1.re1, dcn_lt hp.2.1 hp.1 (hb.lt hN0 gsc_lt)⟩
  · exact absurd hp hne
/-- all blocks of the order -/
theorem as_blocks (hN0 : 0 < N) (hN : N ≤ 12) (hP : PR N stepCount kind target first second forkVariable yes no starts mMany mKinds mVs mWs mXs mEnds mEndVariable mYes mNo mStarts) {orderSize reached : Int32} {forerunners blw frontiers parents order : Nat → Int32} (hS : SurvIs N yes no orderSize reached forerunners blw frontiers parents order) {K : Int32 → (Nat → Int32) → (Nat → Int32) → (Nat → Int32) → (Nat → Int32) → (Nat → Int32) → (Nat → Int32) → (Nat → Int32) → (Nat → Int32) → (Nat → Int32) → Prop}
    (hK : ∀ mn sn fu su eu LN num hb hp, (∀ b', NS N (ordOf (gsc N yes no) N) (nsF stepCount) (sets kind target) mt (ordOf (gsc N yes no) N) b' 0 0 mn sn hb hp num (fun m => ¬ hb m = -1)) → LNo N (lat N (ordOf (gsc N yes no) N) (nsF stepCount) (sets kind target) mt (parF (gsc N yes no) N)) (nsF stepCount) (ordOf (gsc N yes no) N) LN → UsO N (nsF stepCount) kind first second forkVariable (lat N (ordOf (gsc N yes no) N) (nsF stepCount) (sets kind target) mt (parF (gsc N yes no) N)) (ordOf (gsc N yes no) N) fu su eu → ∀ y, K y mn sn fu su eu LN num hb hp) :
    ∀ (d i : Nat) (vis rest : List Nat) (mn sn fu su eu LN num hb hp : Nat → Int32), i + d = (ordOf (gsc N yes no) N).length → vis.length = i → ordOf (gsc N yes no) N = vis ++ rest → (∀ b', NS N (ordOf (gsc N yes no) N) (nsF stepCount) (sets kind target) mt vis b' 0 0 mn sn hb hp num (fun m => ¬ hb m = -1)) → LNo N (lat N (ordOf (gsc N yes no) N) (nsF stepCount) (sets kind target) mt (parF (gsc N yes no) N)) (nsF stepCount) vis LN → UsO N (nsF stepCount) kind first second forkVariable (lat N (ordOf (gsc N yes no) N) (nsF stepCount) (sets kind target) mt (parF (gsc N yes no) N)) vis fu su eu → lpNamedForm_assemble_31 N stepCount kind target first second forkVariable orderSize parents order K (d + 1) (nI i) mn sn fu su eu LN num hb hp := by
  have hPar := hS.pa.has hN0 gsc_lt
  have hx := NX.of (stepCount := stepCount) (kind := kind) (target := target) hN0 hN hPar
  have hlen := ord_len hN0 gsc_lt hPar
  have hmem := fun x => ord_mem hN0 gsc_lt hPar x
  obtain ⟨e0, eo⟩ := hS.od
  intro d
  induction d with
  | zero =>
    intro i vis rest mn sn fu su eu LN num hb hp hi hvi ho h hL hU
    have hr : rest = [] := by
      have := congrArg List.length ho
      rw [List.length_append] at this
      exact List.eq_nil_of_length_eq_zero (by omega)
    subst hr
    rw [List.append_nil] at ho
    rw [← ho] at h hL hU
    unfold lpNamedForm_assemble_31 wpGraph_reachedCount
    dsimp only
    rw [e0, show i = (ordOf (gsc N yes no) N).length by omega]
    exact ⟨fun _ => hK mn sn fu su eu LN num hb hp h hL hU _, fun q => absurd (Int32.le_refl _) q⟩
  | succ d ih =>
    intro i vis rest mn sn fu su eu LN num hb hp hi hvi ho h hL hU
    cases rest with
    | nil =>
      have := congrArg List.length ho
      rw [List.length_append, List.length_nil] at this
      omega
    | cons b rest =>
      obtain ⟨o1, o2, o3⟩ := ordb hx ho
      have hxi : (ordOf (gsc N yes no) N)[i]? = some b := by
        rw [ho, List.getElem?_append_right (by omega), show i - vis.length = 0 by omega]
        rfl
      have hre : Rch (gsc N yes no) okT b := (hmem b).mp (by rw [ho]; simp)
      unfold lpNamedForm_assemble_31 wpGraph_reachedCount wpGraph_inOrder
      dsimp only
      rw [e0]
      refine ⟨fun q => ?_, fun _ => ?_⟩
      · rw [jI_le (by omega) (by omega)] at q; omega
      · rw [jI_in (by omega), jI_nat (by omega), eo i b hxi, jI_one, ← e0]
        refine ⟨by omega, ?_⟩
        rcases hS.pa b o2 with ⟨z, -⟩ | ⟨-, p, hp1, hp2⟩
        · exact absurd hre z
        have hpv : p = N ∨ p ∈ vis := by
          by_cases e : p = N
          · exact Or.inl e
          · have : p < N := by rcases hp1 with z | z <;> omega
            exact Or.inr (ord_split hN0 gsc_lt ho p this hp1)
        refine nameBlock_sp hx ho hP hp2 hpv (fun v hv => ?_) (h b) hL hU fun mn sn fu su eu LN num hb hp h hL hU => ?_
        · rw [up_eq (Fal.of hN0 hPar) (b := b) hre (by have := dcn_le (gsc N yes no) b N; omega) v, parF_is hp1]
        · exact ih (i + 1) (vis ++ [b]) rest mn sn fu su eu LN num hb hp (by omega) (by rw [List.length_append, List.length_singleton]; omega) (by rw [ho]; simp) h hL hU
end NB3
/-! the class's meetings' uses, and assemble as a whole -/
def sumN (f : Nat → Nat) : Nat → Nat
  | 0 => 0
  | n + 1 => sumN f n + f n
/-- what the meeting of v in b uses for p -/
def MU (N : Nat) (yes no : Nat → Int32) (mt : Nat → Nat → Prop) (la : Nat → Nat → Nat → Nat) (ns : Nat → Nat) (b v p : Nat) (x : Int32) : Prop := (mt b v ∧ Lead N yes no p b ∧ x = nI (if p = N then 100 * v else la p v (ns p))) ∨ (¬ (mt b v ∧ Lead N yes no p b) ∧ x = -1)
section FU
variable {N : Nat} {yes no : Nat → Int32} {mt : Nat → Nat → Prop} {la : Nat → Nat → Nat → Nat} {ns : Nat → Nat} {ord : List Nat}
theorem ixlt {N b v p : Nat} (hb : b < N) (hv : v < 6) (hp : p ≤ N) : (b * 6 + v) * (N + 1) + p < N * 6 * (N + 1) := by
  have : (b * 6 + v + 1) * (N + 1) ≤ N * 6 * (N + 1) := Nat.mul_le_mul_right _ (by omega)
  rw [Nat.add_mul] at this
  omega
theorem findUses_sp (hN0 : 0 < N) (hN : N ≤ 12) {fo LN : Nat → Int32} (hF : FoIs (gsc N yes no) N fo) (hord : ∀ x, x ∈ ord ↔ Rch (gsc N yes no) okT x) (hL : LNo N la ns ord LN) {b v : Nat} (hb : b < N) (hv : v < 6) (hm : mt b v) {mu0 : Nat → Int32} (h0 : ∀ p, p ≤ N → mu0 ((b * 6 + v) * (N + 1) + p) = -1) {post : (Nat → Int32) → Prop} (hp : ∀ mu, (∀ j, (∀ p, p ≤ N → j ≠ (b * 6 + v) * (N + 1) + p) → mu j = mu0 j) → (∀ p, p ≤ N → MU N yes no mt la ns b v p (mu ((b * 6 + v) * (N + 1) + p))) → post mu) : wpNamedForm_findUsesOfMeeting N fo mu0 LN (nI b) (nI v) post := by
  have hNN : N * 6 * (N + 1) ≤ 72 * 13 := Nat.mul_le_mul (by omega) (by omega)
  have key : ∀ (d i : Nat) (mu : Nat → Int32), i + d = N + 1 → (∀ j, (∀ p, p < i → j ≠ (b * 6 + v) * (N + 1) + p) → mu j = mu0 j) → (∀ p, p < i → MU N yes no mt la ns b v p (mu ((b * 6 + v) * (N + 1) + p))) → lpNamedForm_findUsesOfMeeting_2 N (nI b) (nI v) fo LN post (d + 1) (nI i) mu := by
    intro d
    induction d with
    | zero =>
      intro i mu hi h1 h2
      have : i = N + 1 := by omega
      subst this
      refine ⟨fun _ => hp mu (fun j hj => h1 j fun p hp => hj p (by omega)) fun p hp => h2 p (by omega), fun q => ?_⟩
      rw [jI_lt (by omega) (by omega)] at q; omega
    | succ d ih =>
      intro i mu hi h1 h2
      have hlt := ixlt hb hv (show i ≤ N by omega)
      have hold : mu ((b * 6 + v) * (N + 1) + i) = -1 := by
        rw [h1 _ fun p hp e => by omega]; exact h0 i (by omega)
      refine ⟨fun q => ?_, fun _ => ?_⟩
      · rw [jI_lt (by omega) (by omega)] at q; omega
      · unfold wpGraph_leadsTo wpNamedForm_useOfMeeting
        rw [jI_in (by omega), jI_nat (by omega), jI_one]
        refine ⟨hb, on_has (by omega) ⟨fun q => ih (i + 1) mu (by omega) (fun j hj => h1 j fun p hp => hj p (by omega)) fun p hp => ?_, fun q => ?_⟩⟩
        · by_cases e : p = i
          · subst e
            refine Or.inr ⟨fun z => ?_, hold⟩
            rw [(hF b hb p).mpr z.2] at q; cases q
          · exact h2 p (by omega)
        · have hle : Lead N yes no i b := (hF b hb i).mp q
          rw [jt6, jI_mul, jI_add, jI_one, jI_mul, jI_add]
          dsimp only
          refine lastName_sp hN (by omega) hv ?_
          rw [jI_in (by omega), jI_nat (by omega)]
          refine ⟨hlt, ih (i + 1) _ (by omega) (fun j hj => ?_) fun p hp => ?_⟩
          · rw [upd_other _ _ (hj i (by omega))]; exact h1 j fun p hp => hj p (by omega)
          · by_cases e : p = i
            · subst e
              rw [upd_same]
              refine Or.inl ⟨hm, hle, ?_⟩
              by_cases e2 : p = N
              · rw [if_pos e2, e2]; exact hL.1 v hv
              · rw [if_neg e2]
                refine hL.2 p ((hord p).mpr ?_) v hv
                rcases hle with z | z
                · exact z.1
                · exact absurd z.1 e2
            · rw [upd_other _ _ (by omega)]; exact h2 p (by omega)
  exact ⟨N + 1 + 1, key (N + 1) 0 mu0 (by omega) (fun _ _ => rfl) (fun p hp => by omega)⟩
theorem findMU_sp (hN0 : 0 < N) (hN : N ≤ 12) {fo LN mn : Nat → Int32} (hF : FoIs (gsc N yes no) N fo) (hord : ∀ x, x ∈ ord ↔ Rch (gsc N yes no) okT x) (hL : LNo N la ns ord LN) (hmn : ∀ b, b < N → ∀ v, v < 6 → (¬ mn (b * 6 + v) = -1 ↔ mt b v)) {mu0 : Nat → Int32} (h0 : ∀ i, i < N * 6 * (N + 1) → mu0 i = -1) {post : (Nat → Int32) → Prop} (hp : ∀ mu, (∀ b, b < N → ∀ v, v < 6 → ∀ p, p ≤ N → MU N yes no mt la ns b v p (mu ((b * 6 + v) * (N + 1) + p))) → post mu) : wpNamedForm_findMeetingUses N fo mn mu0 LN post := by
  have inn : ∀ (b : Nat), b < N → ∀ (K : Int32 → (Nat → Int32) → Prop), (∀ mu, (∀ c, c < b + 1 → ∀ v, v < 6 → ∀ p, p ≤ N → MU N yes no mt la ns c v p (mu ((c * 6 + v) * (N + 1) + p))) → (∀ c, b < c → c < N → ∀ v, v < 6 → ∀ p, p ≤ N → mu ((c * 6 + v) * (N + 1) + p) = -1) → ∀ x, K x mu) → ∀ (d i : Nat) (mu : Nat → Int32), i + d = 6 → (∀ c, c < N → ∀ v, v < 6 → c * 6 + v < b * 6 + i → ∀ p, p ≤ N → MU N yes no mt la ns c v p (mu ((c * 6 + v) * (N + 1) + p))) → (∀ c, c < N → ∀ v, v < 6 → b * 6 + i ≤ c * 6 + v → ∀ p, p ≤ N → mu ((c * 6 + v) * (N + 1) + p) = -1) → lpNamedForm_findMeetingUses_12 N (nI b) fo mn LN K (d + 1) (nI i) mu := by
    intro b hb K hK d
    induction d with
    | zero =>
      intro i mu hi h1 h2
      have : i = 6 := by omega
      subst this
      exact ⟨fun _ => hK mu (fun c hc v hv p hp => h1 c (by omega) v hv (by omega) p hp) (fun c hc hcN v hv p hp => h2 c hcN v hv (by omega) p hp) _, fun q => absurd (Int32.le_refl _) q⟩
    | succ d ih =>
      intro i mu hi h1 h2
      refine ⟨fun q => ?_, fun _ => ?_⟩
      · rw [jt6, jI_le (by omega) (by omega)] at q; omega
      · rw [jt6, jI_mul, jI_add, jI_in (by omega), jI_nat (by omega), jI_one]
        refine ⟨by omega, fun q => ih (i + 1) mu (by omega) (fun c hc v hv hlt p hp => ?_) (fun c hc v hv hle p hp => h2 c hc v hv (by omega) p hp), fun q => ?_⟩
        · by_cases e : c * 6 + v = b * 6 + i
          · have e1 : c = b := by omega
            have e2 : v = i := by omega
            subst e1 e2
            exact Or.inr ⟨fun z => (hmn c hc v hv).mpr z.1 q, h2 c hc v hv (by omega) p hp⟩
          · exact h1 c hc v hv (by omega) p hp
        · refine findUses_sp hN0 hN hF hord hL hb (by omega) ((hmn b hb i (by omega)).mp q) (fun p hp => h2 b hb i (by omega) (Nat.le_refl _) p hp) fun mu' g1 g2 => ih (i + 1) mu' (by omega) (fun c hc v hv hlt p hp => ?_) (fun c hc v hv hle p hp => ?_)
          · by_cases e : c * 6 + v = b * 6 + i
            · have e1 : c = b := by omega
              have e2 : v = i := by omega
              subst e1 e2
              exact g2 p hp
            · rw [g1 _ fun p' hp' e2 => by
                have := (ixS (N := N) hv (show i < 6 by omega) hp hp').mp e2
                omega]
              exact h1 c hc v hv (by omega) p hp
          · rw [g1 _ fun p' hp' e2 => by
              have := (ixS (N := N) hv (show i < 6 by omega) hp hp').mp e2
              omega]
            exact h2 c hc v hv (by omega) p hp
  have key : ∀ (d i : Nat) (mu : Nat → Int32), i + d = N → (∀ c, c < i → ∀ v, v < 6 → ∀ p, p ≤ N → MU N yes no mt la ns c v p (mu ((c * 6 + v) * (N + 1) + p))) → (∀ c, i ≤ c → c < N → ∀ v, v < 6 → ∀ p, p ≤ N → mu ((c * 6 + v) * (N + 1) + p) = -1) → lpNamedForm_findMeetingUses_2 N fo mn LN post (d + 1) (nI i) mu := by
    intro d
    induction d with
    | zero =>
      intro i mu hi h1 h2
      have : i = N := by omega
      subst this
      exact ⟨fun _ => hp mu h1, fun q => absurd (Int32.le_refl _) q⟩
    | succ d ih =>
      intro i mu hi h1 h2
      refine ⟨fun q => ?_, fun _ => ⟨6 + 1, ?_⟩⟩
      · rw [jI_le (by omega) (by omega)] at q; omega
      · rw [jI_one]
        exact inn i (by omega) _ (fun mu' g1 g2 x => ih (i + 1) mu' (by omega) g1 (fun c hc hcN => g2 c (by omega) hcN)) 6 0 mu (by omega) (fun c hc v hv hlt => h1 c (by omega) v hv) (fun c hc v hv hle => h2 c (by omega) hc v hv)
  exact ⟨N + 1, key N 0 mu0 (by omega) (fun c hc => by omega) (fun c _ hcN v hv p hp => h0 _ (ixlt hcN hv hp))⟩
end FU
section ASM
variable {N : Nat} {stepCount kind target first second forkVariable yes no starts mMany mKinds mVs mWs mXs mEnds mEndVariable mYes mNo mStarts : Nat → Int32}
/-- the last names of the program as it stands -/
noncomputable def LA (N : Nat) (yes no stepCount kind target : Nat → Int32) : Nat → Nat → Nat → Nat := lat N (ordOf (gsc N yes no) N) (nsF stepCount) (sets kind target) (MT N yes no stepCount kind target) (parF (gsc N yes no) N)
def NSA (N : Nat) (yes no stepCount kind target mn sn hb hp num : Nat → Int32) (nm : Nat → Prop) : Prop := NS N (ordOf (gsc N yes no) N) (nsF stepCount) (sets kind target) (MT N yes no stepCount kind target) (ordOf (gsc N yes no) N) 0 0 0 mn sn hb hp num nm
noncomputable def cnA (N : Nat) (yes no stepCount kind target : Nat → Int32) (v : Nat) : Nat := cN (nsF stepCount) (sets kind target) (MT N yes no stepCount kind target) (ordOf (gsc N yes no) N) v
theorem NSA.num {mn sn hb hp num : Nat → Int32} {nm : Nat → Prop} (h : NSA N yes no stepCount kind target mn sn hb hp num nm) {v : Nat} (hv : v < 6) : num v = nI (cnA N yes no stepCount kind target v) := by
  rw [h.1 v hv]
  unfold cur cnA
  rw [cif_neg (by omega)]
  rfl
theorem assemble_sp (hN0 : 0 < N) (hN : N ≤ 12) (hP : PR N stepCount kind target first second forkVariable yes no starts mMany mKinds mVs mWs mXs mEnds mEndVariable mYes mNo mStarts) {orderSize reached : Int32} {forerunners blw frontiers parents order : Nat → Int32} (hS : SurvIs N yes no orderSize reached forerunners blw frontiers parents order) {a1 a2 a3 a4 a5 a6 a7 a8 a9 a10 : Nat → Int32} {post : Int32 → (Nat → Int32) → (Nat → Int32) → (Nat → Int32) → (Nat → Int32) → (Nat → Int32) → (Nat → Int32) → (Nat → Int32) → (Nat → Int32) → (Nat → Int32) → (Nat → Int32) → Prop}
    (hpost : ∀ mn mu sn fu su eu LN num hb hp, NSA N yes no stepCount kind target mn sn hb hp num (fun m => ¬ hb m = -1) → UsO N (nsF stepCount) kind first second forkVariable (LA N yes no stepCount kind target) (ordOf (gsc N yes no) N) fu su eu → (∀ b, b < N → ∀ v, v < 6 → ∀ p, p ≤ N → MU N yes no (MT N yes no stepCount kind target) (LA N yes no stepCount kind target) (nsF stepCount) b v p (mu ((b * 6 + v) * (N + 1) + p))) → post (nI (sumN (cnA N yes no stepCount kind target) 6)) mn mu sn fu su eu LN num hb hp) : wpNamedForm_assemble N stepCount kind target first second forkVariable orderSize forerunners frontiers parents order a1 a2 a3 a4 a5 a6 a7 a8 a9 a10 post := by
  have hPar := hS.pa.has hN0 gsc_lt
  have hmem := fun x => ord_mem hN0 gsc_lt hPar x
  refine forgetAll_sp hN0 hN hP hS fun mn mu sn fu su eu num hb h1 h2 h3 h4 h5 h6 h7 h8 => ⟨6 + 1, ?_⟩
  have l1 : ∀ (K : Int32 → (Nat → Int32) → (Nat → Int32) → (Nat → Int32) → (Nat → Int32) → Prop), (∀ LN num hb hp, (∀ v, v < 6 → LN (N * 6 + v) = nI (100 * v)) → (∀ v, v < 6 → num v = nI 1) → (∀ v, v < 6 → hb (100 * v) = nI N ∧ hp (100 * v) = -1) → (∀ m, m < 600 → (∀ v, v < 6 → m ≠ 100 * v) → hb m = -1) → ∀ x, K x LN num hb hp) → ∀ (d i : Nat) (LN num hb hp : Nat → Int32), i + d = 6 → (∀ v, v < i → LN (N * 6 + v) = nI (100 * v)) → (∀ v, v < 6 → num v = nI (if v < i then 1 else 0)) → (∀ v, v < i → hb (100 * v) = nI N ∧ hp (100 * v) = -1) → (∀ m, m < 600 → (∀ v, v < i → m ≠ 100 * v) → hb m = -1) → lpNamedForm_assemble_6 N K (d + 1) (nI i) LN num hb hp := by
    intro K hK d
    induction d with
    | zero =>
      intro i LN num hb hp hi g1 g2 g3 g4
      have : i = 6 := by omega
      subst this
      exact ⟨fun _ => hK LN num hb hp g1 (fun v hv => by rw [g2 v hv, if_pos hv]) g3 g4 _, fun q => absurd (Int32.le_refl _) q⟩
    | succ d ih =>
      intro i LN num hb hp hi g1 g2 g3 g4
      refine ⟨fun q => ?_, fun _ => ?_⟩
      · rw [jt6, jI_le (by omega) (by omega)] at q; omega
      · rw [jI_one]
        refine newName_sp hN (by omega) (Nat.le_refl _) (c := 0) (by omega) (by rw [g2 i (by omega), if_neg (by omega)]) ?_
        simp only [Nat.add_zero]
        refine ih (i + 1) _ _ _ _ (by omega) (fun v hv => ?_) (fun v hv => ?_) (fun v hv => ?_) (fun m hm hv => ?_)
        · by_cases e : v = i
          · subst e; rw [upd_same]
          · rw [upd_other _ _ (by omega)]; exact g1 v (by omega)
        · by_cases e : v = i
          · subst e; rw [upd_same, if_pos (by omega)]
          · rw [upd_other _ _ e, g2 v hv]
            by_cases e2 : v < i
            · rw [if_pos e2, if_pos (by omega)]
            · rw [if_neg e2, if_neg (by omega)]
        · by_cases e : v = i
          · subst e; rw [upd_same, upd_same]; exact ⟨rfl, rfl⟩
          · rw [upd_other _ _ (by omega), upd_other _ _ (by omega)]; exact g3 v (by omega)
        · rw [upd_other _ _ (hv i (by omega))]
          exact g4 m hm fun v h => hv v (by omega)
  refine l1 _ (fun LN num hb hp g1 g2 g3 g4 x => ⟨(ordOf (gsc N yes no) N).length + 1, ?_⟩) 6 0 a7 num hb a10 (by omega) (fun v hv => by omega) (fun v hv => by rw [h7 v hv, if_neg (by omega)]; rfl) (fun v hv => by omega) (fun m hm _ => h8 m hm)
  refine as_blocks hN0 hN hP hS (mt := MT N yes no stepCount kind target) (fun mn sn fu su eu LN num hb hpl hNS hL hU y => ?_) (ordOf (gsc N yes no) N).length 0 [] (ordOf (gsc N yes no) N) mn sn fu su eu LN num hb hp (by omega) rfl rfl (fun b' => NS.init b' g2 h1 (fun c hc j hj => h3 _ (by omega)) (fun v hv => ⟨by rw [(g3 v hv).1]; exact jI_m1 (by omega), g3 v hv⟩) (fun m hm hv z => z (g4 m hm hv))) ⟨g1, fun c hc => (by cases hc)⟩ ⟨fun c hc => (by cases hc), fun c hc => (by cases hc), fun c hc _ => ⟨fun k hk => ⟨h4 _ (by omega), h5 _ (by omega)⟩, h6 c hc⟩⟩
  · have hmn : ∀ b, b < N → ∀ v, v < 6 → (¬ mn (b * 6 + v) = -1 ↔ MT N yes no stepCount kind target b v) := by
      intro b hb v hv
      have := (hNS 0).2.1 b hb v hv
      constructor
      · exact fun z => Classical.byContradiction fun w => z (this.2.2 w)
      · intro z
        rw [this.1 z (Or.inl ((hmem b).mpr (Mt.re z)))]
        have hx := NX.of (stepCount := stepCount) (kind := kind) (target := target) hN0 hN hPar
        obtain ⟨w, x, w1, w2, w3⟩ : ∃ w x, w < 6 ∧ mNm (ordOf (gsc N yes no) N) (nsF stepCount) (sets kind target) (MT N yes no stepCount kind target) b v = 100 * w + x ∧ x < 200 := by
          refine ⟨v, _, hv, rfl, ?_⟩
          have h1 := cN_pre (ord := ordOf (gsc N yes no) N) (ns := nsF stepCount) (st := sets kind target) (mt := MT N yes no stepCount kind target) (vis := ordOf (gsc N yes no) N) (tl := []) (by simp) ((hmem b).mpr (Mt.re z)) v
          have h2 := tot_le (st := sets kind target) (mt := MT N yes no stepCount kind target) hx.2.2.2.2.1 v (ordOf (gsc N yes no) N)
          have h3 := hx.2.2.1
          unfold cN at *
          omega
        rw [w2]
        exact jI_m1 (by omega)
    refine findMU_sp hN0 hN hS.fo hmem hL hmn h2 fun mu hMU => ⟨6 + 1, ?_⟩
    have key : ∀ (d i : Nat), i + d = 6 → lpNamedForm_assemble_68 mn mu sn fu su eu LN num hb hpl post (d + 1) (nI (sumN (cnA N yes no stepCount kind target) i)) (nI i) := by
      intro d
      induction d with
      | zero =>
        intro i hi
        have : i = 6 := by omega
        subst this
        exact ⟨fun _ => hpost mn mu sn fu su eu LN num hb hpl (hNS 0) hU hMU, fun q => absurd (Int32.le_refl _) q⟩
      | succ d ih =>
        intro i hi
        refine ⟨fun q => ?_, fun _ => ?_⟩
        · rw [jt6, jI_le (by omega) (by omega)] at q; omega
        · rw [jI_in (by omega), jI_nat (by omega), jI_one]
          refine ⟨by omega, fun v hv => ?_⟩
          have : num i = nI (cnA N yes no stepCount kind target i) := NSA.num (hNS 0) (by omega)
          rw [this, jI_add] at hv
          subst hv
          exact ih (i + 1) (by omega)
    exact key 6 0 (by omega)
end ASM
