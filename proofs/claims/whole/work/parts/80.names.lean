/-! build: the names as numbers -/
def preL : List Nat → Nat → List Nat
  | [], _ => []
  | x :: l, c => if x = c then [] else x :: preL l c
theorem preL_mem {c : Nat} : ∀ {vis tl : List Nat}, c ∈ vis → ∃ r, vis = preL (vis ++ tl) c ++ c :: r := by
  intro vis
  induction vis with
  | nil => intro tl h; cases h
  | cons x l ih =>
    intro tl h
    show ∃ r, x :: l = (if x = c then [] else x :: preL (l ++ tl) c) ++ c :: r
    by_cases e : x = c
    · subst e; rw [if_pos rfl]; exact ⟨l, rfl⟩
    · rw [if_neg e]
      have h : c ∈ l := by
        rcases List.mem_cons.mp h with h | h
        · exact absurd h.symm e
        · exact h
      obtain ⟨r, hr⟩ := ih (tl := tl) h
      refine ⟨r, ?_⟩
      rw [List.cons_append, ← hr]
theorem preL_new {b : Nat} : ∀ {vis tl : List Nat}, b ∉ vis → preL (vis ++ b :: tl) b = vis := by
  intro vis
  induction vis with
  | nil => intro tl _; show (if b = b then [] else _) = []; rw [if_pos rfl]
  | cons x l ih =>
    intro tl h
    show (if x = b then [] else x :: preL (l ++ b :: tl) b) = x :: l
    rw [if_neg (fun e => h (by simp [e])), ih (fun q => h (by simp [q]))]
section NMS
variable (ord : List Nat) (ns : Nat → Nat) (st : Nat → Nat → Nat → Prop) (mt : Nat → Nat → Prop)
noncomputable def sB (b v : Nat) : Nat → Nat
  | 0 => 0
  | k + 1 => sB b v k + cif (st b k v) 1 0
noncomputable def mB (b v : Nat) : Nat := cif (mt b v) 1 0
noncomputable def nB (b v : Nat) : Nat := mB mt b v + sB st b v (ns b)
noncomputable def tot (v : Nat) : List Nat → Nat
  | [] => 0
  | b :: l => nB ns st mt b v + tot v l
noncomputable def cN (l : List Nat) (v : Nat) : Nat := 1 + tot ns st mt v l
noncomputable def mNm (b v : Nat) : Nat := 100 * v + cN ns st mt (preL ord b) v
noncomputable def sNm (b k v : Nat) : Nat := 100 * v + (cN ns st mt (preL ord b) v + mB mt b v + sB st b v k)
noncomputable def cur (vis : List Nat) (b i k v : Nat) : Nat := cN ns st mt vis v + cif (v < i) (mB mt b v) 0 + sB st b v k
def mD (vis : List Nat) (b i c v : Nat) : Prop := c ∈ vis ∨ (c = b ∧ v < i)
/-- name m is set at pl of block c -/
def Hm (N : Nat) (vis : List Nat) (b i k m c : Nat) (pl : Int32) : Prop := (∃ v, v < 6 ∧ m = 100 * v ∧ c = N ∧ pl = -1) ∨ (∃ v, v < 6 ∧ mD vis b i c v ∧ mt c v ∧ m = mNm ord ns st mt c v ∧ pl = -1) ∨ (∃ v, v < 6 ∧ ∃ j, mD vis b k c j ∧ j < ns c ∧ st c j v ∧ m = sNm ord ns st mt c j v ∧ pl = nI j)
end NMS
section NML
variable {ord : List Nat} {ns : Nat → Nat} {st : Nat → Nat → Nat → Prop} {mt : Nat → Nat → Prop}
theorem sB_le (b v k : Nat) : sB st b v k ≤ k := by
  induction k with
  | zero => exact Nat.le_refl _
  | succ k ih =>
    simp only [sB]
    by_cases h : st b k v
    · rw [cif_pos h]; omega
    · rw [cif_neg h]; omega
theorem sB_mono (b v : Nat) {j k : Nat} (h : j ≤ k) : sB st b v j ≤ sB st b v k := by
  induction k with
  | zero => have : j = 0 := by omega
            subst this; exact Nat.le_refl _
  | succ k ih =>
    by_cases e : j = k + 1
    · subst e; exact Nat.le_refl _
    · have := ih (by omega)
      simp only [sB]; omega
theorem sB_lt {b v j k : Nat} (hj : j < k) (h : st b j v) : sB st b v j < sB st b v k := by
  have := sB_mono (st := st) b v (show j + 1 ≤ k by omega)
  simp only [sB] at this
  rw [cif_pos h] at this
  omega
theorem mB_le (b v : Nat) : mB mt b v ≤ 1 := by
  unfold mB
  by_cases h : mt b v
  · rw [cif_pos h]; omega
  · rw [cif_neg h]; omega
theorem tot_app (v : Nat) (l r : List Nat) : tot ns st mt v (l ++ r) = tot ns st mt v l + tot ns st mt v r := by
  induction l with
  | nil => simp [tot]
  | cons x l ih => simp only [List.cons_append, tot, ih]; omega
theorem cN_snoc (v : Nat) (l : List Nat) (b : Nat) : cN ns st mt (l ++ [b]) v = cN ns st mt l v + nB ns st mt b v := by
  simp only [cN, tot_app, tot]; omega
theorem tot_le (hns : ∀ b, ns b ≤ 6) (v : Nat) (l : List Nat) : tot ns st mt v l ≤ 7 * l.length := by
  induction l with
  | nil => exact Nat.le_refl _
  | cons x l ih =>
    simp only [tot, List.length_cons, nB]
    have := mB_le (mt := mt) x v
    have := sB_le (st := st) x v (ns x)
    have := hns x
    omega
theorem cN_pre {vis tl : List Nat} (ho : ord = vis ++ tl) {c : Nat} (hc : c ∈ vis) (v : Nat) : cN ns st mt (preL ord c) v + nB ns st mt c v ≤ cN ns st mt vis v := by
  subst ho
  obtain ⟨r, hr⟩ := preL_mem (tl := tl) hc
  have h1 : cN ns st mt vis v = cN ns st mt (preL (vis ++ tl) c ++ c :: r) v := congrArg (cN ns st mt · v) hr
  rw [h1]
  simp only [cN, tot_app, tot]; omega
/-- what was named is under the counters -/
theorem Hm.bound {N : Nat} {vis rest : List Nat} {b i k : Nat} (ho : ord = vis ++ b :: rest) (hnd : ord.Nodup) (hik : k = 0 ∨ i = 6) {m c : Nat} {pl : Int32} (h : Hm ord ns st mt N vis b i k m c pl) : ∃ v x, v < 6 ∧ m = 100 * v + x ∧ x < cur ns st mt vis b i k v := by
  have hb : b ∉ vis := by
    rw [ho, List.nodup_append] at hnd
    exact fun q => hnd.2.2 b q b (by simp) rfl
  have hpb : preL ord b = vis := by rw [ho]; exact preL_new hb
  rcases h with ⟨v, hv, rfl, -⟩ | ⟨v, hv, hd, hm, rfl, -⟩ | ⟨v, hv, j, hd, hj, hs, rfl, -⟩
  · exact ⟨v, 0, hv, by omega, by unfold cur cN; omega⟩
  · refine ⟨v, _, hv, rfl, ?_⟩
    have hm1 : mB mt c v = 1 := by unfold mB; rw [cif_pos hm]
    rcases hd with hd | ⟨rfl, hd⟩
    · have := cN_pre (ns := ns) (st := st) (mt := mt) ho hd v
      unfold nB at this
      unfold cur
      omega
    · rw [hpb]
      unfold cur
      rw [cif_pos hd]
      omega
  · refine ⟨v, _, hv, rfl, ?_⟩
    rcases hd with hd | ⟨rfl, hd⟩
    · have := cN_pre (ns := ns) (st := st) (mt := mt) ho hd v
      have := sB_lt hj hs
      unfold nB at *
      unfold cur
      omega
    · rw [hpb]
      have := sB_lt hd hs
      rcases hik with rfl | rfl
      · omega
      · unfold cur
        rw [cif_pos hv]
        omega
end NML
/-- the state of naming: vis are named, and of b the meetings under i and the steps under k -/
def NS (N : Nat) (ord : List Nat) (ns : Nat → Nat) (st : Nat → Nat → Nat → Prop) (mt : Nat → Nat → Prop) (vis : List Nat) (b i k : Nat) (mn sn hb hp num : Nat → Int32) (nm : Nat → Prop) : Prop :=
  (∀ v, v < 6 → num v = nI (cur ns st mt vis b i k v)) ∧
  (∀ c, c < N → ∀ v, v < 6 → (mt c v → mD vis b i c v → mn (c * 6 + v) = nI (mNm ord ns st mt c v)) ∧ (mt c v → ¬ mD vis b i c v → mn (c * 6 + v) = 0) ∧ (¬ mt c v → mn (c * 6 + v) = -1)) ∧
  (∀ c, c < N → ∀ j, j < 6 → (∀ v, v < 6 → mD vis b k c j → j < ns c → st c j v → sn (c * 6 + j) = nI (sNm ord ns st mt c j v)) ∧ ((¬ mD vis b k c j ∨ ¬ j < ns c ∨ ∀ v, v < 6 → ¬ st c j v) → sn (c * 6 + j) = -1)) ∧
  (∀ m c pl, Hm ord ns st mt N vis b i k m c pl → nm m ∧ hb m = nI c ∧ hp m = pl) ∧
  (∀ m, m < 600 → (∀ c pl, ¬ Hm ord ns st mt N vis b i k m c pl) → ¬ nm m)
section NSL
variable {N : Nat} {ord : List Nat} {ns : Nat → Nat} {st : Nat → Nat → Nat → Prop} {mt : Nat → Nat → Prop} {vis rest : List Nat} {b i k : Nat} {mn sn hb hp num : Nat → Int32} {nm nm' : Nat → Prop}
/-- what holds of the order and of the steps -/
def NX (N : Nat) (ord : List Nat) (ns : Nat → Nat) (st : Nat → Nat → Nat → Prop) : Prop := N ≤ 12 ∧ ord.Nodup ∧ ord.length ≤ N ∧ (∀ x ∈ ord, x < N) ∧ (∀ b, ns b ≤ 6) ∧ ∀ b k v v', v < 6 → v' < 6 → st b k v → st b k v' → v = v'
theorem cur_lt (hx : NX N ord ns st) (ho : ord = vis ++ b :: rest) (hk : k ≤ ns b) (v : Nat) : cur ns st mt vis b i k v < 98 := by
  have h1 := tot_le (st := st) (mt := mt) hx.2.2.2.2.1 v vis
  have h2 := hx.2.2.1
  have h3 := hx.1
  have h4 := hx.2.2.2.2.1 b
  rw [ho, List.length_append, List.length_cons] at h2
  have h5 := mB_le (mt := mt) b v
  have h6 := sB_le (st := st) b v k
  unfold cur cN
  by_cases h : v < i
  · rw [cif_pos h]; omega
  · rw [cif_neg h]; omega
theorem ordb (hx : NX N ord ns st) (ho : ord = vis ++ b :: rest) : b ∉ vis ∧ b < N ∧ preL ord b = vis := by
  have hnd := hx.2.1
  have hb : b ∉ vis := by
    rw [ho, List.nodup_append] at hnd
    exact fun q => hnd.2.2 b q b (by simp) rfl
  exact ⟨hb, hx.2.2.2.1 b (by rw [ho]; simp), by rw [ho]; exact preL_new hb⟩
theorem NS.meetSkip (h : NS N ord ns st mt vis b i 0 mn sn hb hp num nm) (hm : ¬ mt b i) : NS N ord ns st mt vis b (i + 1) 0 mn sn hb hp num nm := by
  have e1 : ∀ v, cur ns st mt vis b (i + 1) 0 v = cur ns st mt vis b i 0 v := by
    intro v
    unfold cur
    by_cases h1 : v < i
    · rw [cif_pos h1, cif_pos (by omega)]
    · rw [cif_neg h1]
      by_cases e : v = i
      · subst e
        rw [cif_pos (by omega)]
        unfold mB
        rw [cif_neg hm]
      · rw [cif_neg (by omega)]
  have e2 : ∀ c v, mt c v → (mD vis b (i + 1) c v ↔ mD vis b i c v) := by
    intro c v hcv
    unfold mD
    refine ⟨fun z => z.imp id fun z => ⟨z.1, ?_⟩, fun z => z.imp id fun z => ⟨z.1, by omega⟩⟩
    by_cases e : v = i
    · subst e; rw [z.1] at hcv; exact absurd hcv hm
    · omega
  have e3 : ∀ m c pl, Hm ord ns st mt N vis b (i + 1) 0 m c pl ↔ Hm ord ns st mt N vis b i 0 m c pl := by
    intro m c pl
    unfold Hm
    refine or_congr Iff.rfl (or_congr ⟨fun ⟨v, a1, a2, a3, a4⟩ => ⟨v, a1, (e2 c v a3).mp a2, a3, a4⟩, fun ⟨v, a1, a2, a3, a4⟩ => ⟨v, a1, (e2 c v a3).mpr a2, a3, a4⟩⟩ Iff.rfl)
  refine ⟨fun v hv => by rw [e1]; exact h.1 v hv, fun c hc v hv => ⟨fun a a2 => (h.2.1 c hc v hv).1 a ((e2 c v a).mp a2), fun a a2 => (h.2.1 c hc v hv).2.1 a fun z => a2 ((e2 c v a).mpr z), (h.2.1 c hc v hv).2.2⟩, h.2.2.1, fun m c pl a => h.2.2.2.1 m c pl ((e3 m c pl).mp a), fun m hm a => h.2.2.2.2 m hm fun c pl z => a c pl ((e3 m c pl).mpr z)⟩
theorem NS.meet (hx : NX N ord ns st) (ho : ord = vis ++ b :: rest) (h : NS N ord ns st mt vis b i 0 mn sn hb hp num nm) (hi : i < 6) (hm : mt b i) (hnm : ∀ m, nm' m ↔ m = mNm ord ns st mt b i ∨ nm m) :
    num i = nI (cur ns st mt vis b i 0 i) ∧ mNm ord ns st mt b i = 100 * i + cur ns st mt vis b i 0 i ∧ NS N ord ns st mt vis b (i + 1) 0 (upd mn (b * 6 + i) (nI (mNm ord ns st mt b i))) sn (upd hb (mNm ord ns st mt b i) (nI b)) (upd hp (mNm ord ns st mt b i) (-1)) (upd num i (nI (cur ns st mt vis b i 0 i + 1))) nm' := by
  obtain ⟨o1, o2, o3⟩ := ordb hx ho
  have hname : mNm ord ns st mt b i = 100 * i + cur ns st mt vis b i 0 i := by
    unfold mNm cur
    rw [o3, cif_neg (by omega)]
    simp [sB]
  have old : ∀ m c pl, Hm ord ns st mt N vis b i 0 m c pl → m ≠ mNm ord ns st mt b i := by
    intro m c pl a e
    obtain ⟨v, x, h1, h2, h3⟩ := a.bound ho hx.2.1 (Or.inl rfl)
    have := cur_lt (mt := mt) (i := i) (k := 0) hx ho (by omega) v
    have := cur_lt (mt := mt) (i := i) (k := 0) hx ho (by omega) i
    rw [hname] at e
    have e4 : v = i := by omega
    subst e4
    omega
  have e2 : ∀ c v, mD vis b (i + 1) c v ↔ mD vis b i c v ∨ (c = b ∧ v = i) := by
    intro c v
    unfold mD
    constructor
    · rintro (z | ⟨z, z2⟩)
      · exact Or.inl (Or.inl z)
      · by_cases e : v = i
        · exact Or.inr ⟨z, e⟩
        · exact Or.inl (Or.inr ⟨z, by omega⟩)
    · rintro ((z | z) | z)
      · exact Or.inl z
      · exact Or.inr ⟨z.1, by omega⟩
      · exact Or.inr ⟨z.1, by omega⟩
  have e3 : ∀ m c pl, Hm ord ns st mt N vis b (i + 1) 0 m c pl ↔ Hm ord ns st mt N vis b i 0 m c pl ∨ (m = mNm ord ns st mt b i ∧ c = b ∧ pl = -1) := by
    intro m c pl
    unfold Hm
    constructor
    · rintro (z | ⟨v, a1, a2, a3, a4, a5⟩ | z)
      · exact Or.inl (Or.inl z)
      · rcases (e2 c v).mp a2 with a2 | ⟨rfl, rfl⟩
        · exact Or.inl (Or.inr (Or.inl ⟨v, a1, a2, a3, a4, a5⟩))
        · exact Or.inr ⟨a4, rfl, a5⟩
      · exact Or.inl (Or.inr (Or.inr z))
    · rintro ((z | ⟨v, a1, a2, a3, a4, a5⟩ | z) | ⟨rfl, rfl, rfl⟩)
      · exact Or.inl z
      · exact Or.inr (Or.inl ⟨v, a1, (e2 c v).mpr (Or.inl a2), a3, a4, a5⟩)
      · exact Or.inr (Or.inr z)
      · exact Or.inr (Or.inl ⟨i, hi, (e2 c i).mpr (Or.inr ⟨rfl, rfl⟩), hm, rfl, rfl⟩)
  refine ⟨h.1 i hi, hname, fun v hv => ?_, fun c hc v hv => ?_, h.2.2.1, fun m c pl a => ?_, fun m hm6 a => ?_⟩
  · by_cases e : v = i
    · subst e
      rw [upd_same]
      unfold cur
      rw [cif_neg (by omega), cif_pos (by omega)]
      unfold mB
      rw [cif_pos hm]
      simp [sB]
    · rw [upd_other _ _ e, h.1 v hv]
      unfold cur
      by_cases h1 : v < i
      · rw [cif_pos h1, cif_pos (by omega)]
      · rw [cif_neg h1, cif_neg (by omega)]
  · by_cases e : c * 6 + v = b * 6 + i
    · have e4 : c = b := by omega
      have e5 : v = i := by omega
      subst e4 e5
      rw [upd_same]
      exact ⟨fun _ _ => rfl, fun _ z => absurd ((e2 c v).mpr (Or.inr ⟨rfl, rfl⟩)) z, fun z => absurd hm z⟩
    · rw [upd_other _ _ e]
      have hcv : ¬ (c = b ∧ v = i) := fun z => e (by rw [z.1, z.2])
      have := h.2.1 c hc v hv
      exact ⟨fun a a2 => this.1 a (((e2 c v).mp a2).resolve_right hcv), fun a a2 => this.2.1 a fun z => a2 ((e2 c v).mpr (Or.inl z)), this.2.2⟩
  · rcases (e3 m c pl).mp a with a | ⟨rfl, rfl, rfl⟩
    · have hne := old m c pl a
      rw [upd_other _ _ hne, upd_other _ _ hne]
      have := h.2.2.2.1 m c pl a
      exact ⟨(hnm m).mpr (Or.inr this.1), this.2⟩
    · rw [upd_same, upd_same]
      exact ⟨(hnm _).mpr (Or.inl rfl), rfl, rfl⟩
  · intro z
    rcases (hnm m).mp z with z | z
    · exact a b (-1) ((e3 m b (-1)).mpr (Or.inr ⟨z, rfl, rfl⟩))
    · exact h.2.2.2.2 m hm6 (fun c pl w => a c pl ((e3 m c pl).mpr (Or.inl w))) z
end NSL
section NSM
variable {N : Nat} {ord : List Nat} {ns : Nat → Nat} {st : Nat → Nat → Nat → Prop} {mt : Nat → Nat → Prop} {vis rest : List Nat} {b k : Nat} {mn sn hb hp num : Nat → Int32} {nm nm' : Nat → Prop}
theorem mD_succ (vis : List Nat) (b k c j : Nat) : mD vis b (k + 1) c j ↔ mD vis b k c j ∨ (c = b ∧ j = k) := by
  unfold mD
  constructor
  · rintro (z | ⟨z, z2⟩)
    · exact Or.inl (Or.inl z)
    · by_cases e : j = k
      · exact Or.inr ⟨z, e⟩
      · exact Or.inl (Or.inr ⟨z, by omega⟩)
  · rintro ((z | z) | z)
    · exact Or.inl z
    · exact Or.inr ⟨z.1, by omega⟩
    · exact Or.inr ⟨z.1, by omega⟩
theorem NS.stepSkip (h : NS N ord ns st mt vis b 6 k mn sn hb hp num nm) (hs : ∀ v, v < 6 → ¬ st b k v) : NS N ord ns st mt vis b 6 (k + 1) mn sn hb hp num nm := by
  have e3 : ∀ m c pl, Hm ord ns st mt N vis b 6 (k + 1) m c pl ↔ Hm ord ns st mt N vis b 6 k m c pl := by
    intro m c pl
    unfold Hm
    refine or_congr Iff.rfl (or_congr Iff.rfl ⟨fun ⟨v, a1, j, a2, a3, a4, a5⟩ => ⟨v, a1, j, ((mD_succ _ _ _ _ _).mp a2).resolve_right ?_, a3, a4, a5⟩, fun ⟨v, a1, j, a2, a3⟩ => ⟨v, a1, j, (mD_succ _ _ _ _ _).mpr (Or.inl a2), a3⟩⟩)
    rintro ⟨rfl, rfl⟩
    exact hs v a1 a4
  refine ⟨fun v hv => ?_, h.2.1, fun c hc j hj => ⟨fun v hv a2 a3 a4 => ?_, fun a => ?_⟩, fun m c pl a => h.2.2.2.1 m c pl ((e3 m c pl).mp a), fun m hm a => h.2.2.2.2 m hm fun c pl z => a c pl ((e3 m c pl).mpr z)⟩
  · rw [h.1 v hv]
    unfold cur
    simp only [sB]
    rw [cif_neg (hs v hv)]
    rfl
  · refine (h.2.2.1 c hc j hj).1 v hv (((mD_succ _ _ _ _ _).mp a2).resolve_right ?_) a3 a4
    rintro ⟨rfl, rfl⟩
    exact hs v hv a4
  · refine (h.2.2.1 c hc j hj).2 ?_
    by_cases e : c = b ∧ j = k
    · obtain ⟨rfl, rfl⟩ := e
      exact Or.inr (Or.inr hs)
    · exact a.imp (fun z w => z ((mD_succ _ _ _ _ _).mpr (Or.inl w))) id
theorem NS.step (hx : NX N ord ns st) (ho : ord = vis ++ b :: rest) (h : NS N ord ns st mt vis b 6 k mn sn hb hp num nm) (hk : k < ns b) {v : Nat} (hv : v < 6) (hs : st b k v) (hnm : ∀ m, nm' m ↔ m = sNm ord ns st mt b k v ∨ nm m) :
    num v = nI (cur ns st mt vis b 6 k v) ∧ sNm ord ns st mt b k v = 100 * v + cur ns st mt vis b 6 k v ∧ NS N ord ns st mt vis b 6 (k + 1) mn (upd sn (b * 6 + k) (nI (sNm ord ns st mt b k v))) (upd hb (sNm ord ns st mt b k v) (nI b)) (upd hp (sNm ord ns st mt b k v) (nI k)) (upd num v (nI (cur ns st mt vis b 6 k v + 1))) nm' := by
  obtain ⟨o1, o2, o3⟩ := ordb hx ho
  have hk6 : k < 6 := Nat.lt_of_lt_of_le hk (hx.2.2.2.2.1 b)
  have hname : sNm ord ns st mt b k v = 100 * v + cur ns st mt vis b 6 k v := by
    unfold sNm cur
    rw [o3, cif_pos hv]
  have uni : ∀ v', v' < 6 → st b k v' → v' = v := fun v' h1 h2 => hx.2.2.2.2.2 b k v' v h1 hv h2 hs
  have old : ∀ m c pl, Hm ord ns st mt N vis b 6 k m c pl → m ≠ sNm ord ns st mt b k v := by
    intro m c pl a e
    obtain ⟨w, x, h1, h2, h3⟩ := a.bound ho hx.2.1 (Or.inr rfl)
    have := cur_lt (mt := mt) (i := 6) (k := k) hx ho (by omega) w
    have := cur_lt (mt := mt) (i := 6) (k := k) hx ho (by omega) v
    rw [hname] at e
    have e4 : w = v := by omega
    subst e4
    omega
  have e3 : ∀ m c pl, Hm ord ns st mt N vis b 6 (k + 1) m c pl ↔ Hm ord ns st mt N vis b 6 k m c pl ∨ (m = sNm ord ns st mt b k v ∧ c = b ∧ pl = nI k) := by
    intro m c pl
    unfold Hm
    constructor
    · rintro (z | z | ⟨w, a1, j, a2, a3, a4, a5, a6⟩)
      · exact Or.inl (Or.inl z)
      · exact Or.inl (Or.inr (Or.inl z))
      · rcases (mD_succ _ _ _ _ _).mp a2 with a2 | ⟨rfl, rfl⟩
        · exact Or.inl (Or.inr (Or.inr ⟨w, a1, j, a2, a3, a4, a5, a6⟩))
        · rw [uni w a1 a4] at a5
          exact Or.inr ⟨a5, rfl, a6⟩
    · rintro ((z | z | ⟨w, a1, j, a2, a3⟩) | ⟨rfl, rfl, rfl⟩)
      · exact Or.inl z
      · exact Or.inr (Or.inl z)
      · exact Or.inr (Or.inr ⟨w, a1, j, (mD_succ _ _ _ _ _).mpr (Or.inl a2), a3⟩)
      · exact Or.inr (Or.inr ⟨v, hv, k, (mD_succ _ _ _ _ _).mpr (Or.inr ⟨rfl, rfl⟩), hk, hs, rfl, rfl⟩)
  refine ⟨h.1 v hv, hname, fun w hw => ?_, h.2.1, fun c hc j hj => ?_, fun m c pl a => ?_, fun m hm6 a => ?_⟩
  · by_cases e : w = v
    · subst e
      rw [upd_same]
      unfold cur
      simp only [sB]
      rw [cif_pos hs]
      rfl
    · rw [upd_other _ _ e, h.1 w hw]
      unfold cur
      simp only [sB]
      rw [cif_neg (fun z => e (uni w hw z))]
      rfl
  · by_cases e : c * 6 + j = b * 6 + k
    · have e4 : c = b := by omega
      have e5 : j = k := by omega
      subst e4 e5
      rw [upd_same]
      refine ⟨fun w hw _ _ a => by rw [uni w hw a], fun a => ?_⟩
      rcases a with a | a | a
      · exact absurd ((mD_succ _ _ _ _ _).mpr (Or.inr ⟨rfl, rfl⟩)) a
      · exact absurd hk a
      · exact absurd hs (a v hv)
    · rw [upd_other _ _ e]
      have hcv : ¬ (c = b ∧ j = k) := fun z => e (by rw [z.1, z.2])
      have := h.2.2.1 c hc j hj
      exact ⟨fun w hw a2 => this.1 w hw (((mD_succ _ _ _ _ _).mp a2).resolve_right hcv), fun a => this.2 (a.imp (fun z w => z ((mD_succ _ _ _ _ _).mpr (Or.inl w))) id)⟩
  · rcases (e3 m c pl).mp a with a | ⟨rfl, rfl, rfl⟩
    · have hne := old m c pl a
      rw [upd_other _ _ hne, upd_other _ _ hne]
      have := h.2.2.2.1 m c pl a
      exact ⟨(hnm m).mpr (Or.inr this.1), this.2⟩
    · rw [upd_same, upd_same]
      exact ⟨(hnm _).mpr (Or.inl rfl), rfl, rfl⟩
  · intro z
    rcases (hnm m).mp z with z | z
    · exact a b (nI k) ((e3 m b (nI k)).mpr (Or.inr ⟨z, rfl, rfl⟩))
    · exact h.2.2.2.2 m hm6 (fun c pl w => a c pl ((e3 m c pl).mpr (Or.inl w))) z
theorem NS.next (hx : NX N ord ns st) (h : NS N ord ns st mt vis b 6 (ns b) mn sn hb hp num nm) (b' : Nat) : NS N ord ns st mt (vis ++ [b]) b' 0 0 mn sn hb hp num nm := by
  have eM : ∀ c v, v < 6 → (mD (vis ++ [b]) b' 0 c v ↔ mD vis b 6 c v) := by
    intro c v hv
    unfold mD
    constructor
    · rintro (z | z)
      · rcases List.mem_append.mp z with z | z
        · exact Or.inl z
        · exact Or.inr ⟨by simpa using z, hv⟩
      · omega
    · rintro (z | z)
      · exact Or.inl (by simp [z])
      · exact Or.inl (by simp [z.1])
  have eS : ∀ c j, j < ns c → (mD (vis ++ [b]) b' 0 c j ↔ mD vis b (ns b) c j) := by
    intro c j hj
    unfold mD
    constructor
    · rintro (z | z)
      · rcases List.mem_append.mp z with z | z
        · exact Or.inl z
        · have : c = b := by simpa using z
          subst this
          exact Or.inr ⟨rfl, hj⟩
      · omega
    · rintro (z | z)
      · exact Or.inl (by simp [z])
      · exact Or.inl (by simp [z.1])
  have e3 : ∀ m c pl, Hm ord ns st mt N (vis ++ [b]) b' 0 0 m c pl ↔ Hm ord ns st mt N vis b 6 (ns b) m c pl := by
    intro m c pl
    unfold Hm
    exact or_congr Iff.rfl (or_congr ⟨fun ⟨v, a1, a2, a3⟩ => ⟨v, a1, (eM c v a1).mp a2, a3⟩, fun ⟨v, a1, a2, a3⟩ => ⟨v, a1, (eM c v a1).mpr a2, a3⟩⟩ ⟨fun ⟨v, a1, j, a2, a3, a4⟩ => ⟨v, a1, j, (eS c j a3).mp a2, a3, a4⟩, fun ⟨v, a1, j, a2, a3, a4⟩ => ⟨v, a1, j, (eS c j a3).mpr a2, a3, a4⟩⟩)
  refine ⟨fun v hv => ?_, fun c hc v hv => ?_, fun c hc j hj => ?_, fun m c pl a => h.2.2.2.1 m c pl ((e3 m c pl).mp a), fun m hm a => h.2.2.2.2 m hm fun c pl z => a c pl ((e3 m c pl).mpr z)⟩
  · rw [h.1 v hv]
    unfold cur
    rw [cN_snoc, cif_pos hv, cif_neg (by omega)]
    unfold nB
    simp only [sB]
    congr 1
    omega
  · rw [eM c v hv]; exact h.2.1 c hc v hv
  · have := h.2.2.1 c hc j hj
    refine ⟨fun v hv a2 a3 => this.1 v hv ((eS c j a3).mp a2) a3, fun a => this.2 ?_⟩
    by_cases hj2 : j < ns c
    · exact a.imp (fun z w => z ((eS c j hj2).mpr w)) id
    · exact Or.inr (Or.inl hj2)
/-- the beginning: the entry's names -/
theorem NS.init (b : Nat) (h1 : ∀ v, v < 6 → num v = nI 1) (h2 : ∀ c, c < N → ∀ v, v < 6 → (mt c v → mn (c * 6 + v) = 0) ∧ (¬ mt c v → mn (c * 6 + v) = -1)) (h3 : ∀ c, c < N → ∀ j, j < 6 → sn (c * 6 + j) = -1) (h4 : ∀ v, v < 6 → nm (100 * v) ∧ hb (100 * v) = nI N ∧ hp (100 * v) = -1) (h5 : ∀ m, m < 600 → (∀ v, v < 6 → m ≠ 100 * v) → ¬ nm m) : NS N ord ns st mt [] b 0 0 mn sn hb hp num nm := by
  have no : ∀ c x, ¬ mD [] b 0 c x := by
    intro c x z
    rcases z with z | z
    · cases z
    · omega
  refine ⟨fun v hv => ?_, fun c hc v hv => ⟨fun _ z => absurd z (no c v), fun a _ => (h2 c hc v hv).1 a, (h2 c hc v hv).2⟩, fun c hc j hj => ⟨fun v hv z => absurd z (no c j), fun _ => h3 c hc j hj⟩, fun m c pl a => ?_, fun m hm a => h5 m hm fun v hv e => a N (-1) (Or.inl ⟨v, hv, e, rfl, rfl⟩)⟩
  · rw [h1 v hv]
    unfold cur cN
    rw [cif_neg (by omega)]
    rfl
  · rcases a with ⟨v, hv, rfl, rfl, rfl⟩ | ⟨v, a1, a2, -⟩ | ⟨v, a1, j, a2, -⟩
    · exact h4 v hv
    · exact absurd a2 (no _ _)
    · exact absurd a2 (no _ _)
end NSM
/-! the last names -/
section LAT
variable (N : Nat) (ord : List Nat) (ns : Nat → Nat) (st : Nat → Nat → Nat → Prop) (mt : Nat → Nat → Prop) (par : Nat → Nat)
noncomputable def lst (b v x : Nat) : Nat → Nat
  | 0 => cif (mt b v) (mNm ord ns st mt b v) x
  | k + 1 => cif (st b k v) (sNm ord ns st mt b k v) (lst b v x k)
noncomputable def upn : Nat → Nat → Nat → Nat
  | 0 => fun _ v => 100 * v
  | f + 1 => fun b v => if par b = N then 100 * v else lst ord ns st mt (par b) v (upn f (par b) v) (ns (par b))
/-- the last name of v in b before its step k -/
noncomputable def lat (b v k : Nat) : Nat := lst ord ns st mt b v (upn N ord ns st mt par 13 b v) k
end LAT
section LAT2
variable {N : Nat} {ord : List Nat} {ns : Nat → Nat} {st : Nat → Nat → Nat → Prop} {mt : Nat → Nat → Prop} {par : Nat → Nat}
/-- d falls from a block to its parent -/
def Fal (N : Nat) (par d : Nat → Nat) (R : Nat → Prop) : Prop := ∀ b, R b → par b ≠ N → R (par b) ∧ d (par b) < d b
theorem upn_stable {d : Nat → Nat} {R : Nat → Prop} (hF : Fal N par d R) (v : Nat) : ∀ f b, R b → d b < f → upn N ord ns st mt par (f + 1) b v = upn N ord ns st mt par f b v := by
  intro f
  induction f with
  | zero => intro b _ h; omega
  | succ f ih =>
    intro b hb h
    show (if par b = N then _ else _) = (if par b = N then _ else _)
    by_cases e : par b = N
    · rw [if_pos e, if_pos e]
    · rw [if_neg e, if_neg e]
      obtain ⟨h1, h2⟩ := hF b hb e
      rw [ih (par b) h1 (by omega)]
theorem up_eq {d : Nat → Nat} {R : Nat → Prop} (hF : Fal N par d R) {b : Nat} (hb : R b) (hd : d b < 13) (v : Nat) : upn N ord ns st mt par 13 b v = if par b = N then 100 * v else lat N ord ns st mt par (par b) v (ns (par b)) := by
  show (if par b = N then _ else _) = _
  by_cases e : par b = N
  · rw [if_pos e, if_pos e]
  · rw [if_neg e, if_neg e]
    obtain ⟨h1, h2⟩ := hF b hb e
    unfold lat
    rw [upn_stable hF v 12 (par b) h1 (by omega)]
/-- a last name is a name -/
theorem lat_name {d : Nat → Nat} {R : Nat → Prop} (hF : Fal N par d R) (hR : ∀ b, R b → b ∈ ord) (b0 : Nat) {v : Nat} (hv : v < 6) : ∀ f b, R b → d b < f → d b < 13 → ∀ k, k ≤ ns b → ∃ c pl, Hm ord ns st mt N ord b0 0 0 (lat N ord ns st mt par b v k) c pl := by
  intro f
  induction f with
  | zero => intro b _ h; omega
  | succ f ih =>
    intro b hb h h13 k
    induction k with
    | zero =>
      intro _
      unfold lat
      simp only [lst]
      by_cases hm : mt b v
      · rw [cif_pos hm]
        exact ⟨b, -1, Or.inr (Or.inl ⟨v, hv, Or.inl (hR b hb), hm, rfl, rfl⟩)⟩
      · rw [cif_neg hm, up_eq hF hb h13 v]
        by_cases e : par b = N
        · rw [if_pos e]
          exact ⟨N, -1, Or.inl ⟨v, hv, rfl, rfl, rfl⟩⟩
        · rw [if_neg e]
          obtain ⟨h1, h2⟩ := hF b hb e
          exact ih (par b) h1 (by omega) (by omega) _ (Nat.le_refl _)
    | succ k ihk =>
      intro hk
      unfold lat
      simp only [lst]
      by_cases hs : st b k v
      · rw [cif_pos hs]
        exact ⟨b, nI k, Or.inr (Or.inr ⟨v, hv, k, Or.inl (hR b hb), by omega, hs, rfl, rfl⟩)⟩
      · rw [cif_neg hs]
        exact ihk (by omega)
end LAT2
