/-! rings of moves -/
def Pth (E : Nat → Nat → Prop) : Nat → Nat → Nat → Prop
  | 0 => fun v w => v = w
  | n + 1 => fun v w => ∃ x, E v x ∧ Pth E n x w
def Rp (E : Nat → Nat → Prop) (v w : Nat) : Prop := ∃ n, Pth E (n + 1) v w
def det (E : Nat → Nat → Prop) : Prop := ∀ u w w', E u w → E u w' → w = w'
section RG
variable {E E' : Nat → Nat → Prop}
theorem Pth.app : ∀ {n m v w z : Nat}, Pth E n v w → Pth E m w z → Pth E (n + m) v z := by
  intro n
  induction n with
  | zero => intro m v w z h1 h2; rw [Nat.zero_add]; have h1 : v = w := h1; subst h1; exact h2
  | succ n ih =>
    rintro m v w z ⟨x, h1, h2⟩ h3
    rw [show n + 1 + m = (n + m) + 1 by omega]
    exact ⟨x, h1, ih h2 h3⟩
theorem Pth.split : ∀ {n m v z : Nat}, Pth E (n + m) v z → ∃ w, Pth E n v w ∧ Pth E m w z := by
  intro n
  induction n with
  | zero => intro m v z h; rw [Nat.zero_add] at h; exact ⟨v, rfl, h⟩
  | succ n ih =>
    intro m v z h
    rw [show n + 1 + m = (n + m) + 1 by omega] at h
    obtain ⟨x, h1, h2⟩ := h
    obtain ⟨w, h3, h4⟩ := ih h2
    exact ⟨w, ⟨x, h1, h3⟩, h4⟩
theorem Pth.det (hd : det E) : ∀ {n v w w' : Nat}, Pth E n v w → Pth E n v w' → w = w' := by
  intro n
  induction n with
  | zero => intro v w w' h1 h2; have h1 : v = w := h1; have h2 : v = w' := h2; rw [← h1, ← h2]
  | succ n ih =>
    rintro v w w' ⟨x, h1, h2⟩ ⟨y, h3, h4⟩
    rw [hd v y x h3 h1] at h4
    exact ih h2 h4
theorem Pth.mono (h : ∀ u w, E u w → E' u w) : ∀ {n v w : Nat}, Pth E n v w → Pth E' n v w := by
  intro n
  induction n with
  | zero => exact fun h => h
  | succ n ih => exact fun ⟨x, h1, h2⟩ => ⟨x, h _ _ h1, ih h2⟩
theorem Rp.mono (h : ∀ u w, E u w → E' u w) {v w : Nat} (h1 : Rp E v w) : Rp E' v w := by
  obtain ⟨n, h1⟩ := h1
  exact ⟨n, h1.mono h⟩
theorem Rp.of {v w : Nat} (h : E v w) : Rp E v w := ⟨0, w, h, rfl⟩
theorem Rp.trans {v w z : Nat} (h1 : Rp E v w) (h2 : Rp E w z) : Rp E v z := by
  obtain ⟨n, h1⟩ := h1
  obtain ⟨m, h2⟩ := h2
  exact ⟨n + 1 + m, (h1.app h2)⟩
theorem Rp.last {v w : Nat} (h : Rp E v w) : ∃ y, (y = v ∨ Rp E v y) ∧ E y w := by
  obtain ⟨n, h⟩ := h
  obtain ⟨y, h1, z, h2, h3⟩ := Pth.split (n := n) (m := 1) h
  have h3 : z = w := h3
  subst h3
  refine ⟨y, ?_, h2⟩
  cases n with
  | zero => have h1 : v = y := h1; exact Or.inl h1.symm
  | succ n => exact Or.inr ⟨n, h1⟩
theorem cyc_mul {m v : Nat} (h : Pth E m v v) : ∀ k, Pth E (m * k) v v := by
  intro k
  induction k with
  | zero => exact rfl
  | succ k ih => rw [Nat.mul_succ]; exact ih.app h
theorem cyc_next (hd : det E) {v : Nat} (hv : Rp E v v) {n w : Nat} (h : Pth E n v w) : ∃ x, E w x := by
  obtain ⟨m, hm⟩ := hv
  have h1 := cyc_mul hm (n + 1)
  have e : (m + 1) * (n + 1) = n + (1 + m * (n + 1)) := by rw [Nat.add_mul]; omega
  rw [e] at h1
  obtain ⟨y, h2, h3⟩ := h1.split
  obtain ⟨z, ⟨x, h4, -⟩, -⟩ := h3.split
  rw [h2.det hd h] at h4
  exact ⟨x, h4⟩
theorem cyc_back (hd : det E) {v w : Nat} (hv : Rp E v v) (h : Rp E v w) : Rp E w v := by
  obtain ⟨m, hm⟩ := hv
  obtain ⟨n, h⟩ := h
  have h1 := cyc_mul hm (n + 2)
  have e : (m + 1) * (n + 2) = (n + 1) + (m * (n + 2) + 1) := by rw [Nat.add_mul]; omega
  rw [e] at h1
  obtain ⟨y, h2, h3⟩ := h1.split
  rw [h2.det hd h] at h3
  exact ⟨_, h3⟩
/-- from a ring of E' one does not leave it along E -/
theorem cyc_follow (hd : det E) (hs : ∀ u w, E' u w → E u w) {v : Nat} (hv : Rp E' v v) : ∀ {n w : Nat}, Pth E n v w → Pth E' n v w := by
  have hd' : det E' := fun u w w' h1 h2 => hd u w w' (hs _ _ h1) (hs _ _ h2)
  intro n w h
  have ex : ∀ n, ∃ w, Pth E' n v w := by
    intro n
    induction n with
    | zero => exact ⟨v, rfl⟩
    | succ n ih =>
      obtain ⟨w, hw⟩ := ih
      obtain ⟨x, hx⟩ := cyc_next hd' hv hw
      exact ⟨x, hw.app (m := 1) ⟨x, hx, rfl⟩⟩
  obtain ⟨w', hw'⟩ := ex n
  rw [h.det hd (hw'.mono hs)]
  exact hw'
end RG
/-- v is the first of a ring that nobody outside reads -/
def Qr (E : Nat → Nat → Prop) (v : Nat) : Prop := Rp E v v ∧ (∀ u w, E u w → Rp E v w → Rp E v u) ∧ ∀ w, Rp E v w → v ≤ w
section RQ
variable {E E' : Nat → Nat → Prop}
theorem Q_free (hd : det E) {i : Nat} {src : Nat → Nat} (h1 : ∀ u w, E' u w ↔ E u w ∧ u ≠ i ∧ ¬ src u = src i) (h2 : ∀ u, ¬ E u i) (h3 : ∀ u w, E u w → src u = src i → E i w) (h4 : ∀ u y w, E u w → E y w → src u = src y) (v : Nat) : Qr E' v ↔ Qr E v := by
  have hs : ∀ u w, E' u w → E u w := fun u w h => ((h1 u w).mp h).1
  have hd' : det E' := fun u w w' a b => hd u w w' (hs _ _ a) (hs _ _ b)
  constructor
  · rintro ⟨q1, q2, q3⟩
    have fo : ∀ {w}, Rp E v w → Rp E' v w := fun ⟨n, h⟩ => ⟨n, cyc_follow hd hs q1 h⟩
    refine ⟨q1.mono hs, fun u w e r => ?_, fun w r => q3 w (fo r)⟩
    have r' := fo r
    obtain ⟨y, hy, ey⟩ := r'.last
    have ey' := (h1 y w).mp ey
    have e' : E' u w := (h1 u w).mpr ⟨e, fun z => ey'.2.2 (by rw [← z]; exact h4 y u w ey'.1 e), fun z => ey'.2.2 ((h4 y u w ey'.1 e).trans z)⟩
    exact (q2 u w e' r').mono hs
  · rintro ⟨q1, q2, q3⟩
    have ni : ∀ {y}, (y = v ∨ Rp E v y) → y ≠ i := by
      intro y hy e
      subst e
      have : Rp E v y := by
        rcases hy with rfl | hy
        · exact q1
        · exact hy
      obtain ⟨z, -, ez⟩ := this.last
      exact h2 z ez
    have step : ∀ {y w}, (y = v ∨ Rp E v y) → E y w → E' y w := by
      intro y w hy e
      have rw : Rp E v w := by
        rcases hy with rfl | hy
        · exact .of e
        · exact hy.trans (.of e)
      refine (h1 y w).mpr ⟨e, ni hy, fun z => ?_⟩
      exact ni (Or.inr (q2 i w (h3 y w e z) rw)) rfl
    have fo : ∀ n w, Pth E n v w → Pth E' n v w := by
      intro n
      induction n with
      | zero => exact fun w h => h
      | succ n ih =>
        intro w h
        obtain ⟨y, g1, g2⟩ := Pth.split (n := n) (m := 1) h
        obtain ⟨x, g3, g4⟩ := g2
        have g4 : x = w := g4
        subst g4
        have hy : y = v ∨ Rp E v y := by
          cases n with
          | zero => have g1 : v = y := g1; exact Or.inl g1.symm
          | succ n => exact Or.inr ⟨n, g1⟩
        exact (ih y g1).app (m := 1) ⟨x, step hy g3, rfl⟩
    have foR : ∀ {w}, Rp E v w → Rp E' v w := fun ⟨n, h⟩ => ⟨n, fo _ _ h⟩
    exact ⟨foR q1, fun u w e r => foR (q2 u w (hs _ _ e) (r.mono hs)), fun w r => q3 w (r.mono hs)⟩
theorem Q_spare (hd : det E) {x : Nat} (h1 : ∀ u w, E' u w ↔ E u w ∧ w ≠ x) (hB2 : ∀ u u' w, E u w → E u' w → u = u') (v : Nat) : Qr E' v ↔ Qr E v ∧ ¬ Rp E v x := by
  have hs : ∀ u w, E' u w → E u w := fun u w h => ((h1 u w).mp h).1
  have nx : ∀ {u}, ¬ Rp E' u x := by
    intro u h
    obtain ⟨y, -, e⟩ := h.last
    exact ((h1 y x).mp e).2 rfl
  constructor
  · rintro ⟨q1, q2, q3⟩
    have fo : ∀ {w}, Rp E v w → Rp E' v w := fun ⟨n, h⟩ => ⟨n, cyc_follow hd hs q1 h⟩
    refine ⟨⟨q1.mono hs, fun u w e r => ?_, fun w r => q3 w (fo r)⟩, fun r => nx (fo r)⟩
    obtain ⟨y, hy, ey⟩ := r.last
    have := hB2 u y w e ey
    subst this
    rcases hy with rfl | hy
    · exact q1.mono hs
    · exact hy
  · rintro ⟨⟨q1, q2, q3⟩, hx⟩
    have fo : ∀ n w, Pth E n v w → Pth E' n v w := by
      intro n
      induction n with
      | zero => exact fun w h => h
      | succ n ih =>
        intro w h
        obtain ⟨y, g1, g2⟩ := Pth.split (n := n) (m := 1) h
        obtain ⟨z, g3, g4⟩ := g2
        have g4 : z = w := g4
        subst g4
        exact (ih y g1).app (m := 1) ⟨z, (h1 y z).mpr ⟨g3, fun e => hx (e ▸ ⟨n, h⟩)⟩, rfl⟩
    have foR : ∀ {w}, Rp E v w → Rp E' v w := fun ⟨n, h⟩ => ⟨n, fo _ _ h⟩
    exact ⟨foR q1, fun u w e r => foR (q2 u w (hs _ _ e) (r.mono hs)), fun w r => q3 w (r.mono hs)⟩
theorem least_of {P : Nat → Prop} {w : Nat} (h : P w) : ∃ m, P m ∧ ∀ z, P z → m ≤ z := by
  have : ∀ n w, w ≤ n → P w → ∃ m, P m ∧ ∀ z, P z → m ≤ z := by
    intro n
    induction n with
    | zero => intro w hw h; exact ⟨w, h, fun z _ => by omega⟩
    | succ n ih =>
      intro w hw h
      by_cases e : ∃ z, P z ∧ z < w
      · obtain ⟨z, hz, hlt⟩ := e
        exact ih z (by omega) hz
      · exact ⟨w, h, fun z hz => Nat.not_lt.mp fun q => e ⟨z, hz, q⟩⟩
  exact this w w (Nat.le_refl _) h
/-- on a finite set on which E is a bijection, each lies on a ring -/
theorem ring_of (hd : det E) {al : Nat → Prop} (h6 : ∀ v, al v → v < 6) (hB1 : ∀ v, al v → ∃ w, E v w ∧ al w) (hB2 : ∀ u u' w, E u w → E u' w → u = u') {x : Nat} (hx : al x) : Rp E x x := by
  have ex : ∀ n, ∃ w, Pth E n x w ∧ al w := by
    intro n
    induction n with
    | zero => exact ⟨x, rfl, hx⟩
    | succ n ih =>
      obtain ⟨w, h1, h2⟩ := ih
      obtain ⟨z, h3, h4⟩ := hB1 w h2
      exact ⟨z, h1.app (m := 1) ⟨z, h3, rfl⟩, h4⟩
  have inj : ∀ n u u' w, Pth E n u w → Pth E n u' w → u = u' := by
    intro n
    induction n with
    | zero => intro u u' w h1 h2; have h1 : u = w := h1; have h2 : u' = w := h2; rw [h1, h2]
    | succ n ih =>
      rintro u u' w ⟨y, h1, h2⟩ ⟨y', h3, h4⟩
      rw [ih y' y w h4 h2] at h3
      exact hB2 u u' y h1 h3
  obtain ⟨f, hf⟩ := Classical.axiomOfChoice ex
  have hrep : ∃ i j, i < j ∧ f i = f j := by
    refine Classical.byContradiction fun hn => ?_
    have hnd : ((List.range 7).map f).Nodup := by
      rw [List.nodup_iff_pairwise_ne, List.pairwise_map]
      refine List.Pairwise.imp ?_ (List.pairwise_lt_range (n := 7))
      exact fun {i j} h e => hn ⟨i, j, h, e⟩
    have := nodup_len 6 _ hnd fun z hz => by
      obtain ⟨i, -, rfl⟩ := List.mem_map.mp hz
      exact h6 _ (hf i).2
    rw [List.length_map, List.length_range] at this
    omega
  obtain ⟨i, j, hij, e⟩ := hrep
  have h1 := (hf j).1
  rw [show j = (j - i) + i by omega] at h1
  obtain ⟨w, h2, h3⟩ := h1.split
  have h4 := (hf i).1
  rw [show (j - i) + i = j by omega, ← e] at h3
  have := inj i w x _ h3 h4
  subst this
  refine ⟨j - i - 1, ?_⟩
  rw [show j - i - 1 + 1 = j - i by omega]
  exact h2
theorem Q_one (hd : det E) {al : Nat → Prop} (h6 : ∀ v, al v → v < 6) (hal : ∀ u w, E u w → al u ∧ al w) (hB1 : ∀ v, al v → ∃ w, E v w ∧ al w) (hB2 : ∀ u u' w, E u w → E u' w → u = u') {x : Nat} (hx : al x) : ∃ v0, v0 < 6 ∧ Qr E v0 ∧ Rp E v0 x ∧ ∀ v, Qr E v → Rp E v x → v = v0 := by
  have rx := ring_of hd h6 hB1 hB2 hx
  obtain ⟨v0, h1, h2⟩ := least_of (P := fun w => Rp E x w) rx
  have b1 := cyc_back hd rx h1
  have r0 : Rp E v0 v0 := b1.trans h1
  have hv6 : v0 < 6 := by
    obtain ⟨y, -, e⟩ := h1.last
    exact h6 _ (hal _ _ e).2
  refine ⟨v0, hv6, ⟨r0, fun u w e r => ?_, fun w r => h2 w (h1.trans r)⟩, b1, fun v q r => ?_⟩
  · obtain ⟨y, hy, ey⟩ := r.last
    have := hB2 u y w e ey
    subst this
    rcases hy with rfl | hy
    · exact r0
    · exact hy
  · have a1 : v ≤ v0 := q.2.2 v0 (r.trans h1)
    have a2 : v0 ≤ v := h2 v (cyc_back hd q.1 r)
    omega
end RQ
noncomputable def qc (E : Nat → Nat → Prop) : Nat → Nat
  | 0 => 0
  | n + 1 => qc E n + cif (Qr E n) 1 0
theorem qc_cong {E E' : Nat → Nat → Prop} (h : ∀ v, Qr E' v ↔ Qr E v) (n : Nat) : qc E' n = qc E n := by
  induction n with
  | zero => rfl
  | succ n ih =>
    simp only [qc, ih]
    by_cases q : Qr E n
    · rw [cif_pos q, cif_pos ((h n).mpr q)]
    · rw [cif_neg q, cif_neg fun z => q ((h n).mp z)]
theorem qc_less {E E' : Nat → Nat → Prop} {v0 : Nat} (h0 : Qr E v0) (h : ∀ v, Qr E' v ↔ Qr E v ∧ v ≠ v0) (n : Nat) : qc E' n + (if v0 < n then 1 else 0) = qc E n := by
  induction n with
  | zero => rfl
  | succ n ih =>
    simp only [qc]
    by_cases e : n = v0
    · subst e
      rw [cif_pos h0, cif_neg fun z => ((h n).mp z).2 rfl, if_pos (by omega)]
      rw [if_neg (by omega)] at ih
      omega
    · have : Qr E' n ↔ Qr E n := ⟨fun z => ((h n).mp z).1, fun z => (h n).mpr ⟨z, e⟩⟩
      by_cases q : Qr E n
      · rw [cif_pos q, cif_pos (this.mpr q)]
        by_cases e2 : v0 < n
        · rw [if_pos e2] at ih; rw [if_pos (by omega)]; omega
        · rw [if_neg e2] at ih; rw [if_neg (by omega)]; omega
      · rw [cif_neg q, cif_neg fun z => q (this.mp z)]
        by_cases e2 : v0 < n
        · rw [if_pos e2] at ih; rw [if_pos (by omega)]; omega
        · rw [if_neg e2] at ih; rw [if_neg (by omega)]; omega
/-- of six, at most three are first of rings -/
theorem qc_three {E : Nat → Nat → Prop} (hd : det E) (hns : ∀ v, ¬ E v v) (h6 : ∀ u w, E u w → u < 6 ∧ w < 6) : qc E 6 ≤ 3 := by
  have key : ∀ n, ∃ l : List Nat, l.length = qc E n ∧ l.Nodup ∧ ∀ v ∈ l, v < n ∧ Qr E v := by
    intro n
    induction n with
    | zero => exact ⟨[], rfl, List.nodup_nil, fun v hv => by cases hv⟩
    | succ n ih =>
      obtain ⟨l, h1, h2, h3⟩ := ih
      simp only [qc]
      by_cases q : Qr E n
      · rw [cif_pos q]
        refine ⟨n :: l, by rw [List.length_cons, h1], List.nodup_cons.mpr ⟨fun z => by have := (h3 n z).1; omega, h2⟩, fun v hv => ?_⟩
        rcases List.mem_cons.mp hv with rfl | hv
        · exact ⟨by omega, q⟩
        · exact ⟨by have := (h3 v hv).1; omega, (h3 v hv).2⟩
      · rw [cif_neg q]
        exact ⟨l, h1, h2, fun v hv => ⟨by have := (h3 v hv).1; omega, (h3 v hv).2⟩⟩
  obtain ⟨l, h1, h2, h3⟩ := key 6
  have ex : ∀ v : Nat, ∃ w, Qr E v → E v w := by
    intro v
    by_cases q : Qr E v
    · obtain ⟨n, x, hx, -⟩ := q.1
      exact ⟨x, fun _ => hx⟩
    · exact ⟨0, fun z => absurd z q⟩
  obtain ⟨f, hf⟩ := Classical.axiomOfChoice ex
  have inj : ∀ v v', Qr E v → Qr E v' → f v = f v' → v = v' := by
    intro v v' q q' e
    have e1 := hf v q
    have e2 := hf v' q'
    rw [← e] at e2
    have a1 := q.2.2 _ (q.2.1 v' _ e2 (.of e1))
    have a2 := q'.2.2 _ (q'.2.1 v _ e1 (.of e2))
    omega
  have notQ : ∀ v, Qr E v → ¬ Qr E (f v) := by
    intro v q q'
    have e1 := hf v q
    have a1 := q.2.2 _ (.of e1)
    have a2 := q'.2.2 _ (cyc_back hd q.1 (.of e1))
    have : f v = v := by omega
    rw [this] at e1
    exact hns v e1
  have hnd : (l ++ l.map f).Nodup := by
    rw [List.nodup_append]
    refine ⟨h2, ?_, fun a ha b hb e => ?_⟩
    · rw [List.nodup_iff_pairwise_ne, List.pairwise_map]
      rw [List.nodup_iff_pairwise_ne] at h2
      exact List.Pairwise.imp_of_mem (fun {a b} ha hb hne e => hne (inj a b (h3 a ha).2 (h3 b hb).2 e)) h2
    · subst e
      obtain ⟨v, hv, rfl⟩ := List.mem_map.mp hb
      exact notQ v (h3 v hv).2 (h3 _ ha).2
  have := nodup_len 6 _ hnd fun z hz => by
    rcases List.mem_append.mp hz with z' | z'
    · exact (h3 _ z').1
    · obtain ⟨v, hv, rfl⟩ := List.mem_map.mp z'
      exact (h6 _ _ (hf v (h3 v hv).2)).2
  rw [List.length_append, List.length_map] at this
  omega
/-- T without repetition, all in S, S not longer: then S is without repetition and in T -/
theorem sub_eq : ∀ (T S : List Nat), T.Nodup → (∀ x ∈ T, x ∈ S) → S.length ≤ T.length → S.Nodup ∧ ∀ x ∈ S, x ∈ T := by
  intro T
  induction T with
  | nil =>
    intro S _ _ h
    have : S = [] := List.eq_nil_of_length_eq_zero (by simpa using h)
    subst this
    exact ⟨List.nodup_nil, fun x hx => by cases hx⟩
  | cons a T ih =>
    intro S hn hs hl
    obtain ⟨S1, S2, e⟩ := List.append_of_mem (hs a (by simp))
    subst e
    rw [List.nodup_cons] at hn
    simp only [List.length_append, List.length_cons] at hl
    obtain ⟨h1, h2⟩ := ih (S1 ++ S2) hn.2 (fun x hx => by
      have := hs x (by simp [hx])
      simp only [List.mem_append, List.mem_cons] at this ⊢
      rcases this with z | z | z
      · exact Or.inl z
      · subst z; exact absurd hx hn.1
      · exact Or.inr z) (by rw [List.length_append]; omega)
    have ha : a ∉ S1 ++ S2 := fun z => hn.1 (h2 a z)
    refine ⟨?_, fun x hx => ?_⟩
    · rw [List.nodup_append] at h1 ⊢
      refine ⟨h1.1, List.nodup_cons.mpr ⟨fun z => ha (by simp [z]), h1.2.1⟩, fun y hy z hz e => ?_⟩
      rcases List.mem_cons.mp hz with w | w
      · subst w; subst e; exact ha (by simp [hy])
      · exact h1.2.2 y hy z w e
    · simp only [List.mem_append, List.mem_cons] at hx ⊢
      rcases hx with z | z | z
      · exact Or.inr (h2 x (by simp [z]))
      · exact Or.inl z
      · exact Or.inr (h2 x (by simp [z]))
/-! the class's plan of copies -/
/-- the values after the first k copies -/
def exN (val : Nat → Int32) (cT cF : Nat → Int32) : Nat → (Nat → Int32)
  | 0 => val
  | k + 1 => upd (exN val cT cF k) (cT k).toNatClampNeg (exN val cT cF k (cF k).toNatClampNeg)
theorem exN_cong {val cT cF cT' cF' : Nat → Int32} : ∀ {k : Nat}, (∀ i, i < k → cT i = cT' i ∧ cF i = cF' i) → exN val cT cF k = exN val cT' cF' k := by
  intro k
  induction k with
  | zero => intro _; rfl
  | succ k ih =>
    intro h
    simp only [exN]
    rw [ih fun i hi => h i (by omega), (h k (by omega)).1, (h k (by omega)).2]
/-- the moves that wait: n of them, a their variables, src what they read now -/
def alv (n : Nat) (a : Nat → Nat) (v : Nat) : Prop := ∃ i, i < n ∧ a i = v
def Eg (n : Nat) (a t src : Nat → Nat) (u w : Nat) : Prop := alv n a u ∧ alv n a w ∧ src u = t w
/-- which moves there are -/
def Mvs (mv : Nat → Prop) (t s0 : Nat → Nat) : Prop := (∀ v, mv v → v < 6 ∧ t v < 600 ∧ s0 v < 600 ∧ s0 v ≠ t v) ∧ ∀ v w, mv v → mv w → t v = t w → v = w
def DR (mv : Nat → Prop) (t s0 : Nat → Nat) (tt n : Nat) (a src : Nat → Nat) (len : Nat) (pT pF cT cF : Nat → Int32) : Prop :=
  (n ≤ 6 ∧ (∀ i, i < n → mv (a i) ∧ pT i = nI (t (a i)) ∧ pF i = nI (src (a i)) ∧ src (a i) ≤ 600 ∧ src (a i) ≠ t (a i)) ∧ ∀ i j, i < n → j < n → a i = a j → i = j) ∧
  len + n + qc (Eg n a t src) 6 = tt ∧
  (∀ i, i < len → ∃ x y, x ≤ 600 ∧ y ≤ 600 ∧ cT i = nI x ∧ cF i = nI y) ∧
  ∀ val : Nat → Int32, (∀ v, alv n a v → exN val cT cF len (src v) = val (s0 v)) ∧ (∀ v, mv v → ¬ alv n a v → exN val cT cF len (t v) = val (s0 v)) ∧ (∀ x, x < 600 → (∀ v, mv v → ¬ alv n a v → x ≠ t v) → exN val cT cF len x = val x)
section DRS
variable {mv : Nat → Prop} {t s0 : Nat → Nat} {tt n : Nat} {a src : Nat → Nat} {len : Nat} {pT pF cT cF : Nat → Int32}
theorem Eg.det (hM : Mvs mv t s0) (h : DR mv t s0 tt n a src len pT pF cT cF) : det (Eg n a t src) := by
  rintro u w w' ⟨h1, ⟨i, hi, rfl⟩, h3⟩ ⟨-, ⟨j, hj, rfl⟩, h4⟩
  exact hM.2 _ _ (h.1.2.1 i hi).1 (h.1.2.1 j hj).1 (h3.symm.trans h4)
theorem awaited_sp {k : Nat} (hn : n ≤ 6) {x : Int32} {post : Bool → Prop} (hp : ∀ z, (z = true ↔ ∃ i, i < n ∧ pF i = x) → post z) : wpCopyPlan_isAwaited (nI n) pF x post := by
  have key : ∀ (d i : Nat), i + d = n → (∀ j, j < i → ¬ pF j = x) → lpCopyPlan_isAwaited_2 x (nI n) pF post (d + 1) (nI i) := by
    intro d
    induction d with
    | zero =>
      intro i hi h
      have : i = n := by omega
      subst this
      exact ⟨fun _ => hp false ⟨fun z => by (cases z), fun ⟨j, hj, e⟩ => absurd e (h j hj)⟩, fun q => absurd (Int32.le_refl _) q⟩
    | succ d ih =>
      intro i hi h
      refine ⟨fun q => ?_, fun _ => ?_⟩
      · rw [jI_le (by omega) (by omega)] at q; omega
      · rw [jI_in (by omega), jI_nat (by omega), jI_one]
        refine ⟨by omega, fun q => ih (i + 1) (by omega) fun j hj => ?_, fun q => hp true ⟨fun _ => ⟨i, by omega, q⟩, fun _ => rfl⟩⟩
        by_cases e : j = i
        · subst e; exact q
        · exact h j (by omega)
  exact ⟨n + 1, key n 0 (by omega) (fun j hj => by omega)⟩
theorem freeMove_sp (hn : n ≤ 6) {post : Int32 → Prop} (h1 : ∀ i, i < n → (∀ j, j < n → ¬ pF j = pT i) → post (nI i)) (h2 : (∀ i, i < n → ∃ j, j < n ∧ pF j = pT i) → post (-1)) : wpCopyPlan_freeMove (nI n) pT pF post := by
  have key : ∀ (d i : Nat), i + d = n → (∀ k, k < i → ∃ j, j < n ∧ pF j = pT k) → lpCopyPlan_freeMove_2 (nI n) pT pF post (d + 1) (nI i) := by
    intro d
    induction d with
    | zero =>
      intro i hi h
      have : i = n := by omega
      subst this
      exact ⟨fun _ => h2 h, fun q => absurd (Int32.le_refl _) q⟩
    | succ d ih =>
      intro i hi h
      refine ⟨fun q => ?_, fun _ => ?_⟩
      · rw [jI_le (by omega) (by omega)] at q; omega
      · rw [jI_in (by omega), jI_nat (by omega), jI_one]
        refine ⟨by omega, awaited_sp (k := 0) hn fun z hz => ⟨fun q => ih (i + 1) (by omega) fun k hk => ?_, fun q => h1 i (by omega) fun j hj e => ?_⟩⟩
        · by_cases e : k = i
          · subst e; exact hz.mp q
          · exact h k (by omega)
        · rw [hz.mpr ⟨j, hj, e⟩] at q; cases q
  exact ⟨n + 1, key n 0 (by omega) (fun j hj => by omega)⟩
theorem readFrom_sp (hn : n ≤ 6) {l : Nat} (hl : 0 < l) (hl9 : l ≤ 9) {post : (Nat → Int32) → Prop} (hp : ∀ g, (∀ i, i < n → (pF i = cF (l - 1) → g i = cT (l - 1)) ∧ (¬ pF i = cF (l - 1) → g i = pF i)) → post g) : wpCopyPlan_readFromCopy (nI n) (nI l) pF cT cF post := by
  have key : ∀ (d i : Nat) (g : Nat → Int32), i + d = n → (∀ j, j < i → (pF j = cF (l - 1) → g j = cT (l - 1)) ∧ (¬ pF j = cF (l - 1) → g j = pF j)) → (∀ j, i ≤ j → g j = pF j) → lpCopyPlan_readFromCopy_2 (nI n) (nI l) cT cF post (d + 1) (nI i) g := by
    intro d
    induction d with
    | zero =>
      intro i g hi h1 h2
      have : i = n := by omega
      subst this
      exact ⟨fun _ => hp g h1, fun q => absurd (Int32.le_refl _) q⟩
    | succ d ih =>
      intro i g hi h1 h2
      refine ⟨fun q => ?_, fun _ => ?_⟩
      · rw [jI_le (by omega) (by omega)] at q; omega
      · rw [jI_in (by omega), jI_nat (by omega), jI_one, jt1, jI_sub (by omega), jI_in (by omega), jI_nat (by omega), h2 i (Nat.le_refl _)]
        refine ⟨by omega, by omega, fun q => ih (i + 1) g (by omega) (fun j hj => ?_) (fun j hj => h2 j (by omega)), fun q => ⟨by omega, by omega, ih (i + 1) _ (by omega) (fun j hj => ?_) (fun j hj => by rw [upd_other _ _ (by omega)]; exact h2 j (by omega))⟩⟩
        · by_cases e : j = i
          · subst e; exact ⟨fun z => absurd z q, fun _ => h2 j (Nat.le_refl _)⟩
          · exact h1 j (by omega)
        · by_cases e : j = i
          · subst e; rw [upd_same]; exact ⟨fun _ => rfl, fun z => absurd q z⟩
          · rw [upd_other _ _ e]; exact h1 j (by omega)
  exact ⟨n + 1, key n 0 pF (by omega) (fun j hj => by omega) (fun _ _ => rfl)⟩
/-- a move that nobody waits for goes -/
theorem DR.free (hM : Mvs mv t s0) (h : DR mv t s0 tt n a src len pT pF cT cF) {f : Nat} (hf : f < n) (hfr : ∀ j, j < n → ¬ pF j = pT f) {pF' : Nat → Int32} (hpF : ∀ i, i < n - 1 → (upd pF f (pF (n - 1)) i = pF f → pF' i = pT f) ∧ (¬ upd pF f (pF (n - 1)) i = pF f → pF' i = upd pF f (pF (n - 1)) i)) : DR mv t s0 tt (n - 1) (fun i => if i = f then a (n - 1) else a i) (fun v => if src v = src (a f) then t (a f) else src v) (len + 1) (upd pT f (pT (n - 1))) pF' (upd cT len (pT f)) (upd cF len (pF f)) := by
  have hd := Eg.det hM h
  obtain ⟨⟨hn6, hA, hinj⟩, hcnt, hcop, hval⟩ := h
  have hAf := hA f hf
  have mf := hM.1 _ hAf.1
  have al' : ∀ v, alv (n - 1) (fun i => if i = f then a (n - 1) else a i) v ↔ alv n a v ∧ v ≠ a f := by
    intro v
    constructor
    · rintro ⟨i, hi, e⟩
      dsimp only at e
      by_cases z : i = f
      · rw [if_pos z] at e
        refine ⟨⟨n - 1, by omega, e⟩, fun w => ?_⟩
        have := hinj (n - 1) f (by omega) hf (e.trans w)
        omega
      · rw [if_neg z] at e
        refine ⟨⟨i, by omega, e⟩, fun w => z (hinj i f (by omega) hf (e.trans w))⟩
    · rintro ⟨⟨i, hi, e⟩, hne⟩
      have hif : i ≠ f := fun z => hne (by rw [← e, z])
      by_cases z : i = n - 1
      · exact ⟨f, by omega, by dsimp only; rw [if_pos rfl, ← z]; exact e⟩
      · exact ⟨i, by omega, by dsimp only; rw [if_neg hif]; exact e⟩
  have srcf : ∀ u, alv n a u → src u ≠ t (a f) := by
    rintro u ⟨i, hi, rfl⟩ e
    refine hfr i hi ?_
    rw [(hA i hi).2.2.1, hAf.2.1, e]
  have e1 : ∀ i, i < n - 1 → upd pF f (pF (n - 1)) i = nI (src (if i = f then a (n - 1) else a i)) := by
    intro i hi
    by_cases z : i = f
    · subst z; rw [upd_same, if_pos rfl]; exact (hA (n - 1) (by omega)).2.2.1
    · rw [upd_other _ _ z, if_neg z]; exact (hA i (by omega)).2.2.1
  have av : ∀ i, i < n - 1 → alv n a (if i = f then a (n - 1) else a i) ∧ (if i = f then a (n - 1) else a i) ≠ a f := fun i hi => (al' _).mp ⟨i, hi, rfl⟩
  have sle : ∀ u, alv n a u → src u ≤ 600 ∧ mv u ∧ src u ≠ t u := by
    rintro u ⟨i, hi, rfl⟩
    exact ⟨(hA i hi).2.2.2.1, (hA i hi).1, (hA i hi).2.2.2.2⟩
  refine ⟨⟨by omega, fun i hi => ?_, fun i j hi hj e => ?_⟩, ?_, fun i hi => ?_, fun val => ?_⟩
  · dsimp only
    obtain ⟨v1, v2⟩ := av i hi
    have hs := sle _ v1
    refine ⟨hs.2.1, ?_, ?_, ?_, ?_⟩
    · by_cases z : i = f
      · subst z; rw [upd_same, if_pos rfl]; exact (hA (n - 1) (by omega)).2.1
      · rw [upd_other _ _ z, if_neg z]; exact (hA i (by omega)).2.1
    · have h1 := hpF i hi
      rw [e1 i hi, hAf.2.2.1, hAf.2.1] at h1
      by_cases z : src (if i = f then a (n - 1) else a i) = src (a f)
      · rw [h1.1 (by rw [z]), if_pos z]
      · rw [if_neg z, h1.2 fun w => z ((jI_eq (by omega) (by have := hAf.2.2.2.1; omega)).mp w)]
    · by_cases z : src (if i = f then a (n - 1) else a i) = src (a f)
      · rw [if_pos z]; omega
      · rw [if_neg z]; exact hs.1
    · by_cases z : src (if i = f then a (n - 1) else a i) = src (a f)
      · rw [if_pos z]; exact fun z => v2 (hM.2 _ _ hs.2.1 hAf.1 z.symm)
      · rw [if_neg z]; exact hs.2.2
  · dsimp only at e
    by_cases z1 : i = f <;> by_cases z2 : j = f
    · omega
    · rw [if_pos z1, if_neg z2] at e
      have := hinj _ _ (by omega) (by omega) e; omega
    · rw [if_neg z1, if_pos z2] at e
      have := hinj _ _ (by omega) (by omega) e; omega
    · rw [if_neg z1, if_neg z2] at e
      exact hinj _ _ (by omega) (by omega) e
  · have := qc_cong (E := Eg n a t src) (E' := Eg (n - 1) (fun i => if i = f then a (n - 1) else a i) t (fun v => if src v = src (a f) then t (a f) else src v)) (fun v => Q_free hd (i := a f) (src := src) (fun u w => ?_) (fun u z => ?_) (fun u w z1 z2 => ?_) (fun u y w z1 z2 => z1.2.2.trans z2.2.2.symm) v) 6
    · rw [this]; omega
    · unfold Eg
      rw [al' u, al' w]
      dsimp only
      constructor
      · rintro ⟨⟨g1, g2⟩, ⟨g3, g4⟩, g5⟩
        by_cases z : src u = src (a f)
        · rw [if_pos z] at g5
          exact absurd (hM.2 _ _ (sle w g3).2.1 hAf.1 g5.symm) g4
        · rw [if_neg z] at g5
          exact ⟨⟨g1, g3, g5⟩, g2, z⟩
      · rintro ⟨⟨g1, g3, g5⟩, g2, z⟩
        refine ⟨⟨g1, g2⟩, ⟨g3, fun w' => ?_⟩, by rw [if_neg z]; exact g5⟩
        exact srcf u g1 (by rw [g5, w'])
    · exact srcf u z.1 z.2.2
    · exact ⟨⟨f, hf, rfl⟩, z1.2.1, z2.symm.trans z1.2.2⟩
  · by_cases e : i = len
    · subst e
      rw [upd_same, upd_same]
      exact ⟨t (a f), src (a f), by omega, hAf.2.2.2.1, hAf.2.1, hAf.2.2.1⟩
    · rw [upd_other _ _ e, upd_other _ _ e]
      exact hcop i (by omega)
  · have hv := hval val
    have ec : exN val (upd cT len (pT f)) (upd cF len (pF f)) (len + 1) = upd (exN val cT cF len) (t (a f)) (exN val cT cF len (src (a f))) := by
      simp only [exN]
      rw [upd_same, upd_same, hAf.2.1, hAf.2.2.1, jI_nat (by omega), jI_nat (by have := hAf.2.2.2.1; omega)]
      rw [exN_cong (cT' := cT) (cF' := cF) fun i hi => ⟨upd_other _ _ (by omega), upd_other _ _ (by omega)⟩]
    rw [ec]
    have hvf := hv.1 (a f) ⟨f, hf, rfl⟩
    refine ⟨fun v hv1 => ?_, fun v hm hna => ?_, fun x hx hno => ?_⟩
    · obtain ⟨g1, g2⟩ := (al' v).mp hv1
      dsimp only
      by_cases z : src v = src (a f)
      · rw [if_pos z, upd_same, ← z]; exact hv.1 v g1
      · rw [if_neg z, upd_other _ _ (srcf v g1)]; exact hv.1 v g1
    · by_cases z : v = a f
      · subst z; rw [upd_same]; exact hvf
      · rw [upd_other _ _ fun w => z (hM.2 _ _ hm hAf.1 w)]
        exact hv.2.1 v hm fun w => hna ((al' v).mpr ⟨w, z⟩)
    · have hxf : x ≠ t (a f) := hno (a f) hAf.1 fun w => ((al' _).mp w).2 rfl
      rw [upd_other _ _ hxf]
      exact hv.2.2 x hx fun v hm hna => hno v hm fun w => hna ((al' v).mp w).1
/-- only rings are left: the spare place opens one -/
theorem DR.spare (hM : Mvs mv t s0) (h : DR mv t s0 tt n a src len pT pF cT cF) (hn0 : 0 < n) (haw : ∀ i, i < n → ∃ j, j < n ∧ pF j = pT i) {pF' : Nat → Int32} (hpF : ∀ i, i < n → (pF i = pT 0 → pF' i = nI 600) ∧ (¬ pF i = pT 0 → pF' i = pF i)) : DR mv t s0 tt n a (fun v => if src v = t (a 0) then 600 else src v) (len + 1) pT pF' (upd cT len (nI 600)) (upd cF len (pT 0)) := by
  have hd := Eg.det hM h
  obtain ⟨⟨hn6, hA, hinj⟩, hcnt, hcop, hval⟩ := h
  have hA0 := hA 0 hn0
  have m0 := hM.1 _ hA0.1
  have sle : ∀ u, alv n a u → src u ≤ 600 ∧ mv u ∧ src u ≠ t u := by
    rintro u ⟨i, hi, rfl⟩
    exact ⟨(hA i hi).2.2.2.1, (hA i hi).1, (hA i hi).2.2.2.2⟩
  have pig := sub_eq ((List.range n).map fun i => t (a i)) ((List.range n).map fun i => src (a i)) (by
      rw [List.nodup_iff_pairwise_ne, List.pairwise_map]
      refine List.Pairwise.imp_of_mem ?_ (List.pairwise_lt_range (n := n))
      intro i j hi hj hlt e
      rw [List.mem_range] at hi hj
      have := hinj i j hi hj (hM.2 _ _ (hA i hi).1 (hA j hj).1 e)
      omega) (by
      intro x hx
      obtain ⟨i, hi, rfl⟩ := List.mem_map.mp hx
      rw [List.mem_range] at hi
      obtain ⟨j, hj, e⟩ := haw i hi
      rw [(hA j hj).2.2.1, (hA i hi).2.1, jI_eq (by have := (hA j hj).2.2.2.1; omega) (by have := (hM.1 _ (hA i hi).1).2.1; omega)] at e
      exact List.mem_map.mpr ⟨j, List.mem_range.mpr hj, e⟩) (by simp)
  have sT : ∀ u, alv n a u → ∃ w, alv n a w ∧ src u = t w := by
    rintro u ⟨i, hi, rfl⟩
    obtain ⟨j, hj, e⟩ := List.mem_map.mp (pig.2 (src (a i)) (List.mem_map.mpr ⟨i, List.mem_range.mpr hi, rfl⟩))
    exact ⟨a j, ⟨j, List.mem_range.mp hj, rfl⟩, e.symm⟩
  have sI : ∀ u u', alv n a u → alv n a u' → src u = src u' → u = u' := by
    rintro u u' ⟨i, hi, rfl⟩ ⟨j, hj, rfl⟩ e
    have hp := pig.1
    rw [List.nodup_iff_pairwise_ne, List.pairwise_map] at hp
    have : i = j := by
      refine Classical.byContradiction fun hne => ?_
      rcases Nat.lt_or_gt_of_ne hne with hlt | hlt
      · exact List.pairwise_iff_getElem.mp hp i j (by simpa using hi) (by simpa using hj) hlt (by simpa using e)
      · exact List.pairwise_iff_getElem.mp hp j i (by simpa using hj) (by simpa using hi) hlt (by simpa using e.symm)
    rw [this]
  have s6 : ∀ u, alv n a u → src u < 600 := fun u hu => by
    obtain ⟨w, hw, e⟩ := sT u hu
    rw [e]; exact (hM.1 _ (sle w hw).2.1).2.1
  refine ⟨⟨hn6, fun i hi => ?_, hinj⟩, ?_, fun i hi => ?_, fun val => ?_⟩
  · dsimp only
    have hi' := hA i hi
    have hti := (hM.1 _ hi'.1).2.1
    refine ⟨hi'.1, hi'.2.1, ?_, ?_, ?_⟩
    · have h1 := hpF i hi
      rw [hi'.2.2.1, hA0.2.1] at h1
      by_cases z : src (a i) = t (a 0)
      · rw [if_pos z]; exact h1.1 (by rw [z])
      · rw [if_neg z]; exact h1.2 fun w => z ((jI_eq (by have := hi'.2.2.2.1; omega) (by omega)).mp w)
    · split
      · omega
      · exact hi'.2.2.2.1
    · split
      · omega
      · exact hi'.2.2.2.2
  · have h6 : ∀ v, alv n a v → v < 6 := fun v hv => (hM.1 _ (sle v hv).2.1).1
    have hB2 : ∀ u u' w, Eg n a t src u w → Eg n a t src u' w → u = u' := fun u u' w g1 g2 => sI u u' g1.1 g2.1 (g1.2.2.trans g2.2.2.symm)
    have h1 : ∀ u w, Eg n a t (fun v => if src v = t (a 0) then 600 else src v) u w ↔ Eg n a t src u w ∧ w ≠ a 0 := by
      intro u w
      unfold Eg
      dsimp only
      constructor
      · rintro ⟨g1, g2, g3⟩
        by_cases z : src u = t (a 0)
        · rw [if_pos z] at g3
          have := (hM.1 _ (sle w g2).2.1).2.1
          omega
        · rw [if_neg z] at g3
          exact ⟨⟨g1, g2, g3⟩, fun e => z (by rw [g3, e])⟩
      · rintro ⟨⟨g1, g2, g3⟩, hne⟩
        refine ⟨g1, g2, ?_⟩
        rw [if_neg fun z => hne (hM.2 _ _ (sle w g2).2.1 hA0.1 (g3.symm.trans z))]
        exact g3
    obtain ⟨v0, q1, q2, q3, q4⟩ := Q_one hd h6 (fun u w g => ⟨g.1, g.2.1⟩) (fun v hv => by
      obtain ⟨w, hw, e⟩ := sT v hv
      exact ⟨w, ⟨hv, hw, e⟩, hw⟩) hB2 (x := a 0) ⟨0, hn0, rfl⟩
    have := qc_less (E := Eg n a t src) (E' := Eg n a t (fun v => if src v = t (a 0) then 600 else src v)) q2 (fun v => (Q_spare hd h1 hB2 v).trans ⟨fun z => ⟨z.1, fun e => z.2 (e ▸ q3)⟩, fun z => ⟨z.1, fun r => z.2 (q4 v z.1 r)⟩⟩) 6
    rw [if_pos q1] at this
    omega
  · by_cases e : i = len
    · subst e
      rw [upd_same, upd_same]
      exact ⟨600, t (a 0), by omega, by omega, rfl, hA0.2.1⟩
    · rw [upd_other _ _ e, upd_other _ _ e]
      exact hcop i (by omega)
  · have hv := hval val
    have ec : exN val (upd cT len (nI 600)) (upd cF len (pT 0)) (len + 1) = upd (exN val cT cF len) 600 (exN val cT cF len (t (a 0))) := by
      simp only [exN]
      rw [upd_same, upd_same, hA0.2.1, jI_nat (by omega), jI_nat (by omega)]
      rw [exN_cong (cT' := cT) (cF' := cF) fun i hi => ⟨upd_other _ _ (by omega), upd_other _ _ (by omega)⟩]
    rw [ec]
    refine ⟨fun v hv1 => ?_, fun v hm hna => ?_, fun x hx hno => ?_⟩
    · dsimp only
      by_cases z : src v = t (a 0)
      · rw [if_pos z, upd_same, ← z]; exact hv.1 v hv1
      · rw [if_neg z, upd_other _ _ (by have := s6 v hv1; omega)]; exact hv.1 v hv1
    · rw [upd_other _ _ (by have := (hM.1 v hm).2.1; omega)]; exact hv.2.1 v hm hna
    · rw [upd_other _ _ (by omega)]; exact hv.2.2 x hx hno
theorem qc_none : qc (Eg 0 a t src) 6 = 0 := by
  have : ∀ n, qc (Eg 0 a t src) n = 0 := by
    intro n
    induction n with
    | zero => rfl
    | succ n ih =>
      simp only [qc]
      rw [ih, cif_neg]
      rintro ⟨⟨m, x, ⟨⟨i, hi, -⟩, -⟩, -⟩, -⟩
      omega
  exact this 6
/-- the loop of draw -/
theorem draw_loop (hM : Mvs mv t s0) (ht9 : tt ≤ 9) {post : Int32 → Int32 → (Nat → Int32) → (Nat → Int32) → (Nat → Int32) → (Nat → Int32) → Prop} (hp : ∀ a src pT pF cT cF, DR mv t s0 tt 0 a src tt pT pF cT cF → post (nI 0) (nI tt) pT pF cT cF) :
    ∀ (d n len : Nat) (a src : Nat → Nat) (pT pF cT cF : Nat → Int32), len + d = 9 → DR mv t s0 tt n a src len pT pF cT cF → lpCopyPlan_draw_15 post (d + 1) (nI len) (nI n) (nI len) pT pF cT cF := by
  have fin : ∀ (len : Nat) (a src : Nat → Nat) (pT pF cT cF : Nat → Int32), DR mv t s0 tt 0 a src len pT pF cT cF → post (nI 0) (nI len) pT pF cT cF := by
    intro len a src pT pF cT cF h
    have h2 := h.2.1
    rw [qc_none] at h2
    have : len = tt := by omega
    subst this
    exact hp a src pT pF cT cF h
  intro d
  induction d with
  | zero =>
    intro n len a src pT pF cT cF hl h
    have h2 := h.2.1
    have : n = 0 := by omega
    subst this
    refine ⟨fun _ => fin len a src pT pF cT cF h, fun q => ?_⟩
    rw [show (9 : Int32) = nI 9 from rfl, jI_le (by omega) (by omega)] at q
    omega
  | succ d ih =>
    intro n len a src pT pF cT cF hl h
    have hn6 := h.1.1
    refine ⟨fun q => ?_, fun _ => ⟨fun q => ?_, fun q => ?_⟩⟩
    · rw [show (9 : Int32) = nI 9 from rfl, jI_le (by omega) (by omega)] at q; omega
    · rw [jt0, jI_le (by omega) (by omega)] at q
      have : n = 0 := by omega
      subst this
      exact fin len a src pT pF cT cF h
    · rw [jt0, jI_le (by omega) (by omega)] at q
      have hn0 : 0 < n := by omega
      rw [jI_one]
      refine freeMove_sp hn6 (fun f hf hfr => ⟨fun _ => ?_, fun z => absurd z (jI_m1 (by omega))⟩) (fun haw => ⟨fun z => absurd rfl z, fun _ => ?_⟩)
      · unfold wpCopyPlan_copy wpCopyPlan_remove
        rw [jI_in (by omega), jI_nat (by omega), jI_in (by omega), jI_nat (by omega), jI_one, jt1, jI_sub (by omega), jI_in (by omega), jI_nat (by omega)]
        refine ⟨by omega, by omega, by omega, by omega, by omega, by omega, by omega, by omega, readFrom_sp (by omega) (by omega) (by omega) fun g hg => ?_⟩
        refine ih (n - 1) (len + 1) _ _ _ _ _ _ (by omega) (DR.free hM h hf hfr (pF' := g) fun i hi => ?_)
        have := hg i hi
        rw [show len + 1 - 1 = len by omega, upd_same, upd_same] at this
        exact this
      · unfold wpCopyPlan_copy
        rw [show (Int32.toNatClampNeg 0) = 0 from rfl, jI_in (by omega), jI_nat (by omega), jI_one]
        have h06 : vp_in 0 6 := by rw [jt0, jI_in (by omega)]; omega
        refine ⟨h06, by omega, by omega, readFrom_sp hn6 (by omega) (by omega) fun g hg => ?_⟩
        refine ih n (len + 1) _ _ _ _ _ _ (by omega) (DR.spare hM h hn0 haw (pF' := g) fun i hi => ?_)
        have := hg i hi
        rw [show len + 1 - 1 = len by omega, upd_same, upd_same] at this
        exact this
end DRS
