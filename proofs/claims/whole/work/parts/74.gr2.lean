/-! the class's survey: forerunners, below, parents, frontiers -/
theorem fill_sp {n : Nat} (hn : n < 100000) {f : Nat → Int32} {x : Int32} {post : (Nat → Int32) → Prop} (hp : ∀ g : Nat → Int32, (∀ i, i < n → g i = x) → post g) : wpArrays_fill n f x post := by
  intro v hv
  subst hv
  have key : ∀ (d i : Nat) (g : Nat → Int32), i + d = n → (∀ j, j < i → g j = x) → lpArrays_fill_5 n x (nI n) post (d + 1) (nI i) g := by
    intro d
    induction d with
    | zero =>
      intro i g hi h
      have : i = n := by omega
      subst this
      exact ⟨fun _ => hp g h, fun q => absurd (Int32.le_refl _) q⟩
    | succ d ih =>
      intro i g hi h
      refine ⟨fun q => ?_, fun _ => ?_⟩
      · rw [jI_le (by omega) (by omega)] at q; omega
      · rw [jI_in (by omega), jI_one, jI_nat (by omega)]
        refine ⟨by omega, ih (i + 1) _ (by omega) fun c hc => ?_⟩
        by_cases e : c = i
        · subst e; rw [upd_same]
        · rw [upd_other _ _ e]; exact h c (by omega)
  exact ⟨n + 1, key n 0 f (by omega) (fun j hj => by omega)⟩
def popJ (v0 : Int32) : Int32 :=
  let a := v0 - ((v0.toUInt32 >>> ((1 : Int32).toUInt32 &&& Int32.toUInt32 31)).toInt32 &&& 1431655765)
  let b := (a &&& 858993459) + ((a.toUInt32 >>> ((2 : Int32).toUInt32 &&& Int32.toUInt32 31)).toInt32 &&& 858993459)
  let c := (b + (b.toUInt32 >>> ((4 : Int32).toUInt32 &&& Int32.toUInt32 31)).toInt32) &&& 252645135
  let d := c + (c.toUInt32 >>> ((8 : Int32).toUInt32 &&& Int32.toUInt32 31)).toInt32
  let e := d + (d.toUInt32 >>> ((16 : Int32).toUInt32 &&& Int32.toUInt32 31)).toInt32
  e &&& 63
theorem popJ_wp {x : Int32} {post : Int32 → Prop} (h : post (popJ x)) : wpInteger_bitCount x post := by
  intro a ha b hb c hc d hd e he
  subst ha hb hc hd he
  exact h
theorem popJ_all : (List.range 4096).all (fun m => popJ (nI m) == nI (cnt (nI m) 12)) = true := by decide +kernel
theorem bits_small {x : Int32} (h : ∀ c, 12 ≤ c → bt x c = false) : ∃ m, m < 4096 ∧ x = nI m := by
  refine ⟨x.toBitVec.toNat, ?_, ?_⟩
  · apply Nat.lt_pow_two_of_testBit (n := 12)
    intro i hi
    exact h i hi
  · apply Int32.toBitVec_inj.mp
    show x.toBitVec = BitVec.ofNat 32 _
    simp
theorem popJ_eq {N : Nat} (hN : N ≤ 12) {x : Int32} (h : ∀ c, N ≤ c → bt x c = false) : popJ x = nI (cnt x N) := by
  obtain ⟨m, hm, rfl⟩ := bits_small (x := x) fun c hc => h c (by omega)
  have h1 := List.all_eq_true.mp popJ_all m (List.mem_range.mpr hm)
  rw [eq_of_beq h1]
  have := cnt_beyond h (12 - N)
  rw [show N + (12 - N) = 12 by omega] at this
  rw [this]
theorem bit_count {N : Nat} (hN : N ≤ 12) {x : Int32} (h : ∀ c, N ≤ c → bt x c = false) {post : Int32 → Prop} (hp : post (nI (cnt x N))) : wpInteger_bitCount x post := popJ_wp (by rw [popJ_eq hN h]; exact hp)
