def bt (x : Int32) (i : Nat) : Bool := x.toBitVec.getLsbD i
theorem b_ext {x y : Int32} (h : ∀ i, i < 32 → bt x i = bt y i) : x = y := Int32.toBitVec_inj.mp (BitVec.eq_of_getLsbD_eq (fun i hi => h i hi))
theorem b_or (x y : Int32) (i : Nat) : bt (x ||| y) i = (bt x i || bt y i) := by unfold bt; rw [Int32.toBitVec_or, BitVec.getLsbD_or]
theorem b_and (x y : Int32) (i : Nat) : bt (x &&& y) i = (bt x i && bt y i) := by unfold bt; rw [Int32.toBitVec_and, BitVec.getLsbD_and]
theorem b_xor (x y : Int32) (i : Nat) : bt (x ^^^ y) i = (bt x i ^^ bt y i) := by unfold bt; rw [Int32.toBitVec_xor, BitVec.getLsbD_xor]
theorem b_big {x : Int32} {i : Nat} (h : 32 ≤ i) : bt x i = false := BitVec.getLsbD_of_ge _ _ h
theorem b_m1 : ∀ i, i < 32 → bt (-1) i = true := by decide +kernel
theorem b_0 (i : Nat) : bt 0 i = false := BitVec.getLsbD_zero
theorem s_l : ∀ n, n < 32 → ((nI n &&& 31).toBitVec.smod 32).toNat = n := by decide +kernel
theorem b_shl (n : Nat) (hn : n < 32) (x : Int32) {i : Nat} (hi : i < 32) : bt (x <<< (nI n &&& 31)) i = (decide (n ≤ i) && bt x (i - n)) := by
  unfold bt
  rw [Int32.toBitVec_shiftLeft]
  show (x.toBitVec <<< ((nI n &&& 31).toBitVec.smod 32).toNat).getLsbD i = _
  rw [s_l n hn, BitVec.getLsbD_shiftLeft]
  rcases Nat.lt_or_ge i n with h | h
  · simp [h, Nat.not_le.mpr h]
  · simp [hi, h, Nat.not_lt.mpr h]
theorem b_sshr (n : Nat) (hn : n < 32) (x : Int32) {i : Nat} (hi : i < 32) : bt (x >>> (nI n &&& 31)) i = if n + i < 32 then bt x (n + i) else bt x 31 := by
  unfold bt
  rw [Int32.toBitVec_shiftRight]
  show (x.toBitVec.sshiftRight ((nI n &&& 31).toBitVec.smod 32).toNat).getLsbD i = _
  rw [s_l n hn, BitVec.getLsbD_sshiftRight, BitVec.msb_eq_getLsbD_last]
  simp [hi]
/-! the pure part's base: small numbers, bits -/
theorem jI_int {n : Nat} (h : n < 2147483648) : (nI n).toInt = (n : Int) := Int32.toInt_ofNat_of_lt h
theorem jI_nat {n : Nat} (h : n < 2147483648) : (nI n).toNatClampNeg = n := by
  have h1 := jI_int h
  show (nI n).toInt.toNat = n
  omega
theorem jI_le {a b : Nat} (ha : a < 2147483648) (hb : b < 2147483648) : (nI a ≤ nI b) = (a ≤ b) := by
  rw [Int32.le_iff_toInt_le, jI_int ha, jI_int hb]
  simp
theorem jI_lt {a b : Nat} (ha : a < 2147483648) (hb : b < 2147483648) : (nI a < nI b) = (a < b) := by
  rw [Int32.lt_iff_toInt_lt, jI_int ha, jI_int hb]
  simp
theorem jI_eq {a b : Nat} (ha : a < 2147483648) (hb : b < 2147483648) : (nI a = nI b) = (a = b) := by
  apply propext
  constructor
  · intro h
    have := congrArg Int32.toInt h
    rw [jI_int ha, jI_int hb] at this
    omega
  · intro h
    rw [h]
theorem jI_add (a b : Nat) : nI a + nI b = nI (a + b) := (Int32.ofNat_add a b).symm
theorem jI_mul (a b : Nat) : nI a * nI b = nI (a * b) := (Int32.ofNat_mul a b).symm
theorem jI_sub {a b : Nat} (h : b ≤ a) : nI a - nI b = nI (a - b) := by
  have h1 : nI a = nI (a - b) + nI b := by rw [jI_add]; congr 1; omega
  rw [h1, Int32.add_sub_cancel]
theorem jI_one (a : Nat) : nI a + 1 = nI (a + 1) := jI_add a 1
theorem jI_pred {a : Nat} (h : 0 < a) : nI a + (-1) = nI (a - 1) := by
  have h1 : nI a = nI (a - 1) + 1 := by rw [jI_one]; congr 1; omega
  rw [h1, Int32.add_assoc]
  show nI (a - 1) + 0 = _
  rw [Int32.add_zero]
theorem jI_in {i n : Nat} (h : i < 2147483648) : vp_in (nI i) n = (i < n) := by
  have h0 : ¬ nI i < 0 := by
    rw [show (0 : Int32) = nI 0 from rfl, jI_lt h (by decide)]
    omega
  unfold vp_in
  rw [jI_nat h]
  apply propext
  constructor
  · intro q
    exact Nat.not_le.mp (fun z => q (Or.inr z))
  · intro q z
    rcases z with z | z
    · exact h0 z
    · omega
theorem jI_m1 {a : Nat} (h : a < 2147483648) : ¬ nI a = -1 := by
  intro q
  have := congrArg Int32.toInt q
  rw [jI_int h] at this
  have h2 : (-1 : Int32).toInt = -1 := rfl
  omega
/-- a number that is not under 0 is an nI -/
theorem jI_of {x : Int32} (h : ¬ x < 0) : ∃ k : Nat, k < 2147483648 ∧ x = nI k := by
  have h1 : ¬ x.toInt < 0 := fun q => h (Int32.lt_iff_toInt_lt.mpr q)
  have h2 := Int32.toInt_lt x
  refine ⟨x.toInt.toNat, by omega, ?_⟩
  apply Int32.toInt_inj.mp
  rw [jI_int (by omega)]
  omega
theorem jI_of_lt {x : Int32} {n : Nat} (hn : n < 2147483648) (h : ¬ x < 0) (h2 : x < nI n) : ∃ k : Nat, k < n ∧ x = nI k := by
  obtain ⟨k, hk, rfl⟩ := jI_of h
  rw [jI_lt hk hn] at h2
  exact ⟨k, h2, rfl⟩
theorem jI_of_le {x : Int32} {n : Nat} (hn : n < 2147483648) (h : ¬ x < 0) (h2 : x ≤ nI n) : ∃ k : Nat, k ≤ n ∧ x = nI k := by
  obtain ⟨k, hk, rfl⟩ := jI_of h
  rw [jI_le hk hn] at h2
  exact ⟨k, h2, rfl⟩
theorem jI_neg {a : Nat} (h : a < 2147483648) : ¬ nI a < 0 := by
  rw [show (0 : Int32) = nI 0 from rfl, jI_lt h (by decide)]
  omega
theorem upd_same (f : Nat → Int32) (k : Nat) (x : Int32) : upd f k x k = x := by simp [upd]
theorem upd_other (f : Nat → Int32) {k j : Nat} (x : Int32) (h : j ≠ k) : upd f k x j = f j := by simp [upd, h]
theorem b_one {n : Nat} (hn : n < 32) {i : Nat} (hi : i < 32) : bt ((1 : Int32) <<< (nI n &&& 31)) i = decide (i = n) := by
  rw [b_shl n hn 1 hi]
  have h1 : ∀ j, j < 32 → bt 1 j = decide (j = 0) := by decide +kernel
  rw [h1 _ (by omega)]
  by_cases h : i = n
  · subst h; simp
  · by_cases h2 : n ≤ i
    · have : i - n ≠ 0 := by omega
      simp [this, h]
    · simp [h2, h]
theorem b_not {x : Int32} {i : Nat} (hi : i < 32) : bt (x ^^^ (-1)) i = !bt x i := by
  rw [b_xor, b_m1 i hi]
  cases bt x i <;> rfl
theorem b_1 : ∀ j, j < 32 → bt 1 j = decide (j = 0) := by decide +kernel
theorem b_low (x : Int32) {i : Nat} (hi : i < 32) : ((x >>> (nI i &&& 31)) &&& 1) = bI (bt x i) := by
  apply b_ext
  intro j hj
  rw [b_and, b_1 j hj]
  by_cases h : j = 0
  · subst h
    rw [b_sshr i hi x (by omega)]
    simp [hi]
    cases bt x i <;> rfl
  · simp [h]
    cases bt x i
    · show bt 0 j = false; rw [b_0]
    · show bt 1 j = false; rw [b_1 j hj]; simp [h]
theorem on_has {x : Int32} {i : Nat} {post : Bool → Prop} (hi : i < 32) (h : post (bt x i)) : wpOn_has x (nI i) post := by
  unfold wpOn_has
  rw [b_low x hi]
  generalize bt x i = z at h
  cases z
  · exact ⟨fun _ => h, fun q => absurd rfl q⟩
  · exact ⟨fun q => absurd q (by decide), fun _ => h⟩
theorem md_has {x : Int32} {i : Nat} {post : Bool → Prop} (hi : i < 32) (h : post (bt x i)) : wpMd_has x (nI i) post := by
  unfold wpMd_has
  rw [b_low x hi]
  generalize bt x i = z at h
  cases z
  · exact ⟨fun _ => h, fun q => absurd q (by decide)⟩
  · exact ⟨fun q => absurd rfl q, fun _ => h⟩
