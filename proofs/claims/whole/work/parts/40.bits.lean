/-! BITS: a long as eight bytes, one for each package: gb x p b is bit b of package p. -/
def gb (x : Int64) (p b : Nat) : Bool := x.toBitVec.getLsbD (8 * p + b)
def b32 (x : Int32) (i : Nat) : Bool := x.toBitVec.getLsbD i
theorem gb_and (x y : Int64) (p b : Nat) : gb (x &&& y) p b = (gb x p b && gb y p b) := by
  simp only [gb, Int64.toBitVec_and, BitVec.getLsbD_and]
theorem gb_or (x y : Int64) (p b : Nat) : gb (x ||| y) p b = (gb x p b || gb y p b) := by
  simp only [gb, Int64.toBitVec_or, BitVec.getLsbD_or]
theorem gb_m1 : ∀ p, p < 8 → ∀ b, b < 8 → gb (-1) p b = true := by decide +kernel
theorem gb_nm (x : Int64) {p b : Nat} (hp : p < 8) (hb : b < 8) : gb (x ^^^ (-1 : Int64)) p b = !(gb x p b) := by
  have h := gb_m1 p hp b hb
  simp only [gb] at h ⊢
  rw [Int64.toBitVec_xor, BitVec.getLsbD_xor, h, Bool.xor_true]
theorem gb_0 (p b : Nat) : gb 0 p b = false := by
  simp only [gb, Int64.toBitVec_zero, BitVec.getLsbD_zero]
theorem gb_ext {x y : Int64} (h : ∀ p, p < 8 → ∀ b, b < 8 → gb x p b = gb y p b) : x = y := by
  apply Int64.toBitVec_inj.1
  apply BitVec.eq_of_getLsbD_eq
  intro i hi
  have h1 := h (i / 8) (by omega) (i % 8) (by omega)
  simp only [gb] at h1
  rw [show 8 * (i / 8) + i % 8 = i by omega] at h1
  exact h1
theorem gb_ne {x : Int64} (h : x ≠ 0) : ∃ p, p < 8 ∧ ∃ b, b < 8 ∧ gb x p b = true := by
  apply Classical.byContradiction
  intro hn
  apply h
  apply gb_ext
  intro p hp b hb
  rw [gb_0]
  cases hq : gb x p b with
  | false => rfl
  | true => exact absurd ⟨p, hp, b, hb, hq⟩ hn
theorem gb_all : ∀ p, p < 8 → ∀ q, q < 8 → ∀ b, b < 8 → gb (pf_X0_allOf (nI p)) q b = (decide (q = p) && decide (b < 7)) := by decide +kernel
theorem gb_none : ∀ p, p < 8 → ∀ q, q < 8 → ∀ b, b < 8 → gb (pf_X0_noneOf (nI p)) q b = (decide (q = p) && decide (b = 6)) := by decide +kernel
theorem gb_plc : ∀ p, p < 8 → ∀ v, v < 6 → ∀ q, q < 8 → ∀ b, b < 8 → gb (pf_X0_placeOf (nI p) (nI v)) q b = (decide (q = p) && decide (b = v)) := by decide +kernel
theorem sh_all : ∀ p, p < 8 → (((nI p * (8 : Int32)).toInt64 &&& 63).toBitVec.smod 64).toNat = 8 * p := by decide +kernel
theorem b63 : ∀ j, j < 64 → (63 : Int64).toBitVec.getLsbD j = decide (j < 6) := by decide +kernel
theorem gb_vers (s : Int32) {p : Nat} (hp : p < 8) {q : Nat} (hq : q < 8) {b : Nat} (hb : b < 8) : gb (pf_X0_versionsOf (nI p) s) q b = (decide (q = p) && (decide (b < 6) && b32 s b)) := by
  have hs := sh_all p hp
  simp only [gb, b32, pf_X0_versionsOf, Int64.toBitVec_shiftLeft, BitVec.getLsbD_shiftLeft']
  rw [show ((((nI p * (8 : Int32)).toInt64 &&& 63).toBitVec.smod 64)).toNat = 8 * p from hs]
  rcases Nat.lt_trichotomy q p with h | h | h
  · have h1 : 8 * q + b < 8 * p := by omega
    simp [h1, Nat.ne_of_lt h]
  · subst h
    rw [show 8 * q + b - 8 * q = b by omega, Int64.toBitVec_and, BitVec.getLsbD_and, b63 b (by omega), Int32.toBitVec_toInt64, BitVec.getLsbD_signExtend]
    have h1 : 8 * q + b < 64 := by omega
    have h2 : ¬ 8 * q + b < 8 * q := by omega
    have h3 : b < 64 := by omega
    have h4 : b < 32 := by omega
    simp [h1, h2, h3, h4, Bool.and_comm]
  · rw [Int64.toBitVec_and, BitVec.getLsbD_and, b63 _ (by omega)]
    have h1 : ¬ 8 * q + b - 8 * p < 6 := by omega
    simp [h1, Nat.ne_of_gt h]
theorem bit_t : ∀ i, i < 32 → ((1 : Int32) <<< (nI i &&& 31)).toBitVec = BitVec.twoPow 32 i := by decide +kernel
theorem b32_ext {x y : Int32} (h : ∀ i, i < 32 → b32 x i = b32 y i) : x = y := by
  apply Int32.toBitVec_inj.1
  apply BitVec.eq_of_getLsbD_eq
  exact h
theorem b32_0 (i : Nat) : b32 0 i = false := by
  simp only [b32, Int32.toBitVec_zero, BitVec.getLsbD_zero]
theorem b32_and (x y : Int32) (i : Nat) : b32 (x &&& y) i = (b32 x i && b32 y i) := by
  simp only [b32, Int32.toBitVec_and, BitVec.getLsbD_and]
theorem b32_or (x y : Int32) (i : Nat) : b32 (x ||| y) i = (b32 x i || b32 y i) := by
  simp only [b32, Int32.toBitVec_or, BitVec.getLsbD_or]
theorem b32_xor (x y : Int32) (i : Nat) : b32 (x ^^^ y) i = (b32 x i ^^ b32 y i) := by
  simp only [b32, Int32.toBitVec_xor, BitVec.getLsbD_xor]
theorem b32_m1 : ∀ i, i < 32 → b32 (-1) i = true := by decide +kernel
theorem b32_nm (x : Int32) {i : Nat} (hi : i < 32) : b32 (x ^^^ (-1 : Int32)) i = !(b32 x i) := by
  rw [b32_xor, b32_m1 i hi, Bool.xor_true]
theorem b32_one {i : Nat} (hi : i < 32) (j : Nat) : b32 ((1 : Int32) <<< (nI i &&& 31)) j = decide (i = j) := by
  simp only [b32]
  rw [bit_t i hi, BitVec.getLsbD_twoPow]
  simp [hi]
theorem b32_test (x : Int32) {i : Nat} (hi : i < 32) : (x &&& ((1 : Int32) <<< (nI i &&& 31))) = 0 ↔ b32 x i = false := by
  constructor
  · intro h
    have h1 := b32_and x ((1 : Int32) <<< (nI i &&& 31)) i
    rw [h, b32_0, b32_one hi] at h1
    simpa using h1.symm
  · intro h
    apply b32_ext
    intro j _
    rw [b32_and, b32_one hi, b32_0]
    by_cases hj : i = j
    · subst hj; simp [h]
    · simp [hj]
/-- the lowest bit -/
theorem low_bit {x : Int64} (h : x ≠ 0) : ∃ t, t < 64 ∧ x.toBitVec.getLsbD t = true ∧ (∀ j, j < t → x.toBitVec.getLsbD j = false) ∧ (x &&& (-x)) = Int64.ofBitVec (BitVec.twoPow 64 t) := by
  obtain ⟨p, hp, b, hb, hpb⟩ := gb_ne h
  obtain ⟨t, ht, hl⟩ := pk_least (fun t => x.toBitVec.getLsbD t = true) ⟨8 * p + b, hpb⟩
  have ht : x.toBitVec.getLsbD t = true := ht
  have hl' : ∀ j, j < t → x.toBitVec.getLsbD j = false := fun j hj => by
    cases hq : x.toBitVec.getLsbD j with
    | false => rfl
    | true => exact absurd hq (hl j hj)
  have ht64 : t < 64 := by
    rcases Nat.lt_or_ge t 64 with q | q
    · exact q
    · rw [BitVec.getLsbD_of_ge _ _ q] at ht; cases ht
  refine ⟨t, ht64, ht, hl', ?_⟩
  apply Int64.toBitVec_inj.1
  apply BitVec.eq_of_getLsbD_eq
  intro i hi
  rw [Int64.toBitVec_and, Int64.toBitVec_neg, BitVec.getLsbD_and, BitVec.getLsbD_neg, Int64.toBitVec_ofBitVec, BitVec.getLsbD_twoPow]
  rcases Nat.lt_trichotomy i t with q | q | q
  · rw [hl' i q]
    simp [Nat.ne_of_gt q]
  · subst q
    have hno : ¬ ∃ j, j < i ∧ x.toBitVec.getLsbD j = true := fun ⟨j, h1, h2⟩ => by rw [hl' j h1] at h2; cases h2
    rw [ht]
    simp [hi, hno]
  · have hyes : ∃ j, j < i ∧ x.toBitVec.getLsbD j = true := ⟨t, q, ht⟩
    have hne : ¬ t = i := Nat.ne_of_lt q
    cases hb : x.toBitVec.getLsbD i <;> simp [hi, hyes, hne]
theorem bc_low : ∀ t, t < 64 → pf_J13_bitCount (Int64.ofBitVec (BitVec.twoPow 64 t) - (1 : Int64)) = nI t := by decide +kernel
theorem div8 : ∀ t, t < 64 → nI t / (8 : Int32) = nI (t / 8) := by decide +kernel
