/-! THE REFERENCE'S RULES: what isBroken, others and broken answer. -/
/-- a place as the reference writes it: 6 is NONE -/
def vlOf (b : Nat) : Int32 := if b < 6 then nI b else (-1 : Int32)
def altK (kd s : Int32) (b : Nat) : Bool := if kd = 0 then (decide (b < 6) && b32 s b) else if kd = 1 then !(decide (b < 6) && b32 s b) else (!(decide (b < 6)) || b32 s b)
/-- the reference's tables are in their bounds -/
def MB (v : MS) (n : Nat) (vs : Nat → Nat) (r dm : Nat) (mn ot pk : Nat → Nat) : Prop :=
  m_packages v = nI n ∧ n ≤ 8 ∧ (∀ p, p < 8 → m_versions v p = nI (vs p) ∧ vs p ≤ 6) ∧ m_rows v = nI r ∧ r ≤ 120 ∧ m_demands v = nI dm ∧ dm ≤ 12 ∧
  (∀ k, k < 132 → m_many v k = nI (mn k) ∧ mn k ≤ 3) ∧ (∀ j, j < 396 → m_other v j = nI (ot j) ∧ ot j < 8) ∧ (∀ k, k < 132 → m_pack v k = nI (pk k) ∧ pk k < 8) ∧
  (∀ d, d < 12 → (m_out v d = 0 ∨ m_out v d = 1) ∧ (m_away v d = 0 ∨ m_away v d = 1))
/-- what package p is given now: nothing yet (7), or a place -/
def VB (f : Nat → Int32) (c : Nat → Nat) : Prop := ∀ p, p < 8 → (f p = (-2 : Int32) ∧ c p = 7) ∨ (c p < 7 ∧ f p = vlOf (c p))
def altB (kd s : Int32) (b : Nat) : Bool := decide (b < 7) && !(altK kd s b)
def allB (kd st : Nat → Int32) (ot : Nat → Nat) (c : Nat → Nat) (k : Nat) : Nat → Nat → Bool
  | 0, _ => true
  | m + 1, i => altB (kd k) (st (3 * k + i)) (c (ot (3 * k + i))) && allB kd st ot c k m (i + 1)
theorem vl_cases (b : Nat) (h : b < 7) : (b < 6 ∧ vlOf b = nI b) ∨ (b = 6 ∧ vlOf b = (-1 : Int32)) := by
  unfold vlOf
  by_cases hb : b < 6
  · exact Or.inl ⟨hb, if_pos hb⟩
  · exact Or.inr ⟨by omega, if_neg hb⟩
theorem nI_mul3 {k i : Nat} : (3 : Int32) * nI k + nI i = nI (3 * k + i) := by
  rw [show (3 : Int32) = nI 3 by decide, pk_mul, nI_add]
theorem shr_bit (s : Int32) : ∀ b, b < 6 → ((s >>> (nI b &&& 31)) &&& (1 : Int32) = 1 ↔ b32 s b = true) := by
  intro b hb
  have h : ((nI b &&& 31).toBitVec.smod 32).toNat = b := by
    revert b
    decide
  constructor
  · intro h1
    have h2 := congrArg (fun z => b32 z 0) h1
    simp only [b32_and] at h2
    rw [show b32 1 0 = true by decide, Bool.and_true] at h2
    rw [← h2]
    simp only [b32]
    rw [Int32.toBitVec_shiftRight, BitVec.sshiftRight_eq', h, BitVec.getLsbD_sshiftRight]
    have : b < 32 := by omega
    simp [this]
  · intro h1
    apply b32_ext
    intro i hi
    rw [b32_and]
    have hone : b32 1 i = decide (i = 0) := by revert i; decide
    rw [hone]
    by_cases h0 : i = 0
    · subst h0
      simp only [b32] at h1 ⊢
      rw [Int32.toBitVec_shiftRight, BitVec.sshiftRight_eq', h, BitVec.getLsbD_sshiftRight]
      have : b < 32 := by omega
      simp [this, h1]
    · simp [h0]
theorem vl_ne2 {b : Nat} (h : b < 7) : ¬ vlOf b = (-2 : Int32) := by
  revert b
  decide
theorem brk_body (kd st : Int32) {b : Nat} {a : Int32} (ha : (a = (-2 : Int32) ∧ b = 7) ∨ (b < 7 ∧ a = vlOf b)) (br : Bool) (F : Int32 → Option Int32) :
    jn (fun t_115 => jn F (fun j_178 => (if (if br = true then (1 : Int32) else 0) = 0 then j_178 (0 : Int32) else (if a = (-2 : Int32) then j_178 (0 : Int32) else (if kd = 0 then (if t_115 = 0 then j_178 (1 : Int32) else j_178 (0 : Int32)) else (if kd = (1 : Int32) then (if t_115 = 0 then j_178 (0 : Int32) else j_178 (1 : Int32)) else (if a < 0 then j_178 (0 : Int32) else (if t_115 = 0 then j_178 (1 : Int32) else j_178 (0 : Int32))))))))) (fun j_115 => (if a < 0 then j_115 (0 : Int32) else (if ((st >>> (a &&& 31)) &&& (1 : Int32)) = (1 : Int32) then j_115 (1 : Int32) else j_115 (0 : Int32)))) = F (if (br && altB kd st b) = true then 1 else 0) := by
  have z10 : ¬ (1 : Int32) = 0 := by decide
  show (if a < 0 then _ else _) = _
  rcases ha with ⟨rfl, rfl⟩ | ⟨hb, rfl⟩
  · rw [if_pos (show (-2 : Int32) < 0 by decide)]
    show (if (if br = true then (1 : Int32) else 0) = 0 then F 0 else _) = _
    cases br with
    | false => rw [if_pos (show (if false = true then (1 : Int32) else 0) = 0 by decide)]; rfl
    | true =>
      rw [if_neg (show ¬ (if true = true then (1 : Int32) else 0) = 0 by decide), if_pos rfl]
      have : altB kd st 7 = false := by unfold altB; rfl
      rw [this]
      rfl
  · have hlt : vlOf b < 0 ↔ ¬ b < 6 := by revert b; decide
    have two : ∀ t : Int32, (t = if (decide (b < 6) && b32 st b) = true then 1 else 0) → (if (if br = true then (1 : Int32) else 0) = 0 then F 0 else (if vlOf b = (-2 : Int32) then F 0 else (if kd = 0 then (if t = 0 then F 1 else F 0) else (if kd = (1 : Int32) then (if t = 0 then F 0 else F 1) else (if vlOf b < 0 then F 0 else (if t = 0 then F 1 else F 0)))))) = F (if (br && altB kd st b) = true then 1 else 0) := by
      intro t ht
      cases br with
      | false => rw [if_pos (show (if false = true then (1 : Int32) else 0) = 0 by decide)]; rfl
      | true =>
        rw [if_neg (show ¬ (if true = true then (1 : Int32) else 0) = 0 by decide), if_neg (vl_ne2 hb), Bool.true_and]
        unfold altB altK
        rw [decide_eq_true hb, Bool.true_and]
        by_cases k0 : kd = 0
        · rw [if_pos k0, if_pos k0]
          cases hz : (decide (b < 6) && b32 st b) with
          | true => rw [hz, if_pos rfl] at ht; rw [ht, if_neg z10]; rfl
          | false => rw [hz, if_neg (by decide)] at ht; rw [ht, if_pos rfl]; rfl
        · rw [if_neg k0, if_neg k0]
          by_cases k1 : kd = 1
          · rw [if_pos k1, if_pos k1]
            cases hz : (decide (b < 6) && b32 st b) with
            | true => rw [hz, if_pos rfl] at ht; rw [ht, if_neg z10]; rfl
            | false => rw [hz, if_neg (by decide)] at ht; rw [ht, if_pos rfl]; rfl
          · rw [if_neg k1, if_neg k1]
            by_cases h6 : b < 6
            · rw [if_neg (fun h => (hlt.mp h) h6)]
              rw [decide_eq_true h6] at ht ⊢
              cases hz : b32 st b with
              | true => rw [hz] at ht; rw [ht]; rfl
              | false => rw [hz] at ht; rw [ht]; rfl
            · rw [if_pos (hlt.mpr h6), decide_eq_false h6]
              rfl
    by_cases h6 : b < 6
    · rw [if_neg (fun h => (hlt.mp h) h6)]
      have hv : vlOf b = nI b := by unfold vlOf; rw [if_pos h6]
      by_cases hbit : b32 st b = true
      · rw [if_pos (by rw [hv]; exact (shr_bit st b h6).mpr hbit)]
        exact two 1 (by rw [decide_eq_true h6, hbit]; rfl)
      · rw [if_neg (by rw [hv]; exact fun h => hbit ((shr_bit st b h6).mp h))]
        exact two 0 (by rw [Bool.not_eq_true] at hbit; rw [hbit, Bool.and_false]; rfl)
    · rw [if_pos (hlt.mpr h6)]
      exact two 0 (by rw [decide_eq_false h6]; rfl)
theorem brk_loop (fu : Nat) {v : MS} {n : Nat} {vs : Nat → Nat} {r dm : Nat} {mn ot pk : Nat → Nat} (hB : MB v n vs r dm mn ot pk) {c : Nat → Nat} (hc : VB (m_value v) c) (K : Int32 → Int32 → Option Int32) {k : Nat} (hk : k < 132) :
    ∀ (f i : Nat) (br : Bool), i ≤ mn k → mn k < i + f → ∃ j, pl_X1_isBroken_59 fu (nI k) v K f (nI i) (if br = true then 1 else 0) = K j (if (br && allB (m_kind v) (m_set v) ot c k (mn k - i) i) = true then 1 else 0) := by
  obtain ⟨-, -, -, -, -, -, -, hmn, hot, -, -⟩ := hB
  intro f
  induction f with
  | zero => intro i br h1 h2; exact absurd h2 (by omega)
  | succ f ih =>
    intro i br h1 h2
    obtain ⟨m1, m2⟩ := hmn k hk
    rw [pl_X1_isBroken_59]
    rcases Nat.lt_or_ge i (mn k) with q | q
    · have hj : 3 * k + i < 396 := by omega
      obtain ⟨o1, o2⟩ := hot _ hj
      simp only [og_t (inb_nI hk (show 132 < 2 ^ 31 by decide)), nI_clamp (show k < 2 ^ 31 by omega), m1, nI_mul3, og_t (inb_nI hj (show 396 < 2 ^ 31 by decide)), nI_clamp (show 3 * k + i < 2 ^ 31 by omega), o1, og_t (inb_nI o2 (show 8 < 2 ^ 31 by decide)), nI_clamp (show ot (3 * k + i) < 2 ^ 31 by omega), nI_1]
      rw [if_neg (nI_ge q (by omega)), brk_body (m_kind v k) (m_set v (3 * k + i)) (hc _ o2) br]
      obtain ⟨j, hj2⟩ := ih (i + 1) (br && altB (m_kind v k) (m_set v (3 * k + i)) (c (ot (3 * k + i)))) (by omega) (by omega)
      refine ⟨j, ?_⟩
      rw [hj2, show mn k - i = (mn k - (i + 1)) + 1 by omega, allB, Bool.and_assoc]
    · rw [og_t (inb_nI hk (by decide)), nI_clamp (by omega), m1, if_pos (nI_le q (by omega))]
      refine ⟨nI i, ?_⟩
      rw [show mn k - i = 0 by omega, allB, Bool.and_true]
def brR (v : MS) (mn ot pk ver : Nat → Nat) (c : Nat → Nat) (k : Nat) : Bool := decide (c (pk k) = ver k) && allB (m_kind v) (m_set v) ot c k (mn k) 0
def brD (v : MS) (mn ot : Nat → Nat) (c : Nat → Nat) (d : Nat) : Bool := (decide (m_out v d = 0) && decide (m_away v d = 0)) && allB (m_kind v) (m_set v) ot c (120 + d) (mn (120 + d)) 0
theorem bz_if (x : Bool) : bz (if x then 1 else 0) = true := by cases x <;> decide
section MR
variable {fu : Nat} {v : MS} {n : Nat} {vs : Nat → Nat} {r dm : Nat} {mn ot pk ver : Nat → Nat} {c : Nat → Nat}
theorem vl_eq {b w : Nat} (hb : b < 7) (hw : w < 6) : vlOf b = nI w ↔ b = w := by
  rcases vl_cases b hb with ⟨b1, b2⟩ | ⟨b1, b2⟩
  · rw [b2]
    exact nI_eq (by omega) (by omega)
  · rw [b2]
    constructor
    · intro h
      have h2 := congrArg Int32.toInt h
      rw [nI_toInt (by omega)] at h2
      rw [show (-1 : Int32).toInt = -1 by decide] at h2
      omega
    · intro h
      omega
theorem isBroken_row (hfu : 200 ≤ fu) (hB : MB v n vs r dm mn ot pk) (hc : VB (m_value v) c) (hver : ∀ k, k < r → m_version v k = nI (ver k) ∧ ver k < 6) {k : Nat} (hk : k < r) :
    pf_X1_isBroken fu (nI k) v = some (if brR v mn ot pk ver c k then 1 else 0) := by
  have hB0 := hB
  obtain ⟨-, -, -, -, hr, -, -, hmn, -, hpk, -⟩ := hB
  have hk2 : k < 132 := by omega
  obtain ⟨p1, p2⟩ := hpk k hk2
  obtain ⟨w1, w2⟩ := hver k hk
  unfold pf_X1_isBroken
  rw [if_pos (show nI k < (120 : Int32) from nI_lt (a := k) (b := 120) (by omega) (by decide)), og_t (inb_nI hk2 (by decide)), nI_clamp (by omega), p1, og_t (inb_nI p2 (by decide)), og_t (inb_nI hk2 (by decide)), nI_clamp (by omega), w1]
  have hce : m_value v (pk k) = nI (ver k) ↔ c (pk k) = ver k := by
    rcases hc _ p2 with ⟨v1, v2⟩ | ⟨v2, v1⟩
    · rw [v1, v2]
      constructor
      · intro h
        have h2 := congrArg Int32.toInt h
        rw [nI_toInt (by omega), show (-2 : Int32).toInt = -2 by decide] at h2
        omega
      · intro h
        omega
    · rw [v1]
      exact vl_eq v2 w2
  by_cases h1 : m_value v (pk k) = nI (ver k)
  · rw [if_pos h1]
    obtain ⟨j, hj⟩ := brk_loop fu hB0 hc (fun x3_59 x2_59 => (og (bz x2_59) (some x2_59))) hk2 fu 0 true (Nat.zero_le _) (by have := (hmn k hk2).2; omega)
    rw [nI_0, if_pos (rfl : true = true), Bool.true_and] at hj
    rw [hj, og_t (bz_if _)]
    simp [brR, hce.mp h1]
  · rw [if_neg h1]
    have h2 : ¬ c (pk k) = ver k := fun h => h1 (hce.mpr h)
    simp [brR, h2]
theorem isBroken_dem (hfu : 200 ≤ fu) (hB : MB v n vs r dm mn ot pk) (hc : VB (m_value v) c) {d : Nat} (hd : d < dm) :
    pf_X1_isBroken fu (nI (120 + d)) v = some (if brD v mn ot c d then 1 else 0) := by
  have hB0 := hB
  obtain ⟨-, -, -, -, hr, -, hdm, hmn, -, -, hoa⟩ := hB
  have hk2 : 120 + d < 132 := by omega
  obtain ⟨o1, o2⟩ := hoa d (by omega)
  unfold pf_X1_isBroken
  have hsub : nI (120 + d) - (120 : Int32) = nI d := by
    rw [show (120 : Int32) = nI 120 by decide, pk_sub (by omega)]
    congr 1
    omega
  rw [if_neg (show ¬ nI (120 + d) < (120 : Int32) from nI_nlt (a := 120 + d) (b := 120) (by omega) (by omega)), hsub, og_t (inb_nI (by omega) (by decide)), nI_clamp (by omega), og_t (inb_nI (by omega) (by decide))]
  by_cases h1 : m_out v d = 0
  · rw [if_pos h1]
    by_cases h2 : m_away v d = 0
    · rw [if_pos h2]
      obtain ⟨j, hj⟩ := brk_loop fu hB0 hc (fun x3_59 x2_59 => (og (bz x2_59) (some x2_59))) hk2 fu 0 true (Nat.zero_le _) (by have := (hmn _ hk2).2; omega)
      rw [nI_0, if_pos (rfl : true = true), Bool.true_and] at hj
      rw [hj, og_t (bz_if _)]
      simp [brD, h1, h2]
    · rw [if_neg h2]
      simp [brD, h2]
  · rw [if_neg h1]
    simp [brD, h1]
theorem others_loop (hB : MB v n vs r dm mn ot pk) (K : Int32 → Int32 → Option Int32) {k : Nat} (hk : k < 132) :
    ∀ (f i : Nat) (acc : Int32), i ≤ mn k → mn k < i + f → ∃ j s, pl_X1_others_4 fu (nI k) v K f (nI i) acc = K j s ∧ (∀ b, b32 acc b = true → b32 s b = true) ∧ ∀ i', i ≤ i' → i' < mn k → b32 s (ot (3 * k + i')) = true := by
  obtain ⟨-, -, -, -, -, -, -, hmn, hot, -, -⟩ := hB
  intro f
  induction f with
  | zero => intro i acc h1 h2; exact absurd h2 (by omega)
  | succ f ih =>
    intro i acc h1 h2
    obtain ⟨m1, m2⟩ := hmn k hk
    rw [pl_X1_others_4, og_t (inb_nI hk (by decide)), nI_clamp (by omega), m1]
    rcases Nat.lt_or_ge i (mn k) with q | q
    · have hj : 3 * k + i < 396 := by omega
      obtain ⟨o1, o2⟩ := hot _ hj
      rw [if_neg (nI_ge q (by omega)), nI_mul3, og_t (inb_nI hj (by decide)), nI_clamp (by omega), o1, nI_1]
      obtain ⟨j, s, e, h3, h4⟩ := ih (i + 1) (acc ||| ((1 : Int32) <<< (nI (ot (3 * k + i)) &&& 31))) (by omega) (by omega)
      refine ⟨j, s, e, fun b hb => h3 b (by rw [b32_or, hb]; rfl), fun i' a1 a2 => ?_⟩
      rcases Nat.lt_or_ge i i' with w | w
      · exact h4 i' w a2
      · rw [show i' = i by omega]
        apply h3
        rw [b32_or, b32_one (by omega)]
        simp
    · rw [if_pos (nI_le q (by omega))]
      exact ⟨nI i, acc, rfl, fun b hb => hb, fun i' a1 a2 => by omega⟩
theorem others_ok (hfu : 200 ≤ fu) (hB : MB v n vs r dm mn ot pk) {k : Nat} (hk : k < 132) : ∃ s, pf_X1_others fu (nI k) v = some s ∧ ∀ i, i < mn k → b32 s (ot (3 * k + i)) = true := by
  obtain ⟨j, s, e, -, h⟩ := others_loop (fu := fu) hB (fun x3_4 x2_4 => (some x2_4)) hk fu 0 0 (Nat.zero_le _) (by have := (hB.2.2.2.2.2.2.2.1 k hk).2; omega)
  exact ⟨s, e, fun i hi => h i (Nat.zero_le _) hi⟩
theorem if10 (x : Bool) : ((if x then (1 : Int32) else 0) = 0) ↔ x = false := by cases x <;> decide
theorem brk_rows (hfu : 200 ≤ fu) (hB : MB v n vs r dm mn ot pk) (hc : VB (m_value v) c) (hver : ∀ k, k < r → m_version v k = nI (ver k) ∧ ver k < 6) (K : Int32 → Option Int32) :
    ∀ (f k : Nat), k ≤ r → r < k + f → (∀ j, j < k → brR v mn ot pk ver c j = false) →
      ∃ j, j ≤ r ∧ pl_X1_broken_2 fu v K f (nI k) = K (nI j) ∧ (∀ i, i < j → brR v mn ot pk ver c i = false) ∧ (j < r → brR v mn ot pk ver c j = true) := by
  have hr := hB.2.2.2.2.1
  have hre := hB.2.2.2.1
  intro f
  induction f with
  | zero => intro k h1 h2; exact absurd h2 (by omega)
  | succ f ih =>
    intro k h1 h2 h3
    rw [pl_X1_broken_2, hre]
    rcases Nat.lt_or_ge k r with q | q
    · rw [if_neg (nI_ge q (by omega)), ob_s (isBroken_row hfu hB hc hver q), nI_1]
      cases hb : brR v mn ot pk ver c k with
      | false =>
        rw [if_pos ((if10 _).mpr rfl)]
        exact ih (k + 1) (by omega) (by omega) (fun j hj => by
          rcases Nat.lt_or_ge j k with w | w
          · exact h3 j w
          · rw [show j = k by omega]; exact hb)
      | true =>
        rw [if_neg (fun h => by have := (if10 _).mp h; cases this)]
        exact ⟨k, h1, rfl, h3, fun _ => hb⟩
    · rw [if_pos (nI_le q (by omega))]
      exact ⟨k, h1, rfl, h3, fun h => by omega⟩
theorem brk_dems (hfu : 200 ≤ fu) (hB : MB v n vs r dm mn ot pk) (hc : VB (m_value v) c) (K : Int32 → Option Int32) :
    ∀ (f k : Nat), k ≤ dm → dm < k + f → (∀ j, j < k → brD v mn ot c j = false) →
      ∃ j, j ≤ dm ∧ pl_X1_broken_49 fu v K f (nI k) = K (nI j) ∧ (∀ i, i < j → brD v mn ot c i = false) ∧ (j < dm → brD v mn ot c j = true) := by
  have hr := hB.2.2.2.2.2.2.1
  have hre := hB.2.2.2.2.2.1
  intro f
  induction f with
  | zero => intro k h1 h2; exact absurd h2 (by omega)
  | succ f ih =>
    intro k h1 h2 h3
    rw [pl_X1_broken_49, hre]
    rcases Nat.lt_or_ge k dm with q | q
    · rw [if_neg (nI_ge q (by omega)), show (120 : Int32) + nI k = nI (120 + k) from by rw [show (120 : Int32) = nI 120 by decide, nI_add], ob_s (isBroken_dem hfu hB hc q), nI_1]
      cases hb : brD v mn ot c k with
      | false =>
        rw [if_pos ((if10 _).mpr rfl)]
        exact ih (k + 1) (by omega) (by omega) (fun j hj => by
          rcases Nat.lt_or_ge j k with w | w
          · exact h3 j w
          · rw [show j = k by omega]; exact hb)
      | true =>
        rw [if_neg (fun h => by have := (if10 _).mp h; cases this)]
        exact ⟨k, h1, rfl, h3, fun _ => hb⟩
    · rw [if_pos (nI_le q (by omega))]
      exact ⟨k, h1, rfl, h3, fun h => by omega⟩
/-- what broken() answers: 0 if nothing is broken, else packages of a broken rule -/
def brkS (v : MS) (r dm : Nat) (mn ot pk ver : Nat → Nat) (c : Nat → Nat) (S : Int32) : Prop :=
  (S = 0 ∧ (∀ k, k < r → brR v mn ot pk ver c k = false) ∧ ∀ d, d < dm → brD v mn ot c d = false) ∨
  (S ≠ 0 ∧ ((∃ k, k < r ∧ brR v mn ot pk ver c k = true ∧ b32 S (pk k) = true ∧ ∀ i, i < mn k → b32 S (ot (3 * k + i)) = true) ∨
    ∃ d, d < dm ∧ brD v mn ot c d = true ∧ ∀ i, i < mn (120 + d) → b32 S (ot (3 * (120 + d) + i)) = true))
theorem broken_ok (hfu : 200 ≤ fu) (hB : MB v n vs r dm mn ot pk) (hc : VB (m_value v) c) (hver : ∀ k, k < r → m_version v k = nI (ver k) ∧ ver k < 6) :
    ∃ S, pf_X1_broken fu v = some S ∧ brkS v r dm mn ot pk ver c S := by
  have hr := hB.2.2.2.2.1
  have hdm := hB.2.2.2.2.2.2.1
  have hre := hB.2.2.2.1
  have hde := hB.2.2.2.2.2.1
  unfold pf_X1_broken
  obtain ⟨k, hk, e1, k1, k2⟩ := brk_rows hfu hB hc hver (fun x1_2 => (if (m_rows v) ≤ x1_2 then (pl_X1_broken_49 fu v (fun x2_49 => (if (m_demands v) ≤ x2_49 then (some (0 : Int32)) else (ob (pf_X1_others fu ((120 : Int32) + x2_49) v) (fun q_9 => (some ((256 : Int32) ||| q_9)))))) fu (0 : Int32)) else (og (inb x1_2 132) (ob (pf_X1_others fu x1_2 v) (fun q_11 => (some (((1 : Int32) <<< (((m_pack v) x1_2.toNatClampNeg) &&& 31)) ||| q_11))))))) fu 0 (Nat.zero_le _) (by omega) (fun j hj => by omega)
  rw [nI_0] at e1
  rw [e1, hre]
  rcases Nat.lt_or_ge k r with q | q
  · rw [if_neg (nI_ge q (by omega)), og_t (inb_nI (by omega) (by decide))]
    obtain ⟨s, e2, h2⟩ := others_ok hfu hB (k := k) (by omega)
    rw [ob_s e2, nI_clamp (by omega)]
    obtain ⟨p1, p2⟩ := hB.2.2.2.2.2.2.2.2.2.1 k (by omega)
    rw [p1]
    have hbit : b32 ((1 : Int32) <<< (nI (pk k) &&& 31) ||| s) (pk k) = true := by
      rw [b32_or, b32_one (by omega)]
      simp
    refine ⟨_, rfl, Or.inr ⟨fun h => (by rw [h, b32_0] at hbit; cases hbit), Or.inl ⟨k, q, k2 q, hbit, fun i hi => by rw [b32_or, h2 i hi, Bool.or_true]⟩⟩⟩
  · rw [if_pos (nI_le q (by omega))]
    have hkr : k = r := by omega
    subst hkr
    obtain ⟨d, hd, e2, d1, d2⟩ := brk_dems hfu hB hc (fun x2_49 => (if (m_demands v) ≤ x2_49 then (some (0 : Int32)) else (ob (pf_X1_others fu ((120 : Int32) + x2_49) v) (fun q_9 => (some ((256 : Int32) ||| q_9)))))) fu 0 (Nat.zero_le _) (by omega) (fun j hj => by omega)
    rw [nI_0] at e2
    rw [e2, hde]
    rcases Nat.lt_or_ge d dm with w | w
    · rw [if_neg (nI_ge w (by omega)), show (120 : Int32) + nI d = nI (120 + d) from by rw [show (120 : Int32) = nI 120 by decide, nI_add]]
      obtain ⟨s, e3, h2⟩ := others_ok hfu hB (k := 120 + d) (by omega)
      rw [ob_s e3]
      have hbit : b32 ((256 : Int32) ||| s) 8 = true := by
        rw [b32_or, show b32 256 8 = true by decide]
        rfl
      refine ⟨_, rfl, Or.inr ⟨fun h => (by rw [h, b32_0] at hbit; cases hbit), Or.inr ⟨d, w, d2 w, fun i hi => by rw [b32_or, h2 i hi, Bool.or_true]⟩⟩⟩
    · rw [if_pos (nI_le w (by omega))]
      exact ⟨0, rfl, Or.inl ⟨rfl, k1, fun i hi => d1 i (by omega)⟩⟩
end MR
