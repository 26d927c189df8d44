/-! CLASS AND REFERENCE SIDE BY SIDE. -/
def anyA (kd st : Nat → Int32) (ot : Nat → Nat) (k p b : Nat) : Nat → Nat → Bool
  | 0, _ => false
  | m + 1, i => (decide (ot (3 * k + i) = p) && altK (kd k) (st (3 * k + i)) b) || anyA kd st ot k p b m (i + 1)
theorem any_all {kd st : Nat → Int32} {ot : Nat → Nat} {k : Nat} {c : Nat → Nat} (hc : ch7 c) : ∀ m i, (∀ j, i ≤ j → j < i + m → ot (3 * k + j) < 8) → ((∃ p, p < 8 ∧ anyA kd st ot k p (c p) m i = true) ↔ allB kd st ot c k m i = false) := by
  intro m
  induction m with
  | zero =>
    intro i _
    rw [allB]
    simp [anyA]
  | succ m ih =>
    intro i h
    have h1 := ih (i + 1) (fun j j1 j2 => h j (by omega) (by omega))
    have h2 := h i (Nat.le_refl i) (by omega)
    rw [allB]
    unfold altB
    rw [decide_eq_true (hc _ h2), Bool.true_and]
    constructor
    · rintro ⟨p, hp, ha⟩
      rw [anyA, Bool.or_eq_true, Bool.and_eq_true] at ha
      rcases ha with ⟨a1, a2⟩ | ha
      · have a3 := of_decide_eq_true a1
        rw [a3, a2]
        rfl
      · rw [h1.mp ⟨p, hp, ha⟩, Bool.and_false]
    · intro ha
      rw [Bool.and_eq_false_iff] at ha
      rcases ha with ha | ha
      · refine ⟨ot (3 * k + i), h2, ?_⟩
        rw [anyA]
        have : altK (kd k) (st (3 * k + i)) (c (ot (3 * k + i))) = true := by
          cases hq : altK (kd k) (st (3 * k + i)) (c (ot (3 * k + i))) with
          | true => rfl
          | false => rw [hq] at ha; cases ha
        rw [this]
        simp
      · obtain ⟨p, hp, hq⟩ := h1.mpr ha
        refine ⟨p, hp, ?_⟩
        rw [anyA, hq, Bool.or_true]
/-- the two states, side by side, in numbers -/
def RelN (u : XS) (v : MS) (n : Nat) (vs : Nat → Nat) (r dm : Nat) (mn ot pk ver od L : Nat → Nat) (nd : Nat) : Prop :=
  MSrch v n vs r dm mn ot pk ver od L nd ∧
  (x_packs u = nI n ∧ x_rows u = nI r ∧ x_demands u = nI dm ∧ x_neededPacks u = nI nd ∧ OrdOK (x_order u) od) ∧
  (∀ p, p < 8 → ∀ b, b < 8 → gb (x_places u) p b = (decide (b = 6) || (decide (p < n) && decide (b < vs p)))) ∧
  (∀ k, k < r → ∀ p, p < 8 → ∀ b, b < 7 → gb (x_rowRules u k) p b = ((decide (p = pk k) && !decide (b = ver k)) || anyA (m_kind v) (m_set v) ot k p b (mn k) 0)) ∧
  (∀ d, d < dm → ∀ p, p < 8 → ∀ b, b < 7 → gb (x_demandRules u d) p b = anyA (m_kind v) (m_set v) ot (120 + d) p b (mn (120 + d)) 0) ∧
  (∀ d, d < 12 → b32 (x_leftOut u) d = decide (m_out v d = 1)) ∧
  ((∀ p, p < 8 → ∀ b, b < 8 → gb (x_locked u) p b = decide (L p < 6 ∧ b = L p)) ∧ ∀ p, n ≤ p → p < 8 → L p = 6 ∧ m_locks v p = vlOf 6) ∧
  ((∀ k, k < r → 0 < mn k ∧ (m_kind v k = 0 ∨ ((m_kind v k = 1 ∨ m_kind v k = 2) ∧ mn k = 1))) ∧ ∀ d, d < dm → (m_kind v (120 + d) = 0 ∨ ((m_kind v (120 + d) = 1 ∨ m_kind v (120 + d) = 2) ∧ mn (120 + d) = 1)))
def frOf (v : MS) (mn : Nat → Nat) (k : Nat) : Int32 := if m_kind v k = 0 then nI (3 - mn k) else 0
def RelL (u : XS) (v : MS) (r dm : Nat) (mn : Nat → Nat) : Prop :=
  (m_latest v = (-1 : Int32) ∧ x_alternativesFree u = 0) ∨ (0 < r ∧ m_latest v = nI (r - 1) ∧ x_latestIsDemand u = 0 ∧ x_alternativesFree u = frOf v mn (r - 1)) ∨
  (0 < dm ∧ m_latest v = nI (120 + (dm - 1)) ∧ x_latestIsDemand u = 1 ∧ x_alternativesFree u = frOf v mn (120 + (dm - 1)))
def RelC (u : XS) (v : MS) : Prop := ∀ p, p < 8 → ∃ b, b < 7 ∧ m_chosen v p = vlOf b ∧ ∀ b', b' < 6 → gb (x_picked u) p b' = decide (b' = b)
/-- those to blame, by number -/
def RelB (u : XS) (v : MS) : Prop := ∃ (bl : Nat) (bd : Nat → Nat), bl ≤ 12 ∧ m_blames v = nI bl ∧ (∀ i, i < bl → m_blamed v i = nI (bd i) ∧ bd i < 12) ∧ (∀ i j, i < j → j < bl → bd i < bd j) ∧
  ∀ d, d < 12 → (b32 (x_toBlame u) d = true ↔ ∃ i, i < bl ∧ bd i = d)
def Rel (u : XS) (v : MS) : Prop := ∃ (n : Nat) (vs : Nat → Nat) (r dm : Nat) (mn ot pk ver od L : Nat → Nat) (nd : Nat), RelN u v n vs r dm mn ot pk ver od L nd ∧ RelL u v r dm mn ∧ RelC u v ∧ RelB u v
section RE
variable {fu : Nat} {u : XS} {v : MS} {n : Nat} {vs : Nat → Nat} {r dm : Nat} {mn ot pk ver od L : Nat → Nat} {nd : Nat}
theorem hit_row (h : RelN u v n vs r dm mn ot pk ver od L nd) {c : Nat → Nat} (hc : ch7 c) {k : Nat} (hk : k < r) : hit (x_rowRules u k) c ↔ brR v mn ot pk ver c k = false := by
  obtain ⟨⟨hB, hver, -, -, -, -, -, hrow, -, -⟩, -, -, hbits, -⟩ := h
  have hn8 := hB.2.1
  have hpk := (hrow k hk).1
  have hA := any_all (kd := m_kind v) (st := m_set v) (ot := ot) (k := k) hc (mn k) 0 (fun j j1 j2 => by have := (hrow k hk).2 j (by omega); omega)
  unfold brR
  rw [Bool.and_eq_false_iff, ← hA]
  constructor
  · rintro ⟨p, hp, h1⟩
    rw [hbits k hk p hp _ (hc p hp), Bool.or_eq_true] at h1
    rcases h1 with h1 | h1
    · left
      simp at h1
      rw [← h1.1]
      simp [h1.2]
    · exact Or.inr ⟨p, hp, h1⟩
  · rintro (h1 | ⟨p, hp, h1⟩)
    · refine ⟨pk k, by omega, ?_⟩
      rw [hbits k hk _ (by omega) _ (hc _ (by omega))]
      simp at h1
      simp [h1]
    · refine ⟨p, hp, ?_⟩
      rw [hbits k hk p hp _ (hc p hp), h1, Bool.or_true]
theorem hit_dem (h : RelN u v n vs r dm mn ot pk ver od L nd) {c : Nat → Nat} (hc : ch7 c) {d : Nat} (hd : d < dm) : hit (x_demandRules u d) c ↔ allB (m_kind v) (m_set v) ot c (120 + d) (mn (120 + d)) 0 = false := by
  obtain ⟨⟨hB, -, -, -, -, -, -, -, hdem, -⟩, -, -, -, hbits, -⟩ := h
  have hn8 := hB.2.1
  rw [← any_all (kd := m_kind v) (st := m_set v) (ot := ot) (k := 120 + d) hc (mn (120 + d)) 0 (fun j j1 j2 => by have := hdem d hd j (by omega); omega)]
  constructor
  · rintro ⟨p, hp, h1⟩
    rw [hbits d hd p hp _ (hc p hp)] at h1
    exact ⟨p, hp, h1⟩
  · rintro ⟨p, hp, h1⟩
    refine ⟨p, hp, ?_⟩
    rw [hbits d hd p hp _ (hc p hp)]
    exact h1
/-- a choice is right for the class if and only if it is for the reference -/
theorem ok_iff (h : RelN u v n vs r dm mn ot pk ver od L nd) {kept : Int32} (hk : ∀ d, d < dm → b32 kept d = (decide (m_out v d = 0) && decide (m_away v d = 0))) (c : Nat → Nat) :
    OKx (RSet u kept r dm) (x_places u) c ↔ SM v n vs r dm mn ot pk ver (-1 : Int32) (-1 : Int32) c := by
  have hpl := h.2.2.1
  have hn8 : n ≤ 8 := h.1.1.2.1
  unfold OKx SM
  constructor
  · rintro ⟨h1, h2, h3⟩
    refine ⟨h1, fun p hp => ?_, fun p p1 p2 => ?_, fun k hk => ?_, fun d hd => ?_, fun p hp he => ?_⟩
    · have h4 := h2 p (by omega)
      rw [hpl p (by omega) _ (by have := h1 p (by omega); omega)] at h4
      simp at h4
      rcases h4 with h4 | h4
      · exact Or.inl h4
      · exact Or.inr h4.2
    · have h4 := h2 p p2
      rw [hpl p p2 _ (by have := h1 p p2; omega)] at h4
      simp at h4
      rcases h4 with h4 | h4
      · exact h4
      · omega
    · exact (hit_row h h1 hk).mp (h3 _ (Or.inl ⟨k, Nat.zero_le _, hk, rfl⟩))
    · unfold brD
      rw [← hk d hd]
      cases hb : b32 kept d with
      | false => rfl
      | true => rw [Bool.true_and]; exact (hit_dem h h1 hd).mp (h3 _ (Or.inr ⟨d, Nat.zero_le _, hd, hb, rfl⟩))
    · have := congrArg Int32.toInt he
      rw [nI_toInt (by omega), show (-1 : Int32).toInt = -1 by decide] at this
      omega
  · rintro ⟨h1, h2, h3, h4, h5, -⟩
    refine ⟨h1, fun p hp => ?_, fun q hq => ?_⟩
    · rw [hpl p hp _ (by have := h1 p hp; omega)]
      rcases Nat.lt_or_ge p n with w | w
      · rcases h2 p w with h6 | h6
        · simp [h6]
        · simp [h6, w]
      · simp [h3 p w hp]
    · rcases hq with ⟨k, -, hk, rfl⟩ | ⟨d, -, hd, hb, rfl⟩
      · exact (hit_row h h1 hk).mpr (h4 k hk)
      · have h6 := h5 d hd
        unfold brD at h6
        rw [← hk d hd, hb, Bool.true_and] at h6
        exact (hit_dem h h1 hd).mpr h6
theorem vinj0 : ∀ x, x < 7 → ∀ y, y < 7 → (!(decide (vlOf x = vlOf y)) || decide (x = y)) = true := by decide +kernel
theorem SM_fix {p b : Nat} (hp : p < n) (hn : n ≤ 8) (hb : b < 7) (c : Nat → Nat) : SM v n vs r dm mn ot pk ver (nI p) (vlOf b) c ↔ SM v n vs r dm mn ot pk ver (-1 : Int32) (-1 : Int32) c ∧ c p = b := by
  have vinj : ∀ x y, x < 7 → y < 7 → vlOf x = vlOf y → x = y := fun x y hx hy h => of_decide_eq_true (bimp (vinj0 x hx y hy) (decide_eq_true h))
  unfold SM
  constructor
  · rintro ⟨h1, h2, h3, h4, h5, h6⟩
    refine ⟨⟨h1, h2, h3, h4, h5, fun q hq he => ?_⟩, vinj _ _ (h1 p (by omega)) hb (h6 p hp rfl)⟩
    have := congrArg Int32.toInt he
    rw [nI_toInt (by omega), show (-1 : Int32).toInt = -1 by decide] at this
    omega
  · rintro ⟨⟨h1, h2, h3, h4, h5, -⟩, h6⟩
    refine ⟨h1, h2, h3, h4, h5, fun q hq he => ?_⟩
    have := (nI_eq (by omega) (by omega)).mp he
    subst this
    rw [h6]
theorem key_eq (h : RelN u v n vs r dm mn ot pk ver od L nd) {i b : Nat} (hi : i < 8) (hb : b < 7) : keyOf (x_locked u) nd od i b = keyF (L (od i)) (flg nd i) b := by
  have h1 := h.2.2.2.2.2.2.1.1 (od i) (h.2.1.2.2.2.2.1 i hi).2 b (by omega)
  unfold keyOf keyF
  rw [h1]
  by_cases h2 : L (od i) < 6 ∧ b = L (od i)
  · rw [if_pos (decide_eq_true h2), if_pos h2]
  · rw [if_neg (by rw [decide_eq_false h2]; decide), if_neg h2]
theorem xsrch (h : RelN u v n vs r dm mn ot pk ver od L nd) : XSrch u r dm nd od := by
  obtain ⟨hM, ⟨-, h2, h3, h4, h5⟩, -, -, -, -, ⟨h6, -⟩, -⟩ := h
  refine ⟨hM.1.2.2.2.2.1, h2, hM.1.2.2.2.2.2.2.1, h3, h5, fun p hp b hb hg => ?_, ?_, h4⟩
  · rw [h6 p hp b hb] at hg
    have h7 := of_decide_eq_true hg
    refine ⟨by omega, fun b' hb' hg' => ?_⟩
    rw [h6 p hp b' hb'] at hg'
    have h8 := of_decide_eq_true hg'
    omega
  · have := hM.2.2.2.1.2.2
    have := hM.1.2.1
    omega
theorem nonE_places (h : RelN u v n vs r dm mn ot pk ver od L nd) : nonE (x_places u) := by
  have hpl := h.2.2.1
  refine ⟨fun p hp => ⟨6, by decide, by rw [hpl p hp 6 (by decide)]; rfl⟩, fun p hp => ?_⟩
  rw [hpl p hp 7 (by decide)]
  have := (h.1.1.2.2.1 p hp).2
  have h7 : ¬ 7 < vs p := by omega
  simp [h7]
/-- the first choice of the one is the first of the other -/
theorem best_same (h : RelN u v n vs r dm mn ot pk ver od L nd) {S T : (Nat → Nat) → Prop} (hST : ∀ c, S c ↔ T c) (hT7 : ∀ c, T c → ch7 c ∧ (∀ p, p < n → vld (vs p) (c p)) ∧ ∀ p, n ≤ p → p < 8 → c p = 6) {c c' : Nat → Nat}
    (h1 : BestFrom 0 od (keyOf (x_locked u) nd od) S c) (h2 : BestM n vs L od nd T c') : ∀ p, p < 8 → c p = c' p := by
  have hM := h.1
  have hn8 := hM.1.2.1
  obtain ⟨hod1, hod2, hod3⟩ := h.2.1.2.2.2.2
  have hcT := hT7 c ((hST c).mp h1.1)
  have hcT' := hT7 c' h2.1
  have cmp : ∀ i, i < n → (keyOf (x_locked u) nd od i (c (od i)) < keyOf (x_locked u) nd od i (c' (od i)) ↔ rkM (vs (od i)) (L (od i)) (flg nd i) (c (od i)) < rkM (vs (od i)) (L (od i)) (flg nd i) (c' (od i))) := by
    intro i hi
    have ho8 := (hod1 i (by omega)).2
    have hon := od_lt ⟨_, hod1, hod2, hod3⟩ hM.2.2.2.1 hn8 hi
    have hLi := hM.2.2.2.2.2.2.2.2.2 (od i) hon
    have hVi := (hM.1.2.2.1 _ ho8).2
    rw [key_eq h (by omega) (hcT.1 _ ho8), key_eq h (by omega) (hcT'.1 _ ho8)]
    exact rk_key _ (by omega) _ hLi.1 hLi.2.1 (flg nd i) (flg_lt nd i) _ (hcT.1 _ ho8) (hcT.2.1 _ hon) _ (hcT'.1 _ ho8) (hcT'.2.1 _ hon)
  have hlow : ∀ i, i < n → c (od i) = c' (od i) := by
    rcases h1.2 c' ((hST c').mpr h2.1) with e1 | ⟨i, -, i2, i3, i4⟩
    · exact fun i hi => (e1 i (Nat.zero_le _) (by omega)).symm
    · have hin : i < n := by
        rcases Nat.lt_or_ge i n with w | w
        · exact w
        · have h5 := hM.2.2.2.1.2.1 i w i2
          rw [h5, hcT.2.2 i w i2, hcT'.2.2 i w i2] at i4
          omega
      rcases h2.2 c ((hST c).mp h1.1) with e2 | ⟨j, j2, j3, j4⟩
      · exact e2
      · rcases Nat.lt_trichotomy i j with w | w | w
        · rw [j3 i w] at i4
          omega
        · subst w
          have := (cmp i hin).mp i4
          omega
        · rw [i3 j (Nat.zero_le _) w] at j4
          omega
  intro p hp
  rcases Nat.lt_or_ge p n with w | w
  · obtain ⟨i, hi, rfl⟩ := od_sur ⟨_, hod1, hod2, hod3⟩ hM.2.2.2.1 hn8 w
    exact hlow i hi
  · rw [hcT.2.2 p w hp, hcT'.2.2 p w hp]
end RE
