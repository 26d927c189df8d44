/-! THE REFERENCE'S RANKS. A lock L is a version below 6, or 6 for none. -/
def rankF (V L vv : Int32) (fl : Bool) : Int32 :=
  if vv = L then (if vv = (-1 : Int32) then (if fl then 0 + V else 0) else 0)
  else
    (if L = (-1 : Int32) then (if fl then (0 : Int32) + (if vv = (-1 : Int32) then V else (V - 1) - vv) else if vv = (-1 : Int32) then 0 else (0 + 1) + (if vv = (-1 : Int32) then V else (V - 1) - vv))
    else if L ≤ vv then (if fl then (1 : Int32) + (if vv = (-1 : Int32) then V else (V - 1) - vv) else if vv = (-1 : Int32) then 1 else (1 + 1) + (if vv = (-1 : Int32) then V else (V - 1) - vv))
    else (if fl then (1 : Int32) + ((if vv = (-1 : Int32) then V else (V - 1) - vv) + (-1)) else if vv = (-1 : Int32) then 1 else (1 + 1) + ((if vv = (-1 : Int32) then V else (V - 1) - vv) + (-1))))
def rkM (V L fl b : Nat) : Nat := (rankF (nI V) (vlOf L) (vlOf b) (decide (fl = 1))).toNatClampNeg
def keyF (L fl b : Nat) : Nat := if L < 6 ∧ b = L then 0 else rkOf fl b
def vld (V b : Nat) : Prop := b = 6 ∨ b < V
theorem bimp {c d : Bool} (h : (!c || d) = true) (hc : c = true) : d = true := by rw [hc] at h; exact h
def vldB (V b : Nat) : Bool := decide (b = 6) || decide (b < V)
theorem vldB_of {V b : Nat} (h : b = 6 ∨ b < V) : vldB V b = true := by
  unfold vldB
  rcases h with h | h
  · rw [decide_eq_true h]; rfl
  · rw [decide_eq_true h, Bool.or_true]
theorem rk_ok0 : ∀ V, V < 7 → ∀ L, L < 7 → ∀ fl, fl < 2 → ∀ b, b < 7 → (!(vldB V L && vldB V b) || (decide (rankF (nI V) (vlOf L) (vlOf b) (decide (fl = 1)) = nI (rkM V L fl b)) && decide (rkM V L fl b ≤ V))) = true := by decide +kernel
theorem rk_key0 : ∀ V, V < 7 → ∀ L, L < 7 → ∀ fl, fl < 2 → ∀ b, b < 7 → ∀ b', b' < 7 → (!(vldB V L && (vldB V b && vldB V b')) || (decide (keyF L fl b < keyF L fl b') == decide (rkM V L fl b < rkM V L fl b'))) = true := by decide +kernel
theorem rk_sur0 : ∀ V, V < 7 → ∀ L, L < 7 → ∀ fl, fl < 2 → ∀ o, o < V + 1 → (!(vldB V L) || ((List.range 7).any fun b => vldB V b && decide (rkM V L fl b = o))) = true := by decide +kernel
theorem rk_one0 : ∀ V, V < 7 → ∀ L, L < 7 → ∀ fl, fl < 2 → ∀ b, b < 7 → ∀ b', b' < 7 → (!(vldB V L && (vldB V b && (vldB V b' && decide (rkM V L fl b = rkM V L fl b')))) || decide (b = b')) = true := by decide +kernel
theorem rk_ok (V : Nat) (hV : V < 7) (L : Nat) (hL : L < 7) (h1 : L = 6 ∨ L < V) (fl : Nat) (hf : fl < 2) (b : Nat) (hb : b < 7) (h2 : b = 6 ∨ b < V) : rankF (nI V) (vlOf L) (vlOf b) (decide (fl = 1)) = nI (rkM V L fl b) ∧ rkM V L fl b ≤ V := by
  have h := bimp (rk_ok0 V hV L hL fl hf b hb) (by rw [vldB_of h1, vldB_of h2]; rfl)
  rw [Bool.and_eq_true] at h
  exact ⟨of_decide_eq_true h.1, of_decide_eq_true h.2⟩
theorem rk_key (V : Nat) (hV : V < 7) (L : Nat) (hL : L < 7) (h1 : L = 6 ∨ L < V) (fl : Nat) (hf : fl < 2) (b : Nat) (hb : b < 7) (h2 : b = 6 ∨ b < V) (b' : Nat) (hb' : b' < 7) (h3 : b' = 6 ∨ b' < V) : keyF L fl b < keyF L fl b' ↔ rkM V L fl b < rkM V L fl b' := by
  have h := bimp (rk_key0 V hV L hL fl hf b hb b' hb') (by rw [vldB_of h1, vldB_of h2, vldB_of h3]; rfl)
  have h := eq_of_beq h
  rw [decide_eq_decide] at h
  exact h
theorem rk_sur (V : Nat) (hV : V < 7) (L : Nat) (hL : L < 7) (h1 : L = 6 ∨ L < V) (fl : Nat) (hf : fl < 2) (o : Nat) (ho : o ≤ V) : ∃ b, b < 7 ∧ (b = 6 ∨ b < V) ∧ rkM V L fl b = o := by
  have h := bimp (rk_sur0 V hV L hL fl hf o (by omega)) (vldB_of h1)
  rw [List.any_eq_true] at h
  obtain ⟨b, hb, h2⟩ := h
  unfold vldB at h2
  rw [Bool.and_eq_true, Bool.or_eq_true] at h2
  exact ⟨b, List.mem_range.mp hb, h2.1.elim (fun h => Or.inl (of_decide_eq_true h)) (fun h => Or.inr (of_decide_eq_true h)), of_decide_eq_true h2.2⟩
theorem rk_one (V : Nat) (hV : V < 7) (L : Nat) (hL : L < 7) (h1 : L = 6 ∨ L < V) (fl : Nat) (hf : fl < 2) (b : Nat) (hb : b < 7) (h2 : b = 6 ∨ b < V) (b' : Nat) (hb' : b' < 7) (h3 : b' = 6 ∨ b' < V) (h : rkM V L fl b = rkM V L fl b') : b = b' :=
  of_decide_eq_true (bimp (rk_one0 V hV L hL fl hf b hb b' hb') (by rw [vldB_of h1, vldB_of h2, vldB_of h3, decide_eq_true h]; rfl))
section RK
variable {fu : Nat} {v : MS} {p V L nd i : Nat}
/-- what stands at a place of the order: package p of V versions, locked at L -/
def RkAt (v : MS) (i p V L nd : Nat) : Prop := i < 8 ∧ p < 8 ∧ m_order v i = nI p ∧ V < 7 ∧ m_versions v p = nI V ∧ L < 7 ∧ (L = 6 ∨ L < V) ∧ m_locks v p = vlOf L ∧ nd ≤ 8 ∧ m_needed v = nI nd
theorem rank_ok (h : RkAt v i p V L nd) {b : Nat} (hb : b < 7) (hbv : vld V b) : pf_X1_rank fu (nI i) (vlOf b) v = some (nI (rkM V L (flg nd i) b)) := by
  obtain ⟨hi, hp, ho, hV, hvs, hL, hLv, hlk, hnd, hne⟩ := h
  rw [← (rk_ok V hV L hL hLv (flg nd i) (flg_lt nd i) b hb hbv).1]
  have hfl : (nI nd ≤ nI i) ↔ decide (flg nd i = 1) = false := by
    rw [nI_leI (by omega) (by omega)]
    unfold flg
    by_cases h : i < nd
    · simp [h]
    · simp [h]; omega
  unfold pf_X1_rank
  simp only [og_t (inb_nI hi (by decide)), nI_clamp (show i < 2 ^ 31 by omega), ho, og_t (inb_nI hp (by decide)), nI_clamp (show p < 2 ^ 31 by omega), hlk, hvs, hne, jn]
  generalize hfe : decide (flg nd i = 1) = fl at hfl ⊢
  unfold rankF
  have hz : ∀ x : Int32, x = 0 + x := fun x => by rw [Int32.zero_add]
  by_cases hN : nI nd ≤ nI i
  · have hf := hfl.mp hN
    subst hf
    simp only [if_pos hN]
    by_cases c1 : vlOf b = vlOf L
    · simp only [if_pos c1]
      by_cases c2 : vlOf b = (-1 : Int32)
      · have c3 : vlOf L = (-1 : Int32) := by rw [← c1]; exact c2
        simp only [c2, c3, if_true]
        rfl
      · simp only [if_neg c2]
    · simp only [if_neg c1]
      by_cases c2 : vlOf L = (-1 : Int32)
      · simp only [if_pos c2]
        by_cases c3 : vlOf b = (-1 : Int32) <;> simp [c3]
      · simp only [if_neg c2]
        by_cases c4 : vlOf L ≤ vlOf b
        · simp only [if_pos c4]
          by_cases c3 : vlOf b = (-1 : Int32) <;> simp [c3]
        · simp only [if_neg c4]
          by_cases c3 : vlOf b = (-1 : Int32) <;> simp [c3]
  · have hf : fl = true := by
      cases fl with
      | true => rfl
      | false => exact absurd (hfl.mpr rfl) hN
    subst hf
    simp only [if_neg hN]
    by_cases c1 : vlOf b = vlOf L
    · simp only [if_pos c1]
      by_cases c2 : vlOf b = (-1 : Int32)
      · have c3 : vlOf L = (-1 : Int32) := by rw [← c1]; exact c2
        simp only [c2, c3, if_true]
      · simp only [if_neg c2]
    · simp only [if_neg c1]
      by_cases c2 : vlOf L = (-1 : Int32)
      · simp only [if_pos c2]
        by_cases c3 : vlOf b = (-1 : Int32) <;> simp [c3]
      · simp only [if_neg c2]
        by_cases c4 : vlOf L ≤ vlOf b
        · simp only [if_pos c4]
          by_cases c3 : vlOf b = (-1 : Int32) <;> simp [c3]
        · simp only [if_neg c4]
          by_cases c3 : vlOf b = (-1 : Int32) <;> simp [c3]
/-- the place that stands at option o -/
theorem ranked_loop (h : RkAt v i p V L nd) {b : Nat} (hb : b < V) (K : Int32 → Option Int32) :
    ∀ (f w : Nat), w ≤ b → b < w + f → pl_X1_ranked_2 fu (nI i) (nI (rkM V L (flg nd i) b)) v K f (nI w) = K (nI b) := by
  obtain ⟨hi, hp, ho, hV, hvs, hL, hLv, hlk, hnd, hne⟩ := id h
  intro f
  induction f with
  | zero => intro w h1 h2; exact absurd h2 (by omega)
  | succ f ih =>
    intro w h1 h2
    have hvw : vlOf w = nI w := by unfold vlOf; rw [if_pos (by omega)]
    have e := rank_ok (fu := fu) h (b := w) (by omega) (Or.inr (by omega))
    rw [hvw] at e
    rw [pl_X1_ranked_2, ob_s e]
    have r1 := (rk_ok V hV L hL hLv (flg nd i) (flg_lt nd i) w (by omega) (Or.inr (by omega))).2
    have r2 := (rk_ok V hV L hL hLv (flg nd i) (flg_lt nd i) b (by omega) (Or.inr (by omega))).2
    rcases Nat.lt_or_ge w b with q | q
    · have hne2 : ¬ nI (rkM V L (flg nd i) w) = nI (rkM V L (flg nd i) b) := fun h5 => by
        have h6 := (nI_eq (by omega) (by omega)).mp h5
        have h7 := rk_one V hV L hL hLv (flg nd i) (flg_lt nd i) w (by omega) (Or.inr (by omega)) b (by omega) (Or.inr hb) h6
        omega
      rw [if_neg hne2, nI_1]
      exact ih (w + 1) (by omega) (by omega)
    · rw [show w = b by omega, if_pos rfl]
theorem ranked_ok (hfu : 200 ≤ fu) (h : RkAt v i p V L nd) {b : Nat} (hb : b < 7) (hbv : vld V b) : pf_X1_ranked fu (nI i) (nI (rkM V L (flg nd i) b)) v = some (vlOf b) := by
  obtain ⟨hi, hp, ho, hV, hvs, hL, hLv, hlk, hnd, hne⟩ := id h
  unfold pf_X1_ranked
  obtain ⟨f, rfl⟩ : ∃ k, fu = k + 1 := ⟨fu - 1, by omega⟩
  have e := rank_ok (fu := f + 1) h (b := 6) (by omega) (Or.inl rfl)
  rw [show vlOf 6 = (-1 : Int32) by decide] at e
  rw [pl_X1_ranked_2, ob_s e]
  have r1 := (rk_ok V hV L hL hLv (flg nd i) (flg_lt nd i) 6 (by omega) (Or.inl rfl)).2
  have r2 := (rk_ok V hV L hL hLv (flg nd i) (flg_lt nd i) b hb hbv).2
  rcases hbv with h6 | h6
  · subst h6
    rw [if_pos rfl]
    rfl
  · have hne2 : ¬ nI (rkM V L (flg nd i) 6) = nI (rkM V L (flg nd i) b) := fun h5 => by
      have h8 := (nI_eq (by omega) (by omega)).mp h5
      have h7 := rk_one V hV L hL hLv (flg nd i) (flg_lt nd i) 6 (by omega) (Or.inl rfl) b hb (Or.inr h6) h8
      omega
    rw [if_neg hne2, show (-1 : Int32) + (1 : Int32) = nI 0 by decide, ranked_loop h h6 _ f 0 (Nat.zero_le _) (by omega)]
    unfold vlOf
    rw [if_pos (by omega)]
end RK
