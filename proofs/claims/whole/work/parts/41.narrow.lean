/-! NARROWING: what one rule, and all of them, take away. -/
def inn (x : Int64) (c : Nat → Nat) : Prop := ∀ p, p < 8 → gb x p (c p) = true
def hit (r : Int64) (c : Nat → Nat) : Prop := ∃ p, p < 8 ∧ gb r p (c p) = true
def ch7 (c : Nat → Nat) : Prop := ∀ p, p < 8 → c p < 7
def meets (x r : Int64) : Prop := ∃ p, p < 8 ∧ ∃ b, b < 8 ∧ gb x p b = true ∧ gb r p b = true
def nonE (x : Int64) : Prop := (∀ p, p < 8 → ∃ b, b < 7 ∧ gb x p b = true) ∧ ∀ p, p < 8 → gb x p 7 = false
def Nar (RS : Int64 → Prop) (x y : Int64) : Prop :=
  (∀ p, p < 8 → ∀ b, b < 8 → gb y p b = true → gb x p b = true) ∧ (y = 0 ∨ nonE y) ∧
  (∀ c, ch7 c → inn x c → (∀ r, RS r → hit r c) → inn y c) ∧ (y ≠ 0 → ∀ r, RS r → meets x r)
theorem nonE_ne {x : Int64} (h : nonE x) : x ≠ 0 := by
  intro h0
  obtain ⟨b, -, hb⟩ := h.1 0 (by decide)
  rw [h0, gb_0] at hb
  cases hb
theorem meets_and {x r : Int64} (h : x &&& r ≠ 0) : meets x r := by
  obtain ⟨p, hp, b, hb, hq⟩ := gb_ne h
  rw [gb_and, Bool.and_eq_true] at hq
  exact ⟨p, hp, b, hb, hq.1, hq.2⟩
theorem and_0 {x r : Int64} (h : x &&& r = 0) (p b : Nat) (h1 : gb x p b = true) (h2 : gb r p b = true) : False := by
  have h3 := gb_and x r p b
  rw [h, gb_0, h1, h2] at h3
  cases h3
theorem nbr_nar {x : Int64} (r : Int64) (hx : nonE x) : Nar (fun q => q = r) x (pf_X0_narrowByRule x r) := by
  unfold pf_X0_narrowByRule
  by_cases h0 : (x &&& r) = 0
  · rw [if_pos h0]
    refine ⟨fun p _ b _ h => (by rw [gb_0] at h; cases h), Or.inl rfl, fun c _ hi hh => ?_, fun h => absurd rfl h⟩
    obtain ⟨p, hp, h1⟩ := hh r rfl
    exact (and_0 h0 p (c p) (hi p hp) h1).elim
  · rw [if_neg h0]
    obtain ⟨t, ht, hbt, hlow, he⟩ := low_bit h0
    rw [he, bc_low t ht, div8 t ht]
    have hP : t / 8 < 8 := by omega
    have hT : gb (x &&& r) (t / 8) (t % 8) = true := by
      simp only [gb]
      rw [show 8 * (t / 8) + t % 8 = t by omega]
      exact hbt
    have hT2 := hT
    rw [gb_and, Bool.and_eq_true] at hT2
    have ht7 : t % 8 < 7 := by
      rcases Nat.lt_or_ge (t % 8) 7 with q | q
      · exact q
      · have h7 := hx.2 (t / 8) hP
        rw [show t % 8 = 7 by omega] at hT2
        rw [h7] at hT2
        exact absurd hT2.1 (by decide)
    by_cases h1 : ((x &&& r) &&& ((pf_X0_allOf (nI (t / 8))) ^^^ (-1 : Int64))) = (0 : Int64)
    · rw [if_pos h1, if_neg (by decide)]
      have one : ∀ p, p < 8 → ∀ b, b < 8 → gb x p b = true → gb r p b = true → p = t / 8 := by
        intro p hp b hb h2 h3
        have h4 := gb_and (x &&& r) ((pf_X0_allOf (nI (t / 8))) ^^^ (-1 : Int64)) p b
        rw [h1, gb_0, gb_and, h2, h3, gb_nm _ hp hb, gb_all _ hP p hp b hb] at h4
        by_cases hq : p = t / 8
        · exact hq
        · simp [hq] at h4
      have bits : ∀ p, p < 8 → ∀ b, b < 8 → gb ((x &&& ((pf_X0_allOf (nI (t / 8))) ^^^ (-1 : Int64))) ||| (x &&& r)) p b = ((gb x p b && !(decide (p = t / 8) && decide (b < 7))) || (gb x p b && gb r p b)) := by
        intro p hp b hb
        rw [gb_or, gb_and, gb_and, gb_nm _ hp hb, gb_all _ hP p hp b hb]
      refine ⟨fun p hp b hb h => ?_, Or.inr ⟨fun p hp => ?_, fun p hp => ?_⟩, fun c hc hi hh p hp => ?_, fun _ q hq => ?_⟩
      · rw [bits p hp b hb] at h
        cases hg : gb x p b with
        | true => rfl
        | false => rw [hg] at h; simp at h
      · by_cases hq : p = t / 8
        · refine ⟨t % 8, ht7, ?_⟩
          rw [bits p hp _ (by omega), hq, hT2.1, hT2.2]
          simp
        · obtain ⟨b, hb, h2⟩ := hx.1 p hp
          refine ⟨b, hb, ?_⟩
          rw [bits p hp b (by omega), h2]
          simp [hq]
      · rw [bits p hp 7 (by decide), hx.2 p hp]
        rfl
      · have hcp := hc p hp
        rw [bits p hp (c p) (by omega), hi p hp]
        by_cases hq : p = t / 8
        · obtain ⟨p2, hp2, h2⟩ := hh r rfl
          have h3 := one p2 hp2 (c p2) (by have := hc p2 hp2; omega) (hi p2 hp2) h2
          rw [← hq] at h3
          rw [h3] at h2
          rw [h2]
          simp
        · simp [hq]
      · subst hq
        exact meets_and h0
    · rw [if_neg h1, if_pos rfl]
      refine ⟨fun p _ b _ h => h, Or.inr hx, fun c _ hi _ => hi, fun _ q hq => ?_⟩
      subst hq
      exact meets_and h0
theorem nar_refl {x : Int64} (hx : nonE x) : Nar (fun _ => False) x x := ⟨fun _ _ _ _ h => h, Or.inr hx, fun _ _ hi _ => hi, fun _ _ h => h.elim⟩
theorem nar_trans {A B : Int64 → Prop} {x y z : Int64} (h1 : Nar A x y) (h2 : Nar B y z) : Nar (fun r => A r ∨ B r) x z := by
  obtain ⟨s1, -, k1, e1⟩ := h1
  obtain ⟨s2, n2, k2, e2⟩ := h2
  refine ⟨fun p hp b hb h => s1 p hp b hb (s2 p hp b hb h), n2, fun c hc hi hh => k2 c hc (k1 c hc hi (fun r hr => hh r (Or.inl hr))) (fun r hr => hh r (Or.inr hr)), fun hz r hr => ?_⟩
  obtain ⟨p, hp, b, hb, hq⟩ := gb_ne hz
  have hy : y ≠ 0 := fun h0 => by
    have h3 := s2 p hp b hb hq
    rw [h0, gb_0] at h3
    cases h3
  rcases hr with hr | hr
  · exact e1 hy r hr
  · obtain ⟨p, hp, b, hb, h3, h4⟩ := e2 hz r hr
    exact ⟨p, hp, b, hb, s1 p hp b hb h3, h4⟩
theorem nar_eqv {A B : Int64 → Prop} {x y : Int64} (h : Nar A x y) (hab : ∀ r, A r → B r) (hba : y ≠ 0 → ∀ r, B r → A r) : Nar B x y :=
  ⟨h.1, h.2.1, fun c hc hi hh => h.2.2.1 c hc hi (fun r hr => hh r (hab r hr)), fun hy r hr => h.2.2.2 hy r (hba hy r hr)⟩
def rowSet (u : XS) (i r : Nat) : Int64 → Prop := fun q => ∃ k, i ≤ k ∧ k < r ∧ q = x_rowRules u k
def demSet (u : XS) (kept : Int32) (i d : Nat) : Int64 → Prop := fun q => ∃ k, i ≤ k ∧ k < d ∧ b32 kept k = true ∧ q = x_demandRules u k
theorem inb_nI {n N : Nat} (h : n < N) (hN : N < 2 ^ 31) : inb (nI n) N = true := decide_eq_true (p := ¬ (nI n < 0 ∨ N ≤ (nI n).toNatClampNeg)) (vp_in_nI h hN)
theorem og_t {β : Type} {b : Bool} {x : Option β} (h : b = true) : og b x = x := by rw [og, if_pos h]
theorem ob_s {α β : Type} {x : Option α} {f : α → Option β} {a : α} (h : x = some a) : ob x f = f a := by rw [h]; rfl
theorem rows_loop (fu : Nat) (u : XS) (K : Int32 → Int64 → Option Int64) {r : Nat} (hr : r ≤ 120) (hu : x_rows u = nI r) :
    ∀ (n i : Nat) (x : Int64), i ≤ r → r < i + n → nonE x → ∃ (j : Int32) (y : Int64), pl_X0_narrow_20 fu u K n (nI i) x = K j y ∧ Nar (rowSet u i r) x y := by
  intro n
  induction n with
  | zero => intro i x h1 h2; exact absurd h2 (by omega)
  | succ n ih =>
    intro i x h1 h2 hx
    rw [pl_X0_narrow_20, hu]
    rcases Nat.lt_or_ge i r with q | q
    · rw [if_neg (nI_ge q (by omega)), if_neg (nonE_ne hx), og_t (inb_nI (by omega) (by decide)), nI_clamp (by omega), nI_1]
      have h3 := nbr_nar (x_rowRules u i) hx
      rcases h3.2.1 with h4 | h4
      · refine ⟨nI (i + 1), 0, ?_, ?_⟩
        · cases n with
          | zero => exact absurd h2 (by omega)
          | succ n =>
            rw [h4, pl_X0_narrow_20]
            split
            · rfl
            · rw [if_pos rfl]
        · rw [h4] at h3
          exact nar_eqv h3 (fun z hz => ⟨i, Nat.le_refl i, q, hz⟩) (fun h => absurd rfl h)
      · obtain ⟨j, y, h5, h6⟩ := ih (i + 1) _ (by omega) (by omega) h4
        refine ⟨j, y, h5, nar_eqv (nar_trans h3 h6) (fun z hz => ?_) (fun _ z hz => ?_)⟩
        · rcases hz with hz | ⟨k, k1, k2, k3⟩
          · exact ⟨i, Nat.le_refl i, q, hz⟩
          · exact ⟨k, by omega, k2, k3⟩
        · obtain ⟨k, k1, k2, k3⟩ := hz
          rcases Nat.lt_or_ge i k with w | w
          · exact Or.inr ⟨k, w, k2, k3⟩
          · have : k = i := by omega
            subst this
            exact Or.inl k3
    · rw [if_pos (nI_le q (by omega))]
      exact ⟨nI i, x, rfl, nar_eqv (nar_refl hx) (fun z hz => hz.elim) (fun _ z ⟨k, k1, k2, _⟩ => by omega)⟩
theorem dems_loop (fu : Nat) (u : XS) (kept : Int32) (K : Int32 → Int64 → Option Int64) {d : Nat} (hd : d ≤ 12) (hu : x_demands u = nI d) :
    ∀ (n i : Nat) (x : Int64), i ≤ d → d < i + n → nonE x → ∃ (j : Int32) (y : Int64), pl_X0_narrow_59 fu kept u K n (nI i) x = K j y ∧ Nar (demSet u kept i d) x y := by
  intro n
  induction n with
  | zero => intro i x h1 h2; exact absurd h2 (by omega)
  | succ n ih =>
    intro i x h1 h2 hx
    rw [pl_X0_narrow_59, hu]
    rcases Nat.lt_or_ge i d with q | q
    · rw [if_neg (nI_ge q (by omega)), if_neg (nonE_ne hx)]
      by_cases hk : (kept &&& ((1 : Int32) <<< (nI i &&& 31))) = 0
      · rw [if_pos hk, nI_1]
        have hk2 := (b32_test kept (i := i) (by omega)).mp hk
        obtain ⟨j, y, h5, h6⟩ := ih (i + 1) x (by omega) (by omega) hx
        refine ⟨j, y, h5, nar_eqv h6 (fun z ⟨k, k1, k2, k3, k4⟩ => ⟨k, by omega, k2, k3, k4⟩) (fun _ z ⟨k, k1, k2, k3, k4⟩ => ⟨k, ?_, k2, k3, k4⟩)⟩
        rcases Nat.lt_or_ge i k with w | w
        · exact w
        · have : k = i := by omega
          subst this
          rw [hk2] at k3
          cases k3
      · rw [if_neg hk, og_t (inb_nI (by omega) (by decide)), nI_clamp (by omega), nI_1]
        have hk2 : b32 kept i = true := by
          cases hb : b32 kept i with
          | true => rfl
          | false => exact absurd ((b32_test kept (i := i) (by omega)).mpr hb) hk
        have h3 := nbr_nar (x_demandRules u i) hx
        rcases h3.2.1 with h4 | h4
        · refine ⟨nI (i + 1), 0, ?_, ?_⟩
          · cases n with
            | zero => exact absurd h2 (by omega)
            | succ n =>
              rw [h4, pl_X0_narrow_59]
              split
              · rfl
              · rw [if_pos rfl]
          · rw [h4] at h3
            exact nar_eqv h3 (fun z hz => ⟨i, Nat.le_refl i, q, hk2, hz⟩) (fun h => absurd rfl h)
        · obtain ⟨j, y, h5, h6⟩ := ih (i + 1) _ (by omega) (by omega) h4
          refine ⟨j, y, h5, nar_eqv (nar_trans h3 h6) (fun z hz => ?_) (fun _ z hz => ?_)⟩
          · rcases hz with hz | ⟨k, k1, k2, k3, k4⟩
            · exact ⟨i, Nat.le_refl i, q, hk2, hz⟩
            · exact ⟨k, by omega, k2, k3, k4⟩
          · obtain ⟨k, k1, k2, k3, k4⟩ := hz
            rcases Nat.lt_or_ge i k with w | w
            · exact Or.inr ⟨k, w, k2, k3, k4⟩
            · have : k = i := by omega
              subst this
              exact Or.inl k4
    · rw [if_pos (nI_le q (by omega))]
      exact ⟨nI i, x, rfl, nar_eqv (nar_refl hx) (fun z hz => hz.elim) (fun _ z ⟨k, k1, k2, _⟩ => by omega)⟩
/-- all rules that count -/
def RSet (u : XS) (kept : Int32) (r d : Nat) : Int64 → Prop := fun q => rowSet u 0 r q ∨ demSet u kept 0 d q
theorem dems_zero (fu : Nat) (u : XS) (kept : Int32) (K : Int32 → Int64 → Option Int64) (n : Nat) (i : Int32) : pl_X0_narrow_59 fu kept u K (n + 1) i 0 = K i 0 := by
  rw [pl_X0_narrow_59]
  split
  · rfl
  · rw [if_pos rfl]
theorem rows_zero (fu : Nat) (u : XS) (K : Int32 → Int64 → Option Int64) (n : Nat) (i : Int32) : pl_X0_narrow_20 fu u K (n + 1) i 0 = K i 0 := by
  rw [pl_X0_narrow_20]
  split
  · rfl
  · rw [if_pos rfl]
theorem narrow_loop (fu : Nat) (hfu : 200 ≤ fu) (u : XS) (kept : Int32) {r d : Nat} (hr : r ≤ 120) (hur : x_rows u = nI r) (hd : d ≤ 12) (hud : x_demands u = nI d) :
    ∀ (n i : Nat) (x : Int64), i ≤ 64 → 64 < i + n → nonE x → ∃ y : Int64, pl_X0_narrow_6 fu kept u (fun _ y => some y) n (nI i) x = some y ∧ (i < 64 → Nar (RSet u kept r d) x y) ∧ (i = 64 → y = x) := by
  intro n
  induction n with
  | zero => intro i x h1 h2; exact absurd h2 (by omega)
  | succ n ih =>
    intro i x h1 h2 hx
    rw [pl_X0_narrow_6]
    rcases Nat.lt_or_ge i 64 with q | q
    · rw [if_neg (show ¬ (64 : Int32) ≤ nI i from nI_ge q (by decide))]
      obtain ⟨fu1, rfl⟩ : ∃ k, fu = k + 1 := ⟨fu - 1, by omega⟩
      obtain ⟨j1, y1, e1, N1⟩ := rows_loop (fu1 + 1) u (fun x9_20 x4_20 => (pl_X0_narrow_59 (fu1 + 1) kept u (fun x9_59 x4_59 => (if x4_59 = x then (some x4_59) else (pl_X0_narrow_6 (fu1 + 1) kept u (fun _ y => some y) n (nI i + (1 : Int32)) x4_59))) (fu1 + 1) (0 : Int32) x4_20)) hr hur (fu1 + 1) 0 x (Nat.zero_le _) (by omega) hx
      rw [nI_0] at e1
      rw [e1]
      rcases N1.2.1 with h4 | h4
      · rw [h4, dems_zero, if_neg (fun h => nonE_ne hx h.symm)]
        rw [h4] at N1
        have N2 : Nar (RSet u kept r d) x 0 := nar_eqv N1 (fun z hz => Or.inl hz) (fun h => absurd rfl h)
        refine ⟨0, ?_, fun _ => N2, fun h => by omega⟩
        cases n with
        | zero => exact absurd h2 (by omega)
        | succ n =>
          rw [pl_X0_narrow_6]
          split
          · rfl
          · rw [rows_zero, dems_zero, if_pos rfl]
      · obtain ⟨j2, y2, e2, N2⟩ := dems_loop (fu1 + 1) u kept (fun x9_59 x4_59 => (if x4_59 = x then (some x4_59) else (pl_X0_narrow_6 (fu1 + 1) kept u (fun _ y => some y) n (nI i + (1 : Int32)) x4_59))) hd hud (fu1 + 1) 0 y1 (Nat.zero_le _) (by omega) h4
        rw [nI_0] at e2
        rw [e2]
        have N3 : Nar (RSet u kept r d) x y2 := nar_trans N1 N2
        by_cases h5 : y2 = x
        · rw [if_pos h5]
          exact ⟨y2, rfl, fun _ => N3, fun h => by omega⟩
        · rw [if_neg h5, nI_1]
          rcases N2.2.1 with h6 | h6
          · refine ⟨0, ?_, fun _ => by rw [h6] at N3; exact N3, fun h => by omega⟩
            rw [h6]
            cases n with
            | zero => exact absurd h2 (by omega)
            | succ n =>
              rw [pl_X0_narrow_6]
              split
              · rfl
              · rw [rows_zero, dems_zero, if_pos rfl]
          · obtain ⟨y, e3, N4, N5⟩ := ih (i + 1) y2 (by omega) (by omega) h6
            refine ⟨y, e3, fun _ => ?_, fun h => by omega⟩
            rcases Nat.lt_or_ge (i + 1) 64 with w | w
            · exact nar_eqv (nar_trans N3 (N4 w)) (fun z hz => hz.elim id id) (fun _ z hz => Or.inl hz)
            · rw [N5 (by omega)]
              exact N3
    · rw [if_pos (show (64 : Int32) ≤ nI i from nI_le q (by omega))]
      exact ⟨x, rfl, fun h => by omega, fun _ => rfl⟩
theorem narrow_ok (fu : Nat) (hfu : 200 ≤ fu) (u : XS) (kept : Int32) {r d : Nat} (hr : r ≤ 120) (hur : x_rows u = nI r) (hd : d ≤ 12) (hud : x_demands u = nI d) (x : Int64) (hx : nonE x) :
    ∃ y : Int64, pf_X0_narrow fu x kept u = some y ∧ Nar (RSet u kept r d) x y := by
  obtain ⟨y, h1, h2, -⟩ := narrow_loop fu hfu u kept hr hur hd hud fu 0 x (by decide) (by omega) hx
  rw [nI_0] at h1
  exact ⟨y, h1, h2 (by decide)⟩
