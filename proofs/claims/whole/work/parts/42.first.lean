/-! THE FIRST CHOICE, as the class finds it. -/
def rkOf (fl : Nat) (b : Nat) : Nat := if fl = 1 then (if b = 6 then 7 else 6 - b) else (if b = 6 then 1 else 7 - b)
def flg (nd i : Nat) : Nat := if i < nd then 1 else 0
def keyOf (lk : Int64) (nd : Nat) (od : Nat → Nat) (i b : Nat) : Nat := if gb lk (od i) b = true then 0 else rkOf (flg nd i) b
def BestFrom (d : Nat) (od : Nat → Nat) (key : Nat → Nat → Nat) (S : (Nat → Nat) → Prop) (c : Nat → Nat) : Prop :=
  S c ∧ ∀ c', S c' → (∀ i, d ≤ i → i < 8 → c' (od i) = c (od i)) ∨ ∃ i, d ≤ i ∧ i < 8 ∧ (∀ j, d ≤ j → j < i → c' (od j) = c (od j)) ∧ key i (c (od i)) < key i (c' (od i))
def OKx (RS : Int64 → Prop) (x : Int64) (c : Nat → Nat) : Prop := ch7 c ∧ inn x c ∧ ∀ r, RS r → hit r c
def sgl (y : Int64) (c : Nat → Nat) : Prop := ∀ p, p < 8 → ∀ b, b < 8 → gb y p b = decide (b = c p)
def FWres (d : Nat) (od : Nat → Nat) (key : Nat → Nat → Nat) (RS : Int64 → Prop) (x y : Int64) : Prop :=
  (y = 0 ∧ ∀ c, ¬ OKx RS x c) ∨ ∃ c, ch7 c ∧ sgl y c ∧ BestFrom d od key (OKx RS x) c
/-- the order is one of all eight -/
def OrdOK (f : Nat → Int32) (od : Nat → Nat) : Prop := (∀ i, i < 8 → f i = nI (od i) ∧ od i < 8) ∧ (∀ i j, i < 8 → j < 8 → od i = od j → i = j) ∧ ∀ p, p < 8 → ∃ i, i < 8 ∧ od i = p
def LockOK (lk : Int64) : Prop := ∀ p, p < 8 → ∀ b, b < 8 → gb lk p b = true → b < 6 ∧ ∀ b', b' < 8 → gb lk p b' = true → b' = b
theorem pa_needed : ∀ p, p < 8 → ∀ k, k < 8 → 1 ≤ k → ∀ q, q < 8 → ∀ b, b < 8 → gb (pf_X0_placeOf (nI p) ((6 : Int32) - nI k)) q b = (decide (q = p) && (decide (b < 7) && decide (rkOf 1 b = k))) := by decide +kernel
theorem pa_other : ∀ p, p < 8 → ∀ k, k < 8 → 2 ≤ k → ∀ q, q < 8 → ∀ b, b < 8 → gb (pf_X0_placeOf (nI p) ((7 : Int32) - nI k)) q b = (decide (q = p) && (decide (b < 7) && decide (rkOf 0 b = k))) := by decide +kernel
theorem pa_none : ∀ p, p < 8 → ∀ q, q < 8 → ∀ b, b < 8 → gb (pf_X0_noneOf (nI p)) q b = (decide (q = p) && (decide (b < 7) && decide (rkOf 0 b = 1))) := by decide +kernel
theorem rk_inj : ∀ f, f < 2 → ∀ a, a < 7 → ∀ b, b < 7 → rkOf f a = rkOf f b → a = b := by decide +kernel
theorem rk_rng : ∀ f, f < 2 → ∀ a, a < 7 → 1 ≤ rkOf f a ∧ rkOf f a ≤ 7 := by decide +kernel
theorem flg_lt (nd i : Nat) : flg nd i < 2 := by unfold flg; split <;> decide
theorem pa_bits (u : XS) {p : Nat} (hp : p < 8) {k : Nat} (hk : k < 8) (f : Nat) (hf : f < 2) {q : Nat} (hq : q < 8) {b : Nat} (hb : b < 8) :
    gb (pf_X0_placeAt (nI k) (nI p) (nI f) u) q b = if k = 0 then (gb (x_locked u) q b && (decide (q = p) && decide (b < 7))) else (decide (q = p) && (decide (b < 7) && decide (rkOf f b = k))) := by
  unfold pf_X0_placeAt
  by_cases h0 : k = 0
  · subst h0
    rw [if_pos nI_0, if_pos rfl, gb_and, gb_all p hp q hq b hb]
  · rw [if_neg (nI_ne0 (by omega) (by omega)), if_neg h0]
    rcases (show f = 0 ∨ f = 1 by omega) with hf | hf
    · subst hf
      rw [if_pos nI_0]
      by_cases h1 : k = 1
      · subst h1
        rw [if_pos (by decide), pa_none p hp q hq b hb]
      · rw [if_neg (show ¬ nI k = (1 : Int32) from fun h => h1 ((nI_eq (a := k) (b := 1) (by omega) (by decide)).mp h)), pa_other p hp k hk (by omega) q hq b hb]
    · subst hf
      rw [if_neg (by decide), pa_needed p hp k hk (by omega) q hq b hb]
theorem key_rng (lk : Int64) (nd : Nat) (od : Nat → Nat) (i b : Nat) (hb : b < 7) : keyOf lk nd od i b < 8 := by
  unfold keyOf
  split
  · decide
  · have := (rk_rng (flg nd i) (flg_lt nd i) b hb).2
    omega
theorem OKx_eqv {RS : Int64 → Prop} {x y : Int64} (h : Nar RS x y) (c : Nat → Nat) : OKx RS x c ↔ OKx RS y c := by
  constructor
  · rintro ⟨h1, h2, h3⟩
    exact ⟨h1, h.2.2.1 c h1 h2 h3, h3⟩
  · rintro ⟨h1, h2, h3⟩
    exact ⟨h1, fun p hp => h.1 p hp (c p) (by have := h1 p hp; omega) (h2 p hp), h3⟩
theorem FWres_eqv {d : Nat} {od : Nat → Nat} {key : Nat → Nat → Nat} {RS : Int64 → Prop} {x x' y : Int64} (he : ∀ c, OKx RS x c ↔ OKx RS x' c) (h : FWres d od key RS x' y) : FWres d od key RS x y := by
  have e : OKx RS x = OKx RS x' := funext fun c => propext (he c)
  unfold FWres
  rw [e]
  exact h
section FO
variable {fu : Nat} {u : XS} {kept : Int32} {RS : Int64 → Prop} {od : Nat → Nat} {nd : Nat} {FW : Int64 → Int32 → Int32 → XS → Option Int64} {d : Nat} {y1 : Int64}
/-- what is known of the places that are left, when ranks below k have been tried -/
def FOinv (u : XS) (RS : Int64 → Prop) (od : Nat → Nat) (nd d : Nat) (y1 : Int64) (k : Nat) (left : Int64) : Prop :=
  (∀ p, p < 8 → p ≠ od d → ∀ b, b < 8 → gb left p b = gb y1 p b) ∧ (∀ b, b < 8 → gb left (od d) b = true → gb y1 (od d) b = true) ∧
  (∀ b, b < 8 → gb y1 (od d) b = true → gb left (od d) b = false → ∀ c, OKx RS y1 c → c (od d) ≠ b) ∧
  ∀ b, b < 7 → gb left (od d) b = true → k ≤ keyOf (x_locked u) nd od d b
theorem fo_loop (hd : d < 8) (hod : OrdOK (x_order u) od) (hlk : LockOK (x_locked u)) (hy1 : nonE y1)
    (hs1 : ∀ i, i < d → ∀ b b', b < 8 → b' < 8 → gb y1 (od i) b = true → gb y1 (od i) b' = true → b = b')
    (hFW : ∀ x, nonE x → (∀ i, i < d + 1 → ∀ b b', b < 8 → b' < 8 → gb x (od i) b = true → gb x (od i) b' = true → b = b') → ∃ y, FW x kept (nI (d + 1)) u = some y ∧ FWres (d + 1) od (keyOf (x_locked u) nd od) RS x y) :
    ∀ (n k : Nat) (left : Int64), k ≤ 8 → 8 < k + n → FOinv u RS od nd d y1 k left →
      ∃ y, pl_X0_firstOf_45 fu FW kept (nI d) u (nI (flg nd d)) (fun _ _ => some (0 : Int64)) n (nI k) left = some y ∧ FWres d od (keyOf (x_locked u) nd od) RS y1 y := by
  have hodd := (hod.1 d hd).2
  have hoe := (hod.1 d hd).1
  intro n
  induction n with
  | zero => intro k left h1 h2; exact absurd h2 (by omega)
  | succ n ih =>
    intro k left h1 h2 hI
    obtain ⟨I1, I2, I3, I4⟩ := hI
    rw [pl_X0_firstOf_45]
    rcases Nat.lt_or_ge k 8 with q | q
    · rw [if_neg (show ¬ (8 : Int32) ≤ nI k from nI_ge q (by decide)), nI_clamp (by omega), hoe, nI_1, nI_1]
      have PB : ∀ q', q' < 8 → ∀ b, b < 8 → gb (pf_X0_placeAt (nI k) (nI (od d)) (nI (flg nd d)) u) q' b = if k = 0 then (gb (x_locked u) q' b && (decide (q' = od d) && decide (b < 7))) else (decide (q' = od d) && (decide (b < 7) && decide (rkOf (flg nd d) b = k))) := fun q' hq b hb => pa_bits u hodd q (flg nd d) (flg_lt nd d) hq hb
      generalize hpa : pf_X0_placeAt (nI k) (nI (od d)) (nI (flg nd d)) u = pa at PB ⊢
      have P1 : ∀ q, q < 8 → ∀ b, b < 8 → gb pa q b = true → q = od d ∧ b < 7 := by
        intro q hq b hb h
        rw [PB q hq b hb] at h
        split at h <;> simp at h
        · exact h.2
        · exact ⟨h.1, h.2.1⟩
      have P2 : ∀ b, b < 7 → keyOf (x_locked u) nd od d b = k → gb pa (od d) b = true := by
        intro b hb h
        rw [PB _ hodd b (by omega)]
        unfold keyOf at h
        split at h
        · rename_i hl
          rw [if_pos h.symm, hl]
          simp [hb]
        · have := (rk_rng (flg nd d) (flg_lt nd d) b hb).1
          rw [if_neg (by omega)]
          simp [hb, h]
      have P3 : ∀ b, b < 8 → ∀ b', b' < 8 → gb pa (od d) b = true → gb pa (od d) b' = true → b = b' := by
        intro b hb b' hb' h h'
        rw [PB _ hodd b hb] at h
        rw [PB _ hodd b' hb'] at h'
        split at h
        · rename_i hk0
          rw [if_pos hk0] at h'
          simp at h h'
          exact (hlk (od d) hodd b' hb' h'.1).2 b hb h.1
        · rename_i hk0
          rw [if_neg hk0] at h'
          simp at h h'
          exact rk_inj (flg nd d) (flg_lt nd d) b h.1 b' h'.1 (by rw [h.2, h'.2])
      have P4 : ∀ b, b < 8 → gb pa (od d) b = true → keyOf (x_locked u) nd od d b = k ∨ keyOf (x_locked u) nd od d b = 0 := by
        intro b hb h
        rw [PB _ hodd b hb] at h
        unfold keyOf
        split at h
        · rename_i hk0
          simp at h
          rw [if_pos h.1]
          exact Or.inr rfl
        · simp at h
          split
          · exact Or.inr rfl
          · exact Or.inl h.2
      by_cases h0 : left &&& pa = 0
      · rw [if_pos h0]
        refine ih (k + 1) left (by omega) (by omega) ⟨I1, I2, I3, fun b hb h => ?_⟩
        have h3 := I4 b hb h
        rcases Nat.lt_or_ge k (keyOf (x_locked u) nd od d b) with w | w
        · exact w
        · exact (and_0 h0 (od d) b h (P2 b hb (by omega))).elim
      · rw [if_neg h0]
        obtain ⟨q0, hq0, b0, hb0, h3⟩ := gb_ne h0
        rw [gb_and, Bool.and_eq_true] at h3
        obtain ⟨rfl, hb7⟩ := P1 q0 hq0 b0 hb0 h3.2
        have hkey : keyOf (x_locked u) nd od d b0 = k := by
          have h4 := I4 b0 hb7 h3.1
          rcases P4 b0 hb0 h3.2 with h5 | h5 <;> omega
        have placeB : ∀ q, q < 8 → ∀ b, b < 8 → gb (left &&& pa) q b = (decide (q = od d) && decide (b = b0)) := by
          intro q hq b hb
          rw [gb_and]
          by_cases hqd : q = od d
          · subst hqd
            by_cases hbb : b = b0
            · subst hbb
              rw [h3.1, h3.2]
              simp
            · cases hg : gb pa (od d) b with
              | false => simp [hbb]
              | true => exact absurd (P3 b hb b0 hb0 hg h3.2) hbb
          · cases hg : gb pa q b with
            | false => simp [hqd]
            | true => exact absurd (P1 q hq b hb hg).1 hqd
        have l7 : gb left (od d) 7 = false := by
          cases hg : gb left (od d) 7 with
          | false => rfl
          | true =>
            have h5 := I2 7 (by decide) hg
            rw [hy1.2 (od d) hodd] at h5
            cases h5
        have WB : ∀ q, q < 8 → ∀ b, b < 8 → gb ((left &&& ((pf_X0_allOf (nI (od d))) ^^^ (-1 : Int64))) ||| (left &&& pa)) q b = if q = od d then decide (b = b0) else gb y1 q b := by
          intro q hq b hb
          rw [gb_or, gb_and, gb_nm _ hq hb, gb_all _ hodd q hq b hb, placeB q hq b hb]
          by_cases hqd : q = od d
          · rw [if_pos hqd, hqd]
            rcases Nat.lt_or_ge b 7 with w | w
            · simp [w]
            · rw [show b = 7 by omega, l7]
              simp
          · rw [if_neg hqd, I1 q hq hqd b hb]
            simp [hqd]
        have wE : nonE ((left &&& ((pf_X0_allOf (nI (od d))) ^^^ (-1 : Int64))) ||| (left &&& pa)) := by
          refine ⟨fun p hp => ?_, fun p hp => ?_⟩
          · by_cases hqd : p = od d
            · refine ⟨b0, hb7, ?_⟩
              rw [WB p hp b0 hb0, if_pos hqd]
              simp
            · obtain ⟨b, hb, h5⟩ := hy1.1 p hp
              refine ⟨b, hb, ?_⟩
              rw [WB p hp b (by omega), if_neg hqd]
              exact h5
          · rw [WB p hp 7 (by decide)]
            split
            · simp; omega
            · exact hy1.2 p hp
        have wS : ∀ i, i < d + 1 → ∀ b b', b < 8 → b' < 8 → gb ((left &&& ((pf_X0_allOf (nI (od d))) ^^^ (-1 : Int64))) ||| (left &&& pa)) (od i) b = true → gb ((left &&& ((pf_X0_allOf (nI (od d))) ^^^ (-1 : Int64))) ||| (left &&& pa)) (od i) b' = true → b = b' := by
          intro i hi b b' hb hb' h5 h6
          have hi8 : i < 8 := by omega
          have hoi := (hod.1 i hi8).2
          rw [WB _ hoi b hb] at h5
          rw [WB _ hoi b' hb'] at h6
          by_cases hid : od i = od d
          · rw [if_pos hid] at h5 h6
            simp at h5 h6
            rw [h5, h6]
          · rw [if_neg hid] at h5 h6
            have : i ≠ d := fun h => hid (by rw [h])
            exact hs1 i (by omega) b b' hb hb' h5 h6
        have SW : ∀ c, OKx RS ((left &&& ((pf_X0_allOf (nI (od d))) ^^^ (-1 : Int64))) ||| (left &&& pa)) c ↔ OKx RS y1 c ∧ c (od d) = b0 := by
          intro c
          constructor
          · rintro ⟨h5, h6, h7⟩
            have h8 := h6 (od d) hodd
            rw [WB _ hodd _ (by have := h5 _ hodd; omega), if_pos rfl] at h8
            have h9 : c (od d) = b0 := of_decide_eq_true h8
            refine ⟨⟨h5, fun p hp => ?_, h7⟩, h9⟩
            by_cases hqd : p = od d
            · rw [hqd, h9]
              exact I2 b0 hb0 h3.1
            · have h10 := h6 p hp
              rw [WB p hp _ (by have := h5 p hp; omega), if_neg hqd] at h10
              exact h10
          · rintro ⟨⟨h5, h6, h7⟩, h8⟩
            refine ⟨h5, fun p hp => ?_, h7⟩
            rw [WB p hp _ (by have := h5 p hp; omega)]
            by_cases hqd : p = od d
            · rw [if_pos hqd, hqd, h8]
              simp
            · rw [if_neg hqd]
              exact h6 p hp
        obtain ⟨y, e1, R1⟩ := hFW _ wE wS
        rw [ob_s e1]
        rcases R1 with ⟨hy0, R1⟩ | ⟨c, hc7, hsg, hB⟩
        · rw [if_pos hy0]
          refine ih (k + 1) _ (by omega) (by omega) ⟨fun p hp hpd b hb => ?_, fun b hb h => ?_, fun b hb h5 h6 c hc => ?_, fun b hb h => ?_⟩
          · rw [gb_and, gb_nm _ hp hb, placeB p hp b hb, I1 p hp hpd b hb]
            simp [hpd]
          · rw [gb_and, Bool.and_eq_true] at h
            exact I2 b hb h.1
          · rw [gb_and, gb_nm _ hodd hb, placeB _ hodd b hb] at h6
            cases hg : gb left (od d) b with
            | false => exact I3 b hb h5 hg c hc
            | true =>
              rw [hg] at h6
              simp at h6
              intro h7
              exact R1 c ((SW c).mpr ⟨hc, by rw [h7, h6]⟩)
          · rw [gb_and, gb_nm _ hodd (by omega), placeB _ hodd b (by omega), Bool.and_eq_true] at h
            have h5 := I4 b hb h.1
            rcases Nat.lt_or_ge k (keyOf (x_locked u) nd od d b) with w | w
            · exact w
            · have h6 := P3 b (by omega) b0 hb0 (P2 b hb (by omega)) h3.2
              have h7 := h.2
              simp [h6] at h7
        · have hy : ¬ y = 0 := fun h => by
            have h5 := hsg 0 (by decide) (c 0) (by have := hc7 0 (by decide); omega)
            rw [h, gb_0] at h5
            simp at h5
          rw [if_neg hy]
          have hcS := (SW c).mp hB.1
          refine ⟨y, rfl, Or.inr ⟨c, hc7, hsg, hcS.1, fun c' hc' => ?_⟩⟩
          by_cases hcb : c' (od d) = b0
          · rcases hB.2 c' ((SW c').mpr ⟨hc', hcb⟩) with h5 | ⟨i, i1, i2, i3, i4⟩
            · refine Or.inl (fun i i1 i2 => ?_)
              rcases Nat.lt_or_ge d i with w | w
              · exact h5 i w i2
              · rw [show i = d by omega, hcb, hcS.2]
            · refine Or.inr ⟨i, by omega, i2, fun j j1 j2 => ?_, i4⟩
              rcases Nat.lt_or_ge d j with w | w
              · exact i3 j w j2
              · rw [show j = d by omega, hcb, hcS.2]
          · have hc7' := hc'.1 (od d) hodd
            cases hg : gb left (od d) (c' (od d)) with
            | false => exact absurd rfl (I3 _ (by omega) (hc'.2.1 _ hodd) hg c' hc')
            | true =>
              refine Or.inr ⟨d, Nat.le_refl d, hd, fun j j1 j2 => by omega, ?_⟩
              rw [hcS.2, hkey]
              have h5 := I4 _ hc7' hg
              rcases Nat.lt_or_ge k (keyOf (x_locked u) nd od d (c' (od d))) with w | w
              · exact w
              · exact absurd (P3 _ (by omega) b0 hb0 (P2 _ hc7' (by omega)) h3.2) hcb
    · rw [if_pos (show (8 : Int32) ≤ nI k from nI_le q (by omega))]
      refine ⟨0, rfl, Or.inl ⟨rfl, fun c hc => ?_⟩⟩
      have h7 := hc.1 (od d) hodd
      cases hg : gb left (od d) (c (od d)) with
      | false => exact absurd rfl (I3 _ (by omega) (hc.2.1 _ hodd) hg c hc)
      | true =>
        have h5 := I4 _ h7 hg
        have h6 := key_rng (x_locked u) nd od d _ h7
        omega
end FO
/-- what the class's state must be for a search -/
def XSrch (u : XS) (r dm nd : Nat) (od : Nat → Nat) : Prop := r ≤ 120 ∧ x_rows u = nI r ∧ dm ≤ 12 ∧ x_demands u = nI dm ∧ OrdOK (x_order u) od ∧ LockOK (x_locked u) ∧ nd ≤ 8 ∧ x_neededPacks u = nI nd
theorem fw_ok {fu : Nat} (hfu : 200 ≤ fu) {u : XS} {r dm nd : Nat} {od : Nat → Nat} (hu : XSrch u r dm nd od) (kept : Int32) :
    ∀ (k d : Nat) (x : Int64), d + k = 9 → d ≤ 8 → nonE x → (∀ i, i < d → ∀ b b', b < 8 → b' < 8 → gb x (od i) b = true → gb x (od i) b' = true → b = b') →
      ∃ y, pf_X0_fwk fu k x kept (nI d) u = some y ∧ FWres d od (keyOf (x_locked u) nd od) (RSet u kept r dm) x y := by
  obtain ⟨hr, hur, hdm, hud, hod, hlk, hnd, hun⟩ := hu
  intro k
  induction k with
  | zero => intro d x h1 h2; omega
  | succ k ih =>
    intro d x h1 h2 hx hs
    rw [pf_X0_fwk]
    obtain ⟨y1, e1, N1⟩ := narrow_ok fu hfu u kept hr hur hdm hud x hx
    rw [ob_s e1]
    rcases N1.2.1 with h0 | hy1
    · rw [if_pos h0]
      refine ⟨0, rfl, Or.inl ⟨rfl, fun c hc => ?_⟩⟩
      have h3 := ((OKx_eqv N1 c).mp hc).2.1 0 (by decide)
      rw [h0, gb_0] at h3
      cases h3
    · rw [if_neg (nonE_ne hy1)]
      have hs1 : ∀ i, i < d → ∀ b b', b < 8 → b' < 8 → gb y1 (od i) b = true → gb y1 (od i) b' = true → b = b' := fun i hi b b' hb hb' h3 h4 =>
        hs i hi b b' hb hb' (N1.1 _ (hod.1 i (by omega)).2 b hb h3) (N1.1 _ (hod.1 i (by omega)).2 b' hb' h4)
      have key : ∃ y, pf_X0_firstOf fu (pf_X0_fwk fu k) y1 kept (nI d) u = some y ∧ FWres d od (keyOf (x_locked u) nd od) (RSet u kept r dm) y1 y := by
        rw [pf_X0_firstOf, if_neg (nI_pos (by omega))]
        rcases Nat.lt_or_ge d 8 with q | q
        · rw [if_pos (show nI d < (8 : Int32) from nI_lt q (by decide)), og_t (inb_nI q (by decide))]
          simp only [jn]
          have fl : (if x_neededPacks u ≤ nI d then pl_X0_firstOf_45 fu (pf_X0_fwk fu k) kept (nI d) u (0 : Int32) (fun x9_45 x7_45 => some (0 : Int64)) fu (0 : Int32) y1 else pl_X0_firstOf_45 fu (pf_X0_fwk fu k) kept (nI d) u (1 : Int32) (fun x9_45 x7_45 => some (0 : Int64)) fu (0 : Int32) y1) = pl_X0_firstOf_45 fu (pf_X0_fwk fu k) kept (nI d) u (nI (flg nd d)) (fun _ _ => some (0 : Int64)) fu (nI 0) y1 := by
            rw [hun, nI_0]
            unfold flg
            rcases Nat.lt_or_ge d nd with w | w
            · rw [if_neg (nI_ge w (by omega)), if_pos w]
              rfl
            · rw [if_pos (nI_le w (by omega)), if_neg (by omega)]
              rfl
          rw [fl]
          refine fo_loop q hod hlk hy1 hs1 (fun x' hx' hs' => ih (d + 1) x' (by omega) (by omega) hx' hs') fu 0 y1 (by decide) (by omega) ⟨fun _ _ _ _ _ => rfl, fun _ _ h => h, fun b hb h3 h4 => ?_, fun _ _ _ => Nat.zero_le _⟩
          rw [h3] at h4
          cases h4
        · have hd8 : d = 8 := by omega
          subst hd8
          rw [if_neg (show ¬ nI 8 < (8 : Int32) by decide)]
          refine ⟨y1, rfl, Or.inr ?_⟩
          have hex : ∀ p, ∃ b, p < 8 → b < 7 ∧ gb y1 p b = true := fun p => by
            by_cases hp : p < 8
            · obtain ⟨b, hb, h3⟩ := hy1.1 p hp
              exact ⟨b, fun _ => ⟨hb, h3⟩⟩
            · exact ⟨0, fun h => absurd h hp⟩
          refine ⟨fun p => Classical.choose (hex p), fun p hp => (Classical.choose_spec (hex p) hp).1, ?_⟩
          generalize hc : (fun p => Classical.choose (hex p)) = c
          have hc1 : ∀ p, p < 8 → c p < 7 ∧ gb y1 p (c p) = true := fun p hp => by rw [← hc]; exact Classical.choose_spec (hex p) hp
          have hsg : sgl y1 c := fun p hp b hb => by
            obtain ⟨i, hi, hip⟩ := hod.2.2 p hp
            have h4 := hc1 p hp
            cases hg : gb y1 p b with
            | true =>
              have h5 := hs1 i hi b (c p) hb (by omega) (by rw [hip]; exact hg) (by rw [hip]; exact h4.2)
              simp [h5]
            | false =>
              have h5 : b ≠ c p := fun h => by rw [h, h4.2] at hg; cases hg
              simp [h5]
          refine ⟨hsg, ⟨fun p hp => (hc1 p hp).1, fun p hp => (hc1 p hp).2, fun rl hrl => ?_⟩, fun c' _ => Or.inl (fun i i1 i2 => by omega)⟩
          obtain ⟨p, hp, b, hb, h3, h4⟩ := N1.2.2.2 (nonE_ne hy1) rl hrl
          obtain ⟨i, hi, hip⟩ := hod.2.2 p hp
          have h5 := hs i hi b (c p) hb (by have := (hc1 p hp).1; omega) (by rw [hip]; exact h3) (by rw [hip]; exact N1.1 p hp _ (by have := (hc1 p hp).1; omega) (hc1 p hp).2)
          exact ⟨p, hp, by rw [← h5]; exact h4⟩
      obtain ⟨y, e2, R2⟩ := key
      rw [ob_s e2]
      exact ⟨y, rfl, FWres_eqv (OKx_eqv N1) R2⟩
