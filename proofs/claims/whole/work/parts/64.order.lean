/-! THE CLASS'S ORDER: moveToNeeded. -/
section MO
variable {fu : Nat} {u : XS}
theorem pos_loop {od : Nat → Nat} (hod : OrdOK (x_order u) od) {q a : Nat} (ha : a < 8) (hq : od a = q) (K : Int32 → Option Int32) : ∀ (m i : Nat), i ≤ a → a < i + m → pl_X0_positionOf_2 fu (nI q) u K m (nI i) = some (nI a) := by
  intro m
  induction m with
  | zero => intro i h1 h2; exact absurd h2 (by omega)
  | succ m ih =>
    intro i h1 h2
    have hoi := hod.1 i (by omega)
    rw [pl_X0_positionOf_2, if_neg (show ¬ (8 : Int32) ≤ nI i from nI_ge (a := i) (b := 8) (by omega) (by decide)), og_t (inb_nI (show i < 8 by omega) (by decide)), nI_clamp (by omega), hoi.1]
    by_cases h : od i = q
    · have : i = a := hod.2.1 i a (by omega) ha (by rw [h, hq])
      subst this
      rw [h, if_pos rfl]
    · have hoa := (hod.1 a ha).2
      rw [if_neg (fun h9 => h ((nI_eq (by omega) (by omega)).mp h9)), nI_1]
      refine ih (i + 1) ?_ (by omega)
      rcases Nat.lt_or_ge i a with w | w
      · exact w
      · rw [show i = a by omega] at h
        exact absurd hq h
/-- the order with the package at place a moved to place d -/
def mvOd (od : Nat → Nat) (d a : Nat) : Nat → Nat := fun i => if i < d then od i else if i = d then od a else if i ≤ a then od (i - 1) else od i
theorem xso_xso (u : XS) (f f' : Nat → Int32) : xs_order (xs_order u f) f' = xs_order u f' := rfl
theorem xso_order (u : XS) (f : Nat → Int32) : x_order (xs_order u f) = f := rfl
theorem xso_needed (u : XS) (f : Nat → Int32) : x_neededPacks (xs_order u f) = x_neededPacks u := rfl
theorem shift_loop {od : Nat → Nat} {d a : Nat} (hd : d ≤ a) (ha : a < 8) (hun : x_neededPacks u = nI d) (K : Int32 → XS → Option XS) : ∀ (m i : Nat) (f : Nat → Int32), d ≤ i → i ≤ a → i < d + m →
    (∀ j, j < 8 → f j = nI (if i < j ∧ j ≤ a then od (j - 1) else od j)) → (∀ j, j < 8 → od j < 8) →
    ∃ x f', pl_X0_moveToNeeded_23 fu K m (nI i) (xs_order u f) = K x (xs_order u f') ∧ ∀ j, j < 8 → f' j = nI (if d < j ∧ j ≤ a then od (j - 1) else od j) := by
  intro m
  induction m with
  | zero => intro i f h1 h2 h3; exact absurd h3 (by omega)
  | succ m ih =>
    intro i f h1 h2 h3 hf ho8
    rw [pl_X0_moveToNeeded_23, xso_needed, hun]
    rcases Nat.lt_or_ge d i with w | w
    · rw [if_neg (nI_ge w (by omega))]
      obtain ⟨i', rfl⟩ : ∃ k, i = k + 1 := ⟨i - 1, by omega⟩
      rw [nI_pred, og_t (inb_nI (show i' < 8 by omega) (by decide)), og_t (inb_nI (show i' + 1 < 8 by omega) (by decide)), nI_clamp (by omega), nI_clamp (by omega), pk_m1, xso_order, xso_xso]
      refine ih i' _ (by omega) (by omega) (by omega) (fun j hj => ?_) ho8
      by_cases hji : j = i' + 1
      · subst hji
        rw [pk_us, hf i' (by omega), if_neg (by omega), if_pos ⟨by omega, h2⟩]
        rfl
      · rw [pk_un hji, hf j hj]
        congr 1
        by_cases hc : i' + 1 < j ∧ j ≤ a
        · rw [if_pos hc, if_pos ⟨by omega, hc.2⟩]
        · rw [if_neg hc, if_neg (by omega)]
    · rw [if_pos (nI_le w (by omega))]
      have : i = d := by omega
      subst this
      exact ⟨_, f, rfl, hf⟩
theorem mv_ok {od : Nat → Nat} {f0 : Nat → Int32} (hod : OrdOK f0 od) {d a : Nat} (hd : d ≤ a) (ha : a < 8) : (∀ i, i < 8 → mvOd od d a i < 8) ∧ (∀ i j, i < 8 → j < 8 → mvOd od d a i = mvOd od d a j → i = j) ∧ ∀ p, p < 8 → ∃ i, i < 8 ∧ mvOd od d a i = p := by
  obtain ⟨h1, h2, h3⟩ := hod
  -- the place that place i came from
  have src : ∀ i, i < 8 → ∃ s, s < 8 ∧ mvOd od d a i = od s ∧ (s = if i < d then i else if i = d then a else if i ≤ a then i - 1 else i) := by
    intro i hi
    unfold mvOd
    by_cases c1 : i < d
    · exact ⟨i, hi, by rw [if_pos c1], by rw [if_pos c1]⟩
    · by_cases c2 : i = d
      · exact ⟨a, ha, by rw [if_neg c1, if_pos c2], by rw [if_neg c1, if_pos c2]⟩
      · by_cases c3 : i ≤ a
        · exact ⟨i - 1, by omega, by rw [if_neg c1, if_neg c2, if_pos c3], by rw [if_neg c1, if_neg c2, if_pos c3]⟩
        · exact ⟨i, hi, by rw [if_neg c1, if_neg c2, if_neg c3], by rw [if_neg c1, if_neg c2, if_neg c3]⟩
  refine ⟨fun i hi => ?_, fun i j hi hj he => ?_, fun p hp => ?_⟩
  · obtain ⟨s, s1, s2, -⟩ := src i hi
    rw [s2]; exact (h1 s s1).2
  · obtain ⟨s, s1, s2, s3⟩ := src i hi
    obtain ⟨t, t1, t2, t3⟩ := src j hj
    have hst := h2 s t s1 t1 (by rw [← s2, ← t2]; exact he)
    rw [s3, t3] at hst
    clear s2 t2 s3 t3
    repeat' split at hst
    all_goals omega
  · obtain ⟨s, s1, s2⟩ := h3 p hp
    have tgt : ∃ i, i < 8 ∧ s = if i < d then i else if i = d then a else if i ≤ a then i - 1 else i := by
      rcases Nat.lt_or_ge s d with w | w
      · exact ⟨s, s1, by rw [if_pos w]⟩
      · rcases Nat.lt_or_ge s a with w2 | w2
        · exact ⟨s + 1, by omega, by rw [if_neg (by omega), if_neg (by omega), if_pos (by omega)]; omega⟩
        · by_cases hsa : s = a
          · exact ⟨d, by omega, by rw [if_neg (by omega), if_pos rfl]; exact hsa⟩
          · exact ⟨s, s1, by rw [if_neg (by omega), if_neg (by omega), if_neg (by omega)]⟩
    obtain ⟨i, hi, hs⟩ := tgt
    obtain ⟨t, t1, t2, t3⟩ := src i hi
    exact ⟨i, hi, by rw [t2, t3, ← hs]; exact s2⟩
theorem move_ok (hfu : 200 ≤ fu) {od : Nat → Nat} {n nd q : Nat} (hod : OrdOK (x_order u) od) (ht : TailOK n nd od) (hn : n ≤ 8) (hun : x_neededPacks u = nI nd) (hq : q < n) :
    ((∃ j, j < nd ∧ od j = q) ∧ pf_X0_moveToNeeded fu (nI q) u = some u) ∨
    ((∀ j, j < nd → od j ≠ q) ∧ ∃ od' f, pf_X0_moveToNeeded fu (nI q) u = some (xs_neededPacks (xs_order u f) (nI (nd + 1))) ∧ OrdOK f od' ∧ (∀ j, j < nd → od' j = od j) ∧ od' nd = q ∧ nd < 8 ∧ TailOK n (nd + 1) od') := by
  obtain ⟨a, ha, hqa⟩ := hod.2.2 q (by omega)
  obtain ⟨t1, t2, t3⟩ := id ht
  have han : a < n := by
    rcases Nat.lt_or_ge a n with w | w
    · exact w
    · have := t2 a w ha; omega
  have hpos : pf_X0_positionOf fu (nI q) u = some (nI a) := by
    unfold pf_X0_positionOf
    have := pos_loop (fu := fu) hod ha hqa (fun x2_2 => (some (8 : Int32))) fu 0 (Nat.zero_le _) (by omega)
    rw [nI_0] at this
    exact this
  unfold pf_X0_moveToNeeded
  rw [ob_s hpos, hun]
  rcases Nat.lt_or_ge a nd with w | w
  · rw [if_pos (nI_lt w (by omega))]
    exact Or.inl ⟨⟨a, w, hqa⟩, rfl⟩
  · rw [if_neg (nI_nlt w (by omega)), if_pos (show nI a < (8 : Int32) from nI_lt ha (by decide))]
    refine Or.inr ⟨fun j hj h => by have := hod.2.1 j a (by omega) ha (by rw [h, hqa]); omega, ?_⟩
    obtain ⟨x, f', e, hf'⟩ := shift_loop (fu := fu) (od := od) w ha hun (fun x3_23 u_23 => (og (inb (x_neededPacks u_23) 8) (some (xs_neededPacks (xs_order u_23 (upd (x_order u_23) (x_neededPacks u_23).toNatClampNeg (nI q))) ((x_neededPacks u_23) + (1 : Int32)))))) fu a (x_order u) w (Nat.le_refl a) (by omega) (fun j hj => by rw [if_neg (by omega)]; exact (hod.1 j hj).1) (fun j hj => (hod.1 j hj).2)
    rw [show xs_order u (x_order u) = u from rfl] at e
    rw [e]
    simp only [xso_needed, xso_order, xso_xso, hun]
    rw [og_t (inb_nI (show nd < 8 by omega) (by decide)), nI_clamp (by omega), nI_1]
    obtain ⟨m1, m2, m3⟩ := mv_ok hod w ha
    refine ⟨mvOd od nd a, _, rfl, ⟨fun i hi => ⟨?_, m1 i hi⟩, m2, m3⟩, fun j hj => by unfold mvOd; rw [if_pos hj], by unfold mvOd; rw [if_neg (by omega), if_pos rfl]; exact hqa, by omega, ?_⟩
    · unfold mvOd
      by_cases hin : i = nd
      · rw [hin, pk_us, if_neg (by omega), if_pos rfl, hqa]
      · rw [pk_un hin, hf' i hi]
        congr 1
        rcases Nat.lt_or_ge i nd with z | z
        · rw [if_neg (by omega), if_pos z]
        · rw [if_neg (show ¬ i < nd by omega), if_neg hin]
          by_cases hia : i ≤ a
          · rw [if_pos ⟨by omega, hia⟩, if_pos hia]
          · rw [if_neg (by omega), if_neg hia]
    · refine ⟨fun i j h1 h2 h3 => ?_, fun i h1 h2 => ?_, by omega⟩
      · unfold mvOd
        rw [if_neg (show ¬ i < nd by omega), if_neg (show ¬ i = nd by omega), if_neg (show ¬ j < nd by omega), if_neg (show ¬ j = nd by omega)]
        by_cases hi : i ≤ a
        · rw [if_pos hi]
          by_cases hj : j ≤ a
          · rw [if_pos hj]; exact t1 (i - 1) (j - 1) (by omega) (by omega) (by omega)
          · rw [if_neg hj]; exact t1 (i - 1) j (by omega) (by omega) h3
        · rw [if_neg hi, if_neg (show ¬ j ≤ a by omega)]
          exact t1 i j (by omega) h2 h3
      · unfold mvOd
        rw [if_neg (show ¬ i < nd by omega), if_neg (show ¬ i = nd by omega), if_neg (show ¬ i ≤ a by omega)]
        exact t2 i h1 h2
/-- one more alternative at the end -/
theorem alts_snoc {od ps : Nat → Nat} : ∀ m i c c' c'', altsOK od ps m i c c' → (((∃ j, j < c' ∧ od j = ps (i + m)) ∧ c'' = c') ∨ ((∀ j, j < c' → od j ≠ ps (i + m)) ∧ od c' = ps (i + m) ∧ c' < 8 ∧ c'' = c' + 1)) → altsOK od ps (m + 1) i c c'' := by
  intro m
  induction m with
  | zero =>
    intro i c c' c'' h1 h2
    rw [altsOK] at h1
    subst h1
    rw [altsOK]
    rcases h2 with ⟨a, rfl⟩ | ⟨a, b, d, rfl⟩
    · exact Or.inl ⟨a, by rw [altsOK]⟩
    · exact Or.inr ⟨a, b, d, by rw [altsOK]⟩
  | succ m ih =>
    intro i c c' c'' h1 h2
    rw [altsOK] at h1
    rw [show i + (m + 1) = (i + 1) + m by omega] at h2
    rw [altsOK]
    rcases h1 with ⟨a, h1⟩ | ⟨a, b, d, h1⟩
    · exact Or.inl ⟨a, ih _ _ _ _ h1 h2⟩
    · exact Or.inr ⟨a, b, d, ih _ _ _ _ h1 h2⟩
theorem alts_congr {od od' ps ps' : Nat → Nat} : ∀ m i c c', (∀ j, j < c' → od' j = od j) → (∀ j, i ≤ j → j < i + m → ps' j = ps j) → altsOK od ps m i c c' → altsOK od' ps' m i c c' := by
  intro m
  induction m with
  | zero => intro i c c' _ _ h; exact h
  | succ m ih =>
    intro i c c' h1 h2 h
    rw [altsOK] at h ⊢
    have hp := h2 i (Nat.le_refl i) (by omega)
    rw [hp]
    rcases h with ⟨⟨j, j1, j2⟩, h⟩ | ⟨a, b, d, h⟩
    · have hle := alts_le _ _ _ _ h
      exact Or.inl ⟨⟨j, j1, by rw [h1 j (by omega)]; exact j2⟩, ih _ _ _ h1 (fun j j1 j2 => h2 j (by omega) (by omega)) h⟩
    · have hle := alts_le _ _ _ _ h
      exact Or.inr ⟨fun j hj => by rw [h1 j (by omega)]; exact a j hj, by rw [h1 c (by omega)]; exact b, d, ih _ _ _ h1 (fun j j1 j2 => h2 j (by omega) (by omega)) h⟩
theorem dems_le {od : Nat → Nat} {kz : Nat → Bool} {mn ot : Nat → Nat} : ∀ d k c c', demsOK od kz mn ot d k c c' → c ≤ c' := by
  intro d
  induction d with
  | zero => intro k c c' h; rw [demsOK] at h; omega
  | succ d ih =>
    intro k c c' h
    rw [demsOK] at h
    obtain ⟨c1, h1, h2⟩ := h
    have h3 := ih _ _ _ h2
    cases hz : kz k with
    | true =>
      rw [hz, if_pos rfl] at h1
      have := alts_le _ _ _ _ h1
      omega
    | false =>
      rw [hz, if_neg (by decide)] at h1
      omega
theorem dems_congr {od od' : Nat → Nat} {kz kz' : Nat → Bool} {mn mn' ot ot' : Nat → Nat} : ∀ d k c c', (∀ j, j < c' → od' j = od j) → (∀ j, k ≤ j → j < k + d → kz' j = kz j ∧ mn' (120 + j) = mn (120 + j) ∧ ∀ i, i < mn (120 + j) → ot' (3 * (120 + j) + i) = ot (3 * (120 + j) + i)) → demsOK od kz mn ot d k c c' → demsOK od' kz' mn' ot' d k c c' := by
  intro d
  induction d with
  | zero => intro k c c' _ _ h; exact h
  | succ d ih =>
    intro k c c' h1 h2 h
    rw [demsOK] at h ⊢
    obtain ⟨c1, a1, a2⟩ := h
    obtain ⟨z1, z2, z3⟩ := h2 k (Nat.le_refl k) (by omega)
    have hle := dems_le _ _ _ _ a2
    refine ⟨c1, ?_, ih _ _ _ h1 (fun j j1 j2 => h2 j (by omega) (by omega)) a2⟩
    rw [z1, z2]
    cases hz : kz k with
    | true =>
      rw [hz, if_pos rfl] at a1
      rw [if_pos rfl]
      exact alts_congr _ _ _ _ (fun j hj => h1 j (by omega)) (fun j _ j2 => z3 j (by omega)) a1
    | false =>
      rw [hz, if_neg (by decide)] at a1
      rw [if_neg (by decide)]
      exact a1
theorem dems_snoc {od : Nat → Nat} {kz : Nat → Bool} {mn ot : Nat → Nat} : ∀ d k c c', demsOK od kz mn ot (d + 1) k c c' ↔ ∃ c1, demsOK od kz mn ot d k c c1 ∧ (if kz (k + d) = true then altsOK od (fun i => ot (3 * (120 + (k + d)) + i)) (mn (120 + (k + d))) 0 c1 c' else c' = c1) := by
  intro d
  induction d with
  | zero =>
    intro k c c'
    rw [demsOK]
    constructor
    · rintro ⟨c1, h1, h2⟩
      rw [demsOK] at h2
      subst h2
      exact ⟨c, by rw [demsOK], h1⟩
    · rintro ⟨c1, h1, h2⟩
      rw [demsOK] at h1
      subst h1
      exact ⟨c', h2, by rw [demsOK]⟩
  | succ d ih =>
    intro k c c'
    rw [demsOK]
    constructor
    · rintro ⟨c1, h1, h2⟩
      obtain ⟨c2, h3, h4⟩ := (ih (k + 1) c1 c').mp h2
      refine ⟨c2, ?_, ?_⟩
      · rw [demsOK]; exact ⟨c1, h1, h3⟩
      · rw [show k + (d + 1) = k + 1 + d by omega]; exact h4
    · rintro ⟨c2, h3, h4⟩
      rw [demsOK] at h3
      obtain ⟨c1, h1, h2⟩ := h3
      refine ⟨c1, h1, (ih (k + 1) c1 c').mpr ⟨c2, h2, ?_⟩⟩
      rw [show k + 1 + d = k + (d + 1) by omega]; exact h4
end MO
