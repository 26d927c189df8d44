/-! THE REFERENCE'S ORDER: arrange() makes the same order as the class keeps. -/
theorem nr {α : Sort _} {a b : α} (h : a = b) : a = b := h
def mon (v : MS) (o : Nat → Int32) (k : Int32) : MS := ms_needed (ms_order v o) k
theorem mon_order (v : MS) (o : Nat → Int32) (k : Int32) : m_order (mon v o k) = o := (rq_m_order_needed _ _).trans (rq_m_order_order _ _)
theorem mon_needed (v : MS) (o : Nat → Int32) (k : Int32) : m_needed (mon v o k) = k := (rq_m_needed_needed _ _).trans rfl
theorem mon_so (v : MS) (o : Nat → Int32) (k : Int32) (o' : Nat → Int32) : ms_order (mon v o k) o' = mon v o' k := by simp only [mon, ms_needed, ms_order, m_code, m_versions, m_locks, m_chosen, m_value, m_order, m_option, m_blames0, m_packages, m_rows, m_demands, m_needed, m_pack, m_version, m_kind, m_many, m_other, m_set, m_out, m_away, m_latest, m_blamed, m_blames]
theorem mon_sn (v : MS) (o : Nat → Int32) (k k' : Int32) : ms_needed (mon v o k) k' = mon v o k' := by simp only [mon, ms_needed, m_code, m_versions, m_locks, m_chosen, m_value, m_order, m_option, m_blames0, m_packages, m_rows, m_demands, m_needed, m_pack, m_version, m_kind, m_many, m_other, m_set, m_out, m_away, m_latest, m_blamed, m_blames]
theorem mon_many (v : MS) (o : Nat → Int32) (k : Int32) : m_many (mon v o k) = m_many v := (rq_m_many_needed _ _).trans (rq_m_many_order _ _)
theorem mon_kind (v : MS) (o : Nat → Int32) (k : Int32) : m_kind (mon v o k) = m_kind v := (rq_m_kind_needed _ _).trans (rq_m_kind_order _ _)
theorem mon_other (v : MS) (o : Nat → Int32) (k : Int32) : m_other (mon v o k) = m_other v := (rq_m_other_needed _ _).trans (rq_m_other_order _ _)
theorem mon_demands (v : MS) (o : Nat → Int32) (k : Int32) : m_demands (mon v o k) = m_demands v := (rq_m_demands_needed _ _).trans (rq_m_demands_order _ _)
theorem mon_packages (v : MS) (o : Nat → Int32) (k : Int32) : m_packages (mon v o k) = m_packages v := (rq_m_packages_needed _ _).trans (rq_m_packages_order _ _)
theorem mon_code (v : MS) (o : Nat → Int32) (k : Int32) : m_code (mon v o k) = m_code v := (rq_m_code_needed _ _).trans (rq_m_code_order _ _)
theorem mon_versions (v : MS) (o : Nat → Int32) (k : Int32) : m_versions (mon v o k) = m_versions v := (rq_m_versions_needed _ _).trans (rq_m_versions_order _ _)
theorem mon_locks (v : MS) (o : Nat → Int32) (k : Int32) : m_locks (mon v o k) = m_locks v := (rq_m_locks_needed _ _).trans (rq_m_locks_order _ _)
theorem mon_chosen (v : MS) (o : Nat → Int32) (k : Int32) : m_chosen (mon v o k) = m_chosen v := (rq_m_chosen_needed _ _).trans (rq_m_chosen_order _ _)
theorem mon_value (v : MS) (o : Nat → Int32) (k : Int32) : m_value (mon v o k) = m_value v := (rq_m_value_needed _ _).trans (rq_m_value_order _ _)
theorem mon_option (v : MS) (o : Nat → Int32) (k : Int32) : m_option (mon v o k) = m_option v := (rq_m_option_needed _ _).trans (rq_m_option_order _ _)
theorem mon_blames0 (v : MS) (o : Nat → Int32) (k : Int32) : m_blames0 (mon v o k) = m_blames0 v := (rq_m_blames0_needed _ _).trans (rq_m_blames0_order _ _)
theorem mon_rows (v : MS) (o : Nat → Int32) (k : Int32) : m_rows (mon v o k) = m_rows v := (rq_m_rows_needed _ _).trans (rq_m_rows_order _ _)
theorem mon_pack (v : MS) (o : Nat → Int32) (k : Int32) : m_pack (mon v o k) = m_pack v := (rq_m_pack_needed _ _).trans (rq_m_pack_order _ _)
theorem mon_version (v : MS) (o : Nat → Int32) (k : Int32) : m_version (mon v o k) = m_version v := (rq_m_version_needed _ _).trans (rq_m_version_order _ _)
theorem mon_set (v : MS) (o : Nat → Int32) (k : Int32) : m_set (mon v o k) = m_set v := (rq_m_set_needed _ _).trans (rq_m_set_order _ _)
theorem mon_out (v : MS) (o : Nat → Int32) (k : Int32) : m_out (mon v o k) = m_out v := (rq_m_out_needed _ _).trans (rq_m_out_order _ _)
theorem mon_away (v : MS) (o : Nat → Int32) (k : Int32) : m_away (mon v o k) = m_away v := (rq_m_away_needed _ _).trans (rq_m_away_order _ _)
theorem mon_latest (v : MS) (o : Nat → Int32) (k : Int32) : m_latest (mon v o k) = m_latest v := (rq_m_latest_needed _ _).trans (rq_m_latest_order _ _)
theorem mon_blamed (v : MS) (o : Nat → Int32) (k : Int32) : m_blamed (mon v o k) = m_blamed v := (rq_m_blamed_needed _ _).trans (rq_m_blamed_order _ _)
theorem mon_blames (v : MS) (o : Nat → Int32) (k : Int32) : m_blames (mon v o k) = m_blames v := (rq_m_blames_needed _ _).trans (rq_m_blames_order _ _)
theorem mso_self (v : MS) : ms_order v (m_order v) = v := rfl
theorem mon_self (v : MS) (k : Int32) : ms_needed v k = mon v (m_order v) k := by rw [mon, mso_self]
def altsOK (od ps : Nat → Nat) : Nat → Nat → Nat → Nat → Prop
  | 0, _, c, c' => c' = c
  | m + 1, i, c, c' => ((∃ j, j < c ∧ od j = ps i) ∧ altsOK od ps m (i + 1) c c') ∨ ((∀ j, j < c → od j ≠ ps i) ∧ od c = ps i ∧ c < 8 ∧ altsOK od ps m (i + 1) (c + 1) c')
def demsOK (od : Nat → Nat) (kz : Nat → Bool) (mn ot : Nat → Nat) : Nat → Nat → Nat → Nat → Prop
  | 0, _, c, c' => c' = c
  | d + 1, k, c, c' => ∃ c1, (if kz k = true then altsOK od (fun i => ot (3 * (120 + k) + i)) (mn (120 + k)) 0 c c1 else c1 = c) ∧ demsOK od kz mn ot d (k + 1) c1 c'
theorem place_loop {fu : Nat} {v : MS} {o : Nat → Int32} {od : Nat → Nat} {c p : Nat} (hc : c ≤ 8) (ho : ∀ j, j < c → o j = nI (od j) ∧ od j < 8) (hp : p < 8) (K : Int32 → Int32 → Option MS) :
    ∀ (f i : Nat) (x : Bool), i ≤ c → c < i + f → (x = true ↔ ∃ j, j < i ∧ od j = p) → ∃ j y, pl_X1_place_4 fu (nI p) (mon v o (nI c)) K f (nI i) (if x then 1 else 0) = K j (if y then 1 else 0) ∧ (y = true ↔ ∃ j, j < c ∧ od j = p) := by
  intro f
  induction f with
  | zero => intro i x h1 h2; exact absurd h2 (by omega)
  | succ f ih =>
    intro i x h1 h2 hx
    rw [pl_X1_place_4]
    simp only [mon_needed, mon_order]
    rcases Nat.lt_or_ge i c with q | q
    · rw [if_neg (nI_ge q (by omega)), nI_1]
      cases x with
      | true =>
        rw [if_neg (show ¬ (if true = true then (1 : Int32) else 0) = 0 by decide)]
        exact ih (i + 1) true (by omega) (by omega) ⟨fun _ => by
          obtain ⟨j, j1, j2⟩ := hx.mp rfl
          exact ⟨j, by omega, j2⟩, fun _ => rfl⟩
      | false =>
        rw [if_pos (show (if false = true then (1 : Int32) else 0) = 0 by decide), og_t (inb_nI (show i < 8 by omega) (by decide)), nI_clamp (by omega), (ho i q).1]
        by_cases he : od i = p
        · rw [he, if_pos rfl]
          exact ih (i + 1) true (by omega) (by omega) ⟨fun _ => ⟨i, by omega, he⟩, fun _ => rfl⟩
        · rw [if_neg (fun h => he ((nI_eq (by have := (ho i q).2; omega) (by omega)).mp h))]
          refine ih (i + 1) false (by omega) (by omega) ⟨fun h => (by cases h), fun ⟨j, j1, j2⟩ => ?_⟩
          rcases Nat.lt_or_ge j i with w | w
          · exact hx.mpr ⟨j, w, j2⟩
          · rw [show j = i by omega] at j2
            exact absurd j2 he
    · rw [if_pos (nI_le q (by omega))]
      have : i = c := by omega
      subst this
      exact ⟨nI i, x, rfl, hx⟩
theorem place_ok {fu : Nat} (hfu : 200 ≤ fu) {v : MS} {o : Nat → Int32} {od : Nat → Nat} {c p : Nat} (hc : c ≤ 8) (ho : ∀ j, j < c → o j = nI (od j) ∧ od j < 8) (hp : p < 8) :
    ((∃ j, j < c ∧ od j = p) → pf_X1_place fu (nI p) (mon v o (nI c)) = some (mon v o (nI c))) ∧
    ((∀ j, j < c → od j ≠ p) → c < 8 → pf_X1_place fu (nI p) (mon v o (nI c)) = some (mon v (upd o c (nI p)) (nI (c + 1)))) := by
  unfold pf_X1_place
  obtain ⟨j, y, e, hy⟩ := place_loop (fu := fu) (v := v) hc ho hp (fun x3_4 x2_4 => (if x2_4 = 0 then (og (inb (m_needed (mon v o (nI c))) 8) (some (ms_needed (ms_order (mon v o (nI c)) (upd (m_order (mon v o (nI c))) (m_needed (mon v o (nI c))).toNatClampNeg (nI p))) ((m_needed (mon v o (nI c))) + (1 : Int32))))) else (some (mon v o (nI c))))) fu 0 false (Nat.zero_le _) (by omega) ⟨fun h => (by cases h), fun ⟨j, j1, _⟩ => by omega⟩
  rw [nI_0, show (if false = true then (1 : Int32) else 0) = 0 from rfl] at e
  rw [e]
  constructor
  · intro h
    rw [hy.mpr h, if_neg (show ¬ (if true = true then (1 : Int32) else 0) = 0 by decide)]
  · intro h hc8
    have hyf : y = false := by
      cases y with
      | false => rfl
      | true =>
        obtain ⟨j, j1, j2⟩ := hy.mp rfl
        exact absurd j2 (h j j1)
    rw [hyf, if_pos (show (if false = true then (1 : Int32) else 0) = 0 by decide)]
    simp only [mon_needed, mon_order, mon_so, mon_sn]
    rw [og_t (inb_nI hc8 (by decide)), nI_clamp (by omega), nI_1]
theorem ord_upd {o : Nat → Int32} {od : Nat → Nat} {c p : Nat} (ho : ∀ j, j < c → o j = nI (od j) ∧ od j < 8) (hp : p < 8) (h : od c = p) : ∀ j, j < c + 1 → upd o c (nI p) j = nI (od j) ∧ od j < 8 := by
  intro j hj
  rcases Nat.lt_or_ge j c with w | w
  · rw [pk_un (by omega)]
    exact ho j w
  · rw [show j = c by omega, pk_us, h]
    exact ⟨rfl, hp⟩
section AR
variable {fu : Nat} {v : MS} {n : Nat} {vs : Nat → Nat} {r dm : Nat} {mn ot pk : Nat → Nat} {od : Nat → Nat}
theorem alts_le {ps : Nat → Nat} : ∀ m i c c', altsOK od ps m i c c' → c ≤ c' := by
  intro m
  induction m with
  | zero => intro i c c' h; rw [altsOK] at h; omega
  | succ m ih =>
    intro i c c' h
    rw [altsOK] at h
    rcases h with ⟨-, h⟩ | ⟨-, -, -, h⟩
    · exact ih _ _ _ h
    · have := ih _ _ _ h
      omega
theorem alts_loop (hfu : 200 ≤ fu) (hB : MB v n vs r dm mn ot pk) {k : Nat} (hk : 120 + k < 132) (hkz : m_kind v (120 + k) = 0) (K : Int32 → MS → Option MS) :
    ∀ (f i c c' : Nat) (o : Nat → Int32), i ≤ mn (120 + k) → mn (120 + k) < i + f → c ≤ 8 → (∀ j, j < c → o j = nI (od j) ∧ od j < 8) → altsOK od (fun i => ot (3 * (120 + k) + i)) (mn (120 + k) - i) i c c' →
      ∃ j o', c' ≤ 8 ∧ pl_X1_arrange_21 fu (nI (120 + k)) K f (nI i) (mon v o (nI c)) = K j (mon v o' (nI c')) ∧ ∀ j, j < c' → o' j = nI (od j) ∧ od j < 8 := by
  obtain ⟨-, -, -, -, -, -, -, hmn, hot, -, -⟩ := hB
  intro f
  induction f with
  | zero => intro i c c' o h1 h2; exact absurd h2 (by omega)
  | succ f ih =>
    intro i c c' o h1 h2 hc ho hA
    obtain ⟨m1, m2⟩ := hmn _ hk
    rw [pl_X1_arrange_21]
    simp only [mon_many, mon_kind, mon_other]
    rw [og_t (inb_nI hk (by decide)), nI_clamp (by omega), m1]
    rcases Nat.lt_or_ge i (mn (120 + k)) with q | q
    · have hj : 3 * (120 + k) + i < 396 := by omega
      obtain ⟨o1, o2⟩ := hot _ hj
      rw [if_neg (nI_ge q (by omega)), og_t (inb_nI hk (by decide)), if_pos hkz, nI_mul3, og_t (inb_nI hj (by decide)), nI_clamp (by omega), o1, nI_1]
      rw [show mn (120 + k) - i = (mn (120 + k) - (i + 1)) + 1 by omega, altsOK] at hA
      rcases hA with ⟨a1, a2⟩ | ⟨a1, a2, a3, a4⟩
      · rw [ob_s ((place_ok hfu (v := v) hc ho o2).1 a1)]
        exact ih (i + 1) c c' o (by omega) (by omega) hc ho a2
      · rw [ob_s ((place_ok hfu (v := v) hc ho o2).2 a1 a3)]
        exact ih (i + 1) (c + 1) c' _ (by omega) (by omega) (by omega) (ord_upd ho o2 a2) a4
    · rw [if_pos (nI_le q (by omega))]
      rw [show mn (120 + k) - i = 0 by omega, altsOK] at hA
      subst hA
      exact ⟨nI i, o, hc, rfl, ho⟩
theorem dems_arr (hfu : 200 ≤ fu) (hB : MB v n vs r dm mn ot pk) {kz : Nat → Bool} (hkz : ∀ k, k < 12 → (kz k = true ↔ m_kind v (120 + k) = 0)) (hmn1 : ∀ k, k < dm → 0 < mn (120 + k)) (K : Int32 → MS → Option MS) :
    ∀ (f k c c' : Nat) (o : Nat → Int32), k ≤ dm → dm < k + f → c ≤ 8 → (∀ j, j < c → o j = nI (od j) ∧ od j < 8) → demsOK od kz mn ot (dm - k) k c c' →
      ∃ j o', c' ≤ 8 ∧ pl_X1_arrange_8 fu K f (nI (120 + k)) (mon v o (nI c)) = K j (mon v o' (nI c')) ∧ ∀ j, j < c' → o' j = nI (od j) ∧ od j < 8 := by
  have hB0 := hB
  obtain ⟨-, -, -, -, -, hde, hdm, hmn, hot, -, -⟩ := hB
  intro f
  induction f with
  | zero => intro k c c' o h1 h2; exact absurd h2 (by omega)
  | succ f ih =>
    intro k c c' o h1 h2 hc ho hA
    rw [pl_X1_arrange_8]
    simp only [mon_demands, hde]
    rw [show (120 : Int32) + nI dm = nI (120 + dm) from by rw [show (120 : Int32) = nI 120 by decide, nI_add]]
    rcases Nat.lt_or_ge k dm with q | q
    · rw [if_neg (nI_ge (show 120 + k < 120 + dm by omega) (by omega))]
      rw [show dm - k = (dm - (k + 1)) + 1 by omega, demsOK] at hA
      obtain ⟨c1, a1, a2⟩ := hA
      cases hz : kz k with
      | true =>
        rw [hz, if_pos rfl] at a1
        obtain ⟨j, o', b1, b2, b3⟩ := alts_loop hfu hB0 (k := k) (by omega) ((hkz k (by omega)).mp hz) (fun x2_21 u_21 => (pl_X1_arrange_8 fu K f (nI (120 + k) + (1 : Int32)) u_21)) fu 0 c c1 o (Nat.zero_le _) (by have := (hmn (120 + k) (by omega)).2; omega) hc ho (by rw [Nat.sub_zero]; exact a1)
        rw [nI_0] at b2
        rw [b2, nI_1, show 120 + k + 1 = 120 + (k + 1) by omega]
        exact ih (k + 1) c1 c' o' (by omega) (by omega) b1 b3 a2
      | false =>
        rw [hz, if_neg (by decide)] at a1
        subst a1
        have hkn : ¬ m_kind v (120 + k) = 0 := fun h => by
          have := (hkz k (by omega)).mpr h
          rw [hz] at this
          cases this
        obtain ⟨f2, rfl⟩ : ∃ z, fu = z + 1 := ⟨fu - 1, by omega⟩
        rw [pl_X1_arrange_21]
        simp only [mon_many, mon_kind]
        rw [og_t (inb_nI (show 120 + k < 132 by omega) (by decide)), nI_clamp (by omega), (hmn (120 + k) (by omega)).1, ← nI_0, if_neg (nI_ge (hmn1 k q) (by have := (hmn (120 + k) (by omega)).2; omega)), og_t (inb_nI (show 120 + k < 132 by omega) (by decide)), nI_0, if_neg hkn, nI_1, show 120 + k + 1 = 120 + (k + 1) by omega]
        exact ih (k + 1) c1 c' o (by omega) (by omega) hc ho a2
    · rw [if_pos (nI_le (show 120 + dm ≤ 120 + k by omega) (by omega))]
      rw [show dm - k = 0 by omega, demsOK] at hA
      subst hA
      exact ⟨_, o, hc, rfl, ho⟩
/-- the class's order: what demands need first, the others by number, packages to come at their own places -/
def TailOK (n nd : Nat) (od : Nat → Nat) : Prop := (∀ i j, nd ≤ i → i < j → j < 8 → od i < od j) ∧ (∀ i, n ≤ i → i < 8 → od i = i) ∧ nd ≤ n
theorem rest_loop (hfu : 200 ≤ fu) (hB : MB v n vs r dm mn ot pk) {f0 : Nat → Int32} {nd : Nat} (hod : OrdOK f0 od) (ht : TailOK n nd od) (K : Int32 → MS → Option MS) :
    ∀ (f p c : Nat) (o : Nat → Int32), p ≤ n → n < p + f → nd ≤ c → c ≤ 8 → (∀ j, j < c → o j = nI (od j) ∧ od j < 8) → (∀ q, q < p → ∃ j, j < c ∧ od j = q) → (∀ j, nd ≤ j → j < c → od j < p) →
      ∃ j c' o', n ≤ c' ∧ c' ≤ 8 ∧ pl_X1_arrange_73 fu K f (nI p) (mon v o (nI c)) = K j (mon v o' (nI c')) ∧ ∀ j, j < c' → o' j = nI (od j) ∧ od j < 8 := by
  obtain ⟨hpe, hn8, -⟩ := hB
  obtain ⟨h1, h2, h3⟩ := hod
  obtain ⟨t1, t2, t3⟩ := ht
  intro f
  induction f with
  | zero => intro p c o a1 a2; exact absurd a2 (by omega)
  | succ f ih =>
    intro p c o a1 a2 a3 a4 ho hall hlow
    rw [pl_X1_arrange_73]
    simp only [mon_packages, hpe]
    rcases Nat.lt_or_ge p n with q | q
    · rw [if_neg (nI_ge q (by omega)), nI_1]
      by_cases hin : ∃ j, j < c ∧ od j = p
      · rw [ob_s ((place_ok hfu (v := v) a4 ho (by omega)).1 hin)]
        refine ih (p + 1) c o (by omega) (by omega) a3 a4 ho (fun q' hq => ?_) (fun j j1 j2 => by have := hlow j j1 j2; omega)
        rcases Nat.lt_or_ge q' p with w | w
        · exact hall q' w
        · rw [show q' = p by omega]; exact hin
      · have hout : ∀ j, j < c → od j ≠ p := fun j hj h => hin ⟨j, hj, h⟩
        obtain ⟨jp, jp1, jp2⟩ := h3 p (by omega)
        have hjc : c ≤ jp := by
          rcases Nat.lt_or_ge jp c with w | w
          · exact absurd jp2 (hout jp w)
          · exact w
        have hc8 : c < 8 := by omega
        have hodc : od c = p := by
          rcases Nat.lt_or_ge c jp with w | w
          · have h5 := t1 c jp a3 w jp1
            obtain ⟨j, j1, j2⟩ := hall (od c) (by omega)
            have := h2 j c (by omega) hc8 j2
            omega
          · rw [show c = jp by omega]; exact jp2
        rw [ob_s ((place_ok hfu (v := v) a4 ho (by omega)).2 hout hc8)]
        refine ih (p + 1) (c + 1) _ (by omega) (by omega) (by omega) (by omega) (ord_upd ho (by omega) hodc) (fun q' hq => ?_) (fun j j1 j2 => ?_)
        · rcases Nat.lt_or_ge q' p with w | w
          · obtain ⟨j, j1, j2⟩ := hall q' w
            exact ⟨j, by omega, j2⟩
          · exact ⟨c, by omega, by rw [hodc]; omega⟩
        · rcases Nat.lt_or_ge j c with w | w
          · have := hlow j j1 w
            omega
          · rw [show j = c by omega, hodc]; omega
    · rw [if_pos (nI_le q (by omega))]
      refine ⟨_, c, o, ?_, a4, rfl, ho⟩
      rcases Nat.lt_or_ge c n with w | w
      · have hc8 : c < 8 := by omega
        have hlt : od c < n := by
          rcases Nat.lt_or_ge (od c) n with z | z
          · exact z
          · have := h2 c (od c) hc8 (h1 c hc8).2 (t2 (od c) z (h1 c hc8).2).symm
            omega
        obtain ⟨j, j1, j2⟩ := hall (od c) (by omega)
        have := h2 j c (by omega) hc8 j2
        omega
      · exact w
theorem arrange_ok (hfu : 200 ≤ fu) (hB : MB v n vs r dm mn ot pk) {kz : Nat → Bool} (hkz : ∀ k, k < 12 → (kz k = true ↔ m_kind v (120 + k) = 0)) (hmn1 : ∀ k, k < dm → 0 < mn (120 + k)) {f0 : Nat → Int32} {nd : Nat} (hod : OrdOK f0 od) (ht : TailOK n nd od) (hD : demsOK od kz mn ot dm 0 0 nd) (hndlt : ∀ j, j < nd → od j < n) :
    ∃ o', pf_X1_arrange fu v = some (mon v o' (nI nd)) ∧ ∀ j, j < n → o' j = nI (od j) ∧ od j < 8 := by
  unfold pf_X1_arrange
  obtain ⟨j, o', a1, a2, a3⟩ := dems_arr (od := od) hfu hB hkz hmn1 (fun x1_8 u_8 => (pl_X1_arrange_73 fu (fun x2_73 u_73 => (some (ms_needed u_73 (m_needed u_8)))) fu (0 : Int32) u_8)) fu 0 0 nd (m_order v) (Nat.zero_le _) (by have := hB.2.2.2.2.2.2.1; omega) (by decide) (fun j hj => by omega) (by rw [Nat.sub_zero]; exact hD)
  rw [nI_0] at a2
  rw [mon_self, show (120 : Int32) = nI (120 + 0) by decide, a2]
  simp only [mon_needed]
  obtain ⟨j2, c', o2, b1, b2, b3, b4⟩ := rest_loop hfu hB hod ht (fun x2_73 u_73 => (some (ms_needed u_73 (nI nd)))) fu 0 nd o' (Nat.zero_le _) (by have := hB.2.1; omega) (Nat.le_refl _) a1 a3 (fun q hq => by omega) (fun j j1 j2 => by omega)
  rw [nI_0] at b3
  rw [b3, mon_sn]
  exact ⟨o2, rfl, fun j hj => b4 j (by omega)⟩
end AR
