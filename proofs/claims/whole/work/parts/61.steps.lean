/-! ONE CALL ON BOTH SIDES: solve, can, must, chosen, blame, blamed. -/
theorem RelN_to {u : XS} {v : MS} {n : Nat} {vs : Nat → Nat} {r dm : Nat} {mn ot pk ver od L : Nat → Nat} {nd : Nat} (h : RelN u v n vs r dm mn ot pk ver od L nd) (v' : MS)
    (e1 : m_packages v' = m_packages v) (e2 : m_versions v' = m_versions v) (e3 : m_rows v' = m_rows v) (e4 : m_demands v' = m_demands v) (e5 : m_many v' = m_many v) (e6 : m_other v' = m_other v) (e7 : m_pack v' = m_pack v)
    (e8 : m_version v' = m_version v) (e9 : m_kind v' = m_kind v) (e10 : m_set v' = m_set v) (e11 : m_out v' = m_out v) (e12 : m_locks v' = m_locks v) (ha : ∀ d, d < 12 → m_away v' d = 0 ∨ m_away v' d = 1) : RelN u v' n vs r dm mn ot pk ver od L nd := by
  obtain ⟨⟨⟨b1, b2, b3, b4, b5, b6, b7, b8, b9, b10, b11⟩, m2, m3, m4, m5, ⟨kz, m6, m7⟩, m8, m9, m10, m11⟩, h2, h3, h4, h5, h6, ⟨h7, h8⟩, h9, h10⟩ := h
  refine ⟨⟨⟨?_, b2, ?_, ?_, b5, ?_, b7, ?_, ?_, ?_, ?_⟩, ?_, m3, m4, m5, ⟨kz, ?_, m7⟩, m8, m9, m10, ?_⟩, h2, h3, ?_, ?_, ?_, ⟨h7, ?_⟩, ?_, ?_⟩
  · rw [e1]; exact b1
  · rw [e2]; exact b3
  · rw [e3]; exact b4
  · rw [e4]; exact b6
  · rw [e5]; exact b8
  · rw [e6]; exact b9
  · rw [e7]; exact b10
  · rw [e11]; exact fun d hd => ⟨(b11 d hd).1, ha d hd⟩
  · rw [e8]; exact m2
  · rw [e9]; exact m6
  · rw [e12]; exact m11
  · rw [e9, e10]; exact h4
  · rw [e9, e10]; exact h5
  · rw [e11]; exact h6
  · rw [e12]; exact h8
  · rw [e9]; exact h9
  · rw [e9]; exact h10
theorem mvs_code (v : MS) (f g h : Nat → Int32) : m_code (mvs v f g h) = m_code v := (rq_m_code_blames0 _ _).trans ((rq_m_code_option _ _).trans (rq_m_code_value _ _))
theorem mvs_locks (v : MS) (f g h : Nat → Int32) : m_locks (mvs v f g h) = m_locks v := (rq_m_locks_blames0 _ _).trans ((rq_m_locks_option _ _).trans (rq_m_locks_value _ _))
theorem mvs_chosen (v : MS) (f g h : Nat → Int32) : m_chosen (mvs v f g h) = m_chosen v := (rq_m_chosen_blames0 _ _).trans ((rq_m_chosen_option _ _).trans (rq_m_chosen_value _ _))
theorem mvs_rows (v : MS) (f g h : Nat → Int32) : m_rows (mvs v f g h) = m_rows v := (rq_m_rows_blames0 _ _).trans ((rq_m_rows_option _ _).trans (rq_m_rows_value _ _))
theorem mvs_demands (v : MS) (f g h : Nat → Int32) : m_demands (mvs v f g h) = m_demands v := (rq_m_demands_blames0 _ _).trans ((rq_m_demands_option _ _).trans (rq_m_demands_value _ _))
theorem mvs_needed (v : MS) (f g h : Nat → Int32) : m_needed (mvs v f g h) = m_needed v := (rq_m_needed_blames0 _ _).trans ((rq_m_needed_option _ _).trans (rq_m_needed_value _ _))
theorem mvs_pack (v : MS) (f g h : Nat → Int32) : m_pack (mvs v f g h) = m_pack v := (rq_m_pack_blames0 _ _).trans ((rq_m_pack_option _ _).trans (rq_m_pack_value _ _))
theorem mvs_version (v : MS) (f g h : Nat → Int32) : m_version (mvs v f g h) = m_version v := (rq_m_version_blames0 _ _).trans ((rq_m_version_option _ _).trans (rq_m_version_value _ _))
theorem mvs_kind (v : MS) (f g h : Nat → Int32) : m_kind (mvs v f g h) = m_kind v := (rq_m_kind_blames0 _ _).trans ((rq_m_kind_option _ _).trans (rq_m_kind_value _ _))
theorem mvs_many (v : MS) (f g h : Nat → Int32) : m_many (mvs v f g h) = m_many v := (rq_m_many_blames0 _ _).trans ((rq_m_many_option _ _).trans (rq_m_many_value _ _))
theorem mvs_other (v : MS) (f g h : Nat → Int32) : m_other (mvs v f g h) = m_other v := (rq_m_other_blames0 _ _).trans ((rq_m_other_option _ _).trans (rq_m_other_value _ _))
theorem mvs_set (v : MS) (f g h : Nat → Int32) : m_set (mvs v f g h) = m_set v := (rq_m_set_blames0 _ _).trans ((rq_m_set_option _ _).trans (rq_m_set_value _ _))
theorem mvs_out (v : MS) (f g h : Nat → Int32) : m_out (mvs v f g h) = m_out v := (rq_m_out_blames0 _ _).trans ((rq_m_out_option _ _).trans (rq_m_out_value _ _))
theorem mvs_away (v : MS) (f g h : Nat → Int32) : m_away (mvs v f g h) = m_away v := (rq_m_away_blames0 _ _).trans ((rq_m_away_option _ _).trans (rq_m_away_value _ _))
theorem mvs_latest (v : MS) (f g h : Nat → Int32) : m_latest (mvs v f g h) = m_latest v := (rq_m_latest_blames0 _ _).trans ((rq_m_latest_option _ _).trans (rq_m_latest_value _ _))
theorem mvs_blamed (v : MS) (f g h : Nat → Int32) : m_blamed (mvs v f g h) = m_blamed v := (rq_m_blamed_blames0 _ _).trans ((rq_m_blamed_option _ _).trans (rq_m_blamed_value _ _))
theorem mvs_blames (v : MS) (f g h : Nat → Int32) : m_blames (mvs v f g h) = m_blames v := (rq_m_blames_blames0 _ _).trans ((rq_m_blames_option _ _).trans (rq_m_blames_value _ _))
theorem RelN_tou {u u' : XS} {v : MS} {n : Nat} {vs : Nat → Nat} {r dm : Nat} {mn ot pk ver od L : Nat → Nat} {nd : Nat} (h : RelN u v n vs r dm mn ot pk ver od L nd)
    (x1 : x_packs u' = x_packs u) (x2 : x_rows u' = x_rows u) (x3 : x_demands u' = x_demands u) (x4 : x_neededPacks u' = x_neededPacks u) (x5 : x_order u' = x_order u) (x6 : x_places u' = x_places u) (x7 : x_rowRules u' = x_rowRules u) (x8 : x_demandRules u' = x_demandRules u) (x9 : x_leftOut u' = x_leftOut u) (x10 : x_locked u' = x_locked u) : RelN u' v n vs r dm mn ot pk ver od L nd := by
  obtain ⟨h1, ⟨i1, i2, i3, i4, i5⟩, h3, h4, h5, h6, ⟨h7, h8⟩, h9, h10⟩ := h
  exact ⟨h1, ⟨by rw [x1]; exact i1, by rw [x2]; exact i2, by rw [x3]; exact i3, by rw [x4]; exact i4, by rw [x5]; exact i5⟩, by rw [x6]; exact h3, by rw [x7]; exact h4, by rw [x8]; exact h5, by rw [x9]; exact h6, ⟨by rw [x10]; exact h7, h8⟩, h9, h10⟩
theorem RelL_to {u u' : XS} {v v' : MS} {r dm : Nat} {mn : Nat → Nat} (h : RelL u v r dm mn) (e1 : m_latest v' = m_latest v) (e2 : m_kind v' = m_kind v) (x1 : x_latestIsDemand u' = x_latestIsDemand u) (x2 : x_alternativesFree u' = x_alternativesFree u) : RelL u' v' r dm mn := by
  unfold RelL frOf at h ⊢
  rw [e1, e2, x1, x2]
  exact h
theorem RelC_to {u u' : XS} {v v' : MS} (h : RelC u v) (e1 : m_chosen v' = m_chosen v) (x1 : x_picked u' = x_picked u) : RelC u' v' := by
  unfold RelC at h ⊢
  rw [e1, x1]
  exact h
theorem RelB_to {u u' : XS} {v v' : MS} (h : RelB u v) (e1 : m_blames v' = m_blames v) (e2 : m_blamed v' = m_blamed v) (x1 : x_toBlame u' = x_toBlame u) : RelB u' v' := by
  unfold RelB at h ⊢
  rw [e1, e2, x1]
  exact h
theorem nar0 : vp_nar .boolean (0 : Int32) = 0 := by decide
theorem nar1 : vp_nar .boolean (1 : Int32) = 1 := by decide
theorem msa_msa (v : MS) (f f' : Nat → Int32) : ms_away (ms_away v f) f' = ms_away v f' := rfl
theorem msa_away (v : MS) (f : Nat → Int32) : m_away (ms_away v f) = f := rfl
theorem none_loop {fu : Nat} {v : MS} (K : Int32 → MS → Option MS) : ∀ (n i : Nat) (f : Nat → Int32), i ≤ 12 → 12 < i + n → (∀ j, j < i → f j = 0) →
    ∃ j f', pl_X1_none_2 fu K n (nI i) (ms_away v f) = K j (ms_away v f') ∧ ∀ j, j < 12 → f' j = 0 := by
  intro n
  induction n with
  | zero => intro i f h1 h2; exact absurd h2 (by omega)
  | succ n ih =>
    intro i f h1 h2 h3
    rw [pl_X1_none_2]
    rcases Nat.lt_or_ge i 12 with q | q
    · rw [if_neg (show ¬ (12 : Int32) ≤ nI i from nI_ge q (by decide)), og_t (inb_nI q (by decide)), nI_clamp (by omega), nI_1, msa_away, msa_msa, nar0]
      refine ih (i + 1) _ (by omega) (by omega) (fun j hj => ?_)
      rcases Nat.lt_or_ge j i with w | w
      · rw [pk_un (by omega)]; exact h3 j w
      · rw [show j = i by omega, pk_us]
    · rw [if_pos (show (12 : Int32) ≤ nI i from nI_le q (by omega))]
      exact ⟨_, f, rfl, fun j hj => h3 j (by omega)⟩
theorem none_ok {fu : Nat} (hfu : 200 ≤ fu) (v : MS) : ∃ f, pf_X1_none fu v = some (ms_away v f) ∧ ∀ d, d < 12 → f d = 0 := by
  obtain ⟨j, f, e, h⟩ := none_loop (fu := fu) (v := v) (fun x1_2 u_2 => (some u_2)) fu 0 (m_away v) (by decide) (by omega) (fun j hj => by omega)
  rw [nI_0] at e
  exact ⟨f, e, h⟩
section ST
variable {fu : Nat} {u : XS} {v : MS} {n : Nat} {vs : Nat → Nat} {r dm : Nat} {mn ot pk ver od L : Nat → Nat} {nd : Nat}
/-- the demands that count -/
theorem cnt_bits : ∀ d, d < 13 → ∀ i, i < 32 → b32 (((1 : Int32) <<< (nI d &&& 31)) - (1 : Int32)) i = decide (i < d) := by decide +kernel
theorem dtc_bits (h : RelN u v n vs r dm mn ot pk ver od L nd) {d : Nat} (hd : d < 32) : b32 (pf_X0_demandsThatCount u) d = (decide (d < dm) && !(b32 (x_leftOut u) d)) := by
  unfold pf_X0_demandsThatCount
  rw [b32_and, h.2.1.2.2.1, cnt_bits dm (by have := h.1.1.2.2.2.2.2.2.1; omega) d hd, b32_nm _ hd]
theorem out01 (h : RelN u v n vs r dm mn ot pk ver od L nd) {d : Nat} (hd : d < 12) : (!(b32 (x_leftOut u) d)) = decide (m_out v d = 0) := by
  rw [h.2.2.2.2.2.1 d hd]
  rcases (h.1.1.2.2.2.2.2.2.2.2.2.2 d hd).1 with e | e
  · rw [e]; decide
  · rw [e]; decide
theorem x_first (hfu : 200 ≤ fu) (h : RelN u v n vs r dm mn ot pk ver od L nd) (kept : Int32) {x : Int64} (hx : nonE x) : ∃ y, pf_X0_firstWithin fu x kept (0 : Int32) u = some y ∧ FWres 0 od (keyOf (x_locked u) nd od) (RSet u kept r dm) x y := by
  obtain ⟨y, e, hr⟩ := fw_ok hfu (xsrch h) kept 9 0 x rfl (by decide) hx (fun i hi => by omega)
  exact ⟨y, e, hr⟩
theorem SM_7 {p0 p1 : Int32} {c : Nat → Nat} (h : SM v n vs r dm mn ot pk ver p0 p1 c) : ch7 c ∧ (∀ p, p < n → vld (vs p) (c p)) ∧ ∀ p, n ≤ p → p < 8 → c p = 6 := ⟨h.1, h.2.1, h.2.2.1⟩
/-- both sides search all places, with the demands that are kept -/
theorem both_all (hfu : 400000000 ≤ fu) (h : RelN u v n vs r dm mn ot pk ver od L nd) {kept : Int32} (hk : ∀ d, d < dm → b32 kept d = (decide (m_out v d = 0) && decide (m_away v d = 0))) :
    ∃ y z o f g hh, pf_X0_firstWithin fu (x_places u) kept (0 : Int32) u = some y ∧ pf_X1_search fu (-1 : Int32) (-1 : Int32) v = some (z, mvs (mon v o (nI nd)) f g hh) ∧
      ((y = 0 ∧ z = 0) ∨ (y ≠ 0 ∧ z = 1 ∧ ∃ c, ch7 c ∧ sgl y c ∧ (∀ p, n ≤ p → p < 8 → c p = 6) ∧ ∀ p, p < n → f p = vlOf (c p))) := by
  obtain ⟨y, e1, r1⟩ := x_first (fu := fu) (by omega) h kept (nonE_places h)
  obtain ⟨z, o, f, g, hh, e2, r2⟩ := search_ok hfu h.1 (-1 : Int32) (-1 : Int32)
  have hiff := ok_iff h hk
  refine ⟨y, z, o, f, g, hh, e1, e2, ?_⟩
  rcases r1 with ⟨y0, no⟩ | ⟨c, c7, hs, hb⟩
  · rcases r2 with ⟨z0, -⟩ | ⟨-, c', hb', -⟩
    · exact Or.inl ⟨y0, z0⟩
    · exact absurd ((hiff c').mpr hb'.1) (no c')
  · rcases r2 with ⟨-, no⟩ | ⟨z1, c', hb', hf⟩
    · exact absurd ((hiff c).mp hb.1) (no c)
    · have hs0 := best_same h hiff (fun c hc => SM_7 hc) hb hb'
      have hn8 := h.1.1.2.1
      refine Or.inr ⟨fun h0 => ?_, z1, c, c7, hs, fun p p1 p2 => ?_, fun p hp => ?_⟩
      · have h5 := hs 0 (by decide) (c 0) (by have := c7 0 (by decide); omega)
        rw [h0, gb_0] at h5
        simp at h5
      · rw [hs0 p p2]; exact hb'.1.2.2.1 p p1 p2
      · rw [hs0 p (by omega)]; exact hf p hp
theorem x_given (h : RelN u v n vs r dm mn ot pk ver od L nd) {p b : Nat} (hp : p < n) (hb : b = 6 ∨ b < vs p) :
    ∀ q, q < 8 → ∀ a, a < 8 → gb (((x_places u) &&& ((pf_X0_allOf (nI p)) ^^^ (-1 : Int64))) ||| (pf_X0_placeOf (nI p) (vlOf b))) q a = if q = p then decide (a = b) else gb (x_places u) q a := by
  have hpl := h.2.2.1
  have hn8 := h.1.1.2.1
  have hv := (h.1.1.2.2.1 p (by omega)).2
  intro q hq a ha
  have hpo : gb (pf_X0_placeOf (nI p) (vlOf b)) q a = (decide (q = p) && decide (a = b)) := by
    rcases hb with hb | hb
    · subst hb
      rw [show vlOf 6 = (-1 : Int32) by decide, pf_X0_placeOf, if_pos rfl, gb_none p (by omega) q hq a ha]
    · have : vlOf b = nI b := by unfold vlOf; rw [if_pos (by omega)]
      rw [this, gb_plc p (by omega) b (by omega) q hq a ha]
  rw [gb_or, gb_and, gb_nm _ hq ha, gb_all p (by omega) q hq a ha, hpo]
  by_cases hqp : q = p
  · rw [if_pos hqp]
    rcases Nat.lt_or_ge a 7 with w | w
    · simp [hqp, w]
    · have ha7 : a = 7 := by omega
      rw [hpl q hq a ha, ha7]
      have h6 : ¬ 7 < vs q := by rw [hqp]; omega
      simp [hqp, h6]
      intro _ h7
      omega
  · rw [if_neg hqp]
    simp [hqp]
/-- both sides search with one package fixed -/
theorem both_fix (hfu : 400000000 ≤ fu) (h : RelN u v n vs r dm mn ot pk ver od L nd) {kept : Int32} (hk : ∀ d, d < dm → b32 kept d = (decide (m_out v d = 0) && decide (m_away v d = 0))) {p b : Nat} (hp : p < n) (hb : b = 6 ∨ b < vs p) :
    ∃ y z o f g hh, pf_X0_firstWithin fu (((x_places u) &&& ((pf_X0_allOf (nI p)) ^^^ (-1 : Int64))) ||| (pf_X0_placeOf (nI p) (vlOf b))) kept (0 : Int32) u = some y ∧ pf_X1_search fu (nI p) (vlOf b) v = some (z, mvs (mon v o (nI nd)) f g hh) ∧ ((y = 0 ∧ z = 0) ∨ (y ≠ 0 ∧ z = 1)) := by
  have hn8 := h.1.1.2.1
  have hv := (h.1.1.2.2.1 p (by omega)).2
  have hb7 : b < 7 := by omega
  have G := x_given h hp hb
  generalize (((x_places u) &&& ((pf_X0_allOf (nI p)) ^^^ (-1 : Int64))) ||| (pf_X0_placeOf (nI p) (vlOf b))) = gv at G ⊢
  have hpE := nonE_places h
  have hE : nonE gv := by
    refine ⟨fun q hq => ?_, fun q hq => ?_⟩
    · by_cases hqp : q = p
      · exact ⟨b, hb7, by rw [G q hq b (by omega), if_pos hqp]; simp⟩
      · obtain ⟨a, ha, h1⟩ := hpE.1 q hq
        exact ⟨a, ha, by rw [G q hq a (by omega), if_neg hqp]; exact h1⟩
    · rw [G q hq 7 (by decide)]
      split
      · simp; omega
      · exact hpE.2 q hq
  obtain ⟨y, e1, r1⟩ := x_first (fu := fu) (by omega) h kept hE
  obtain ⟨z, o, f, g, hh, e2, r2⟩ := search_ok hfu h.1 (nI p) (vlOf b)
  have hpl := h.2.2.1
  have hiff : ∀ c, OKx (RSet u kept r dm) gv c ↔ SM v n vs r dm mn ot pk ver (nI p) (vlOf b) c := by
    intro c
    rw [SM_fix hp hn8 hb7, ← ok_iff h hk]
    unfold OKx
    constructor
    · rintro ⟨h1, h2, h3⟩
      have h4 := h2 p (by omega)
      rw [G p (by omega) _ (by have := h1 p (by omega); omega), if_pos rfl] at h4
      have h5 := of_decide_eq_true h4
      refine ⟨⟨h1, fun q hq => ?_, h3⟩, h5⟩
      by_cases hqp : q = p
      · rw [hqp, h5, hpl p (by omega) b (by omega)]
        rcases hb with hb | hb
        · simp [hb]
        · simp [hb, hp]
      · have h6 := h2 q hq
        rw [G q hq _ (by have := h1 q hq; omega), if_neg hqp] at h6
        exact h6
    · rintro ⟨⟨h1, h2, h3⟩, h5⟩
      refine ⟨h1, fun q hq => ?_, h3⟩
      rw [G q hq _ (by have := h1 q hq; omega)]
      by_cases hqp : q = p
      · rw [if_pos hqp, hqp, h5]; simp
      · rw [if_neg hqp]; exact h2 q hq
  refine ⟨y, z, o, f, g, hh, e1, e2, ?_⟩
  rcases r1 with ⟨y0, no⟩ | ⟨c, c7, hs, hb1⟩
  · rcases r2 with ⟨z0, -⟩ | ⟨-, c', hb', -⟩
    · exact Or.inl ⟨y0, z0⟩
    · exact absurd ((hiff c').mpr hb'.1) (no c')
  · rcases r2 with ⟨-, no⟩ | ⟨z1, c', hb', hf⟩
    · exact absurd ((hiff c).mp hb1.1) (no c)
    · refine Or.inr ⟨fun h0 => ?_, z1⟩
      have h5 := hs 0 (by decide) (c 0) (by have := c7 0 (by decide); omega)
      rw [h0, gb_0] at h5
      simp at h5
theorem kept_ok (h : RelN u v n vs r dm mn ot pk ver od L nd) (hz : ∀ d, d < 12 → m_away v d = 0) : ∀ d, d < dm → b32 (pf_X0_demandsThatCount u) d = (decide (m_out v d = 0) && decide (m_away v d = 0)) := by
  intro d hd
  have hdm := h.1.1.2.2.2.2.2.2.1
  rw [dtc_bits h (by omega), out01 h (by omega), hz d (by omega)]
  simp [hd]
end ST
