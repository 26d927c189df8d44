/-! ONE CALL ON BOTH SIDES, 3: can, must, blame, blamed. -/
section CB
variable {fu : Nat} {u : XS} {v : MS}
def badP (n : Nat) (vs : Nat → Nat) (p w : Int32) : Prop := (p < 0 ∨ nI n ≤ p) ∨ ∃ q, q < n ∧ p = nI q ∧ w ≠ (-1 : Int32) ∧ (w < 0 ∨ nI (vs q) ≤ w)
theorem hasPlace_ok {n : Nat} {vs : Nat → Nat} (hn : n ≤ 8) (hu : x_packs u = nI n) (hvs : ∀ p, p < 8 → vs p ≤ 6) (hpl : ∀ p, p < 8 → ∀ b, b < 8 → gb (x_places u) p b = (decide (b = 6) || (decide (p < n) && decide (b < vs p)))) (p w : Int32) :
    (pf_X0_hasPlace fu p w u = some 1 ∧ ∃ q b, q < n ∧ (b = 6 ∨ b < vs q) ∧ p = nI q ∧ w = vlOf b) ∨ (pf_X0_hasPlace fu p w u = some 0 ∧ badP n vs p w) := by
  unfold pf_X0_hasPlace
  by_cases hw : w = (-1 : Int32)
  · rw [if_pos hw]
    rcases hasPack_ok hn hu p with ⟨e1, q, hq, rfl⟩ | ⟨e1, h1⟩
    · rw [e1]
      exact Or.inl ⟨by decide, q, 6, hq, Or.inl rfl, rfl, by rw [hw]; decide⟩
    · rw [e1]
      exact Or.inr ⟨by decide, Or.inl h1⟩
  · rw [if_neg hw]
    rcases hasVer_ok hn hu hvs hpl p w with ⟨e1, q, b, hq, hb, rfl, rfl⟩ | ⟨e1, h1⟩
    · rw [e1]
      refine Or.inl ⟨by decide, q, b, hq, Or.inr hb, rfl, ?_⟩
      have := hvs q (by omega)
      unfold vlOf
      rw [if_pos (by omega)]
    · rw [e1]
      refine Or.inr ⟨by decide, ?_⟩
      rcases h1 with h1 | ⟨q, hq, h2, h3⟩
      · exact Or.inl h1
      · exact Or.inr ⟨q, hq, h2, hw, h3⟩
theorem vl_m1 {b : Nat} (hb : b < 7) : vlOf b = (-1 : Int32) ↔ b = 6 := by
  revert b
  decide
/-- the reference's own test of a package and a place -/
theorem m_place {n : Nat} {vs : Nat → Nat} (hn : n ≤ 8) (hu : m_packages v = nI n) (hvs : ∀ p, p < 8 → m_versions v p = nI (vs p) ∧ vs p ≤ 6) (p w : Int32) {α : Type} (A B : Option α) :
    ((∃ q b, q < n ∧ (b = 6 ∨ b < vs q) ∧ p = nI q ∧ w = vlOf b) → (if pf_X1_isPackage p v = 0 then A else if w = (-1 : Int32) then B else ob (pf_X1_isVersion fu p w v) (fun q => if q = 0 then A else B)) = B) ∧
    (badP n vs p w → (if pf_X1_isPackage p v = 0 then A else if w = (-1 : Int32) then B else ob (pf_X1_isVersion fu p w v) (fun q => if q = 0 then A else B)) = A) := by
  have hM := isPackage_ok (v := v) hu p
  have hV := isVersion_ok (fu := fu) hn hu hvs p w
  constructor
  · rintro ⟨q, b, hq, hb, rfl, rfl⟩
    have hv := (hvs q (by omega)).2
    rw [hM.2 (in_pack hn hq), if_neg (by decide)]
    rcases hb with hb | hb
    · rw [if_pos ((vl_m1 (by omega)).mpr hb)]
    · rw [if_neg (fun h => by have := (vl_m1 (b := b) (by omega)).mp h; omega)]
      have hvb : vlOf b = nI b := by unfold vlOf; rw [if_pos (by omega)]
      rw [ob_s (hV.1 ⟨q, b, hq, hb, rfl, hvb⟩), if_neg (by decide)]
  · rintro (h | ⟨q, hq, rfl, h1, h2⟩)
    · rw [hM.1 h, if_pos rfl]
    · rw [hM.2 (in_pack hn hq), if_neg (by decide), if_neg h1, ob_s (hV.2 (Or.inr ⟨q, hq, rfl, h2⟩)), if_pos rfl]
theorem rel_code (h : Rel u v) : Rel u (ms_code v (0 : Int32)) := by
  obtain ⟨n, vs, r, dm, mn, ot, pk, ver, od, L, nd, hN, hL, hC, hB⟩ := h
  exact ⟨n, vs, r, dm, mn, ot, pk, ver, od, L, nd, RelN_to hN _ (by simp only [mvs_packages, mon_packages, rq_m_packages_away, rq_m_packages_code, rq_m_packages_chosen, rq_m_packages_blames, rq_m_packages_blamed]) (by simp only [mvs_versions, mon_versions, rq_m_versions_away, rq_m_versions_code, rq_m_versions_chosen, rq_m_versions_blames, rq_m_versions_blamed]) (by simp only [mvs_rows, mon_rows, rq_m_rows_away, rq_m_rows_code, rq_m_rows_chosen, rq_m_rows_blames, rq_m_rows_blamed]) (by simp only [mvs_demands, mon_demands, rq_m_demands_away, rq_m_demands_code, rq_m_demands_chosen, rq_m_demands_blames, rq_m_demands_blamed]) (by simp only [mvs_many, mon_many, rq_m_many_away, rq_m_many_code, rq_m_many_chosen, rq_m_many_blames, rq_m_many_blamed]) (by simp only [mvs_other, mon_other, rq_m_other_away, rq_m_other_code, rq_m_other_chosen, rq_m_other_blames, rq_m_other_blamed]) (by simp only [mvs_pack, mon_pack, rq_m_pack_away, rq_m_pack_code, rq_m_pack_chosen, rq_m_pack_blames, rq_m_pack_blamed]) (by simp only [mvs_version, mon_version, rq_m_version_away, rq_m_version_code, rq_m_version_chosen, rq_m_version_blames, rq_m_version_blamed]) (by simp only [mvs_kind, mon_kind, rq_m_kind_away, rq_m_kind_code, rq_m_kind_chosen, rq_m_kind_blames, rq_m_kind_blamed]) (by simp only [mvs_set, mon_set, rq_m_set_away, rq_m_set_code, rq_m_set_chosen, rq_m_set_blames, rq_m_set_blamed]) (by simp only [mvs_out, mon_out, rq_m_out_away, rq_m_out_code, rq_m_out_chosen, rq_m_out_blames, rq_m_out_blamed]) (by simp only [mvs_locks, mon_locks, rq_m_locks_away, rq_m_locks_code, rq_m_locks_chosen, rq_m_locks_blames, rq_m_locks_blamed]) (fun d hd => by simp only [mvs_away, mon_away, rq_m_away_chosen, rq_m_away_away, rq_m_away_code, rq_m_away_blames, rq_m_away_blamed]; exact (hN.1.1.2.2.2.2.2.2.2.2.2.2 d hd).2), RelL_to hL (by simp only [mvs_latest, mon_latest, rq_m_latest_away, rq_m_latest_code, rq_m_latest_chosen, rq_m_latest_blames, rq_m_latest_blamed]) (by simp only [mvs_kind, mon_kind, rq_m_kind_away, rq_m_kind_code, rq_m_kind_chosen, rq_m_kind_blames, rq_m_kind_blamed]) rfl rfl, RelC_to hC (by simp only [mvs_chosen, mon_chosen, rq_m_chosen_away, rq_m_chosen_code, rq_m_chosen_chosen, rq_m_chosen_blames, rq_m_chosen_blamed]) rfl, RelB_to hB (by simp only [mvs_blames, mon_blames, rq_m_blames_away, rq_m_blames_code, rq_m_blames_chosen, rq_m_blames_blames, rq_m_blames_blamed]) (by simp only [mvs_blamed, mon_blamed, rq_m_blamed_away, rq_m_blamed_code, rq_m_blamed_chosen, rq_m_blamed_blames, rq_m_blamed_blamed]) rfl⟩
theorem can_step (hfu : 400000000 ≤ fu) (h : Rel u v) (p w : Int32) : StepR u (pf_X0_can fu p w u) (pf_X1_can fu p w v) := by
  have hcode := rel_code h
  obtain ⟨n, vs, r, dm, mn, ot, pk, ver, od, L, nd, hN, hL, hC, hB⟩ := h
  have hn8 := hN.1.1.2.1
  have hvs := hN.1.1.2.2.1
  unfold pf_X0_can pf_X1_can
  rcases hasPlace_ok (fu := fu) hn8 hN.2.1.1 (fun p hp => (hvs p hp).2) hN.2.2.1 p w with ⟨e1, q, b, hq, hb, rfl, rfl⟩ | ⟨e1, hbad⟩
  · rw [ob_s e1, if_neg (by decide)]
    rw [(m_place (fu := fu) (v := ms_code v (0 : Int32)) hn8 hN.1.1.1 hvs (nI q) (vlOf b) (some ((0 : Int32), ms_code v (0 : Int32))) (ob (pf_X1_none fu (ms_code v (0 : Int32))) (fun q_4 => (ob (pf_X1_search fu (nI q) (vlOf b) q_4) (fun q_5 => (og (bz q_5.1) (some (q_5.1, q_5.2)))))))).1 ⟨q, b, hq, hb, rfl, rfl⟩]
    obtain ⟨fa, e0, hfa⟩ := none_ok (fu := fu) (by omega) (ms_code v (0 : Int32))
    have hN1 : RelN u (ms_away (ms_code v (0 : Int32)) fa) n vs r dm mn ot pk ver od L nd := RelN_to hN _ (by simp only [mvs_packages, mon_packages, rq_m_packages_away, rq_m_packages_code, rq_m_packages_chosen, rq_m_packages_blames, rq_m_packages_blamed]) (by simp only [mvs_versions, mon_versions, rq_m_versions_away, rq_m_versions_code, rq_m_versions_chosen, rq_m_versions_blames, rq_m_versions_blamed]) (by simp only [mvs_rows, mon_rows, rq_m_rows_away, rq_m_rows_code, rq_m_rows_chosen, rq_m_rows_blames, rq_m_rows_blamed]) (by simp only [mvs_demands, mon_demands, rq_m_demands_away, rq_m_demands_code, rq_m_demands_chosen, rq_m_demands_blames, rq_m_demands_blamed]) (by simp only [mvs_many, mon_many, rq_m_many_away, rq_m_many_code, rq_m_many_chosen, rq_m_many_blames, rq_m_many_blamed]) (by simp only [mvs_other, mon_other, rq_m_other_away, rq_m_other_code, rq_m_other_chosen, rq_m_other_blames, rq_m_other_blamed]) (by simp only [mvs_pack, mon_pack, rq_m_pack_away, rq_m_pack_code, rq_m_pack_chosen, rq_m_pack_blames, rq_m_pack_blamed]) (by simp only [mvs_version, mon_version, rq_m_version_away, rq_m_version_code, rq_m_version_chosen, rq_m_version_blames, rq_m_version_blamed]) (by simp only [mvs_kind, mon_kind, rq_m_kind_away, rq_m_kind_code, rq_m_kind_chosen, rq_m_kind_blames, rq_m_kind_blamed]) (by simp only [mvs_set, mon_set, rq_m_set_away, rq_m_set_code, rq_m_set_chosen, rq_m_set_blames, rq_m_set_blamed]) (by simp only [mvs_out, mon_out, rq_m_out_away, rq_m_out_code, rq_m_out_chosen, rq_m_out_blames, rq_m_out_blamed]) (by simp only [mvs_locks, mon_locks, rq_m_locks_away, rq_m_locks_code, rq_m_locks_chosen, rq_m_locks_blames, rq_m_locks_blamed]) (fun d hd => by simp only [mvs_away, mon_away, rq_m_away_chosen, rq_m_away_away, rq_m_away_code, rq_m_away_blames, rq_m_away_blamed]; exact Or.inl (hfa d hd))
    obtain ⟨y, z, o, f, g, hh, e2, e3, hr⟩ := both_fix hfu hN1 (kept_ok hN1 (fun d hd => by simp only [mvs_away, mon_away, rq_m_away_chosen, rq_m_away_away, rq_m_away_code, rq_m_away_blames, rq_m_away_blamed]; exact hfa d hd)) hq hb
    unfold pf_X0_someRightGives
    rw [ob_s e0, ob_s e3, ob_s e2]
    have hRel : Rel u (mvs (mon (ms_away (ms_code v (0 : Int32)) fa) o (nI nd)) f g hh) :=
      ⟨n, vs, r, dm, mn, ot, pk, ver, od, L, nd, RelN_to hN1 _ (by simp only [mvs_packages, mon_packages, rq_m_packages_away, rq_m_packages_code, rq_m_packages_chosen, rq_m_packages_blames, rq_m_packages_blamed]) (by simp only [mvs_versions, mon_versions, rq_m_versions_away, rq_m_versions_code, rq_m_versions_chosen, rq_m_versions_blames, rq_m_versions_blamed]) (by simp only [mvs_rows, mon_rows, rq_m_rows_away, rq_m_rows_code, rq_m_rows_chosen, rq_m_rows_blames, rq_m_rows_blamed]) (by simp only [mvs_demands, mon_demands, rq_m_demands_away, rq_m_demands_code, rq_m_demands_chosen, rq_m_demands_blames, rq_m_demands_blamed]) (by simp only [mvs_many, mon_many, rq_m_many_away, rq_m_many_code, rq_m_many_chosen, rq_m_many_blames, rq_m_many_blamed]) (by simp only [mvs_other, mon_other, rq_m_other_away, rq_m_other_code, rq_m_other_chosen, rq_m_other_blames, rq_m_other_blamed]) (by simp only [mvs_pack, mon_pack, rq_m_pack_away, rq_m_pack_code, rq_m_pack_chosen, rq_m_pack_blames, rq_m_pack_blamed]) (by simp only [mvs_version, mon_version, rq_m_version_away, rq_m_version_code, rq_m_version_chosen, rq_m_version_blames, rq_m_version_blamed]) (by simp only [mvs_kind, mon_kind, rq_m_kind_away, rq_m_kind_code, rq_m_kind_chosen, rq_m_kind_blames, rq_m_kind_blamed]) (by simp only [mvs_set, mon_set, rq_m_set_away, rq_m_set_code, rq_m_set_chosen, rq_m_set_blames, rq_m_set_blamed]) (by simp only [mvs_out, mon_out, rq_m_out_away, rq_m_out_code, rq_m_out_chosen, rq_m_out_blames, rq_m_out_blamed]) (by simp only [mvs_locks, mon_locks, rq_m_locks_away, rq_m_locks_code, rq_m_locks_chosen, rq_m_locks_blames, rq_m_locks_blamed]) (fun d hd => by simp only [mvs_away, mon_away, rq_m_away_chosen, rq_m_away_away, rq_m_away_code, rq_m_away_blames, rq_m_away_blamed]; exact Or.inl (hfa d hd)), RelL_to hL (by simp only [mvs_latest, mon_latest, rq_m_latest_away, rq_m_latest_code, rq_m_latest_chosen, rq_m_latest_blames, rq_m_latest_blamed]) (by simp only [mvs_kind, mon_kind, rq_m_kind_away, rq_m_kind_code, rq_m_kind_chosen, rq_m_kind_blames, rq_m_kind_blamed]) rfl rfl, RelC_to hC (by simp only [mvs_chosen, mon_chosen, rq_m_chosen_away, rq_m_chosen_code, rq_m_chosen_chosen, rq_m_chosen_blames, rq_m_chosen_blamed]) rfl, RelB_to hB (by simp only [mvs_blames, mon_blames, rq_m_blames_away, rq_m_blames_code, rq_m_blames_chosen, rq_m_blames_blames, rq_m_blames_blamed]) (by simp only [mvs_blamed, mon_blamed, rq_m_blamed_away, rq_m_blamed_code, rq_m_blamed_chosen, rq_m_blamed_blames, rq_m_blamed_blamed]) rfl⟩
    rcases hr with ⟨y0, z0⟩ | ⟨y0, z1⟩
    · rw [if_pos y0]
      subst z0
      exact ⟨0, _, by rw [ob, if_pos rfl], rfl, hRel⟩
    · rw [if_neg y0]
      subst z1
      exact ⟨1, _, by rw [ob, if_neg (by decide)], rfl, hRel⟩
  · rw [ob_s e1, if_pos rfl]
    rw [(m_place (fu := fu) (v := ms_code v (0 : Int32)) hn8 hN.1.1.1 hvs p w (some ((0 : Int32), ms_code v (0 : Int32))) (ob (pf_X1_none fu (ms_code v (0 : Int32))) (fun q_4 => (ob (pf_X1_search fu p w q_4) (fun q_5 => (og (bz q_5.1) (some (q_5.1, q_5.2)))))))).2 hbad]
    exact ⟨0, _, rfl, rfl, hcode⟩
theorem must_step (hfu : 400000000 ≤ fu) (h : Rel u v) (p : Int32) : StepR u (pf_X0_must fu p u) (pf_X1_must fu p v) := by
  have hcode := rel_code h
  obtain ⟨n, vs, r, dm, mn, ot, pk, ver, od, L, nd, hN, hL, hC, hB⟩ := h
  have hn8 := hN.1.1.2.1
  unfold pf_X0_must pf_X1_must
  have hM := isPackage_ok (v := ms_code v (0 : Int32)) hN.1.1.1 p
  rcases hasPack_ok hn8 hN.2.1.1 p with ⟨e1, q, hq, rfl⟩ | ⟨e1, h1⟩
  · rw [e1, if_neg (by decide), hM.2 (in_pack hn8 hq), if_neg (by decide)]
    obtain ⟨fa, e0, hfa⟩ := none_ok (fu := fu) (by omega) (ms_code v (0 : Int32))
    have hN1 : RelN u (ms_away (ms_code v (0 : Int32)) fa) n vs r dm mn ot pk ver od L nd := RelN_to hN _ (by simp only [mvs_packages, mon_packages, rq_m_packages_away, rq_m_packages_code, rq_m_packages_chosen, rq_m_packages_blames, rq_m_packages_blamed]) (by simp only [mvs_versions, mon_versions, rq_m_versions_away, rq_m_versions_code, rq_m_versions_chosen, rq_m_versions_blames, rq_m_versions_blamed]) (by simp only [mvs_rows, mon_rows, rq_m_rows_away, rq_m_rows_code, rq_m_rows_chosen, rq_m_rows_blames, rq_m_rows_blamed]) (by simp only [mvs_demands, mon_demands, rq_m_demands_away, rq_m_demands_code, rq_m_demands_chosen, rq_m_demands_blames, rq_m_demands_blamed]) (by simp only [mvs_many, mon_many, rq_m_many_away, rq_m_many_code, rq_m_many_chosen, rq_m_many_blames, rq_m_many_blamed]) (by simp only [mvs_other, mon_other, rq_m_other_away, rq_m_other_code, rq_m_other_chosen, rq_m_other_blames, rq_m_other_blamed]) (by simp only [mvs_pack, mon_pack, rq_m_pack_away, rq_m_pack_code, rq_m_pack_chosen, rq_m_pack_blames, rq_m_pack_blamed]) (by simp only [mvs_version, mon_version, rq_m_version_away, rq_m_version_code, rq_m_version_chosen, rq_m_version_blames, rq_m_version_blamed]) (by simp only [mvs_kind, mon_kind, rq_m_kind_away, rq_m_kind_code, rq_m_kind_chosen, rq_m_kind_blames, rq_m_kind_blamed]) (by simp only [mvs_set, mon_set, rq_m_set_away, rq_m_set_code, rq_m_set_chosen, rq_m_set_blames, rq_m_set_blamed]) (by simp only [mvs_out, mon_out, rq_m_out_away, rq_m_out_code, rq_m_out_chosen, rq_m_out_blames, rq_m_out_blamed]) (by simp only [mvs_locks, mon_locks, rq_m_locks_away, rq_m_locks_code, rq_m_locks_chosen, rq_m_locks_blames, rq_m_locks_blamed]) (fun d hd => by simp only [mvs_away, mon_away, rq_m_away_chosen, rq_m_away_away, rq_m_away_code, rq_m_away_blames, rq_m_away_blamed]; exact Or.inl (hfa d hd))
    obtain ⟨y, z, o, f, g, hh, e2, e3, hr⟩ := both_fix hfu hN1 (kept_ok hN1 (fun d hd => by simp only [mvs_away, mon_away, rq_m_away_chosen, rq_m_away_away, rq_m_away_code, rq_m_away_blames, rq_m_away_blamed]; exact hfa d hd)) (b := 6) hq (Or.inl rfl)
    rw [show vlOf 6 = (-1 : Int32) by decide] at e2 e3
    unfold pf_X0_someRightGives
    rw [ob_s e0, ob_s e3, ob_s e2]
    have hRel : Rel u (mvs (mon (ms_away (ms_code v (0 : Int32)) fa) o (nI nd)) f g hh) :=
      ⟨n, vs, r, dm, mn, ot, pk, ver, od, L, nd, RelN_to hN1 _ (by simp only [mvs_packages, mon_packages, rq_m_packages_away, rq_m_packages_code, rq_m_packages_chosen, rq_m_packages_blames, rq_m_packages_blamed]) (by simp only [mvs_versions, mon_versions, rq_m_versions_away, rq_m_versions_code, rq_m_versions_chosen, rq_m_versions_blames, rq_m_versions_blamed]) (by simp only [mvs_rows, mon_rows, rq_m_rows_away, rq_m_rows_code, rq_m_rows_chosen, rq_m_rows_blames, rq_m_rows_blamed]) (by simp only [mvs_demands, mon_demands, rq_m_demands_away, rq_m_demands_code, rq_m_demands_chosen, rq_m_demands_blames, rq_m_demands_blamed]) (by simp only [mvs_many, mon_many, rq_m_many_away, rq_m_many_code, rq_m_many_chosen, rq_m_many_blames, rq_m_many_blamed]) (by simp only [mvs_other, mon_other, rq_m_other_away, rq_m_other_code, rq_m_other_chosen, rq_m_other_blames, rq_m_other_blamed]) (by simp only [mvs_pack, mon_pack, rq_m_pack_away, rq_m_pack_code, rq_m_pack_chosen, rq_m_pack_blames, rq_m_pack_blamed]) (by simp only [mvs_version, mon_version, rq_m_version_away, rq_m_version_code, rq_m_version_chosen, rq_m_version_blames, rq_m_version_blamed]) (by simp only [mvs_kind, mon_kind, rq_m_kind_away, rq_m_kind_code, rq_m_kind_chosen, rq_m_kind_blames, rq_m_kind_blamed]) (by simp only [mvs_set, mon_set, rq_m_set_away, rq_m_set_code, rq_m_set_chosen, rq_m_set_blames, rq_m_set_blamed]) (by simp only [mvs_out, mon_out, rq_m_out_away, rq_m_out_code, rq_m_out_chosen, rq_m_out_blames, rq_m_out_blamed]) (by simp only [mvs_locks, mon_locks, rq_m_locks_away, rq_m_locks_code, rq_m_locks_chosen, rq_m_locks_blames, rq_m_locks_blamed]) (fun d hd => by simp only [mvs_away, mon_away, rq_m_away_chosen, rq_m_away_away, rq_m_away_code, rq_m_away_blames, rq_m_away_blamed]; exact Or.inl (hfa d hd)), RelL_to hL (by simp only [mvs_latest, mon_latest, rq_m_latest_away, rq_m_latest_code, rq_m_latest_chosen, rq_m_latest_blames, rq_m_latest_blamed]) (by simp only [mvs_kind, mon_kind, rq_m_kind_away, rq_m_kind_code, rq_m_kind_chosen, rq_m_kind_blames, rq_m_kind_blamed]) rfl rfl, RelC_to hC (by simp only [mvs_chosen, mon_chosen, rq_m_chosen_away, rq_m_chosen_code, rq_m_chosen_chosen, rq_m_chosen_blames, rq_m_chosen_blamed]) rfl, RelB_to hB (by simp only [mvs_blames, mon_blames, rq_m_blames_away, rq_m_blames_code, rq_m_blames_chosen, rq_m_blames_blames, rq_m_blames_blamed]) (by simp only [mvs_blamed, mon_blamed, rq_m_blamed_away, rq_m_blamed_code, rq_m_blamed_chosen, rq_m_blamed_blames, rq_m_blamed_blamed]) rfl⟩
    rcases hr with ⟨y0, z0⟩ | ⟨y0, z1⟩
    · rw [if_pos y0]
      subst z0
      exact ⟨1, _, by rw [ob, if_pos rfl], by rw [if_pos rfl], hRel⟩
    · rw [if_neg y0]
      subst z1
      exact ⟨0, _, by rw [ob, if_neg (by decide)], if_neg (show ¬ (1 : Int32) = 0 by decide), hRel⟩
  · rw [e1, if_pos rfl, hM.1 h1, if_pos rfl]
    exact ⟨0, _, rfl, rfl, hcode⟩
/-- how many of the first m bits are set -/
def cnt (x : Int32) : Nat → Nat
  | 0 => 0
  | m + 1 => cnt x m + (if b32 x m = true then 1 else 0)
theorem cnt_congr {x y : Int32} : ∀ m, (∀ i, i < m → b32 x i = b32 y i) → cnt x m = cnt y m := by
  intro m
  induction m with
  | zero => intro _; rfl
  | succ m ih => intro h; rw [cnt, cnt, ih (fun i hi => h i (by omega)), h m (by omega)]
theorem cnt_le (x : Int32) : ∀ m, cnt x m ≤ m := by
  intro m
  induction m with
  | zero => exact Nat.le_refl 0
  | succ m ih => rw [cnt]; split <;> omega
theorem cnt_zero {x : Int32} : ∀ k m, m ≤ k → (∀ i, m ≤ i → i < k → b32 x i = false) → cnt x k = cnt x m := by
  intro k
  induction k with
  | zero => intro m h _; rw [show m = 0 by omega]
  | succ k ih =>
    intro m h h2
    rcases Nat.lt_or_ge m (k + 1) with w | w
    · rw [cnt, h2 k (by omega) (by omega), ih m (by omega) (fun i a b => h2 i a (by omega))]
      rfl
    · rw [show m = k + 1 by omega]
theorem bc12a : ∀ a, a < 64 → ∀ b, b < 64 → pf_J6_bitCount (nI (64 * a + b)) = nI (cnt (nI (64 * a + b)) 12) := by decide +kernel
theorem bc12 (k : Nat) (h : k < 4096) : pf_J6_bitCount (nI k) = nI (cnt (nI k) 12) := by
  have := bc12a (k / 64) (by omega) (k % 64) (by omega)
  rw [show 64 * (k / 64) + k % 64 = k by omega] at this
  exact this
theorem small12 {x : Int32} (h : ∀ i, 12 ≤ i → i < 32 → b32 x i = false) : ∃ k, k < 4096 ∧ x = nI k := by
  obtain ⟨k, hk, e⟩ := pk_andE x (m := 4095) 12 (by decide)
  refine ⟨k, hk, ?_⟩
  rw [← e]
  apply b32_ext
  intro i hi
  rw [b32_and]
  have h4 : ∀ i, i < 32 → b32 4095 i = decide (i < 12) := by decide
  rw [h4 i hi]
  rcases Nat.lt_or_ge i 12 with w | w
  · simp [w]
  · rw [h i w hi]; simp
theorem bc_ok {x : Int32} (h : ∀ i, 12 ≤ i → i < 32 → b32 x i = false) : pf_J6_bitCount x = nI (cnt x 12) := by
  obtain ⟨k, hk, rfl⟩ := small12 h
  exact bc12 k hk
/-- what holds in the loop of blame() at demand d -/
def BL (dm d : Nat) (v : MS) (kept : Int32) (bl : Nat) (bd : Nat → Nat) : Prop :=
  (∀ e, e < dm → b32 kept e = (decide (m_out v e = 0) && decide (m_away v e = 0))) ∧ (∀ e, dm ≤ e → e < 32 → b32 kept e = false) ∧ (∀ e, e < 12 → m_away v e = 0 ∨ m_away v e = 1) ∧ (∀ e, d ≤ e → e < 12 → m_away v e = 0) ∧
  bl = cnt kept d ∧ m_blames v = nI bl ∧ (∀ i, i < bl → m_blamed v i = nI (bd i) ∧ bd i < d) ∧ (∀ i j, i < j → j < bl → bd i < bd j) ∧ ∀ e, e < d → (b32 kept e = true ↔ ∃ i, i < bl ∧ bd i = e)
theorem blame_loop (hfu : 400000000 ≤ fu) {n : Nat} {vs : Nat → Nat} {r dm : Nat} {mn ot pk ver od L : Nat → Nat} {nd : Nat} :
    ∀ (m1 m2 d : Nat) (w : XS) (v : MS) (kept : Int32) (bl : Nat) (bd : Nat → Nat), d ≤ dm → dm < d + m1 → dm < d + m2 → RelN (xs_toBlame w (0 : Int32)) v n vs r dm mn ot pk ver od L nd → RelC w v → RelL w v r dm mn → BL dm d v kept bl bd →
      ∀ (K1 : Int32 → Int32 → Option (Int32 × XS)) (K2 : Int32 → MS → Option (Int32 × MS)), ∃ j1 j2 kept' v' bl' bd', pl_X0_blame_22 fu w K1 m1 (nI d) kept = K1 j1 kept' ∧ pl_X1_blame_27 fu K2 m2 (nI d) v = K2 j2 v' ∧
        RelN (xs_toBlame w (0 : Int32)) v' n vs r dm mn ot pk ver od L nd ∧ RelC w v' ∧ RelL w v' r dm mn ∧ BL dm dm v' kept' bl' bd' := by
  intro m1
  induction m1 with
  | zero => intro m2 d w v kept bl bd h1 h2; exact absurd h2 (by omega)
  | succ m1 ih =>
    intro m2 d w v kept bl bd h1 h2 h3 hN hC hL hBL K1 K2
    have hdm := hN.1.1.2.2.2.2.2.2.1
    have hde := hN.1.1.2.2.2.2.2.1
    cases m2 with
    | zero => exact absurd h3 (by omega)
    | succ m2 =>
      rw [pl_X0_blame_22, pl_X1_blame_27, show x_demands w = nI dm from hN.2.1.2.2.1, hde]
      rcases Nat.lt_or_ge d dm with q | q
      · rw [if_neg (nI_ge q (by omega)), if_neg (nI_ge q (by omega)), og_t (inb_nI (show d < 12 by omega) (by decide)), nI_clamp (by omega), nI_1]
        obtain ⟨k1, k2, k3, k4, k5, k6, k7, k8, k9⟩ := id hBL
        have had := k4 d (Nat.le_refl d) (by omega)
        have hkd := k1 d q
        rw [had] at hkd
        have wb : ∀ e, e < 32 → b32 (kept &&& (((1 : Int32) <<< (nI d &&& 31)) ^^^ (-1 : Int32))) e = (b32 kept e && !decide (d = e)) := fun e he => by
          rw [b32_and, b32_nm _ he, b32_one (by omega)]
        by_cases ho : m_out v d = 0
        · have hkd2 : b32 kept d = true := by rw [hkd, ho]; decide
          have hne : ¬ (kept &&& (((1 : Int32) <<< (nI d &&& 31)) ^^^ (-1 : Int32))) = kept := fun h => by
            have h5 := wb d (by omega)
            rw [h, hkd2] at h5
            simp at h5
          rw [if_neg hne, if_pos ho, og_t (inb_nI (show d < 12 by omega) (by decide)), nar1, nar0]
          -- search without d
          have hN2 : RelN (xs_toBlame w (0 : Int32)) (ms_away v (upd (m_away v) d 1)) n vs r dm mn ot pk ver od L nd := RelN_to hN _ (by simp only [mvs_packages, mon_packages, rq_m_packages_away, rq_m_packages_code, rq_m_packages_chosen, rq_m_packages_blames, rq_m_packages_blamed]) (by simp only [mvs_versions, mon_versions, rq_m_versions_away, rq_m_versions_code, rq_m_versions_chosen, rq_m_versions_blames, rq_m_versions_blamed]) (by simp only [mvs_rows, mon_rows, rq_m_rows_away, rq_m_rows_code, rq_m_rows_chosen, rq_m_rows_blames, rq_m_rows_blamed]) (by simp only [mvs_demands, mon_demands, rq_m_demands_away, rq_m_demands_code, rq_m_demands_chosen, rq_m_demands_blames, rq_m_demands_blamed]) (by simp only [mvs_many, mon_many, rq_m_many_away, rq_m_many_code, rq_m_many_chosen, rq_m_many_blames, rq_m_many_blamed]) (by simp only [mvs_other, mon_other, rq_m_other_away, rq_m_other_code, rq_m_other_chosen, rq_m_other_blames, rq_m_other_blamed]) (by simp only [mvs_pack, mon_pack, rq_m_pack_away, rq_m_pack_code, rq_m_pack_chosen, rq_m_pack_blames, rq_m_pack_blamed]) (by simp only [mvs_version, mon_version, rq_m_version_away, rq_m_version_code, rq_m_version_chosen, rq_m_version_blames, rq_m_version_blamed]) (by simp only [mvs_kind, mon_kind, rq_m_kind_away, rq_m_kind_code, rq_m_kind_chosen, rq_m_kind_blames, rq_m_kind_blamed]) (by simp only [mvs_set, mon_set, rq_m_set_away, rq_m_set_code, rq_m_set_chosen, rq_m_set_blames, rq_m_set_blamed]) (by simp only [mvs_out, mon_out, rq_m_out_away, rq_m_out_code, rq_m_out_chosen, rq_m_out_blames, rq_m_out_blamed]) (by simp only [mvs_locks, mon_locks, rq_m_locks_away, rq_m_locks_code, rq_m_locks_chosen, rq_m_locks_blames, rq_m_locks_blamed]) (fun e he => by
            simp only [mvs_away, mon_away, rq_m_away_chosen, rq_m_away_away, rq_m_away_code, rq_m_away_blames, rq_m_away_blamed]
            by_cases hed : e = d
            · rw [hed, pk_us]; exact Or.inr rfl
            · rw [pk_un hed]; exact k3 e he)
          have hk2' : ∀ e, e < dm → b32 (kept &&& (((1 : Int32) <<< (nI d &&& 31)) ^^^ (-1 : Int32))) e = (decide (m_out v e = 0) && decide (upd (m_away v) d 1 e = 0)) := fun e he => by
            rw [wb e (by omega), k1 e he]
            by_cases hed : e = d
            · rw [hed, pk_us]; simp
            · rw [pk_un hed]
              have : ¬ d = e := fun h => hed h.symm
              simp [this]
          obtain ⟨y, z, o, f, g, hh, e1, e2, hr⟩ := both_all hfu hN2 (fun e he => by rw [rq_m_out_away, rq_m_away_away]; exact hk2' e he)
          have hN3 := RelN_to hN2 (mvs (mon (ms_away v (upd (m_away v) d 1)) o (nI nd)) f g hh) (by simp only [mvs_packages, mon_packages, rq_m_packages_away, rq_m_packages_code, rq_m_packages_chosen, rq_m_packages_blames, rq_m_packages_blamed]) (by simp only [mvs_versions, mon_versions, rq_m_versions_away, rq_m_versions_code, rq_m_versions_chosen, rq_m_versions_blames, rq_m_versions_blamed]) (by simp only [mvs_rows, mon_rows, rq_m_rows_away, rq_m_rows_code, rq_m_rows_chosen, rq_m_rows_blames, rq_m_rows_blamed]) (by simp only [mvs_demands, mon_demands, rq_m_demands_away, rq_m_demands_code, rq_m_demands_chosen, rq_m_demands_blames, rq_m_demands_blamed]) (by simp only [mvs_many, mon_many, rq_m_many_away, rq_m_many_code, rq_m_many_chosen, rq_m_many_blames, rq_m_many_blamed]) (by simp only [mvs_other, mon_other, rq_m_other_away, rq_m_other_code, rq_m_other_chosen, rq_m_other_blames, rq_m_other_blamed]) (by simp only [mvs_pack, mon_pack, rq_m_pack_away, rq_m_pack_code, rq_m_pack_chosen, rq_m_pack_blames, rq_m_pack_blamed]) (by simp only [mvs_version, mon_version, rq_m_version_away, rq_m_version_code, rq_m_version_chosen, rq_m_version_blames, rq_m_version_blamed]) (by simp only [mvs_kind, mon_kind, rq_m_kind_away, rq_m_kind_code, rq_m_kind_chosen, rq_m_kind_blames, rq_m_kind_blamed]) (by simp only [mvs_set, mon_set, rq_m_set_away, rq_m_set_code, rq_m_set_chosen, rq_m_set_blames, rq_m_set_blamed]) (by simp only [mvs_out, mon_out, rq_m_out_away, rq_m_out_code, rq_m_out_chosen, rq_m_out_blames, rq_m_out_blamed]) (by simp only [mvs_locks, mon_locks, rq_m_locks_away, rq_m_locks_code, rq_m_locks_chosen, rq_m_locks_blames, rq_m_locks_blamed]) (fun e he => by
            simp only [mvs_away, mon_away, rq_m_away_chosen, rq_m_away_away, rq_m_away_code, rq_m_away_blames, rq_m_away_blamed]
            by_cases hed : e = d
            · rw [hed, pk_us]; exact Or.inr rfl
            · rw [pk_un hed]; exact k3 e he)
          have hL3 : RelL w (mvs (mon (ms_away v (upd (m_away v) d 1)) o (nI nd)) f g hh) r dm mn := RelL_to hL (by simp only [mvs_latest, mon_latest, rq_m_latest_away, rq_m_latest_code, rq_m_latest_chosen, rq_m_latest_blames, rq_m_latest_blamed]) (by simp only [mvs_kind, mon_kind, rq_m_kind_away, rq_m_kind_code, rq_m_kind_chosen, rq_m_kind_blames, rq_m_kind_blamed]) rfl rfl
          have hC3 : RelC w (mvs (mon (ms_away v (upd (m_away v) d 1)) o (nI nd)) f g hh) := RelC_to hC (by simp only [mvs_chosen, mon_chosen, rq_m_chosen_away, rq_m_chosen_code, rq_m_chosen_chosen, rq_m_chosen_blames, rq_m_chosen_blamed]) rfl
          have q1 : m_out (mvs (mon (ms_away v (upd (m_away v) d 1)) o (nI nd)) f g hh) = m_out v := by simp only [mvs_out, mon_out, rq_m_out_away]
          have q2 : m_away (mvs (mon (ms_away v (upd (m_away v) d 1)) o (nI nd)) f g hh) = upd (m_away v) d 1 := by simp only [mvs_away, mon_away, rq_m_away_away]
          have q3 : m_blames (mvs (mon (ms_away v (upd (m_away v) d 1)) o (nI nd)) f g hh) = m_blames v := by simp only [mvs_blames, mon_blames, rq_m_blames_away]
          have q4 : m_blamed (mvs (mon (ms_away v (upd (m_away v) d 1)) o (nI nd)) f g hh) = m_blamed v := by simp only [mvs_blamed, mon_blamed, rq_m_blamed_away]
          generalize mvs (mon (ms_away v (upd (m_away v) d 1)) o (nI nd)) f g hh = w2 at e2 hN3 hL3 hC3 q1 q2 q3 q4
          unfold pf_X0_someRightKeeps
          rw [ob_s e1, ob_s e2]
          rcases hr with ⟨y0, z0⟩ | ⟨y0, z1, -⟩
          · rw [if_pos y0]
            subst z0
            rw [ob, if_pos rfl]
            dsimp only
            rw [if_pos rfl]
            refine ih m2 (d + 1) w w2 (kept &&& (((1 : Int32) <<< (nI d &&& 31)) ^^^ (-1 : Int32))) bl bd (by omega) (by omega) (by omega) hN3 hC3 hL3 ⟨fun e he => by rw [q1, q2]; exact hk2' e he, fun e e1 e2 => by rw [wb e e2, k2 e e1 e2]; rfl, fun e he => ?_, fun e e1 e2 => ?_, ?_, by rw [q3]; exact k6, fun i hi => ⟨by rw [q4]; exact (k7 i hi).1, by have := (k7 i hi).2; omega⟩, k8, fun e he => ?_⟩ K1 K2
            · rw [q2]
              by_cases hed : e = d
              · rw [hed, pk_us]; exact Or.inr rfl
              · rw [pk_un hed]; exact k3 e he
            · rw [q2, pk_un (by omega)]; exact k4 e (by omega) e2
            · rw [cnt, wb d (by omega), cnt_congr (y := kept) d (fun i hi => by
                rw [wb i (by omega)]
                have : ¬ d = i := by omega
                simp [this])]
              simp [k5]
            · rw [wb e (by omega)]
              rcases Nat.lt_or_ge e d with x | x
              · have : ¬ d = e := by omega
                simp only [this, decide_false, Bool.not_false, Bool.and_true]
                exact k9 e x
              · rw [show e = d by omega]
                simp
                intro i hi h6
                have := (k7 i hi).2
                omega
          · rw [if_neg y0]
            subst z1
            rw [ob, if_neg (by decide)]
            dsimp only
            rw [if_neg (by decide)]
            have hbl12 : bl < 12 := by
              have := cnt_le kept d
              omega
            rw [og_t (inb_nI (show d < 12 by omega) (by decide)), q3, k6, og_t (inb_nI hbl12 (by decide)), nI_clamp (by omega), nI_1, q2, q4]
            have haw : ∀ e, upd (upd (m_away v) d 1) d 0 e = m_away v e := fun e => by
              by_cases hed : e = d
              · rw [hed, pk_us, had]
              · rw [pk_un hed, pk_un hed]
            have hN4 := RelN_to hN3 (ms_blames (ms_blamed (ms_away w2 (upd (upd (m_away v) d 1) d 0)) (upd (m_blamed v) bl (nI d))) (nI (bl + 1))) (by simp only [mvs_packages, mon_packages, rq_m_packages_away, rq_m_packages_code, rq_m_packages_chosen, rq_m_packages_blames, rq_m_packages_blamed]) (by simp only [mvs_versions, mon_versions, rq_m_versions_away, rq_m_versions_code, rq_m_versions_chosen, rq_m_versions_blames, rq_m_versions_blamed]) (by simp only [mvs_rows, mon_rows, rq_m_rows_away, rq_m_rows_code, rq_m_rows_chosen, rq_m_rows_blames, rq_m_rows_blamed]) (by simp only [mvs_demands, mon_demands, rq_m_demands_away, rq_m_demands_code, rq_m_demands_chosen, rq_m_demands_blames, rq_m_demands_blamed]) (by simp only [mvs_many, mon_many, rq_m_many_away, rq_m_many_code, rq_m_many_chosen, rq_m_many_blames, rq_m_many_blamed]) (by simp only [mvs_other, mon_other, rq_m_other_away, rq_m_other_code, rq_m_other_chosen, rq_m_other_blames, rq_m_other_blamed]) (by simp only [mvs_pack, mon_pack, rq_m_pack_away, rq_m_pack_code, rq_m_pack_chosen, rq_m_pack_blames, rq_m_pack_blamed]) (by simp only [mvs_version, mon_version, rq_m_version_away, rq_m_version_code, rq_m_version_chosen, rq_m_version_blames, rq_m_version_blamed]) (by simp only [mvs_kind, mon_kind, rq_m_kind_away, rq_m_kind_code, rq_m_kind_chosen, rq_m_kind_blames, rq_m_kind_blamed]) (by simp only [mvs_set, mon_set, rq_m_set_away, rq_m_set_code, rq_m_set_chosen, rq_m_set_blames, rq_m_set_blamed]) (by simp only [mvs_out, mon_out, rq_m_out_away, rq_m_out_code, rq_m_out_chosen, rq_m_out_blames, rq_m_out_blamed]) (by simp only [mvs_locks, mon_locks, rq_m_locks_away, rq_m_locks_code, rq_m_locks_chosen, rq_m_locks_blames, rq_m_locks_blamed]) (fun e he => by simp only [mvs_away, mon_away, rq_m_away_chosen, rq_m_away_away, rq_m_away_code, rq_m_away_blames, rq_m_away_blamed]; rw [haw e]; exact k3 e he)
            have hL4 : RelL w (ms_blames (ms_blamed (ms_away w2 (upd (upd (m_away v) d 1) d 0)) (upd (m_blamed v) bl (nI d))) (nI (bl + 1))) r dm mn := RelL_to hL3 (by simp only [mvs_latest, mon_latest, rq_m_latest_away, rq_m_latest_code, rq_m_latest_chosen, rq_m_latest_blames, rq_m_latest_blamed]) (by simp only [mvs_kind, mon_kind, rq_m_kind_away, rq_m_kind_code, rq_m_kind_chosen, rq_m_kind_blames, rq_m_kind_blamed]) rfl rfl
            have hC4 : RelC w (ms_blames (ms_blamed (ms_away w2 (upd (upd (m_away v) d 1) d 0)) (upd (m_blamed v) bl (nI d))) (nI (bl + 1))) := RelC_to hC3 (by simp only [mvs_chosen, mon_chosen, rq_m_chosen_away, rq_m_chosen_code, rq_m_chosen_chosen, rq_m_chosen_blames, rq_m_chosen_blamed]) rfl
            have r1 : m_out (ms_blames (ms_blamed (ms_away w2 (upd (upd (m_away v) d 1) d 0)) (upd (m_blamed v) bl (nI d))) (nI (bl + 1))) = m_out v := by simp only [rq_m_out_blames, rq_m_out_blamed, rq_m_out_away]; exact q1
            have r2 : m_away (ms_blames (ms_blamed (ms_away w2 (upd (upd (m_away v) d 1) d 0)) (upd (m_blamed v) bl (nI d))) (nI (bl + 1))) = upd (upd (m_away v) d 1) d 0 := by simp only [rq_m_away_blames, rq_m_away_blamed, rq_m_away_away]
            have r3 : m_blames (ms_blames (ms_blamed (ms_away w2 (upd (upd (m_away v) d 1) d 0)) (upd (m_blamed v) bl (nI d))) (nI (bl + 1))) = nI (bl + 1) := by simp only [rq_m_blames_blames]
            have r4 : m_blamed (ms_blames (ms_blamed (ms_away w2 (upd (upd (m_away v) d 1) d 0)) (upd (m_blamed v) bl (nI d))) (nI (bl + 1))) = upd (m_blamed v) bl (nI d) := by simp only [rq_m_blamed_blames, rq_m_blamed_blamed]
            generalize ms_blames (ms_blamed (ms_away w2 (upd (upd (m_away v) d 1) d 0)) (upd (m_blamed v) bl (nI d))) (nI (bl + 1)) = w3 at hN4 hL4 hC4 r1 r2 r3 r4 ⊢
            refine ih m2 (d + 1) w w3 kept (bl + 1) (cu bd bl d) (by omega) (by omega) (by omega) hN4 hC4 hL4 ⟨fun e he => by rw [r1, r2, haw e]; exact k1 e he, k2, fun e he => by rw [r2, haw e]; exact k3 e he, fun e e1 e2 => by rw [r2, haw e]; exact k4 e (by omega) e2, by rw [cnt, if_pos hkd2, k5], r3, fun i hi => ?_, fun i j hij hj => ?_, fun e he => ?_⟩ K1 K2
            · rw [r4]
              by_cases hib : i = bl
              · rw [hib, pk_us, cu_s]
                exact ⟨rfl, by omega⟩
              · rw [pk_un hib, cu_n _ _ hib]
                have := k7 i (by omega)
                exact ⟨this.1, by omega⟩
            · have hib : ¬ i = bl := by omega
              rw [cu_n _ _ hib]
              by_cases hjb : j = bl
              · rw [hjb, cu_s]
                exact (k7 i (by omega)).2
              · rw [cu_n _ _ hjb]
                exact k8 i j hij (by omega)
            · rcases Nat.lt_or_ge e d with x | x
              · rw [k9 e x]
                constructor
                · rintro ⟨i, hi, h6⟩
                  refine ⟨i, by omega, ?_⟩
                  rw [cu_n _ _ (by omega)]
                  exact h6
                · rintro ⟨i, hi, h6⟩
                  by_cases hib : i = bl
                  · rw [hib, cu_s] at h6
                    omega
                  · rw [cu_n _ _ hib] at h6
                    exact ⟨i, by omega, h6⟩
              · rw [show e = d by omega, hkd2]
                exact ⟨fun _ => ⟨bl, by omega, cu_s _ _ _⟩, fun _ => rfl⟩
        · have hkd2 : b32 kept d = false := by rw [hkd]; simp [ho]
          have he : (kept &&& (((1 : Int32) <<< (nI d &&& 31)) ^^^ (-1 : Int32))) = kept := by
            apply b32_ext
            intro e he
            rw [wb e he]
            by_cases hde : d = e
            · rw [← hde, hkd2]; rfl
            · simp [hde]
          rw [if_pos he, if_neg ho]
          refine ih m2 (d + 1) w v kept bl bd (by omega) (by omega) (by omega) hN hC hL ⟨k1, k2, k3, fun e e1 e2 => k4 e (by omega) e2, ?_, k6, fun i hi => ⟨(k7 i hi).1, by have := (k7 i hi).2; omega⟩, k8, fun e he2 => ?_⟩ K1 K2
          · rw [cnt, hkd2]
            simp [k5]
          · rcases Nat.lt_or_ge e d with x | x
            · exact k9 e x
            · rw [show e = d by omega, hkd2]
              constructor
              · intro h; cases h
              · rintro ⟨i, hi, h6⟩
                have := (k7 i hi).2
                omega
      · rw [if_pos (nI_le q (by omega)), if_pos (nI_le q (by omega))]
        have : d = dm := by omega
        subst this
        exact ⟨_, _, kept, v, bl, bd, rfl, rfl, hN, hC, hL, hBL⟩
theorem blame_step (hfu : 400000000 ≤ fu) (h : Rel u v) : Step (pf_X0_blame fu u) (pf_X1_blame fu v) := by
  obtain ⟨n, vs, r, dm, mn, ot, pk, ver, od, L, nd, hN, hL, hC, hB⟩ := h
  have hdm := hN.1.1.2.2.2.2.2.2.1
  obtain ⟨fa, e0, hfa⟩ := none_ok (fu := fu) (by omega) (ms_blames (ms_code v (0 : Int32)) (0 : Int32))
  have hN1 : RelN (xs_toBlame u (0 : Int32)) (ms_away (ms_blames (ms_code v (0 : Int32)) (0 : Int32)) fa) n vs r dm mn ot pk ver od L nd := RelN_tou (RelN_to hN _ (by simp only [mvs_packages, mon_packages, rq_m_packages_away, rq_m_packages_code, rq_m_packages_chosen, rq_m_packages_blames, rq_m_packages_blamed]) (by simp only [mvs_versions, mon_versions, rq_m_versions_away, rq_m_versions_code, rq_m_versions_chosen, rq_m_versions_blames, rq_m_versions_blamed]) (by simp only [mvs_rows, mon_rows, rq_m_rows_away, rq_m_rows_code, rq_m_rows_chosen, rq_m_rows_blames, rq_m_rows_blamed]) (by simp only [mvs_demands, mon_demands, rq_m_demands_away, rq_m_demands_code, rq_m_demands_chosen, rq_m_demands_blames, rq_m_demands_blamed]) (by simp only [mvs_many, mon_many, rq_m_many_away, rq_m_many_code, rq_m_many_chosen, rq_m_many_blames, rq_m_many_blamed]) (by simp only [mvs_other, mon_other, rq_m_other_away, rq_m_other_code, rq_m_other_chosen, rq_m_other_blames, rq_m_other_blamed]) (by simp only [mvs_pack, mon_pack, rq_m_pack_away, rq_m_pack_code, rq_m_pack_chosen, rq_m_pack_blames, rq_m_pack_blamed]) (by simp only [mvs_version, mon_version, rq_m_version_away, rq_m_version_code, rq_m_version_chosen, rq_m_version_blames, rq_m_version_blamed]) (by simp only [mvs_kind, mon_kind, rq_m_kind_away, rq_m_kind_code, rq_m_kind_chosen, rq_m_kind_blames, rq_m_kind_blamed]) (by simp only [mvs_set, mon_set, rq_m_set_away, rq_m_set_code, rq_m_set_chosen, rq_m_set_blames, rq_m_set_blamed]) (by simp only [mvs_out, mon_out, rq_m_out_away, rq_m_out_code, rq_m_out_chosen, rq_m_out_blames, rq_m_out_blamed]) (by simp only [mvs_locks, mon_locks, rq_m_locks_away, rq_m_locks_code, rq_m_locks_chosen, rq_m_locks_blames, rq_m_locks_blamed]) (fun d hd => by simp only [mvs_away, mon_away, rq_m_away_chosen, rq_m_away_away, rq_m_away_code, rq_m_away_blames, rq_m_away_blamed]; exact Or.inl (hfa d hd))) (by simp only [rq_x_packs_picked, rq_x_packs_toBlame]) (by simp only [rq_x_rows_picked, rq_x_rows_toBlame]) (by simp only [rq_x_demands_picked, rq_x_demands_toBlame]) (by simp only [rq_x_neededPacks_picked, rq_x_neededPacks_toBlame]) (by simp only [rq_x_order_picked, rq_x_order_toBlame]) (by simp only [rq_x_places_picked, rq_x_places_toBlame]) (by simp only [rq_x_rowRules_picked, rq_x_rowRules_toBlame]) (by simp only [rq_x_demandRules_picked, rq_x_demandRules_toBlame]) (by simp only [rq_x_leftOut_picked, rq_x_leftOut_toBlame]) (by simp only [rq_x_locked_picked, rq_x_locked_toBlame])
  have hkept := kept_ok hN1 (fun d hd => by simp only [mvs_away, mon_away, rq_m_away_chosen, rq_m_away_away, rq_m_away_code, rq_m_away_blames, rq_m_away_blamed]; exact hfa d hd)
  obtain ⟨y, z, o, f, g, hh, e1, e2, hr⟩ := both_all hfu hN1 hkept
  have hN3 := RelN_to hN1 (mvs (mon (ms_away (ms_blames (ms_code v (0 : Int32)) (0 : Int32)) fa) o (nI nd)) f g hh) (by simp only [mvs_packages, mon_packages, rq_m_packages_away, rq_m_packages_code, rq_m_packages_chosen, rq_m_packages_blames, rq_m_packages_blamed]) (by simp only [mvs_versions, mon_versions, rq_m_versions_away, rq_m_versions_code, rq_m_versions_chosen, rq_m_versions_blames, rq_m_versions_blamed]) (by simp only [mvs_rows, mon_rows, rq_m_rows_away, rq_m_rows_code, rq_m_rows_chosen, rq_m_rows_blames, rq_m_rows_blamed]) (by simp only [mvs_demands, mon_demands, rq_m_demands_away, rq_m_demands_code, rq_m_demands_chosen, rq_m_demands_blames, rq_m_demands_blamed]) (by simp only [mvs_many, mon_many, rq_m_many_away, rq_m_many_code, rq_m_many_chosen, rq_m_many_blames, rq_m_many_blamed]) (by simp only [mvs_other, mon_other, rq_m_other_away, rq_m_other_code, rq_m_other_chosen, rq_m_other_blames, rq_m_other_blamed]) (by simp only [mvs_pack, mon_pack, rq_m_pack_away, rq_m_pack_code, rq_m_pack_chosen, rq_m_pack_blames, rq_m_pack_blamed]) (by simp only [mvs_version, mon_version, rq_m_version_away, rq_m_version_code, rq_m_version_chosen, rq_m_version_blames, rq_m_version_blamed]) (by simp only [mvs_kind, mon_kind, rq_m_kind_away, rq_m_kind_code, rq_m_kind_chosen, rq_m_kind_blames, rq_m_kind_blamed]) (by simp only [mvs_set, mon_set, rq_m_set_away, rq_m_set_code, rq_m_set_chosen, rq_m_set_blames, rq_m_set_blamed]) (by simp only [mvs_out, mon_out, rq_m_out_away, rq_m_out_code, rq_m_out_chosen, rq_m_out_blames, rq_m_out_blamed]) (by simp only [mvs_locks, mon_locks, rq_m_locks_away, rq_m_locks_code, rq_m_locks_chosen, rq_m_locks_blames, rq_m_locks_blamed]) (fun d hd => by simp only [mvs_away, mon_away, rq_m_away_chosen, rq_m_away_away, rq_m_away_code, rq_m_away_blames, rq_m_away_blamed]; exact Or.inl (hfa d hd))
  have hL3 : RelL u (mvs (mon (ms_away (ms_blames (ms_code v (0 : Int32)) (0 : Int32)) fa) o (nI nd)) f g hh) r dm mn := RelL_to hL (by simp only [mvs_latest, mon_latest, rq_m_latest_away, rq_m_latest_code, rq_m_latest_chosen, rq_m_latest_blames, rq_m_latest_blamed]) (by simp only [mvs_kind, mon_kind, rq_m_kind_away, rq_m_kind_code, rq_m_kind_chosen, rq_m_kind_blames, rq_m_kind_blamed]) rfl rfl
  have hC3 : RelC u (mvs (mon (ms_away (ms_blames (ms_code v (0 : Int32)) (0 : Int32)) fa) o (nI nd)) f g hh) := RelC_to hC (by simp only [mvs_chosen, mon_chosen, rq_m_chosen_away, rq_m_chosen_code, rq_m_chosen_chosen, rq_m_chosen_blames, rq_m_chosen_blamed]) rfl
  have q1 : m_out (mvs (mon (ms_away (ms_blames (ms_code v (0 : Int32)) (0 : Int32)) fa) o (nI nd)) f g hh) = m_out (ms_away (ms_blames (ms_code v (0 : Int32)) (0 : Int32)) fa) := by simp only [mvs_out, mon_out]
  have q2 : m_away (mvs (mon (ms_away (ms_blames (ms_code v (0 : Int32)) (0 : Int32)) fa) o (nI nd)) f g hh) = fa := by simp only [mvs_away, mon_away, rq_m_away_away]
  have q3 : m_blames (mvs (mon (ms_away (ms_blames (ms_code v (0 : Int32)) (0 : Int32)) fa) o (nI nd)) f g hh) = 0 := by simp only [mvs_blames, mon_blames, rq_m_blames_away, rq_m_blames_blames]
  generalize mvs (mon (ms_away (ms_blames (ms_code v (0 : Int32)) (0 : Int32)) fa) o (nI nd)) f g hh = w at e2 hN3 hL3 hC3 q1 q2 q3
  unfold pf_X0_blame pf_X1_blame pf_X0_someRightKeeps
  have hdt : pf_X0_demandsThatCount u = pf_X0_demandsThatCount (xs_toBlame u (0 : Int32)) := by
    unfold pf_X0_demandsThatCount
    rw [rq_x_demands_toBlame, rq_x_leftOut_toBlame]
  rw [hdt, ob_s e0, ob_s e2, ob_s e1]
  rcases hr with ⟨y0, z0⟩ | ⟨y0, z1, -⟩
  · rw [if_pos y0]
    subst z0
    rw [ob, if_pos rfl]
    dsimp only
    rw [if_pos rfl]
    have hk2 : ∀ e, dm ≤ e → e < 32 → b32 (pf_X0_demandsThatCount (xs_toBlame u (0 : Int32))) e = false := fun e e1 e2 => by
      rw [dtc_bits hN1 e2]
      have : ¬ e < dm := by omega
      simp [this]
    obtain ⟨j1, j2, kept', v', bl, bd, a1, a2, a3, a4, a5, a6⟩ := blame_loop hfu fu fu 0 u w (pf_X0_demandsThatCount (xs_toBlame u (0 : Int32))) 0 (fun _ => 0) (Nat.zero_le _) (by omega) (by omega)
      hN3 hC3 hL3 ⟨fun e he => by rw [hkept e he, q1, q2, rq_m_away_away], hk2, fun e he => by rw [q2]; exact Or.inl (hfa e he), fun e _ he => by rw [q2]; exact hfa e he, rfl, by rw [q3]; exact nI_0.symm, fun i hi => by omega, fun i j h1 h2 => by omega, fun e he => by omega⟩
      (fun x2_22 x1_22 => (some ((pf_J6_bitCount x1_22), (xs_toBlame (xs_toBlame u (0 : Int32)) x1_22)))) (fun x1_27 u_27 => (some ((m_blames u_27), u_27)))
    rw [nI_0] at a1 a2
    rw [a1, a2]
    obtain ⟨k1, k2, k3, k4, k5, k6, k7, k8, k9⟩ := a6
    have hbc : pf_J6_bitCount kept' = nI bl := by
      rw [bc_ok (fun i i1 i2 => k2 i (by omega) i2), k5]
      congr 1
      exact cnt_zero 12 dm hdm (fun i i1 i2 => k2 i i1 (by omega))
    rw [hbc, k6]
    refine ⟨nI bl, _, _, rfl, rfl, n, vs, r, dm, mn, ot, pk, ver, od, L, nd, RelN_tou a3 (by simp only [rq_x_packs_picked, rq_x_packs_toBlame]) (by simp only [rq_x_rows_picked, rq_x_rows_toBlame]) (by simp only [rq_x_demands_picked, rq_x_demands_toBlame]) (by simp only [rq_x_neededPacks_picked, rq_x_neededPacks_toBlame]) (by simp only [rq_x_order_picked, rq_x_order_toBlame]) (by simp only [rq_x_places_picked, rq_x_places_toBlame]) (by simp only [rq_x_rowRules_picked, rq_x_rowRules_toBlame]) (by simp only [rq_x_demandRules_picked, rq_x_demandRules_toBlame]) (by simp only [rq_x_leftOut_picked, rq_x_leftOut_toBlame]) (by simp only [rq_x_locked_picked, rq_x_locked_toBlame]), RelL_to a5 rfl rfl (by simp only [rq_x_latestIsDemand_picked, rq_x_latestIsDemand_toBlame]) (by simp only [rq_x_alternativesFree_picked, rq_x_alternativesFree_toBlame]), RelC_to a4 rfl (by simp only [rq_x_picked_picked, rq_x_picked_toBlame]), bl, bd, ?_, k6, fun i hi => ⟨(k7 i hi).1, by have := (k7 i hi).2; omega⟩, k8, fun d hd => ?_⟩
    · have := cnt_le kept' dm
      omega
    · rw [rq_x_toBlame_toBlame]
      rcases Nat.lt_or_ge d dm with w | w
      · exact k9 d w
      · rw [k2 d w (by omega)]
        constructor
        · intro h; cases h
        · rintro ⟨i, hi, h6⟩
          have := (k7 i hi).2
          omega
  · rw [if_neg y0]
    subst z1
    rw [ob, if_neg (by decide)]
    dsimp only
    rw [if_neg (by decide)]
    refine ⟨0, _, _, rfl, rfl, n, vs, r, dm, mn, ot, pk, ver, od, L, nd, hN3, RelL_to hL3 rfl rfl (by simp only [rq_x_latestIsDemand_picked, rq_x_latestIsDemand_toBlame]) (by simp only [rq_x_alternativesFree_picked, rq_x_alternativesFree_toBlame]), RelC_to hC3 rfl (by simp only [rq_x_picked_picked, rq_x_picked_toBlame]), 0, fun _ => 0, by decide, by rw [q3]; exact nI_0.symm, fun i hi => by omega, fun i j h1 h2 => by omega, fun d hd => ?_⟩
    rw [rq_x_toBlame_toBlame, b32_0]
    constructor
    · intro h; cases h
    · rintro ⟨i, hi, -⟩
      omega
theorem blamed_step (hfu : 400000000 ≤ fu) (h : Rel u v) (p : Int32) : StepR u (pf_X0_blamed fu p u) (pf_X1_blamed fu p v) := by
  have hcode := rel_code h
  obtain ⟨n, vs, r, dm, mn, ot, pk, ver, od, L, nd, hN, hL, hC, bl, bd, hbl, hbe, hbd, hinc, hbits⟩ := h
  have loop : ∀ (m e k : Nat), e ≤ 12 → 12 < e + m → k ≤ bl → (∀ i, i < k → bd i < e) → (∀ i, k ≤ i → i < bl → e ≤ bd i) → (∀ i, i < k → p ≠ nI i) →
      pl_X0_blamed_4 fu p u (fun x3_4 x2_4 => (some (-1 : Int32))) m (nI e) (nI k) = some (if p < 0 then (-1 : Int32) else if p < nI bl then m_blamed v p.toNatClampNeg else (-1 : Int32)) := by
    intro m
    induction m with
    | zero => intro e k h1 h2; exact absurd h2 (by omega)
    | succ m ih =>
      intro e k h1 h2 h3 h4 h5 h6
      rw [pl_X0_blamed_4]
      rcases Nat.lt_or_ge e 12 with q | q
      · rw [if_neg (show ¬ (12 : Int32) ≤ nI e from nI_ge q (by decide)), nI_1, nI_1]
        cases hb : b32 (x_toBlame u) e with
        | false =>
          rw [if_pos ((b32_test _ (by omega)).mpr hb)]
          refine ih (e + 1) k (by omega) (by omega) h3 (fun i hi => by have := h4 i hi; omega) (fun i i1 i2 => ?_) h6
          have h7 := h5 i i1 i2
          rcases Nat.lt_or_ge e (bd i) with w | w
          · exact w
          · have : b32 (x_toBlame u) e = true := (hbits e q).mpr ⟨i, i2, by omega⟩
            rw [hb] at this
            cases this
        | true =>
          rw [if_neg (fun h0 => by have := (b32_test _ (by omega)).mp h0; rw [hb] at this; cases this)]
          obtain ⟨i, hi, hie⟩ := (hbits e q).mp hb
          have hik : i = k := by
            rcases Nat.lt_trichotomy i k with w | w | w
            · have := h4 i w; omega
            · exact w
            · have h8 := hinc k i w hi
              have := h5 k (Nat.le_refl k) (by omega)
              omega
          subst hik
          by_cases hp : nI i = p
          · rw [if_pos hp, ← hp, if_neg (nI_pos (by omega)), if_pos (nI_lt hi (by omega)), nI_clamp (by omega), (hbd i hi).1, hie]
          · rw [if_neg hp]
            refine ih (e + 1) (i + 1) (by omega) (by omega) (by omega) (fun j hj => ?_) (fun j j1 j2 => ?_) (fun j hj => ?_)
            · rcases Nat.lt_or_ge j i with w | w
              · have := h4 j w; omega
              · rw [show j = i by omega]; omega
            · have := hinc i j (by omega) j2
              omega
            · rcases Nat.lt_or_ge j i with w | w
              · exact h6 j w
              · rw [show j = i by omega]; exact fun h => hp h.symm
      · rw [if_pos (show (12 : Int32) ≤ nI e from nI_le q (by omega))]
        have hk : k = bl := by
          rcases Nat.lt_or_ge k bl with w | w
          · have h8 := h5 k (Nat.le_refl k) w
            have := (hbd k w).2
            omega
          · omega
        by_cases h0 : p < 0
        · rw [if_pos h0]
        · rw [if_neg h0]
          by_cases h1 : p < nI bl
          · rcases pk_ix p (n := bl) (by omega) with h2 | h2 | ⟨j, h2, h3⟩
            · exact absurd h2 h0
            · exact absurd h1 (by rw [Int32.not_lt]; exact h2)
            · exact absurd h3 (h6 j (by omega))
          · rw [if_neg h1]
  have hl := loop fu 0 0 (by decide) (by omega) (Nat.zero_le _) (fun i hi => by omega) (fun i _ _ => Nat.zero_le _) (fun i hi => by omega)
  rw [nI_0] at hl
  unfold pf_X0_blamed pf_X1_blamed
  rw [hl, hbe]
  by_cases h0 : p < 0
  · rw [if_pos h0, if_pos h0]
    exact ⟨_, _, rfl, rfl, hcode⟩
  · rw [if_neg h0, if_neg h0]
    by_cases h1 : p < nI bl
    · rw [if_pos h1, if_pos h1]
      rcases pk_ix p (n := bl) (by omega) with h2 | h2 | ⟨j, h2, rfl⟩
      · exact absurd h2 h0
      · exact absurd h1 (by rw [Int32.not_lt]; exact h2)
      · rw [og_t (inb_nI (show j < 12 by omega) (by decide))]
        exact ⟨_, _, rfl, rfl, hcode⟩
    · rw [if_neg h1, if_neg h1]
      exact ⟨_, _, rfl, rfl, hcode⟩
end CB
