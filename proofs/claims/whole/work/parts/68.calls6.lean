/-! ONE CALL ON BOTH SIDES, 7: demand, or. -/
section CF
variable {fu : Nat} {u : XS} {v : MS}
theorem alt1_in {od : Nat → Nat} {q c : Nat} (h : ∃ j, j < c ∧ od j = q) : altsOK od (fun _ => q) 1 0 c c := by
  rw [altsOK]
  exact Or.inl ⟨h, by rw [altsOK]⟩
theorem alt1_new {od : Nat → Nat} {q c : Nat} (h : ∀ j, j < c → od j ≠ q) (h2 : od c = q) (h3 : c < 8) : altsOK od (fun _ => q) 1 0 c (c + 1) := by
  rw [altsOK]
  exact Or.inr ⟨h, h2, h3, by rw [altsOK]⟩
theorem demand_step (hfu : 400000000 ≤ fu) (h : Rel u v) (kd p s : Int32) : Step (pf_X0_demand fu kd p s u) (pf_X1_demand fu kd p s v) := by
  have hcode := rel_code h
  obtain ⟨n, vs, r, dm, mn, ot, pk, ver, od, L, nd, hN, hL, hC, hB⟩ := h
  have hn8 := hN.1.1.2.1
  have hdm := hN.1.1.2.2.2.2.2.2.1
  have hde := hN.1.1.2.2.2.2.2.1
  unfold pf_X0_demand pf_X1_demand
  have P := isPackage_ok (v := ms_code v (0 : Int32)) hN.1.1.1 p
  rw [hN.2.1.2.2.1, hde]
  rcases isKind_ok kd with ⟨e2, k1, k2, k3⟩ | ⟨e2, k1⟩
  · rw [e2, if_neg (show ¬ (1 : Int32) = 0 by decide), if_neg k2, if_neg k3]
    rcases hasPack_ok hn8 hN.2.1.1 p with ⟨e3, q, hq, rfl⟩ | ⟨e3, g3⟩
    · rw [e3, if_neg (show ¬ (1 : Int32) = 0 by decide), P.2 (in_pack hn8 hq), if_neg (show ¬ (1 : Int32) = 0 by decide)]
      rcases Nat.lt_or_ge dm 12 with w | w
      · rw [if_neg (show ¬ (12 : Int32) ≤ nI dm from nI_ge w (by decide)), if_neg (show ¬ nI (dm) = (12 : Int32) from fun h => by have := (nI_eq (a := dm) (b := 12) (by omega) (by decide)).mp h; omega), og_t (inb_nI w (by decide)), nI_clamp (by omega), ob_s (start_ok kd 1 (Or.inr rfl) _)]
        rw [show (120 : Int32) + nI dm = nI (120 + dm) from by rw [show (120 : Int32) = nI 120 by decide, nI_add], ob_s (keepM_ok (show 120 + dm < 132 by omega) _ _ _ _)]
        obtain ⟨U, hU⟩ : ∃ U, U = xs_latestIsDemand (xs_alternativesFree (xs_demands (xs_demandRules u (vp_updL (x_demandRules u) dm (pf_X0_keeping kd (nI q) s))) (nI dm + (1 : Int32))) (if kd = 0 then 2 else 0)) (1 : Int32) := ⟨_, rfl⟩
        rw [← hU]
        have u_packs : x_packs U = x_packs u := by rw [hU]; simp only [rq_x_packs_demandRules, rq_x_packs_demands, rq_x_packs_alternativesFree, rq_x_packs_latestIsDemand, nI_1]
        have u_rows : x_rows U = x_rows u := by rw [hU]; simp only [rq_x_rows_demandRules, rq_x_rows_demands, rq_x_rows_alternativesFree, rq_x_rows_latestIsDemand, nI_1]
        have u_demands : x_demands U = nI (dm + 1) := by rw [hU]; simp only [rq_x_demands_demandRules, rq_x_demands_demands, rq_x_demands_alternativesFree, rq_x_demands_latestIsDemand, nI_1]
        have u_neededPacks : x_neededPacks U = x_neededPacks u := by rw [hU]; simp only [rq_x_neededPacks_demandRules, rq_x_neededPacks_demands, rq_x_neededPacks_alternativesFree, rq_x_neededPacks_latestIsDemand, nI_1]
        have u_order : x_order U = x_order u := by rw [hU]; simp only [rq_x_order_demandRules, rq_x_order_demands, rq_x_order_alternativesFree, rq_x_order_latestIsDemand, nI_1]
        have u_places : x_places U = x_places u := by rw [hU]; simp only [rq_x_places_demandRules, rq_x_places_demands, rq_x_places_alternativesFree, rq_x_places_latestIsDemand, nI_1]
        have u_rowRules : x_rowRules U = x_rowRules u := by rw [hU]; simp only [rq_x_rowRules_demandRules, rq_x_rowRules_demands, rq_x_rowRules_alternativesFree, rq_x_rowRules_latestIsDemand, nI_1]
        have u_demandRules : x_demandRules U = vp_updL (x_demandRules u) dm (pf_X0_keeping kd (nI q) s) := by rw [hU]; simp only [rq_x_demandRules_demandRules, rq_x_demandRules_demands, rq_x_demandRules_alternativesFree, rq_x_demandRules_latestIsDemand, nI_1]
        have u_leftOut : x_leftOut U = x_leftOut u := by rw [hU]; simp only [rq_x_leftOut_demandRules, rq_x_leftOut_demands, rq_x_leftOut_alternativesFree, rq_x_leftOut_latestIsDemand, nI_1]
        have u_locked : x_locked U = x_locked u := by rw [hU]; simp only [rq_x_locked_demandRules, rq_x_locked_demands, rq_x_locked_alternativesFree, rq_x_locked_latestIsDemand, nI_1]
        have u_latestIsDemand : x_latestIsDemand U = 1 := by rw [hU]; simp only [rq_x_latestIsDemand_demandRules, rq_x_latestIsDemand_demands, rq_x_latestIsDemand_alternativesFree, rq_x_latestIsDemand_latestIsDemand, nI_1]
        have u_alternativesFree : x_alternativesFree U = if kd = 0 then (2 : Int32) else 0 := by rw [hU]; simp only [rq_x_alternativesFree_demandRules, rq_x_alternativesFree_demands, rq_x_alternativesFree_alternativesFree, rq_x_alternativesFree_latestIsDemand, nI_1]
        have u_picked : x_picked U = x_picked u := by rw [hU]; simp only [rq_x_picked_demandRules, rq_x_picked_demands, rq_x_picked_alternativesFree, rq_x_picked_latestIsDemand, nI_1]
        have u_toBlame : x_toBlame U = x_toBlame u := by rw [hU]; simp only [rq_x_toBlame_demandRules, rq_x_toBlame_demands, rq_x_toBlame_alternativesFree, rq_x_toBlame_latestIsDemand, nI_1]
        have hQ : ∀ Q : MS, m_demands Q = nI dm → (some ((m_demands Q + (1 : Int32)) - (1 : Int32), ms_demands Q (m_demands Q + (1 : Int32))) : Option (Int32 × MS)) = some (nI dm, ms_demands Q (nI (dm + 1))) := by
          intro Q hQ
          rw [hQ, nI_1, nI_pred]
        have ht := hN.1.2.2.2.1
        have hod := hN.2.1.2.2.2.2
        have hun := hN.2.1.2.2.2.1
        have hndl := hN.1.2.2.2.2.1
        have hodU : OrdOK (x_order U) od := by rw [u_order]; exact hod
        have hunU : x_neededPacks U = nI nd := by rw [u_neededPacks]; exact hun
        by_cases hk0 : kd = 0
        · rw [if_pos hk0]
          rcases move_ok (fu := fu) (u := U) (by omega) hodU ht hn8 hunU hq with ⟨g1, g2⟩ | ⟨g1, od', f, g2, g3, g4, g5, g6, g7⟩
          · rw [ob_s g2]
            exact ⟨nI dm, _, _, rfl, hQ _ (by simp only [rq_m_demands_code, rq_m_demands_kind, rq_m_demands_many, rq_m_demands_other, rq_m_demands_set, rq_m_demands_latest, hde]), demand_rel (s := s) hN w k1 hq u_packs u_rows u_demands hunU hodU u_places u_rowRules u_demandRules u_leftOut u_locked ht hndl (by rw [if_pos hk0]; exact alt1_in g1) (fun _ _ => rfl) (by simp only [rq_m_packages_code, rq_m_packages_kind, rq_m_packages_many, rq_m_packages_other, rq_m_packages_set, rq_m_packages_latest, rq_m_packages_demands, hde, nI_1]) (by simp only [rq_m_versions_code, rq_m_versions_kind, rq_m_versions_many, rq_m_versions_other, rq_m_versions_set, rq_m_versions_latest, rq_m_versions_demands, hde, nI_1]) (by simp only [rq_m_rows_code, rq_m_rows_kind, rq_m_rows_many, rq_m_rows_other, rq_m_rows_set, rq_m_rows_latest, rq_m_rows_demands, hde, nI_1]) (by simp only [rq_m_demands_code, rq_m_demands_kind, rq_m_demands_many, rq_m_demands_other, rq_m_demands_set, rq_m_demands_latest, rq_m_demands_demands, hde, nI_1]) (by simp only [rq_m_many_code, rq_m_many_kind, rq_m_many_many, rq_m_many_other, rq_m_many_set, rq_m_many_latest, rq_m_many_demands, hde, nI_1]) (by simp only [rq_m_other_code, rq_m_other_kind, rq_m_other_many, rq_m_other_other, rq_m_other_set, rq_m_other_latest, rq_m_other_demands, hde, nI_1]) (by simp only [rq_m_pack_code, rq_m_pack_kind, rq_m_pack_many, rq_m_pack_other, rq_m_pack_set, rq_m_pack_latest, rq_m_pack_demands, hde, nI_1]) (by simp only [rq_m_version_code, rq_m_version_kind, rq_m_version_many, rq_m_version_other, rq_m_version_set, rq_m_version_latest, rq_m_version_demands, hde, nI_1]) (by simp only [rq_m_kind_code, rq_m_kind_kind, rq_m_kind_many, rq_m_kind_other, rq_m_kind_set, rq_m_kind_latest, rq_m_kind_demands, hde, nI_1]) (by simp only [rq_m_set_code, rq_m_set_kind, rq_m_set_many, rq_m_set_other, rq_m_set_set, rq_m_set_latest, rq_m_set_demands, hde, nI_1]) (by simp only [rq_m_out_code, rq_m_out_kind, rq_m_out_many, rq_m_out_other, rq_m_out_set, rq_m_out_latest, rq_m_out_demands, hde, nI_1]) (by simp only [rq_m_locks_code, rq_m_locks_kind, rq_m_locks_many, rq_m_locks_other, rq_m_locks_set, rq_m_locks_latest, rq_m_locks_demands, hde, nI_1]) (by simp only [rq_m_away_code, rq_m_away_kind, rq_m_away_many, rq_m_away_other, rq_m_away_set, rq_m_away_latest, rq_m_away_demands, hde, nI_1]) (by simp only [rq_m_latest_code, rq_m_latest_kind, rq_m_latest_many, rq_m_latest_other, rq_m_latest_set, rq_m_latest_latest, rq_m_latest_demands]) u_latestIsDemand u_alternativesFree (by simp only [rq_m_chosen_code, rq_m_chosen_kind, rq_m_chosen_many, rq_m_chosen_other, rq_m_chosen_set, rq_m_chosen_latest, rq_m_chosen_demands]) u_picked (by simp only [rq_m_blames_code, rq_m_blames_kind, rq_m_blames_many, rq_m_blames_other, rq_m_blames_set, rq_m_blames_latest, rq_m_blames_demands]) (by simp only [rq_m_blamed_code, rq_m_blamed_kind, rq_m_blamed_many, rq_m_blamed_other, rq_m_blamed_set, rq_m_blamed_latest, rq_m_blamed_demands]) u_toBlame hC hB⟩
          · rw [ob_s g2]
            exact ⟨nI dm, _, _, rfl, hQ _ (by simp only [rq_m_demands_code, rq_m_demands_kind, rq_m_demands_many, rq_m_demands_other, rq_m_demands_set, rq_m_demands_latest, hde]), demand_rel (s := s) (od' := od') (nd' := nd + 1) hN w k1 hq (by simp only [rq_x_packs_order, rq_x_packs_neededPacks, u_packs]) (by simp only [rq_x_rows_order, rq_x_rows_neededPacks, u_rows]) (by simp only [rq_x_demands_order, rq_x_demands_neededPacks, u_demands]) (by simp only [rq_x_neededPacks_neededPacks]) (by simp only [rq_x_order_order, rq_x_order_neededPacks]; exact g3) (by simp only [rq_x_places_order, rq_x_places_neededPacks, u_places]) (by simp only [rq_x_rowRules_order, rq_x_rowRules_neededPacks, u_rowRules]) (by simp only [rq_x_demandRules_order, rq_x_demandRules_neededPacks, u_demandRules]) (by simp only [rq_x_leftOut_order, rq_x_leftOut_neededPacks, u_leftOut]) (by simp only [rq_x_locked_order, rq_x_locked_neededPacks, u_locked]) g7 (fun j hj => by
                rcases Nat.lt_or_ge j nd with z | z
                · rw [g4 j z]; exact hndl j z
                · rw [show j = nd by omega, g5]; exact hq) (by rw [if_pos hk0]; exact alt1_new (fun j hj => by rw [g4 j hj]; exact g1 j hj) g5 g6) g4 (by simp only [rq_m_packages_code, rq_m_packages_kind, rq_m_packages_many, rq_m_packages_other, rq_m_packages_set, rq_m_packages_latest, rq_m_packages_demands, hde, nI_1]) (by simp only [rq_m_versions_code, rq_m_versions_kind, rq_m_versions_many, rq_m_versions_other, rq_m_versions_set, rq_m_versions_latest, rq_m_versions_demands, hde, nI_1]) (by simp only [rq_m_rows_code, rq_m_rows_kind, rq_m_rows_many, rq_m_rows_other, rq_m_rows_set, rq_m_rows_latest, rq_m_rows_demands, hde, nI_1]) (by simp only [rq_m_demands_code, rq_m_demands_kind, rq_m_demands_many, rq_m_demands_other, rq_m_demands_set, rq_m_demands_latest, rq_m_demands_demands, hde, nI_1]) (by simp only [rq_m_many_code, rq_m_many_kind, rq_m_many_many, rq_m_many_other, rq_m_many_set, rq_m_many_latest, rq_m_many_demands, hde, nI_1]) (by simp only [rq_m_other_code, rq_m_other_kind, rq_m_other_many, rq_m_other_other, rq_m_other_set, rq_m_other_latest, rq_m_other_demands, hde, nI_1]) (by simp only [rq_m_pack_code, rq_m_pack_kind, rq_m_pack_many, rq_m_pack_other, rq_m_pack_set, rq_m_pack_latest, rq_m_pack_demands, hde, nI_1]) (by simp only [rq_m_version_code, rq_m_version_kind, rq_m_version_many, rq_m_version_other, rq_m_version_set, rq_m_version_latest, rq_m_version_demands, hde, nI_1]) (by simp only [rq_m_kind_code, rq_m_kind_kind, rq_m_kind_many, rq_m_kind_other, rq_m_kind_set, rq_m_kind_latest, rq_m_kind_demands, hde, nI_1]) (by simp only [rq_m_set_code, rq_m_set_kind, rq_m_set_many, rq_m_set_other, rq_m_set_set, rq_m_set_latest, rq_m_set_demands, hde, nI_1]) (by simp only [rq_m_out_code, rq_m_out_kind, rq_m_out_many, rq_m_out_other, rq_m_out_set, rq_m_out_latest, rq_m_out_demands, hde, nI_1]) (by simp only [rq_m_locks_code, rq_m_locks_kind, rq_m_locks_many, rq_m_locks_other, rq_m_locks_set, rq_m_locks_latest, rq_m_locks_demands, hde, nI_1]) (by simp only [rq_m_away_code, rq_m_away_kind, rq_m_away_many, rq_m_away_other, rq_m_away_set, rq_m_away_latest, rq_m_away_demands, hde, nI_1]) (by simp only [rq_m_latest_code, rq_m_latest_kind, rq_m_latest_many, rq_m_latest_other, rq_m_latest_set, rq_m_latest_latest, rq_m_latest_demands]) (by simp only [rq_x_latestIsDemand_order, rq_x_latestIsDemand_neededPacks, u_latestIsDemand]) (by simp only [rq_x_alternativesFree_order, rq_x_alternativesFree_neededPacks, u_alternativesFree]) (by simp only [rq_m_chosen_code, rq_m_chosen_kind, rq_m_chosen_many, rq_m_chosen_other, rq_m_chosen_set, rq_m_chosen_latest, rq_m_chosen_demands]) (by simp only [rq_x_picked_order, rq_x_picked_neededPacks, u_picked]) (by simp only [rq_m_blames_code, rq_m_blames_kind, rq_m_blames_many, rq_m_blames_other, rq_m_blames_set, rq_m_blames_latest, rq_m_blames_demands]) (by simp only [rq_m_blamed_code, rq_m_blamed_kind, rq_m_blamed_many, rq_m_blamed_other, rq_m_blamed_set, rq_m_blamed_latest, rq_m_blamed_demands]) (by simp only [rq_x_toBlame_order, rq_x_toBlame_neededPacks, u_toBlame]) hC hB⟩
        · rw [if_neg hk0]
          exact ⟨nI dm, _, _, rfl, hQ _ (by simp only [rq_m_demands_code, rq_m_demands_kind, rq_m_demands_many, rq_m_demands_other, rq_m_demands_set, rq_m_demands_latest, hde]), demand_rel (s := s) hN w k1 hq u_packs u_rows u_demands hunU hodU u_places u_rowRules u_demandRules u_leftOut u_locked ht hndl (by rw [if_neg hk0]) (fun _ _ => rfl) (by simp only [rq_m_packages_code, rq_m_packages_kind, rq_m_packages_many, rq_m_packages_other, rq_m_packages_set, rq_m_packages_latest, rq_m_packages_demands, hde, nI_1]) (by simp only [rq_m_versions_code, rq_m_versions_kind, rq_m_versions_many, rq_m_versions_other, rq_m_versions_set, rq_m_versions_latest, rq_m_versions_demands, hde, nI_1]) (by simp only [rq_m_rows_code, rq_m_rows_kind, rq_m_rows_many, rq_m_rows_other, rq_m_rows_set, rq_m_rows_latest, rq_m_rows_demands, hde, nI_1]) (by simp only [rq_m_demands_code, rq_m_demands_kind, rq_m_demands_many, rq_m_demands_other, rq_m_demands_set, rq_m_demands_latest, rq_m_demands_demands, hde, nI_1]) (by simp only [rq_m_many_code, rq_m_many_kind, rq_m_many_many, rq_m_many_other, rq_m_many_set, rq_m_many_latest, rq_m_many_demands, hde, nI_1]) (by simp only [rq_m_other_code, rq_m_other_kind, rq_m_other_many, rq_m_other_other, rq_m_other_set, rq_m_other_latest, rq_m_other_demands, hde, nI_1]) (by simp only [rq_m_pack_code, rq_m_pack_kind, rq_m_pack_many, rq_m_pack_other, rq_m_pack_set, rq_m_pack_latest, rq_m_pack_demands, hde, nI_1]) (by simp only [rq_m_version_code, rq_m_version_kind, rq_m_version_many, rq_m_version_other, rq_m_version_set, rq_m_version_latest, rq_m_version_demands, hde, nI_1]) (by simp only [rq_m_kind_code, rq_m_kind_kind, rq_m_kind_many, rq_m_kind_other, rq_m_kind_set, rq_m_kind_latest, rq_m_kind_demands, hde, nI_1]) (by simp only [rq_m_set_code, rq_m_set_kind, rq_m_set_many, rq_m_set_other, rq_m_set_set, rq_m_set_latest, rq_m_set_demands, hde, nI_1]) (by simp only [rq_m_out_code, rq_m_out_kind, rq_m_out_many, rq_m_out_other, rq_m_out_set, rq_m_out_latest, rq_m_out_demands, hde, nI_1]) (by simp only [rq_m_locks_code, rq_m_locks_kind, rq_m_locks_many, rq_m_locks_other, rq_m_locks_set, rq_m_locks_latest, rq_m_locks_demands, hde, nI_1]) (by simp only [rq_m_away_code, rq_m_away_kind, rq_m_away_many, rq_m_away_other, rq_m_away_set, rq_m_away_latest, rq_m_away_demands, hde, nI_1]) (by simp only [rq_m_latest_code, rq_m_latest_kind, rq_m_latest_many, rq_m_latest_other, rq_m_latest_set, rq_m_latest_latest, rq_m_latest_demands]) u_latestIsDemand u_alternativesFree (by simp only [rq_m_chosen_code, rq_m_chosen_kind, rq_m_chosen_many, rq_m_chosen_other, rq_m_chosen_set, rq_m_chosen_latest, rq_m_chosen_demands]) u_picked (by simp only [rq_m_blames_code, rq_m_blames_kind, rq_m_blames_many, rq_m_blames_other, rq_m_blames_set, rq_m_blames_latest, rq_m_blames_demands]) (by simp only [rq_m_blamed_code, rq_m_blamed_kind, rq_m_blamed_many, rq_m_blamed_other, rq_m_blamed_set, rq_m_blamed_latest, rq_m_blamed_demands]) u_toBlame hC hB⟩
      · have hd12 : dm = 12 := by omega
        subst hd12
        rw [if_pos (by decide), if_pos (by decide)]
        exact ⟨_, _, _, rfl, rfl, hcode⟩
    · rw [e3, P.1 g3, if_pos rfl, if_pos rfl]
      refine ⟨-1, u, _, ?_, rfl, hcode⟩
      split <;> rfl
  · rw [e2, if_pos rfl]
    have hX : (if (12 : Int32) ≤ nI dm then (some ((-1 : Int32), u) : Option (Int32 × XS)) else some ((-1 : Int32), u)) = some ((-1 : Int32), u) := by split <;> rfl
    rw [hX]
    rcases k1 with k1 | k1
    · rw [if_pos k1]; exact ⟨_, _, _, rfl, rfl, hcode⟩
    · by_cases hk0 : kd < 0
      · rw [if_pos hk0]; exact ⟨_, _, _, rfl, rfl, hcode⟩
      · rw [if_neg hk0, if_pos k1]; exact ⟨_, _, _, rfl, rfl, hcode⟩
theorem or_bits {kd st : Nat → Int32} {ot : Nat → Nat} {k m q : Nat} {s : Int32} (hk : kd k = 0) {p b : Nat} : anyA kd (upd st (3 * k + m) s) (cu ot (3 * k + m) q) k p b (m + 1) 0 = (anyA kd st ot k p b m 0 || (decide (q = p) && (decide (b < 6) && b32 s b))) := by
  rw [any_snoc, any_congr (kd := kd) (st := st) (ot := ot) rfl m 0 (fun j j1 j2 => ⟨pk_un (by omega), cu_n _ _ (by omega)⟩), Nat.zero_add, cu_s, pk_us, hk]
  unfold altK
  rw [if_pos rfl]
theorem fr_pos {mn : Nat → Nat} {k : Nat} (hmn : mn k ≤ 3) : (frOf v mn k ≤ 0) ↔ ¬ (m_kind v k = 0 ∧ mn k < 3) := by
  unfold frOf
  by_cases h : m_kind v k = 0
  · rw [if_pos h, show (0 : Int32) = nI 0 from nI_0.symm, nI_leI (by omega) (by decide)]
    constructor
    · intro h1 h2; omega
    · intro h1; have : ¬ mn k < 3 := fun h2 => h1 ⟨h, h2⟩
      omega
  · rw [if_neg h]
    exact ⟨fun _ h2 => h h2.1, fun _ => by decide⟩
/-- the reference's side of or(): refused, or one more alternative -/
theorem orM {k n : Nat} {mn : Nat → Nat} (hk : k < 132) (hpe : m_packages v = nI n) (hlat : m_latest v = nI k) (hm : m_many v k = nI (mn k)) (hm3 : mn k ≤ 3) (p s : Int32) :
    (¬ (m_kind v k = 0 ∧ mn k < 3) → pf_X1_or fu p s v = some (0, ms_code v (0 : Int32))) ∧
    ((m_kind v k = 0 ∧ mn k < 3) → (p < 0 ∨ nI n ≤ p) → pf_X1_or fu p s v = some (0, ms_code v (0 : Int32))) ∧
    ((m_kind v k = 0 ∧ mn k < 3) → ¬ (p < 0 ∨ nI n ≤ p) → pf_X1_or fu p s v = some (1, ms_many (ms_set (ms_other (ms_code v (0 : Int32)) (upd (m_other v) (3 * k + mn k) p)) (upd (m_set v) (3 * k + mn k) s)) (upd (m_many v) k (nI (mn k + 1))))) := by
  have P := isPackage_ok (v := ms_code v (0 : Int32)) hpe p
  unfold pf_X1_or
  rw [hlat, if_neg (fun h => by have := congrArg Int32.toInt h; rw [nI_toInt (by omega), show (-1 : Int32).toInt = -1 by decide] at this; omega), og_t (inb_nI hk (by decide)), og_t (inb_nI hk (by decide)), nI_clamp (by omega), hm]
  refine ⟨fun h1 => ?_, fun h1 h2 => ?_, fun h1 h2 => ?_⟩
  · by_cases h0 : m_kind v k = 0
    · have h33 : mn k = 3 := by
        have : ¬ mn k < 3 := fun h2 => h1 ⟨h0, h2⟩
        omega
      rw [if_pos h0, if_pos (show nI (mn k) = (3 : Int32) by rw [h33]; decide)]
    · rw [if_neg h0]
  · rw [if_pos h1.1, if_neg (show ¬ nI (mn k) = (3 : Int32) from fun h => by have := (nI_eq (a := mn k) (b := 3) (by omega) (by decide)).mp h; omega), P.1 h2, if_pos rfl]
  · rw [if_pos h1.1, if_neg (show ¬ nI (mn k) = (3 : Int32) from fun h => by have := (nI_eq (a := mn k) (b := 3) (by omega) (by decide)).mp h; omega), P.2 h2, if_neg (by decide), nI_mul3, og_t (inb_nI hk (by decide)), og_t (inb_nI hk (by decide)), og_t (inb_nI (show 3 * k + mn k < 396 by omega) (by decide)), og_t (inb_nI (show 3 * k + mn k < 396 by omega) (by decide)), og_t (inb_nI hk (by decide)), og_t (inb_nI hk (by decide)), nI_clamp (by omega), nI_1]
theorem or_row {n : Nat} {vs : Nat → Nat} {r dm : Nat} {mn ot pk ver od L : Nat → Nat} {nd : Nat} (hN : RelN u v n vs r dm mn ot pk ver od L nd) (hr0 : 0 < r) (hkd : m_kind v (r - 1) = 0) (hm : mn (r - 1) < 3) {q : Nat} (hq : q < n) {s : Int32} {u' : XS} {v' : MS}
    (x1 : x_packs u' = x_packs u) (x2 : x_rows u' = x_rows u) (x3 : x_demands u' = x_demands u) (x4 : x_neededPacks u' = x_neededPacks u) (x5 : x_order u' = x_order u) (x6 : x_places u' = x_places u) (x7 : x_rowRules u' = vp_updL (x_rowRules u) (r - 1) (x_rowRules u (r - 1) ||| pf_X0_versionsOf (nI q) s)) (x8 : x_demandRules u' = x_demandRules u) (x9 : x_leftOut u' = x_leftOut u) (x10 : x_locked u' = x_locked u)
    (y1 : m_packages v' = m_packages v) (y2 : m_versions v' = m_versions v) (y3 : m_rows v' = m_rows v) (y4 : m_demands v' = m_demands v) (y5 : m_many v' = upd (m_many v) (r - 1) (nI (mn (r - 1) + 1))) (y6 : m_other v' = upd (m_other v) (3 * (r - 1) + mn (r - 1)) (nI q)) (y7 : m_pack v' = m_pack v) (y8 : m_version v' = m_version v) (y9 : m_kind v' = m_kind v) (y10 : m_set v' = upd (m_set v) (3 * (r - 1) + mn (r - 1)) s) (y11 : m_out v' = m_out v) (y12 : m_locks v' = m_locks v) (y13 : m_away v' = m_away v) :
    RelN u' v' n vs r dm (cu mn (r - 1) (mn (r - 1) + 1)) (cu ot (3 * (r - 1) + mn (r - 1)) q) pk ver od L nd := by
  obtain ⟨⟨⟨b1, b2, b3, b4, b5, b6, b7, b8, b9, b10, b11⟩, m2, m3, m4, m5, ⟨kz, m6, m7⟩, m8, m9, m10, m11⟩, ⟨i1, i2, i3, i4, i5⟩, h3, h4, h5, h6, ⟨h7, h8⟩, h9, h10⟩ := hN
  unfold RelN MSrch MB
  rw [y1, y2, y3, y4, y5, y6, y7, y8, y9, y10, y11, y12, y13]
  refine ⟨⟨⟨b1, b2, b3, b4, b5, b6, b7, fun k hk => ⟨updI (b8 k hk).1, ?_⟩, fun j hj => ⟨updI (b9 j hj).1, ?_⟩, b10, b11⟩, m2, m3, m4, m5, ⟨kz, m6, ?_⟩, fun d hd => ?_, fun k hk => ⟨(m9 k hk).1, fun i hi => ?_⟩, fun d hd i hi => ?_, m11⟩, ⟨by rw [x1]; exact i1, by rw [x2]; exact i2, by rw [x3]; exact i3, by rw [x4]; exact i4, by rw [x5]; exact i5⟩, by rw [x6]; exact h3, fun k hk p hp a ha => ?_, fun d hd p hp a ha => ?_, by rw [x9]; exact h6, ⟨by rw [x10]; exact h7, h8⟩, fun k hk => ?_, fun d hd => ?_⟩
  · by_cases hkr : k = r - 1
    · rw [hkr, cu_s]; omega
    · rw [cu_n _ _ hkr]; exact (b8 k hk).2
  · by_cases hjr : j = 3 * (r - 1) + mn (r - 1)
    · rw [hjr, cu_s]; omega
    · rw [cu_n _ _ hjr]; exact (b9 j hj).2
  · exact dems_congr _ _ _ _ (fun _ _ => rfl) (fun j j1 j2 => ⟨rfl, cu_n _ _ (by omega), fun i hi => cu_n _ _ (by omega)⟩) m7
  · rw [cu_n _ _ (by omega)]; exact m8 d hd
  · by_cases hkr : k = r - 1
    · subst hkr
      rw [cu_s] at hi
      by_cases hi2 : i = mn (r - 1)
      · rw [hi2, cu_s]; exact hq
      · rw [cu_n _ _ (by omega)]; exact (m9 _ hk).2 i (by omega)
    · rw [cu_n _ _ hkr] at hi
      have := (b8 k (by omega)).2
      rw [cu_n _ _ (by omega)]; exact (m9 k hk).2 i hi
  · rw [cu_n _ _ (show 120 + d ≠ r - 1 by omega)] at hi
    rw [cu_n _ _ (by omega)]; exact m10 d hd i hi
  · rw [x7]
    show _ = (_ || anyA (m_kind v) (upd (m_set v) (3 * (r - 1) + mn (r - 1)) s) (cu ot (3 * (r - 1) + mn (r - 1)) q) k p a _ 0)
    by_cases hkr : k = r - 1
    · subst hkr
      rw [pk_uLs, cu_s, or_bits hkd, gb_or, h4 _ hk p hp a ha, gb_vers s (by omega) hp (by omega), Bool.or_assoc]
      congr 2
      by_cases hpq : p = q
      · rw [hpq]
      · have : ¬ q = p := fun h2 => hpq h2.symm
        simp [hpq, this]
    · have := (b8 k (by omega)).2
      rw [pk_uLn hkr, cu_n _ _ hkr, h4 k hk p hp a ha, any_congr (kd := m_kind v) (st := m_set v) (ot := ot) rfl (mn k) 0 (fun j j1 j2 => ⟨pk_un (by omega), cu_n _ _ (by omega)⟩)]
  · rw [x8]
    show _ = anyA (m_kind v) (upd (m_set v) (3 * (r - 1) + mn (r - 1)) s) (cu ot (3 * (r - 1) + mn (r - 1)) q) (120 + d) p a _ 0
    rw [cu_n _ _ (show 120 + d ≠ r - 1 by omega), h5 d hd p hp a ha, any_congr (kd := m_kind v) (st := m_set v) (ot := ot) rfl (mn (120 + d)) 0 (fun j j1 j2 => ⟨pk_un (by omega), cu_n _ _ (by omega)⟩)]
  · show 0 < _ ∧ (m_kind v k = 0 ∨ _)
    by_cases hkr : k = r - 1
    · rw [hkr, cu_s]; exact ⟨by omega, Or.inl hkd⟩
    · rw [cu_n _ _ hkr]; exact h9 k hk
  · show m_kind v (120 + d) = 0 ∨ _
    rw [cu_n _ _ (by omega)]; exact h10 d hd
theorem or_dem {n : Nat} {vs : Nat → Nat} {r dm : Nat} {mn ot pk ver od L : Nat → Nat} {nd : Nat} (hN : RelN u v n vs r dm mn ot pk ver od L nd) (hd0 : 0 < dm) (hkd : m_kind v (120 + (dm - 1)) = 0) (hm : mn (120 + (dm - 1)) < 3) {q : Nat} (hq : q < n) {s : Int32} {u' : XS} {v' : MS} {od' : Nat → Nat} {nd' : Nat}
    (x1 : x_packs u' = x_packs u) (x2 : x_rows u' = x_rows u) (x3 : x_demands u' = x_demands u) (x4 : x_neededPacks u' = nI nd') (x5 : OrdOK (x_order u') od') (x6 : x_places u' = x_places u) (x7 : x_rowRules u' = x_rowRules u) (x8 : x_demandRules u' = vp_updL (x_demandRules u) (dm - 1) (x_demandRules u (dm - 1) ||| pf_X0_versionsOf (nI q) s)) (x9 : x_leftOut u' = x_leftOut u) (x10 : x_locked u' = x_locked u)
    (t1 : TailOK n nd' od') (t2 : ∀ j, j < nd' → od' j < n) (t3 : ((∃ j, j < nd ∧ od' j = q) ∧ nd' = nd) ∨ ((∀ j, j < nd → od' j ≠ q) ∧ od' nd = q ∧ nd < 8 ∧ nd' = nd + 1)) (t4 : ∀ j, j < nd → od' j = od j)
    (y1 : m_packages v' = m_packages v) (y2 : m_versions v' = m_versions v) (y3 : m_rows v' = m_rows v) (y4 : m_demands v' = m_demands v) (y5 : m_many v' = upd (m_many v) (120 + (dm - 1)) (nI (mn (120 + (dm - 1)) + 1))) (y6 : m_other v' = upd (m_other v) (3 * (120 + (dm - 1)) + mn (120 + (dm - 1))) (nI q)) (y7 : m_pack v' = m_pack v) (y8 : m_version v' = m_version v) (y9 : m_kind v' = m_kind v) (y10 : m_set v' = upd (m_set v) (3 * (120 + (dm - 1)) + mn (120 + (dm - 1))) s) (y11 : m_out v' = m_out v) (y12 : m_locks v' = m_locks v) (y13 : m_away v' = m_away v) :
    RelN u' v' n vs r dm (cu mn (120 + (dm - 1)) (mn (120 + (dm - 1)) + 1)) (cu ot (3 * (120 + (dm - 1)) + mn (120 + (dm - 1))) q) pk ver od' L nd' := by
  obtain ⟨⟨⟨b1, b2, b3, b4, b5, b6, b7, b8, b9, b10, b11⟩, m2, m3, m4, m5, ⟨kz, m6, m7⟩, m8, m9, m10, m11⟩, ⟨i1, i2, i3, i4, i5⟩, h3, h4, h5, h6, ⟨h7, h8⟩, h9, h10⟩ := hN
  unfold RelN MSrch MB
  rw [y1, y2, y3, y4, y5, y6, y7, y8, y9, y10, y11, y12, y13]
  refine ⟨⟨⟨b1, b2, b3, b4, b5, b6, b7, fun k hk => ⟨updI (b8 k hk).1, ?_⟩, fun j hj => ⟨updI (b9 j hj).1, ?_⟩, b10, b11⟩, m2, ⟨_, x5⟩, t1, t2, ⟨kz, m6, ?_⟩, fun d hd => ?_, fun k hk => ⟨(m9 k hk).1, fun i hi => ?_⟩, fun d hd i hi => ?_, m11⟩, ⟨by rw [x1]; exact i1, by rw [x2]; exact i2, by rw [x3]; exact i3, x4, x5⟩, by rw [x6]; exact h3, fun k hk p hp a ha => ?_, fun d hd p hp a ha => ?_, by rw [x9]; exact h6, ⟨by rw [x10]; exact h7, h8⟩, fun k hk => ?_, fun d hd => ?_⟩
  · by_cases hkr : k = 120 + (dm - 1)
    · rw [hkr, cu_s]; omega
    · rw [cu_n _ _ hkr]; exact (b8 k hk).2
  · by_cases hjr : j = 3 * (120 + (dm - 1)) + mn (120 + (dm - 1))
    · rw [hjr, cu_s]; omega
    · rw [cu_n _ _ hjr]; exact (b9 j hj).2
  · obtain ⟨e, rfl⟩ : ∃ e, dm = e + 1 := ⟨dm - 1, by omega⟩
    rw [show e + 1 - 1 = e by omega] at *
    rw [dems_snoc] at m7 ⊢
    obtain ⟨c1, a1, a2⟩ := m7
    rw [Nat.zero_add] at a2 ⊢
    have hz : kz e = true := (m6 e (by omega)).mpr hkd
    rw [if_pos hz] at a2
    have hle := alts_le _ _ _ _ a2
    refine ⟨c1, dems_congr _ _ _ _ (fun j hj => t4 j (by omega)) (fun j j1 j2 => ⟨rfl, cu_n _ _ (by omega), fun i hi => cu_n _ _ (by have := (b8 (120 + j) (by omega)).2; omega)⟩) a1, ?_⟩
    rw [if_pos hz, cu_s]
    have a3 := alts_congr (od' := od') (ps' := fun i => cu ot (3 * (120 + e) + mn (120 + e)) q (3 * (120 + e) + i)) _ _ _ _ t4 (fun j j1 j2 => cu_n _ _ (by omega)) a2
    refine alts_snoc _ _ _ _ _ a3 ?_
    show ((∃ j, j < nd ∧ od' j = cu ot (3 * (120 + e) + mn (120 + e)) q (3 * (120 + e) + (0 + mn (120 + e)))) ∧ _) ∨ ((∀ j, j < nd → od' j ≠ cu ot (3 * (120 + e) + mn (120 + e)) q (3 * (120 + e) + (0 + mn (120 + e)))) ∧ od' nd = cu ot (3 * (120 + e) + mn (120 + e)) q (3 * (120 + e) + (0 + mn (120 + e))) ∧ _)
    rw [Nat.zero_add, cu_s]
    exact t3
  · by_cases hdd : 120 + d = 120 + (dm - 1)
    · rw [hdd, cu_s]; omega
    · rw [cu_n _ _ hdd]; exact m8 d hd
  · rw [cu_n _ _ (show k ≠ 120 + (dm - 1) by omega)] at hi
    have := (b8 k (by omega)).2
    rw [cu_n _ _ (by omega)]; exact (m9 k hk).2 i hi
  · by_cases hdd : d = dm - 1
    · subst hdd
      rw [cu_s] at hi
      by_cases hi2 : i = mn (120 + (dm - 1))
      · rw [hi2, cu_s]; exact hq
      · rw [cu_n _ _ (by omega)]; exact m10 _ hd i (by omega)
    · rw [cu_n _ _ (show 120 + d ≠ 120 + (dm - 1) by omega)] at hi
      have := (b8 (120 + d) (by omega)).2
      rw [cu_n _ _ (by omega)]; exact m10 d hd i hi
  · rw [x7]
    show _ = (_ || anyA (m_kind v) (upd (m_set v) (3 * (120 + (dm - 1)) + mn (120 + (dm - 1))) s) (cu ot (3 * (120 + (dm - 1)) + mn (120 + (dm - 1))) q) k p a _ 0)
    have := (b8 k (by omega)).2
    rw [cu_n _ _ (show k ≠ 120 + (dm - 1) by omega), h4 k hk p hp a ha, any_congr (kd := m_kind v) (st := m_set v) (ot := ot) rfl (mn k) 0 (fun j j1 j2 => ⟨pk_un (by omega), cu_n _ _ (by omega)⟩)]
  · rw [x8]
    show _ = anyA (m_kind v) (upd (m_set v) (3 * (120 + (dm - 1)) + mn (120 + (dm - 1))) s) (cu ot (3 * (120 + (dm - 1)) + mn (120 + (dm - 1))) q) (120 + d) p a _ 0
    by_cases hdd : d = dm - 1
    · subst hdd
      rw [pk_uLs, cu_s, or_bits hkd, gb_or, h5 _ hd p hp a ha, gb_vers s (by omega) hp (by omega)]
      congr 1
      by_cases hpq : p = q
      · rw [hpq]
      · have : ¬ q = p := fun h2 => hpq h2.symm
        simp [hpq, this]
    · have := (b8 (120 + d) (by omega)).2
      rw [pk_uLn hdd, cu_n _ _ (show 120 + d ≠ 120 + (dm - 1) by omega), h5 d hd p hp a ha, any_congr (kd := m_kind v) (st := m_set v) (ot := ot) rfl (mn (120 + d)) 0 (fun j j1 j2 => ⟨pk_un (by omega), cu_n _ _ (by omega)⟩)]
  · show 0 < _ ∧ (m_kind v k = 0 ∨ _)
    rw [cu_n _ _ (by omega)]; exact h9 k hk
  · show m_kind v (120 + d) = 0 ∨ _
    by_cases hdd : d = dm - 1
    · rw [hdd]; exact Or.inl hkd
    · rw [cu_n _ _ (by omega)]; exact h10 d hd
theorem or_step (hfu : 400000000 ≤ fu) (h : Rel u v) (p s : Int32) : Step (pf_X0_or fu p s u) (pf_X1_or fu p s v) := by
  have hcode := rel_code h
  obtain ⟨n, vs, r, dm, mn, ot, pk, ver, od, L, nd, hN, hL, hC, hB⟩ := h
  have hn8 := hN.1.1.2.1
  have hr := hN.1.1.2.2.2.2.1
  have hdm := hN.1.1.2.2.2.2.2.2.1
  have b8 := hN.1.1.2.2.2.2.2.2.2.1
  unfold pf_X0_or
  rcases hL with ⟨l1, l2⟩ | ⟨l0, l1, l2, l3⟩ | ⟨l0, l1, l2, l3⟩
  · rw [l2, if_pos (by decide)]
    unfold pf_X1_or
    rw [l1, if_pos rfl]
    exact ⟨_, _, _, rfl, rfl, hcode⟩
  · obtain ⟨M1, M2, M3⟩ := orM (fu := fu) (k := r - 1) (by omega) hN.1.1.1 l1 (b8 _ (by omega)).1 (b8 _ (by omega)).2 p s
    rw [l3]
    by_cases hg : m_kind v (r - 1) = 0 ∧ mn (r - 1) < 3
    · rw [if_neg (fun h => (fr_pos (b8 _ (by omega)).2).mp h hg)]
      rcases hasPack_ok hn8 hN.2.1.1 p with ⟨e1, q, hq, rfl⟩ | ⟨e1, h1⟩
      · rw [e1, if_neg (by decide), l2, if_pos rfl, M3 hg (in_pack hn8 hq)]
        have eX : ∀ x, pf_X0_addToLatestRow fu (nI q) s (xs_alternativesFree u x) = some (xs_rowRules (xs_alternativesFree u x) (vp_updL (x_rowRules u) (r - 1) (x_rowRules u (r - 1) ||| pf_X0_versionsOf (nI q) s))) := by
          intro x
          unfold pf_X0_addToLatestRow
          have e : x_rows (xs_alternativesFree u x) = nI r := by rw [rq_x_rows_alternativesFree]; exact hN.2.1.2.1
          obtain ⟨r', rfl⟩ : ∃ k, r = k + 1 := ⟨r - 1, by omega⟩
          rw [e, if_neg (nI_nle (by omega) (by omega)), nI_pred, og_t (inb_nI (show r' < 120 by omega) (by decide)), og_t (inb_nI (show r' < 120 by omega) (by decide)), nI_clamp (by omega), show r' + 1 - 1 = r' by omega, rq_x_rowRules_alternativesFree]
        rw [ob_s (eX _)]
        refine ⟨1, _, _, rfl, rfl, n, vs, r, dm, cu mn (r - 1) (mn (r - 1) + 1), cu ot (3 * (r - 1) + mn (r - 1)) q, pk, ver, od, L, nd, or_row (s := s) hN l0 hg.1 hg.2 hq (by simp only [rq_x_packs_alternativesFree, rq_x_packs_rowRules]) (by simp only [rq_x_rows_alternativesFree, rq_x_rows_rowRules]) (by simp only [rq_x_demands_alternativesFree, rq_x_demands_rowRules]) (by simp only [rq_x_neededPacks_alternativesFree, rq_x_neededPacks_rowRules]) (by simp only [rq_x_order_alternativesFree, rq_x_order_rowRules]) (by simp only [rq_x_places_alternativesFree, rq_x_places_rowRules]) (by simp only [rq_x_rowRules_alternativesFree, rq_x_rowRules_rowRules]) (by simp only [rq_x_demandRules_alternativesFree, rq_x_demandRules_rowRules]) (by simp only [rq_x_leftOut_alternativesFree, rq_x_leftOut_rowRules]) (by simp only [rq_x_locked_alternativesFree, rq_x_locked_rowRules]) (by simp only [rq_m_packages_code, rq_m_packages_other, rq_m_packages_set, rq_m_packages_many]) (by simp only [rq_m_versions_code, rq_m_versions_other, rq_m_versions_set, rq_m_versions_many]) (by simp only [rq_m_rows_code, rq_m_rows_other, rq_m_rows_set, rq_m_rows_many]) (by simp only [rq_m_demands_code, rq_m_demands_other, rq_m_demands_set, rq_m_demands_many]) (by simp only [rq_m_many_code, rq_m_many_other, rq_m_many_set, rq_m_many_many]) (by simp only [rq_m_other_code, rq_m_other_other, rq_m_other_set, rq_m_other_many]) (by simp only [rq_m_pack_code, rq_m_pack_other, rq_m_pack_set, rq_m_pack_many]) (by simp only [rq_m_version_code, rq_m_version_other, rq_m_version_set, rq_m_version_many]) (by simp only [rq_m_kind_code, rq_m_kind_other, rq_m_kind_set, rq_m_kind_many]) (by simp only [rq_m_set_code, rq_m_set_other, rq_m_set_set, rq_m_set_many]) (by simp only [rq_m_out_code, rq_m_out_other, rq_m_out_set, rq_m_out_many]) (by simp only [rq_m_locks_code, rq_m_locks_other, rq_m_locks_set, rq_m_locks_many]) (by simp only [rq_m_away_code, rq_m_away_other, rq_m_away_set, rq_m_away_many]), Or.inr (Or.inl ⟨l0, (by simp only [rq_m_latest_code, rq_m_latest_other, rq_m_latest_set, rq_m_latest_many, l1]), (by simp only [rq_x_latestIsDemand_alternativesFree, rq_x_latestIsDemand_rowRules, l2]), ?_⟩), RelC_to hC (by simp only [rq_m_chosen_code, rq_m_chosen_other, rq_m_chosen_set, rq_m_chosen_many]) (by simp only [rq_x_picked_alternativesFree, rq_x_picked_rowRules]), RelB_to hB (by simp only [rq_m_blames_code, rq_m_blames_other, rq_m_blames_set, rq_m_blames_many]) (by simp only [rq_m_blamed_code, rq_m_blamed_other, rq_m_blamed_set, rq_m_blamed_many]) (by simp only [rq_x_toBlame_alternativesFree, rq_x_toBlame_rowRules])⟩
        unfold frOf
        simp only [rq_x_alternativesFree_alternativesFree, rq_x_alternativesFree_rowRules, rq_m_kind_code, rq_m_kind_other, rq_m_kind_set, rq_m_kind_many]
        rw [if_pos hg.1, if_pos hg.1, cu_s, show 3 - mn (r - 1) = (3 - (mn (r - 1) + 1)) + 1 by omega]
        exact nI_pred _
      · rw [e1, if_pos rfl, M2 hg h1]; exact ⟨_, _, _, rfl, rfl, hcode⟩
    · rw [if_pos ((fr_pos (b8 _ (by omega)).2).mpr hg), M1 hg]; exact ⟨_, _, _, rfl, rfl, hcode⟩
  · obtain ⟨M1, M2, M3⟩ := orM (fu := fu) (k := 120 + (dm - 1)) (by omega) hN.1.1.1 l1 (b8 _ (by omega)).1 (b8 _ (by omega)).2 p s
    rw [l3]
    by_cases hg : m_kind v (120 + (dm - 1)) = 0 ∧ mn (120 + (dm - 1)) < 3
    · rw [if_neg (fun h => (fr_pos (b8 _ (by omega)).2).mp h hg)]
      rcases hasPack_ok hn8 hN.2.1.1 p with ⟨e1, q, hq, rfl⟩ | ⟨e1, h1⟩
      · rw [e1, if_neg (by decide), l2, if_neg (by decide), M3 hg (in_pack hn8 hq)]
        have hfr : frOf v mn (120 + (dm - 1)) - (1 : Int32) = if m_kind v (120 + (dm - 1)) = 0 then nI (3 - cu mn (120 + (dm - 1)) (mn (120 + (dm - 1)) + 1) (120 + (dm - 1))) else 0 := by
          unfold frOf
          rw [if_pos hg.1, if_pos hg.1, cu_s, show 3 - mn (120 + (dm - 1)) = (3 - (mn (120 + (dm - 1)) + 1)) + 1 by omega]
          exact nI_pred _
        generalize frOf v mn (120 + (dm - 1)) - (1 : Int32) = x at hfr ⊢
        have eX : ∀ y, pf_X0_moveToNeeded fu (nI q) (xs_demandRules (xs_alternativesFree u x) (vp_updL (x_demandRules u) (dm - 1) (x_demandRules u (dm - 1) ||| pf_X0_versionsOf (nI q) s))) = some y → pf_X0_addToLatestDemand fu (nI q) s (xs_alternativesFree u x) = some y := by
          intro y hy
          unfold pf_X0_addToLatestDemand
          have e : x_demands (xs_alternativesFree u x) = nI dm := by rw [rq_x_demands_alternativesFree]; exact hN.2.1.2.2.1
          obtain ⟨d', rfl⟩ : ∃ k, dm = k + 1 := ⟨dm - 1, by omega⟩
          rw [e, if_neg (nI_nle (by omega) (by omega)), nI_pred, og_t (inb_nI (show d' < 12 by omega) (by decide)), og_t (inb_nI (show d' < 12 by omega) (by decide)), nI_clamp (by omega), rq_x_demandRules_alternativesFree]
          rw [show d' + 1 - 1 = d' by omega] at hy
          exact ob_s hy
        have ht := hN.1.2.2.2.1
        have hod := hN.2.1.2.2.2.2
        have hun := hN.2.1.2.2.2.1
        have hndl := hN.1.2.2.2.2.1
        obtain ⟨U, hU⟩ : ∃ U, U = xs_demandRules (xs_alternativesFree u x) (vp_updL (x_demandRules u) (dm - 1) (x_demandRules u (dm - 1) ||| pf_X0_versionsOf (nI q) s)) := ⟨_, rfl⟩
        rw [← hU] at eX
        have u_packs : x_packs U = x_packs u := by rw [hU]; simp only [rq_x_packs_alternativesFree, rq_x_packs_demandRules]
        have u_rows : x_rows U = x_rows u := by rw [hU]; simp only [rq_x_rows_alternativesFree, rq_x_rows_demandRules]
        have u_demands : x_demands U = x_demands u := by rw [hU]; simp only [rq_x_demands_alternativesFree, rq_x_demands_demandRules]
        have u_neededPacks : x_neededPacks U = x_neededPacks u := by rw [hU]; simp only [rq_x_neededPacks_alternativesFree, rq_x_neededPacks_demandRules]
        have u_order : x_order U = x_order u := by rw [hU]; simp only [rq_x_order_alternativesFree, rq_x_order_demandRules]
        have u_places : x_places U = x_places u := by rw [hU]; simp only [rq_x_places_alternativesFree, rq_x_places_demandRules]
        have u_rowRules : x_rowRules U = x_rowRules u := by rw [hU]; simp only [rq_x_rowRules_alternativesFree, rq_x_rowRules_demandRules]
        have u_demandRules : x_demandRules U = vp_updL (x_demandRules u) (dm - 1) (x_demandRules u (dm - 1) ||| pf_X0_versionsOf (nI q) s) := by rw [hU]; simp only [rq_x_demandRules_alternativesFree, rq_x_demandRules_demandRules]
        have u_leftOut : x_leftOut U = x_leftOut u := by rw [hU]; simp only [rq_x_leftOut_alternativesFree, rq_x_leftOut_demandRules]
        have u_locked : x_locked U = x_locked u := by rw [hU]; simp only [rq_x_locked_alternativesFree, rq_x_locked_demandRules]
        have u_latestIsDemand : x_latestIsDemand U = x_latestIsDemand u := by rw [hU]; simp only [rq_x_latestIsDemand_alternativesFree, rq_x_latestIsDemand_demandRules]
        have u_alternativesFree : x_alternativesFree U = x := by rw [hU]; simp only [rq_x_alternativesFree_alternativesFree, rq_x_alternativesFree_demandRules]
        have u_picked : x_picked U = x_picked u := by rw [hU]; simp only [rq_x_picked_alternativesFree, rq_x_picked_demandRules]
        have u_toBlame : x_toBlame U = x_toBlame u := by rw [hU]; simp only [rq_x_toBlame_alternativesFree, rq_x_toBlame_demandRules]
        have hodU : OrdOK (x_order U) od := by rw [u_order]; exact hod
        have hunU : x_neededPacks U = nI nd := by rw [u_neededPacks]; exact hun
        rcases move_ok (fu := fu) (u := U) (by omega) hodU ht hn8 hunU hq with ⟨g1, g2⟩ | ⟨g1, od', f, g2, g3, g4, g5, g6, g7⟩
        · rw [ob_s (eX _ g2)]
          exact ⟨1, _, _, rfl, rfl, n, vs, r, dm, cu mn (120 + (dm - 1)) (mn (120 + (dm - 1)) + 1), cu ot (3 * (120 + (dm - 1)) + mn (120 + (dm - 1))) q, pk, ver, od, L, nd, or_dem (s := s) hN l0 hg.1 hg.2 hq u_packs u_rows u_demands hunU hodU u_places u_rowRules u_demandRules u_leftOut u_locked ht hndl (Or.inl ⟨g1, rfl⟩) (fun _ _ => rfl) (by simp only [rq_m_packages_code, rq_m_packages_other, rq_m_packages_set, rq_m_packages_many]) (by simp only [rq_m_versions_code, rq_m_versions_other, rq_m_versions_set, rq_m_versions_many]) (by simp only [rq_m_rows_code, rq_m_rows_other, rq_m_rows_set, rq_m_rows_many]) (by simp only [rq_m_demands_code, rq_m_demands_other, rq_m_demands_set, rq_m_demands_many]) (by simp only [rq_m_many_code, rq_m_many_other, rq_m_many_set, rq_m_many_many]) (by simp only [rq_m_other_code, rq_m_other_other, rq_m_other_set, rq_m_other_many]) (by simp only [rq_m_pack_code, rq_m_pack_other, rq_m_pack_set, rq_m_pack_many]) (by simp only [rq_m_version_code, rq_m_version_other, rq_m_version_set, rq_m_version_many]) (by simp only [rq_m_kind_code, rq_m_kind_other, rq_m_kind_set, rq_m_kind_many]) (by simp only [rq_m_set_code, rq_m_set_other, rq_m_set_set, rq_m_set_many]) (by simp only [rq_m_out_code, rq_m_out_other, rq_m_out_set, rq_m_out_many]) (by simp only [rq_m_locks_code, rq_m_locks_other, rq_m_locks_set, rq_m_locks_many]) (by simp only [rq_m_away_code, rq_m_away_other, rq_m_away_set, rq_m_away_many]), Or.inr (Or.inr ⟨l0, (by simp only [rq_m_latest_code, rq_m_latest_other, rq_m_latest_set, rq_m_latest_many, l1]), (by rw [u_latestIsDemand]; exact l2), (by rw [u_alternativesFree, hfr]; unfold frOf; simp only [rq_m_kind_code, rq_m_kind_other, rq_m_kind_set, rq_m_kind_many])⟩), RelC_to hC (by simp only [rq_m_chosen_code, rq_m_chosen_other, rq_m_chosen_set, rq_m_chosen_many]) u_picked, RelB_to hB (by simp only [rq_m_blames_code, rq_m_blames_other, rq_m_blames_set, rq_m_blames_many]) (by simp only [rq_m_blamed_code, rq_m_blamed_other, rq_m_blamed_set, rq_m_blamed_many]) u_toBlame⟩
        · rw [ob_s (eX _ g2)]
          exact ⟨1, _, _, rfl, rfl, n, vs, r, dm, cu mn (120 + (dm - 1)) (mn (120 + (dm - 1)) + 1), cu ot (3 * (120 + (dm - 1)) + mn (120 + (dm - 1))) q, pk, ver, od', L, nd + 1, or_dem (s := s) hN l0 hg.1 hg.2 hq (by simp only [rq_x_packs_order, rq_x_packs_neededPacks, u_packs]) (by simp only [rq_x_rows_order, rq_x_rows_neededPacks, u_rows]) (by simp only [rq_x_demands_order, rq_x_demands_neededPacks, u_demands]) (by simp only [rq_x_neededPacks_neededPacks]) (by simp only [rq_x_order_order, rq_x_order_neededPacks]; exact g3) (by simp only [rq_x_places_order, rq_x_places_neededPacks, u_places]) (by simp only [rq_x_rowRules_order, rq_x_rowRules_neededPacks, u_rowRules]) (by simp only [rq_x_demandRules_order, rq_x_demandRules_neededPacks, u_demandRules]) (by simp only [rq_x_leftOut_order, rq_x_leftOut_neededPacks, u_leftOut]) (by simp only [rq_x_locked_order, rq_x_locked_neededPacks, u_locked]) g7 (fun j hj => by
            rcases Nat.lt_or_ge j nd with z | z
            · rw [g4 j z]; exact hndl j z
            · rw [show j = nd by omega, g5]; exact hq) (Or.inr ⟨fun j hj => by rw [g4 j hj]; exact g1 j hj, g5, g6, rfl⟩) g4 (by simp only [rq_m_packages_code, rq_m_packages_other, rq_m_packages_set, rq_m_packages_many]) (by simp only [rq_m_versions_code, rq_m_versions_other, rq_m_versions_set, rq_m_versions_many]) (by simp only [rq_m_rows_code, rq_m_rows_other, rq_m_rows_set, rq_m_rows_many]) (by simp only [rq_m_demands_code, rq_m_demands_other, rq_m_demands_set, rq_m_demands_many]) (by simp only [rq_m_many_code, rq_m_many_other, rq_m_many_set, rq_m_many_many]) (by simp only [rq_m_other_code, rq_m_other_other, rq_m_other_set, rq_m_other_many]) (by simp only [rq_m_pack_code, rq_m_pack_other, rq_m_pack_set, rq_m_pack_many]) (by simp only [rq_m_version_code, rq_m_version_other, rq_m_version_set, rq_m_version_many]) (by simp only [rq_m_kind_code, rq_m_kind_other, rq_m_kind_set, rq_m_kind_many]) (by simp only [rq_m_set_code, rq_m_set_other, rq_m_set_set, rq_m_set_many]) (by simp only [rq_m_out_code, rq_m_out_other, rq_m_out_set, rq_m_out_many]) (by simp only [rq_m_locks_code, rq_m_locks_other, rq_m_locks_set, rq_m_locks_many]) (by simp only [rq_m_away_code, rq_m_away_other, rq_m_away_set, rq_m_away_many]), Or.inr (Or.inr ⟨l0, (by simp only [rq_m_latest_code, rq_m_latest_other, rq_m_latest_set, rq_m_latest_many, l1]), (by rw [rq_x_latestIsDemand_neededPacks, rq_x_latestIsDemand_order, u_latestIsDemand]; exact l2), (by rw [rq_x_alternativesFree_neededPacks, rq_x_alternativesFree_order, u_alternativesFree, hfr]; unfold frOf; simp only [rq_m_kind_code, rq_m_kind_other, rq_m_kind_set, rq_m_kind_many])⟩), RelC_to hC (by simp only [rq_m_chosen_code, rq_m_chosen_other, rq_m_chosen_set, rq_m_chosen_many]) (by simp only [rq_x_picked_order, rq_x_picked_neededPacks, u_picked]), RelB_to hB (by simp only [rq_m_blames_code, rq_m_blames_other, rq_m_blames_set, rq_m_blames_many]) (by simp only [rq_m_blamed_code, rq_m_blamed_other, rq_m_blamed_set, rq_m_blamed_many]) (by simp only [rq_x_toBlame_order, rq_x_toBlame_neededPacks, u_toBlame])⟩
      · rw [e1, if_pos rfl, M2 hg h1]; exact ⟨_, _, _, rfl, rfl, hcode⟩
    · rw [if_pos ((fr_pos (b8 _ (by omega)).2).mpr hg), M1 hg]; exact ⟨_, _, _, rfl, rfl, hcode⟩
end CF
