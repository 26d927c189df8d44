/-! ONE CALL ON BOTH SIDES, 2: each call answers the same, and the states stay side by side. -/
/-- what a call's step says -/
def Step (a : Option (Int32 × XS)) (b : Option (Int32 × MS)) : Prop := ∃ z u' v', a = some (z, u') ∧ b = some (z, v') ∧ Rel u' v'
/-- the same for a call that leaves the class as it is -/
def StepR (u : XS) (a : Option Int32) (b : Option (Int32 × MS)) : Prop := ∃ z v', a = some z ∧ b = some (z, v') ∧ Rel u v'
section CA
variable {fu : Nat} {u : XS} {v : MS}
theorem gb_sgl {y : Int64} {c : Nat → Nat} (hs : sgl y c) {p b : Nat} (hp : p < 8) (hb : b < 8) : gb y p b = decide (b = c p) := hs p hp b hb
theorem chosen_loop {v : MS} {q : Int32 × MS} {n : Nat} (hn : n ≤ 8) (hpe : m_packages v = nI n) (K : Int32 → MS → Option (Int32 × MS)) : ∀ (m i : Nat) (f : Nat → Int32), i ≤ 8 → 8 < i + m → 
    ∃ j f', pl_X1_solve_18 fu q K m (nI i) (ms_chosen v f) = K j (ms_chosen v f') ∧ (∀ j, j < i → f' j = f j) ∧ ∀ j, i ≤ j → j < 8 → f' j = if q.1 = 0 then (-1 : Int32) else if j < n then m_value v j else (-1 : Int32) := by
  intro m
  induction m with
  | zero => intro i f h1 h2; exact absurd h2 (by omega)
  | succ m ih =>
    intro i f h1 h2
    rw [pl_X1_solve_18]
    rcases Nat.lt_or_ge i 8 with w | w
    · rw [if_neg (show ¬ (8 : Int32) ≤ nI i from nI_ge w (by decide)), og_t (inb_nI w (by decide)), og_t (inb_nI w (by decide)), nI_clamp (by omega), nI_1]
      simp only [show m_chosen (ms_chosen v f) = f from rfl, show m_packages (ms_chosen v f) = m_packages v from rfl, show m_value (ms_chosen v f) = m_value v from rfl, show ∀ f', ms_chosen (ms_chosen v f) f' = ms_chosen v f' from fun _ => rfl, hpe]
      have fin : ∀ x : Int32, x = (if q.1 = 0 then (-1 : Int32) else if i < n then m_value v i else (-1 : Int32)) → ∃ j f', pl_X1_solve_18 fu q K m (nI (i + 1)) (ms_chosen v (upd f i x)) = K j (ms_chosen v f') ∧ (∀ j, j < i → f' j = f j) ∧ ∀ j, i ≤ j → j < 8 → f' j = if q.1 = 0 then (-1 : Int32) else if j < n then m_value v j else (-1 : Int32) := by
        intro x hx
        obtain ⟨j, f', e, a1, a2⟩ := ih (i + 1) (upd f i x) (by omega) (by omega)
        refine ⟨j, f', e, fun j hj => by rw [a1 j (by omega), pk_un (by omega)], fun j j1 j2 => ?_⟩
        rcases Nat.lt_or_ge i j with z | z
        · exact a2 j z j2
        · rw [show j = i by omega, a1 i (by omega), pk_us, hx]
      by_cases h0 : q.1 = 0
      · rw [if_pos h0]
        exact fin _ (by rw [if_pos h0])
      · rw [if_neg h0]
        rcases Nat.lt_or_ge i n with z | z
        · rw [if_neg (nI_ge z (by omega)), og_t (inb_nI w (by decide))]
          exact fin _ (by rw [if_neg h0, if_pos z])
        · rw [if_pos (nI_le z (by omega))]
          exact fin _ (by rw [if_neg h0, if_neg (by omega)])
    · rw [if_pos (show (8 : Int32) ≤ nI i from nI_le w (by omega))]
      exact ⟨_, f, rfl, fun _ _ => rfl, fun j j1 j2 => by omega⟩
theorem msc_self (w : MS) : ms_chosen w (m_chosen w) = w := rfl
theorem solve_step (hfu : 400000000 ≤ fu) (h : Rel u v) : Step (pf_X0_solve fu u) (pf_X1_solve fu v) := by
  obtain ⟨n, vs, r, dm, mn, ot, pk, ver, od, L, nd, hN, hL, hC, hB⟩ := h
  have hn8 := hN.1.1.2.1
  obtain ⟨fa, e0, hfa⟩ := none_ok (fu := fu) (by omega) (ms_code v (0 : Int32))
  have hN1 : RelN u (ms_away (ms_code v (0 : Int32)) fa) n vs r dm mn ot pk ver od L nd := RelN_to hN _ (by simp only [mvs_packages, mon_packages, rq_m_packages_away, rq_m_packages_code, rq_m_packages_chosen, rq_m_packages_blames, rq_m_packages_blamed]) (by simp only [mvs_versions, mon_versions, rq_m_versions_away, rq_m_versions_code, rq_m_versions_chosen, rq_m_versions_blames, rq_m_versions_blamed]) (by simp only [mvs_rows, mon_rows, rq_m_rows_away, rq_m_rows_code, rq_m_rows_chosen, rq_m_rows_blames, rq_m_rows_blamed]) (by simp only [mvs_demands, mon_demands, rq_m_demands_away, rq_m_demands_code, rq_m_demands_chosen, rq_m_demands_blames, rq_m_demands_blamed]) (by simp only [mvs_many, mon_many, rq_m_many_away, rq_m_many_code, rq_m_many_chosen, rq_m_many_blames, rq_m_many_blamed]) (by simp only [mvs_other, mon_other, rq_m_other_away, rq_m_other_code, rq_m_other_chosen, rq_m_other_blames, rq_m_other_blamed]) (by simp only [mvs_pack, mon_pack, rq_m_pack_away, rq_m_pack_code, rq_m_pack_chosen, rq_m_pack_blames, rq_m_pack_blamed]) (by simp only [mvs_version, mon_version, rq_m_version_away, rq_m_version_code, rq_m_version_chosen, rq_m_version_blames, rq_m_version_blamed]) (by simp only [mvs_kind, mon_kind, rq_m_kind_away, rq_m_kind_code, rq_m_kind_chosen, rq_m_kind_blames, rq_m_kind_blamed]) (by simp only [mvs_set, mon_set, rq_m_set_away, rq_m_set_code, rq_m_set_chosen, rq_m_set_blames, rq_m_set_blamed]) (by simp only [mvs_out, mon_out, rq_m_out_away, rq_m_out_code, rq_m_out_chosen, rq_m_out_blames, rq_m_out_blamed]) (by simp only [mvs_locks, mon_locks, rq_m_locks_away, rq_m_locks_code, rq_m_locks_chosen, rq_m_locks_blames, rq_m_locks_blamed]) (fun d hd => by simp only [mvs_away, mon_away, rq_m_away_chosen, rq_m_away_away, rq_m_away_code, rq_m_away_blames, rq_m_away_blamed]; exact Or.inl (hfa d hd))
  obtain ⟨y, z, o, f, g, hh, e1, e2, hr⟩ := both_all hfu hN1 (kept_ok hN1 (fun d hd => by simp only [mvs_away, mon_away, rq_m_away_chosen, rq_m_away_away, rq_m_away_code, rq_m_away_blames, rq_m_away_blamed]; exact hfa d hd))
  have hNw := RelN_to hN1 (mvs (mon (ms_away (ms_code v (0 : Int32)) fa) o (nI nd)) f g hh) (by simp only [mvs_packages, mon_packages, rq_m_packages_away, rq_m_packages_code, rq_m_packages_chosen, rq_m_packages_blames, rq_m_packages_blamed]) (by simp only [mvs_versions, mon_versions, rq_m_versions_away, rq_m_versions_code, rq_m_versions_chosen, rq_m_versions_blames, rq_m_versions_blamed]) (by simp only [mvs_rows, mon_rows, rq_m_rows_away, rq_m_rows_code, rq_m_rows_chosen, rq_m_rows_blames, rq_m_rows_blamed]) (by simp only [mvs_demands, mon_demands, rq_m_demands_away, rq_m_demands_code, rq_m_demands_chosen, rq_m_demands_blames, rq_m_demands_blamed]) (by simp only [mvs_many, mon_many, rq_m_many_away, rq_m_many_code, rq_m_many_chosen, rq_m_many_blames, rq_m_many_blamed]) (by simp only [mvs_other, mon_other, rq_m_other_away, rq_m_other_code, rq_m_other_chosen, rq_m_other_blames, rq_m_other_blamed]) (by simp only [mvs_pack, mon_pack, rq_m_pack_away, rq_m_pack_code, rq_m_pack_chosen, rq_m_pack_blames, rq_m_pack_blamed]) (by simp only [mvs_version, mon_version, rq_m_version_away, rq_m_version_code, rq_m_version_chosen, rq_m_version_blames, rq_m_version_blamed]) (by simp only [mvs_kind, mon_kind, rq_m_kind_away, rq_m_kind_code, rq_m_kind_chosen, rq_m_kind_blames, rq_m_kind_blamed]) (by simp only [mvs_set, mon_set, rq_m_set_away, rq_m_set_code, rq_m_set_chosen, rq_m_set_blames, rq_m_set_blamed]) (by simp only [mvs_out, mon_out, rq_m_out_away, rq_m_out_code, rq_m_out_chosen, rq_m_out_blames, rq_m_out_blamed]) (by simp only [mvs_locks, mon_locks, rq_m_locks_away, rq_m_locks_code, rq_m_locks_chosen, rq_m_locks_blames, rq_m_locks_blamed]) (fun d hd => by simp only [mvs_away, mon_away, rq_m_away_chosen, rq_m_away_away, rq_m_away_code, rq_m_away_blames, rq_m_away_blamed]; exact Or.inl (hfa d hd))
  have hLw : RelL u (mvs (mon (ms_away (ms_code v (0 : Int32)) fa) o (nI nd)) f g hh) r dm mn := RelL_to hL (by simp only [mvs_latest, mon_latest, rq_m_latest_away, rq_m_latest_code, rq_m_latest_chosen, rq_m_latest_blames, rq_m_latest_blamed]) (by simp only [mvs_kind, mon_kind, rq_m_kind_away, rq_m_kind_code, rq_m_kind_chosen, rq_m_kind_blames, rq_m_kind_blamed]) rfl rfl
  have hBw : RelB u (mvs (mon (ms_away (ms_code v (0 : Int32)) fa) o (nI nd)) f g hh) := RelB_to hB (by simp only [mvs_blames, mon_blames, rq_m_blames_away, rq_m_blames_code, rq_m_blames_chosen, rq_m_blames_blames, rq_m_blames_blamed]) (by simp only [mvs_blamed, mon_blamed, rq_m_blamed_away, rq_m_blamed_code, rq_m_blamed_chosen, rq_m_blamed_blames, rq_m_blamed_blamed]) rfl
  have hval := mvs_value (mon (ms_away (ms_code v (0 : Int32)) fa) o (nI nd)) f g hh
  generalize mvs (mon (ms_away (ms_code v (0 : Int32)) fa) o (nI nd)) f g hh = w at e2 hNw hLw hBw hval
  unfold pf_X0_solve pf_X1_solve
  rw [ob_s e1, ob_s e0, ob_s e2]
  obtain ⟨j, ch, e3, -, a2⟩ := chosen_loop (fu := fu) (v := w) (q := (z, w)) hn8 hNw.1.1.1 (fun x2_18 u_18 => (if z = 0 then (some ((0 : Int32), u_18)) else (some ((1 : Int32), u_18)))) fu 0 (m_chosen w) (by decide) (by omega)
  rw [nI_0, msc_self] at e3
  dsimp only at e3 a2 ⊢
  rw [e3]
  have hRel : RelC (xs_picked u y) (ms_chosen w ch) → Rel (xs_picked u y) (ms_chosen w ch) := fun hc =>
    ⟨n, vs, r, dm, mn, ot, pk, ver, od, L, nd, RelN_tou (RelN_to hNw _ (by simp only [mvs_packages, mon_packages, rq_m_packages_away, rq_m_packages_code, rq_m_packages_chosen, rq_m_packages_blames, rq_m_packages_blamed]) (by simp only [mvs_versions, mon_versions, rq_m_versions_away, rq_m_versions_code, rq_m_versions_chosen, rq_m_versions_blames, rq_m_versions_blamed]) (by simp only [mvs_rows, mon_rows, rq_m_rows_away, rq_m_rows_code, rq_m_rows_chosen, rq_m_rows_blames, rq_m_rows_blamed]) (by simp only [mvs_demands, mon_demands, rq_m_demands_away, rq_m_demands_code, rq_m_demands_chosen, rq_m_demands_blames, rq_m_demands_blamed]) (by simp only [mvs_many, mon_many, rq_m_many_away, rq_m_many_code, rq_m_many_chosen, rq_m_many_blames, rq_m_many_blamed]) (by simp only [mvs_other, mon_other, rq_m_other_away, rq_m_other_code, rq_m_other_chosen, rq_m_other_blames, rq_m_other_blamed]) (by simp only [mvs_pack, mon_pack, rq_m_pack_away, rq_m_pack_code, rq_m_pack_chosen, rq_m_pack_blames, rq_m_pack_blamed]) (by simp only [mvs_version, mon_version, rq_m_version_away, rq_m_version_code, rq_m_version_chosen, rq_m_version_blames, rq_m_version_blamed]) (by simp only [mvs_kind, mon_kind, rq_m_kind_away, rq_m_kind_code, rq_m_kind_chosen, rq_m_kind_blames, rq_m_kind_blamed]) (by simp only [mvs_set, mon_set, rq_m_set_away, rq_m_set_code, rq_m_set_chosen, rq_m_set_blames, rq_m_set_blamed]) (by simp only [mvs_out, mon_out, rq_m_out_away, rq_m_out_code, rq_m_out_chosen, rq_m_out_blames, rq_m_out_blamed]) (by simp only [mvs_locks, mon_locks, rq_m_locks_away, rq_m_locks_code, rq_m_locks_chosen, rq_m_locks_blames, rq_m_locks_blamed]) (fun d hd => by simp only [mvs_away, mon_away, rq_m_away_chosen, rq_m_away_away, rq_m_away_code, rq_m_away_blames, rq_m_away_blamed]; exact (hNw.1.1.2.2.2.2.2.2.2.2.2.2 d hd).2)) (by simp only [rq_x_packs_picked, rq_x_packs_toBlame]) (by simp only [rq_x_rows_picked, rq_x_rows_toBlame]) (by simp only [rq_x_demands_picked, rq_x_demands_toBlame]) (by simp only [rq_x_neededPacks_picked, rq_x_neededPacks_toBlame]) (by simp only [rq_x_order_picked, rq_x_order_toBlame]) (by simp only [rq_x_places_picked, rq_x_places_toBlame]) (by simp only [rq_x_rowRules_picked, rq_x_rowRules_toBlame]) (by simp only [rq_x_demandRules_picked, rq_x_demandRules_toBlame]) (by simp only [rq_x_leftOut_picked, rq_x_leftOut_toBlame]) (by simp only [rq_x_locked_picked, rq_x_locked_toBlame]), RelL_to hLw (by simp only [mvs_latest, mon_latest, rq_m_latest_away, rq_m_latest_code, rq_m_latest_chosen, rq_m_latest_blames, rq_m_latest_blamed]) (by simp only [mvs_kind, mon_kind, rq_m_kind_away, rq_m_kind_code, rq_m_kind_chosen, rq_m_kind_blames, rq_m_kind_blamed]) (by simp only [rq_x_latestIsDemand_picked, rq_x_latestIsDemand_toBlame]) (by simp only [rq_x_alternativesFree_picked, rq_x_alternativesFree_toBlame]), hc, RelB_to hBw (by simp only [mvs_blames, mon_blames, rq_m_blames_away, rq_m_blames_code, rq_m_blames_chosen, rq_m_blames_blames, rq_m_blames_blamed]) (by simp only [mvs_blamed, mon_blamed, rq_m_blamed_away, rq_m_blamed_code, rq_m_blamed_chosen, rq_m_blamed_blames, rq_m_blamed_blamed]) (by simp only [rq_x_toBlame_picked, rq_x_toBlame_toBlame])⟩
  rcases hr with ⟨y0, z0⟩ | ⟨y0, z1, c, c7, hs, hc6, hf⟩
  · rw [if_pos y0, if_pos z0]
    refine ⟨0, _, _, rfl, rfl, hRel (fun p hp => ⟨6, by decide, ?_, fun b' hb' => ?_⟩)⟩
    · rw [rq_m_chosen_chosen]
      have := a2 p (Nat.zero_le _) hp
      rw [if_pos z0] at this
      exact this
    · rw [rq_x_picked_picked, y0, gb_0]
      have : ¬ b' = 6 := by omega
      simp [this]
  · rw [if_neg y0, if_neg (by rw [z1]; decide)]
    refine ⟨1, _, _, rfl, rfl, hRel (fun p hp => ⟨c p, c7 p hp, ?_, fun b' hb' => by rw [rq_x_picked_picked]; exact hs p hp b' (by omega)⟩)⟩
    rw [rq_m_chosen_chosen]
    have := a2 p (Nat.zero_le _) hp
    rw [if_neg (by rw [z1]; decide), hval] at this
    rcases Nat.lt_or_ge p n with w | w
    · rw [if_pos w] at this
      exact this.trans (hf p w)
    · rw [if_neg (by omega)] at this
      rw [hc6 p w hp]
      exact this
theorem hasPack_ok {n : Nat} (hn : n ≤ 8) (hu : x_packs u = nI n) (p : Int32) : (pf_X0_hasPack p u = 1 ∧ ∃ q, q < n ∧ p = nI q) ∨ (pf_X0_hasPack p u = 0 ∧ (p < 0 ∨ nI n ≤ p)) := by
  unfold pf_X0_hasPack
  rw [hu]
  by_cases h0 : p < 0
  · rw [if_pos h0]; exact Or.inr ⟨rfl, Or.inl h0⟩
  · rw [if_neg h0]
    by_cases h1 : nI n ≤ p
    · rw [if_pos h1]; exact Or.inr ⟨rfl, Or.inr h1⟩
    · rw [if_neg h1]
      refine Or.inl ⟨rfl, ?_⟩
      rcases pk_ix p (n := n) (by omega) with h2 | h2 | ⟨j, h2, h3⟩
      · exact absurd h2 h0
      · exact absurd h2 h1
      · exact ⟨j, h2, h3⟩
theorem isPackage_ok {n : Nat} (hu : m_packages v = nI n) (p : Int32) : ((p < 0 ∨ nI n ≤ p) → pf_X1_isPackage p v = 0) ∧ (¬ (p < 0 ∨ nI n ≤ p) → pf_X1_isPackage p v = 1) := by
  unfold pf_X1_isPackage
  rw [hu]
  constructor
  · rintro (h | h)
    · rw [if_pos h]
    · by_cases h0 : p < 0
      · rw [if_pos h0]
      · rw [if_neg h0, if_pos h]
  · intro h
    rw [if_neg (fun h0 => h (Or.inl h0)), if_neg (fun h0 => h (Or.inr h0))]
theorem in_pack {n q : Nat} (hn : n ≤ 8) (hq : q < n) : ¬ (nI q < 0 ∨ nI n ≤ nI q) := by
  rintro (h | h)
  · exact nI_pos (by omega) h
  · exact nI_ge hq (by omega) h
theorem chosen_step (hfu : 400000000 ≤ fu) (h : Rel u v) (p : Int32) : StepR u (pf_X0_chosen fu p u) (pf_X1_chosen fu p v) := by
  obtain ⟨n, vs, r, dm, mn, ot, pk, ver, od, L, nd, hN, hL, hC, hB⟩ := h
  have hn8 := hN.1.1.2.1
  have hRel : Rel u (ms_code v (0 : Int32)) := ⟨n, vs, r, dm, mn, ot, pk, ver, od, L, nd, RelN_to hN _ (by simp only [mvs_packages, mon_packages, rq_m_packages_away, rq_m_packages_code, rq_m_packages_chosen, rq_m_packages_blames, rq_m_packages_blamed]) (by simp only [mvs_versions, mon_versions, rq_m_versions_away, rq_m_versions_code, rq_m_versions_chosen, rq_m_versions_blames, rq_m_versions_blamed]) (by simp only [mvs_rows, mon_rows, rq_m_rows_away, rq_m_rows_code, rq_m_rows_chosen, rq_m_rows_blames, rq_m_rows_blamed]) (by simp only [mvs_demands, mon_demands, rq_m_demands_away, rq_m_demands_code, rq_m_demands_chosen, rq_m_demands_blames, rq_m_demands_blamed]) (by simp only [mvs_many, mon_many, rq_m_many_away, rq_m_many_code, rq_m_many_chosen, rq_m_many_blames, rq_m_many_blamed]) (by simp only [mvs_other, mon_other, rq_m_other_away, rq_m_other_code, rq_m_other_chosen, rq_m_other_blames, rq_m_other_blamed]) (by simp only [mvs_pack, mon_pack, rq_m_pack_away, rq_m_pack_code, rq_m_pack_chosen, rq_m_pack_blames, rq_m_pack_blamed]) (by simp only [mvs_version, mon_version, rq_m_version_away, rq_m_version_code, rq_m_version_chosen, rq_m_version_blames, rq_m_version_blamed]) (by simp only [mvs_kind, mon_kind, rq_m_kind_away, rq_m_kind_code, rq_m_kind_chosen, rq_m_kind_blames, rq_m_kind_blamed]) (by simp only [mvs_set, mon_set, rq_m_set_away, rq_m_set_code, rq_m_set_chosen, rq_m_set_blames, rq_m_set_blamed]) (by simp only [mvs_out, mon_out, rq_m_out_away, rq_m_out_code, rq_m_out_chosen, rq_m_out_blames, rq_m_out_blamed]) (by simp only [mvs_locks, mon_locks, rq_m_locks_away, rq_m_locks_code, rq_m_locks_chosen, rq_m_locks_blames, rq_m_locks_blamed]) (fun d hd => by simp only [mvs_away, mon_away, rq_m_away_chosen, rq_m_away_away, rq_m_away_code, rq_m_away_blames, rq_m_away_blamed]; exact (hN.1.1.2.2.2.2.2.2.2.2.2.2 d hd).2), RelL_to hL (by simp only [mvs_latest, mon_latest, rq_m_latest_away, rq_m_latest_code, rq_m_latest_chosen, rq_m_latest_blames, rq_m_latest_blamed]) (by simp only [mvs_kind, mon_kind, rq_m_kind_away, rq_m_kind_code, rq_m_kind_chosen, rq_m_kind_blames, rq_m_kind_blamed]) rfl rfl, RelC_to hC (by simp only [mvs_chosen, mon_chosen, rq_m_chosen_away, rq_m_chosen_code, rq_m_chosen_chosen, rq_m_chosen_blames, rq_m_chosen_blamed]) rfl, RelB_to hB (by simp only [mvs_blames, mon_blames, rq_m_blames_away, rq_m_blames_code, rq_m_blames_chosen, rq_m_blames_blames, rq_m_blames_blamed]) (by simp only [mvs_blamed, mon_blamed, rq_m_blamed_away, rq_m_blamed_code, rq_m_blamed_chosen, rq_m_blamed_blames, rq_m_blamed_blamed]) rfl⟩
  unfold pf_X0_chosen pf_X1_chosen
  have hM := isPackage_ok (v := ms_code v (0 : Int32)) hN.1.1.1 p
  rcases hasPack_ok hn8 hN.2.1.1 p with ⟨e1, q, hq, rfl⟩ | ⟨e1, h1⟩
  · rw [e1, if_neg (by decide), hM.2 (in_pack hn8 hq), if_neg (by decide), og_t (inb_nI (show q < 8 by omega) (by decide)), nI_clamp (by omega)]
    obtain ⟨b, hb, hc, hbits⟩ := hC q (by omega)
    refine ⟨vlOf b, _, ?_, by rw [hc], hRel⟩
    have loop : ∀ (m w : Nat), w ≤ 6 → 6 < w + m → (∀ a, a < w → a ≠ b) → pl_X0_chosen_12 fu (nI q) u (fun x2_12 => (some (-1 : Int32))) m (nI w) = some (vlOf b) := by
      intro m
      induction m with
      | zero => intro w h1 h2; exact absurd h2 (by omega)
      | succ m ih =>
        intro w h1 h2 h3
        rw [pl_X0_chosen_12]
        rcases Nat.lt_or_ge w 6 with z | z
        · rw [if_neg (show ¬ (6 : Int32) ≤ nI w from nI_ge z (by decide)), nI_1]
          have hpl := gb_plc q (by omega) w z
          by_cases hwb : w = b
          · have hne : ¬ (x_picked u &&& pf_X0_placeOf (nI q) (nI w)) = 0 := fun h0 => and_0 h0 q w (by rw [hbits w z, hwb]; simp) (by rw [hpl q (by omega) w (by omega)]; simp)
            rw [if_neg hne]
            unfold vlOf
            rw [if_pos (by omega), hwb]
          · have hz : (x_picked u &&& pf_X0_placeOf (nI q) (nI w)) = 0 := by
              apply gb_ext
              intro q' hq' b' hb'
              rw [gb_and, hpl q' hq' b' hb', gb_0]
              by_cases hqq : q' = q
              · by_cases hbb : b' = w
                · rw [hqq, hbb, hbits w z]
                  simp [hwb]
                · simp [hbb]
              · simp [hqq]
            rw [if_pos hz]
            refine ih (w + 1) (by omega) (by omega) (fun a ha => ?_)
            rcases Nat.lt_or_ge a w with y | y
            · exact h3 a y
            · rw [show a = w by omega]; exact hwb
        · rw [if_pos (show (6 : Int32) ≤ nI w from nI_le z (by omega))]
          have : b = 6 := by
            rcases Nat.lt_or_ge b 6 with y | y
            · exact absurd rfl (h3 b (by omega))
            · omega
          rw [this]
          rfl
    have := loop fu 0 (by decide) (by omega) (fun a ha => by omega)
    rw [nI_0] at this
    exact this
  · rw [e1, if_pos rfl, hM.1 h1, if_pos rfl]
    exact ⟨-1, _, rfl, rfl, hRel⟩
/-- a package's version, on both sides -/
theorem hasVer_ok {n : Nat} {vs : Nat → Nat} (hn : n ≤ 8) (hu : x_packs u = nI n) (hvs : ∀ p, p < 8 → vs p ≤ 6) (hpl : ∀ p, p < 8 → ∀ b, b < 8 → gb (x_places u) p b = (decide (b = 6) || (decide (p < n) && decide (b < vs p)))) (p w : Int32) :
    (pf_X0_hasVersion p w u = 1 ∧ ∃ q b, q < n ∧ b < vs q ∧ p = nI q ∧ w = nI b) ∨ (pf_X0_hasVersion p w u = 0 ∧ ((p < 0 ∨ nI n ≤ p) ∨ ∃ q, q < n ∧ p = nI q ∧ (w < 0 ∨ nI (vs q) ≤ w))) := by
  unfold pf_X0_hasVersion
  rcases hasPack_ok hn hu p with ⟨e1, q, hq, rfl⟩ | ⟨e1, h1⟩
  · rw [e1, if_neg (by decide)]
    by_cases h0 : w < 0
    · rw [if_pos h0]; exact Or.inr ⟨rfl, Or.inr ⟨q, hq, rfl, Or.inl h0⟩⟩
    · rw [if_neg h0]
      have hv := hvs q (by omega)
      by_cases h6 : (6 : Int32) ≤ w
      · rw [if_pos h6]
        refine Or.inr ⟨rfl, Or.inr ⟨q, hq, rfl, Or.inr ?_⟩⟩
        exact Int32.le_trans (show nI (vs q) ≤ (6 : Int32) from nI_le hv (by decide)) h6
      · rw [if_neg h6]
        obtain ⟨b, hb, rfl⟩ : ∃ b, b < 6 ∧ w = nI b := by
          rcases pk_ix w (n := 6) (by decide) with h2 | h2 | ⟨j, h2, h3⟩
          · exact absurd h2 h0
          · exact absurd h2 h6
          · exact ⟨j, h2, h3⟩
        have hp := gb_plc q (by omega) b hb
        by_cases hbv : b < vs q
        · have hne : ¬ (x_places u &&& pf_X0_placeOf (nI q) (nI b)) = 0 := fun h0 => and_0 h0 q b (by rw [hpl q (by omega) b (by omega)]; simp [hq, hbv]) (by rw [hp q (by omega) b (by omega)]; simp)
          rw [if_neg hne]
          exact Or.inl ⟨rfl, q, b, hq, hbv, rfl, rfl⟩
        · have hz : (x_places u &&& pf_X0_placeOf (nI q) (nI b)) = 0 := by
            apply gb_ext
            intro q' hq' b' hb'
            rw [gb_and, hp q' hq' b' hb', gb_0]
            by_cases hqq : q' = q
            · by_cases hbb : b' = b
              · rw [hqq, hbb, hpl q (by omega) b (by omega)]
                have : b ≠ 6 := by omega
                simp [hbv, this]
              · simp [hbb]
            · simp [hqq]
          rw [if_pos hz]
          exact Or.inr ⟨rfl, Or.inr ⟨q, hq, rfl, Or.inr (nI_le (by omega) (by omega))⟩⟩
  · rw [e1, if_pos rfl]
    exact Or.inr ⟨rfl, Or.inl h1⟩
theorem isVersion_ok {n : Nat} {vs : Nat → Nat} (hn : n ≤ 8) (hu : m_packages v = nI n) (hvs : ∀ p, p < 8 → m_versions v p = nI (vs p) ∧ vs p ≤ 6) (p w : Int32) :
    ((∃ q b, q < n ∧ b < vs q ∧ p = nI q ∧ w = nI b) → pf_X1_isVersion fu p w v = some 1) ∧ (((p < 0 ∨ nI n ≤ p) ∨ ∃ q, q < n ∧ p = nI q ∧ (w < 0 ∨ nI (vs q) ≤ w)) → pf_X1_isVersion fu p w v = some 0) := by
  have hM := isPackage_ok (v := v) hu p
  unfold pf_X1_isVersion
  constructor
  · rintro ⟨q, b, hq, hb, rfl, rfl⟩
    have hv := hvs q (by omega)
    rw [hM.2 (in_pack hn hq), if_neg (by decide), if_neg (nI_pos (by omega)), og_t (inb_nI (show q < 8 by omega) (by decide)), nI_clamp (by omega), hv.1, if_neg (nI_ge hb (by omega))]
  · rintro (h | ⟨q, hq, rfl, h⟩)
    · rw [hM.1 h, if_pos rfl]
    · have hv := hvs q (by omega)
      rw [hM.2 (in_pack hn hq), if_neg (by decide), og_t (inb_nI (show q < 8 by omega) (by decide)), nI_clamp (by omega), hv.1]
      by_cases h0 : w < 0
      · rw [if_pos h0]
      · rw [if_neg h0]
        rcases h with h | h
        · exact absurd h h0
        · rw [if_pos h]
end CA
