/-! ONE CALL ON BOTH SIDES, 5: row, demand, or. -/
section CD
variable {fu : Nat} {u : XS} {v : MS}
theorem any_congr {kd st kd' st' : Nat → Int32} {ot ot' : Nat → Nat} {k p b : Nat} (hk : kd' k = kd k) : ∀ m i, (∀ j, i ≤ j → j < i + m → st' (3 * k + j) = st (3 * k + j) ∧ ot' (3 * k + j) = ot (3 * k + j)) → anyA kd' st' ot' k p b m i = anyA kd st ot k p b m i := by
  intro m
  induction m with
  | zero => intro i _; rfl
  | succ m ih =>
    intro i h
    obtain ⟨h1, h2⟩ := h i (Nat.le_refl i) (by omega)
    rw [anyA, anyA, h1, h2, hk, ih (i + 1) (fun j j1 j2 => h j (by omega) (by omega))]
theorem any_snoc {kd st : Nat → Int32} {ot : Nat → Nat} {k p b : Nat} : ∀ m i, anyA kd st ot k p b (m + 1) i = (anyA kd st ot k p b m i || (decide (ot (3 * k + (i + m)) = p) && altK (kd k) (st (3 * k + (i + m))) b)) := by
  intro m
  induction m with
  | zero => intro i; rw [anyA, anyA, anyA, Bool.or_false, Bool.false_or]; rfl
  | succ m ih =>
    intro i
    rw [anyA, ih (i + 1)]
    conv => rhs; rw [anyA]
    rw [Bool.or_assoc, show i + 1 + m = i + (m + 1) by omega]
theorem keep_bits {kd s : Int32} {q : Nat} (hq : q < 8) (hk : kd = 0 ∨ kd = 1 ∨ kd = 2) {p : Nat} (hp : p < 8) {b : Nat} (hb : b < 7) : gb (pf_X0_keeping kd (nI q) s) p b = (decide (q = p) && altK kd s b) := by
  unfold pf_X0_keeping altK
  have hqp : decide (q = p) = decide (p = q) := by
    by_cases h : p = q
    · rw [h]
    · have : ¬ q = p := fun h2 => h h2.symm
      simp [h, this]
  rw [hqp]
  rcases hk with rfl | rfl | rfl
  · rw [if_neg (by decide), if_neg (by decide), if_pos rfl, gb_vers s hq hp (by omega)]
  · rw [if_pos rfl, if_neg (by decide), if_pos rfl, gb_and, gb_nm _ hp (by omega), gb_all q hq p hp b (by omega), gb_vers s hq hp (by omega)]
    by_cases h : p = q
    · simp [h, hb]
    · simp [h]
  · rw [if_neg (by decide), if_pos rfl, if_neg (by decide), if_neg (by decide), gb_or, gb_vers s hq hp (by omega), gb_none q hq p hp b (by omega)]
    by_cases h : p = q
    · by_cases hb6 : b < 6
      · have : ¬ b = 6 := by omega
        simp [h, hb6, this]
      · have : b = 6 := by omega
        simp [h, this]
    · simp [h]
theorem updI {f : Nat → Int32} {g : Nat → Nat} {k x : Nat} {j : Nat} (h : f j = nI (g j)) : upd f k (nI x) j = nI (cu g k x j) := by
  by_cases hj : j = k
  · rw [hj, pk_us, cu_s]
  · rw [pk_un hj, cu_n _ _ hj, h]
theorem isKind_ok (k : Int32) : (pf_X0_isKind k = 1 ∧ (k = 0 ∨ k = 1 ∨ k = 2) ∧ ¬ k < 0 ∧ ¬ (2 : Int32) < k) ∨ (pf_X0_isKind k = 0 ∧ (k < 0 ∨ (2 : Int32) < k)) := by
  unfold pf_X0_isKind
  by_cases h0 : k = 0
  · rw [if_pos h0, h0]; exact Or.inl ⟨rfl, Or.inl rfl, by decide, by decide⟩
  · rw [if_neg h0]
    by_cases h1 : k = 1
    · rw [if_pos h1, h1]; exact Or.inl ⟨rfl, Or.inr (Or.inl rfl), by decide, by decide⟩
    · rw [if_neg h1]
      by_cases h2 : k = 2
      · rw [if_pos h2, h2]; exact Or.inl ⟨rfl, Or.inr (Or.inr rfl), by decide, by decide⟩
      · rw [if_neg h2]
        refine Or.inr ⟨rfl, ?_⟩
        by_cases h3 : k < 0
        · exact Or.inl h3
        · refine Or.inr ?_
          apply Classical.byContradiction
          intro h4
          rw [Int32.not_lt] at h4
          obtain ⟨w, hw, rfl⟩ := int_in (m := 2) (by decide) h3 h4
          rcases (show w = 0 ∨ w = 1 ∨ w = 2 by omega) with rfl | rfl | rfl
          · exact h0 nI_0
          · exact h1 (by decide)
          · exact h2 (by decide)
theorem start_ok (kd z : Int32) (hz : z = 0 ∨ z = 1) (w : XS) : pf_X0_startAlternatives fu kd z w = some (xs_latestIsDemand (xs_alternativesFree w (if kd = 0 then 2 else 0)) z) := by
  have hb : bz z = true := by rcases hz with rfl | rfl <;> decide
  unfold pf_X0_startAlternatives
  by_cases h : kd = 0
  · rw [if_pos h, og_t hb, if_pos h]
  · rw [if_neg h, og_t hb, if_neg h]
theorem keepM_ok {k : Nat} (hk : k < 132) (a b c : Int32) (w : MS) : pf_X1_keep fu (nI k) a b c w = some (ms_latest (ms_set (ms_other (ms_many (ms_kind w (upd (m_kind w) k a)) (upd (m_many w) k 1)) (upd (m_other w) (3 * k) b)) (upd (m_set w) (3 * k) c)) (nI k)) := by
  unfold pf_X1_keep
  have e : (3 : Int32) * nI k = nI (3 * k) := by rw [show (3 : Int32) = nI 3 by decide, pk_mul]
  rw [e, og_t (inb_nI hk (by decide)), og_t (inb_nI hk (by decide)), og_t (inb_nI (show 3 * k < 396 by omega) (by decide)), og_t (inb_nI (show 3 * k < 396 by omega) (by decide)), nI_clamp (by omega), nI_clamp (by omega)]
theorem row_rel {n : Nat} {vs : Nat → Nat} {r dm : Nat} {mn ot pk ver od L : Nat → Nat} {nd : Nat} (hN : RelN u v n vs r dm mn ot pk ver od L nd) (q : r < 120) {kd s : Int32} (k1 : kd = 0 ∨ kd = 1 ∨ kd = 2) {q1 b q2 : Nat} (hq1 : q1 < n) (hb : b < vs q1) (hq2 : q2 < n) {u' : XS} {v' : MS}
    (x1 : x_packs u' = x_packs u) (x2 : x_rows u' = nI (r + 1)) (x3 : x_demands u' = x_demands u) (x4 : x_neededPacks u' = x_neededPacks u) (x5 : x_order u' = x_order u) (x6 : x_places u' = x_places u) (x7 : x_rowRules u' = vp_updL (x_rowRules u) r (((pf_X0_allOf (nI q1)) &&& ((pf_X0_placeOf (nI q1) (nI b)) ^^^ (-1 : Int64))) ||| (pf_X0_keeping kd (nI q2) s))) (x8 : x_demandRules u' = x_demandRules u) (x9 : x_leftOut u' = x_leftOut u) (x10 : x_locked u' = x_locked u)
    (y1 : m_packages v' = m_packages v) (y2 : m_versions v' = m_versions v) (y3 : m_rows v' = nI (r + 1)) (y4 : m_demands v' = m_demands v) (y5 : m_many v' = upd (m_many v) r 1) (y6 : m_other v' = upd (m_other v) (3 * r) (nI q2)) (y7 : m_pack v' = upd (m_pack v) r (nI q1)) (y8 : m_version v' = upd (m_version v) r (nI b)) (y9 : m_kind v' = upd (m_kind v) r kd) (y10 : m_set v' = upd (m_set v) (3 * r) s) (y11 : m_out v' = m_out v) (y12 : m_locks v' = m_locks v) (y13 : m_away v' = m_away v) :
    RelN u' v' n vs (r + 1) dm (cu mn r 1) (cu ot (3 * r) q2) (cu pk r q1) (cu ver r b) od L nd := by
  obtain ⟨⟨⟨b1, b2, b3, b4, b5, b6, b7, b8, b9, b10, b11⟩, m2, m3, m4, m5, ⟨kz, m6, m7⟩, m8, m9, m10, m11⟩, ⟨i1, i2, i3, i4, i5⟩, h3, h4, h5, h6, h7, h9, h10⟩ := hN
  unfold RelN MSrch MB
  rw [x1, x2, x3, x4, x5, x6, x7, x8, x9, x10, y1, y2, y3, y4, y5, y6, y7, y8, y9, y10, y11, y12, y13]
  have hb6 : b < 6 := by have := (b3 q1 (by omega)).2; omega
  refine ⟨⟨⟨b1, b2, b3, rfl, by omega, b6, b7, fun k hk => ⟨?_, ?_⟩, fun j hj => ⟨?_, ?_⟩, fun k hk => ⟨?_, ?_⟩, b11⟩, fun k hk => ?_, m3, m4, m5, ⟨kz, fun k hk => ?_, ?_⟩, fun d hd => ?_, fun k hk => ?_, fun d hd i hi => ?_, m11⟩, ⟨i1, rfl, i3, i4, i5⟩, h3, fun k hk p hp a ha => ?_, fun d hd p hp a ha => ?_, h6, h7, fun k hk => ?_, fun d hd => ?_⟩
  · show upd (m_many v) r 1 k = _
    exact updI (x := 1) (b8 k hk).1
  · by_cases hkr : k = r
    · rw [hkr, cu_s]; decide
    · rw [cu_n _ _ hkr]; exact (b8 k hk).2
  · show upd (m_other v) (3 * r) (nI q2) j = _
    exact updI (b9 j hj).1
  · by_cases hjr : j = 3 * r
    · rw [hjr, cu_s]; omega
    · rw [cu_n _ _ hjr]; exact (b9 j hj).2
  · show upd (m_pack v) r (nI q1) k = _
    exact updI (b10 k hk).1
  · by_cases hkr : k = r
    · rw [hkr, cu_s]; omega
    · rw [cu_n _ _ hkr]; exact (b10 k hk).2
  · show upd (m_version v) r (nI b) k = _ ∧ _
    by_cases hkr : k = r
    · rw [hkr, pk_us, cu_s]; exact ⟨rfl, hb6⟩
    · rw [pk_un hkr, cu_n _ _ hkr]; exact m2 k (by omega)
  · show _ ↔ upd (m_kind v) r kd (120 + k) = 0
    rw [pk_un (by omega)]; exact m6 k hk
  · exact dems_congr _ _ _ _ (fun _ _ => rfl) (fun j j1 j2 => ⟨rfl, cu_n _ _ (by omega), fun i hi => cu_n _ _ (by omega)⟩) m7
  · rw [cu_n _ _ (by omega)]; exact m8 d hd
  · by_cases hkr : k = r
    · rw [hkr, cu_s, cu_s]
      refine ⟨hq1, fun i hi => ?_⟩
      rw [show 3 * r + i = 3 * r by omega, cu_s]; exact hq2
    · have hk2 := m9 k (by omega)
      rw [cu_n _ _ hkr, cu_n _ _ hkr]
      refine ⟨hk2.1, fun i hi => ?_⟩
      have := (b8 k (by omega)).2
      rw [cu_n _ _ (by omega)]; exact hk2.2 i hi
  · rw [cu_n _ _ (show 120 + d ≠ r by omega)] at hi
    have := (b8 (120 + d) (by omega)).2
    rw [cu_n _ _ (by omega)]; exact m10 d hd i hi
  · show gb (vp_updL (x_rowRules u) r (((pf_X0_allOf (nI q1)) &&& ((pf_X0_placeOf (nI q1) (nI b)) ^^^ (-1 : Int64))) ||| (pf_X0_keeping kd (nI q2) s)) k) p a = (_ || anyA (upd (m_kind v) r kd) (upd (m_set v) (3 * r) s) (cu ot (3 * r) q2) k p a _ 0)
    by_cases hkr : k = r
    · subst hkr
      rw [pk_uLs, cu_s, cu_s, cu_s, anyA, anyA, gb_or, gb_and, gb_nm _ hp (by omega), gb_all q1 (by omega) p hp a (by omega), gb_plc q1 (by omega) b hb6 p hp a (by omega), keep_bits (by omega) k1 hp ha]
      simp only [Nat.add_zero, cu_s, pk_us, Bool.or_false]
      by_cases hpq : p = q1
      · simp [hpq, ha]
      · simp [hpq]
    · have hk2 := (b8 k (by omega)).2
      rw [pk_uLn hkr, cu_n _ _ hkr, cu_n _ _ hkr, cu_n _ _ hkr, h4 k (by omega) p hp a ha, any_congr (kd := m_kind v) (st := m_set v) (ot := ot) (pk_un hkr) (mn k) 0 (fun j j1 j2 => ⟨pk_un (by omega), cu_n _ _ (by omega)⟩)]
  · show gb (x_demandRules u d) p a = anyA (upd (m_kind v) r kd) (upd (m_set v) (3 * r) s) (cu ot (3 * r) q2) (120 + d) p a _ 0
    rw [cu_n _ _ (show 120 + d ≠ r by omega), h5 d hd p hp a ha, any_congr (kd := m_kind v) (st := m_set v) (ot := ot) (pk_un (by omega)) (mn (120 + d)) 0 (fun j j1 j2 => ⟨pk_un (by omega), cu_n _ _ (by omega)⟩)]
  · show 0 < _ ∧ (upd (m_kind v) r kd k = 0 ∨ ((upd (m_kind v) r kd k = 1 ∨ upd (m_kind v) r kd k = 2) ∧ _))
    by_cases hkr : k = r
    · rw [hkr, pk_us, cu_s]
      exact ⟨by decide, k1.elim Or.inl (fun h => Or.inr ⟨h, rfl⟩)⟩
    · rw [pk_un hkr, cu_n _ _ hkr]; exact h9 k (by omega)
  · show upd (m_kind v) r kd (120 + d) = 0 ∨ ((upd (m_kind v) r kd (120 + d) = 1 ∨ upd (m_kind v) r kd (120 + d) = 2) ∧ _)
    rw [pk_un (by omega), cu_n _ _ (by omega)]; exact h10 d hd
theorem row_relL {r dm : Nat} {mn : Nat → Nat} {kd : Int32} {u' : XS} {v' : MS} (y1 : m_latest v' = nI r) (y2 : m_kind v' = upd (m_kind v) r kd) (x1 : x_latestIsDemand u' = 0) (x2 : x_alternativesFree u' = if kd = 0 then (2 : Int32) else 0) : RelL u' v' (r + 1) dm (cu mn r 1) := by
  refine Or.inr (Or.inl ⟨by omega, y1, x1, ?_⟩)
  rw [x2]
  unfold frOf
  rw [y2, show r + 1 - 1 = r by omega, pk_us, cu_s]
  by_cases hk0 : kd = 0
  · rw [if_pos hk0, if_pos hk0]; decide
  · rw [if_neg hk0, if_neg hk0]
theorem row_step (h : Rel u v) (p w kd o s : Int32) : Step (pf_X0_row fu p w kd o s u) (pf_X1_row fu p w kd o s v) := by
  have hcode := rel_code h
  obtain ⟨n, vs, r, dm, mn, ot, pk, ver, od, L, nd, hN, hL, hC, hB⟩ := h
  have hn8 := hN.1.1.2.1
  have hvs := hN.1.1.2.2.1
  have hr := hN.1.1.2.2.2.2.1
  have hre := hN.1.1.2.2.2.1
  unfold pf_X0_row pf_X1_row
  have V := isVersion_ok (fu := fu) (v := ms_code v (0 : Int32)) hn8 hN.1.1.1 hvs p w
  have P := isPackage_ok (v := ms_code v (0 : Int32)) hN.1.1.1 o
  rw [hN.2.1.2.1, hre]
  rcases Nat.lt_or_ge r 120 with q | q
  · rw [if_neg (show ¬ (120 : Int32) ≤ nI r from nI_ge q (by decide))]
    rcases hasVer_ok hn8 hN.2.1.1 (fun p hp => (hvs p hp).2) hN.2.2.1 p w with ⟨e1, g1⟩ | ⟨e1, g1⟩
    · rw [e1, if_neg (show ¬ (1 : Int32) = 0 by decide), ob_s (V.1 g1), if_neg (show ¬ (1 : Int32) = 0 by decide)]
      rcases isKind_ok kd with ⟨e2, k1, k2, k3⟩ | ⟨e2, k1⟩
      · rw [e2, if_neg (show ¬ (1 : Int32) = 0 by decide), if_neg k2, if_neg k3]
        rcases hasPack_ok hn8 hN.2.1.1 o with ⟨e3, q2, hq2, rfl⟩ | ⟨e3, g3⟩
        · rw [e3, if_neg (show ¬ (1 : Int32) = 0 by decide), P.2 (in_pack hn8 hq2), if_neg (show ¬ (1 : Int32) = 0 by decide), if_neg (show ¬ nI (r) = (120 : Int32) from fun h => by have := (nI_eq (a := r) (b := 120) (by omega) (by decide)).mp h; omega)]
          obtain ⟨q1, b, hq1, hb, rfl, rfl⟩ := g1
          rw [og_t (inb_nI q (by decide)), og_t (inb_nI (show r < 132 by omega) (by decide)), og_t (inb_nI (show r < 132 by omega) (by decide)), nI_clamp (by omega), ob_s (start_ok kd 0 (Or.inl rfl) _), ob_s (keepM_ok (show r < 132 by omega) _ _ _ _)]
          exact ⟨1, _, _, rfl, rfl, n, vs, r + 1, dm, cu mn r 1, cu ot (3 * r) q2, cu pk r q1, cu ver r b, od, L, nd, row_rel (s := s) hN q k1 hq1 hb hq2 (by simp only [rq_x_packs_rowRules, rq_x_packs_rows, rq_x_packs_alternativesFree, rq_x_packs_latestIsDemand, nI_1]) (by simp only [rq_x_rows_rowRules, rq_x_rows_rows, rq_x_rows_alternativesFree, rq_x_rows_latestIsDemand, nI_1]) (by simp only [rq_x_demands_rowRules, rq_x_demands_rows, rq_x_demands_alternativesFree, rq_x_demands_latestIsDemand, nI_1]) (by simp only [rq_x_neededPacks_rowRules, rq_x_neededPacks_rows, rq_x_neededPacks_alternativesFree, rq_x_neededPacks_latestIsDemand, nI_1]) (by simp only [rq_x_order_rowRules, rq_x_order_rows, rq_x_order_alternativesFree, rq_x_order_latestIsDemand, nI_1]) (by simp only [rq_x_places_rowRules, rq_x_places_rows, rq_x_places_alternativesFree, rq_x_places_latestIsDemand, nI_1]) (by simp only [rq_x_rowRules_rowRules, rq_x_rowRules_rows, rq_x_rowRules_alternativesFree, rq_x_rowRules_latestIsDemand, nI_1]) (by simp only [rq_x_demandRules_rowRules, rq_x_demandRules_rows, rq_x_demandRules_alternativesFree, rq_x_demandRules_latestIsDemand, nI_1]) (by simp only [rq_x_leftOut_rowRules, rq_x_leftOut_rows, rq_x_leftOut_alternativesFree, rq_x_leftOut_latestIsDemand, nI_1]) (by simp only [rq_x_locked_rowRules, rq_x_locked_rows, rq_x_locked_alternativesFree, rq_x_locked_latestIsDemand, nI_1]) (by simp only [rq_m_packages_code, rq_m_packages_pack, rq_m_packages_version, rq_m_packages_kind, rq_m_packages_many, rq_m_packages_other, rq_m_packages_set, rq_m_packages_latest, rq_m_packages_rows, hre, nI_1]) (by simp only [rq_m_versions_code, rq_m_versions_pack, rq_m_versions_version, rq_m_versions_kind, rq_m_versions_many, rq_m_versions_other, rq_m_versions_set, rq_m_versions_latest, rq_m_versions_rows, hre, nI_1]) (by simp only [rq_m_rows_code, rq_m_rows_pack, rq_m_rows_version, rq_m_rows_kind, rq_m_rows_many, rq_m_rows_other, rq_m_rows_set, rq_m_rows_latest, rq_m_rows_rows, hre, nI_1]) (by simp only [rq_m_demands_code, rq_m_demands_pack, rq_m_demands_version, rq_m_demands_kind, rq_m_demands_many, rq_m_demands_other, rq_m_demands_set, rq_m_demands_latest, rq_m_demands_rows, hre, nI_1]) (by simp only [rq_m_many_code, rq_m_many_pack, rq_m_many_version, rq_m_many_kind, rq_m_many_many, rq_m_many_other, rq_m_many_set, rq_m_many_latest, rq_m_many_rows, hre, nI_1]) (by simp only [rq_m_other_code, rq_m_other_pack, rq_m_other_version, rq_m_other_kind, rq_m_other_many, rq_m_other_other, rq_m_other_set, rq_m_other_latest, rq_m_other_rows, hre, nI_1]) (by simp only [rq_m_pack_code, rq_m_pack_pack, rq_m_pack_version, rq_m_pack_kind, rq_m_pack_many, rq_m_pack_other, rq_m_pack_set, rq_m_pack_latest, rq_m_pack_rows, hre, nI_1]) (by simp only [rq_m_version_code, rq_m_version_pack, rq_m_version_version, rq_m_version_kind, rq_m_version_many, rq_m_version_other, rq_m_version_set, rq_m_version_latest, rq_m_version_rows, hre, nI_1]) (by simp only [rq_m_kind_code, rq_m_kind_pack, rq_m_kind_version, rq_m_kind_kind, rq_m_kind_many, rq_m_kind_other, rq_m_kind_set, rq_m_kind_latest, rq_m_kind_rows, hre, nI_1]) (by simp only [rq_m_set_code, rq_m_set_pack, rq_m_set_version, rq_m_set_kind, rq_m_set_many, rq_m_set_other, rq_m_set_set, rq_m_set_latest, rq_m_set_rows, hre, nI_1]) (by simp only [rq_m_out_code, rq_m_out_pack, rq_m_out_version, rq_m_out_kind, rq_m_out_many, rq_m_out_other, rq_m_out_set, rq_m_out_latest, rq_m_out_rows, hre, nI_1]) (by simp only [rq_m_locks_code, rq_m_locks_pack, rq_m_locks_version, rq_m_locks_kind, rq_m_locks_many, rq_m_locks_other, rq_m_locks_set, rq_m_locks_latest, rq_m_locks_rows, hre, nI_1]) (by simp only [rq_m_away_code, rq_m_away_pack, rq_m_away_version, rq_m_away_kind, rq_m_away_many, rq_m_away_other, rq_m_away_set, rq_m_away_latest, rq_m_away_rows, hre, nI_1]),
            row_relL (v := v) (kd := kd) (by simp only [rq_m_latest_code, rq_m_latest_pack, rq_m_latest_version, rq_m_latest_kind, rq_m_latest_many, rq_m_latest_other, rq_m_latest_set, rq_m_latest_latest, rq_m_latest_rows]) (by simp only [rq_m_kind_code, rq_m_kind_pack, rq_m_kind_version, rq_m_kind_kind, rq_m_kind_many, rq_m_kind_other, rq_m_kind_set, rq_m_kind_latest, rq_m_kind_rows]) (by simp only [rq_x_latestIsDemand_rowRules, rq_x_latestIsDemand_rows, rq_x_latestIsDemand_alternativesFree, rq_x_latestIsDemand_latestIsDemand]) (by simp only [rq_x_alternativesFree_rowRules, rq_x_alternativesFree_rows, rq_x_alternativesFree_alternativesFree, rq_x_alternativesFree_latestIsDemand]), RelC_to hC (by simp only [rq_m_chosen_code, rq_m_chosen_pack, rq_m_chosen_version, rq_m_chosen_kind, rq_m_chosen_many, rq_m_chosen_other, rq_m_chosen_set, rq_m_chosen_latest, rq_m_chosen_rows]) (by simp only [rq_x_picked_rowRules, rq_x_picked_rows, rq_x_picked_alternativesFree, rq_x_picked_latestIsDemand]), RelB_to hB (by simp only [rq_m_blames_code, rq_m_blames_pack, rq_m_blames_version, rq_m_blames_kind, rq_m_blames_many, rq_m_blames_other, rq_m_blames_set, rq_m_blames_latest, rq_m_blames_rows]) (by simp only [rq_m_blamed_code, rq_m_blamed_pack, rq_m_blamed_version, rq_m_blamed_kind, rq_m_blamed_many, rq_m_blamed_other, rq_m_blamed_set, rq_m_blamed_latest, rq_m_blamed_rows]) (by simp only [rq_x_toBlame_rowRules, rq_x_toBlame_rows, rq_x_toBlame_alternativesFree, rq_x_toBlame_latestIsDemand])⟩
        · rw [e3, if_pos rfl, P.1 g3, if_pos rfl]; exact ⟨_, _, _, rfl, rfl, hcode⟩
      · rw [e2, if_pos rfl]
        rcases k1 with k1 | k1
        · rw [if_pos k1]; exact ⟨_, _, _, rfl, rfl, hcode⟩
        · by_cases hk0 : kd < 0
          · rw [if_pos hk0]; exact ⟨_, _, _, rfl, rfl, hcode⟩
          · rw [if_neg hk0, if_pos k1]; exact ⟨_, _, _, rfl, rfl, hcode⟩
    · rw [e1, if_pos rfl, ob_s (V.2 g1), if_pos rfl]; exact ⟨_, _, _, rfl, rfl, hcode⟩
  · have hr120 : r = 120 := by omega
    subst hr120
    rw [if_pos (by decide)]
    have all0 : ∃ z, pf_X1_isVersion fu p w (ms_code v (0 : Int32)) = some z := by
      rcases hasVer_ok hn8 hN.2.1.1 (fun p hp => (hvs p hp).2) hN.2.2.1 p w with ⟨-, g1⟩ | ⟨-, g1⟩
      · exact ⟨_, V.1 g1⟩
      · exact ⟨_, V.2 g1⟩
    obtain ⟨z, ez⟩ := all0
    rw [ob_s ez, if_pos (show nI 120 = (120 : Int32) by decide)]
    refine ⟨0, _, ms_code v (0 : Int32), rfl, ?_, hcode⟩
    split
    · rfl
    · split
      · rfl
      · split
        · rfl
        · split <;> rfl
end CD
