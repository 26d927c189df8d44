/-! ONE CALL ON BOTH SIDES, 6: demand, or. -/
section CE
variable {fu : Nat} {u : XS} {v : MS}
theorem kz_dec (v : MS) : ∃ kz : Nat → Bool, ∀ k, k < 12 → (kz k = true ↔ m_kind v (120 + k) = 0) := ⟨fun k => decide (m_kind v (120 + k) = 0), fun k _ => decide_eq_true_iff⟩
/-- the state behind a new demand, but for the order -/
theorem dem_rel {n : Nat} {vs : Nat → Nat} {r dm : Nat} {mn ot pk ver od L : Nat → Nat} {nd : Nat} (hN : RelN u v n vs r dm mn ot pk ver od L nd) (hd12 : dm < 12) {kd s : Int32} (k1 : kd = 0 ∨ kd = 1 ∨ kd = 2) {q : Nat} (hq : q < n) {u' : XS} {v' : MS} {od' : Nat → Nat} {nd' : Nat}
    (x1 : x_packs u' = x_packs u) (x2 : x_rows u' = x_rows u) (x3 : x_demands u' = nI (dm + 1)) (x4 : x_neededPacks u' = nI nd') (x5 : OrdOK (x_order u') od') (x6 : x_places u' = x_places u) (x7 : x_rowRules u' = x_rowRules u) (x8 : x_demandRules u' = vp_updL (x_demandRules u) dm (pf_X0_keeping kd (nI q) s)) (x9 : x_leftOut u' = x_leftOut u) (x10 : x_locked u' = x_locked u)
    (t1 : TailOK n nd' od') (t2 : ∀ j, j < nd' → od' j < n) (t3 : if kd = 0 then altsOK od' (fun _ => q) 1 0 nd nd' else nd' = nd) (t4 : ∀ j, j < nd → od' j = od j)
    (y1 : m_packages v' = m_packages v) (y2 : m_versions v' = m_versions v) (y3 : m_rows v' = m_rows v) (y4 : m_demands v' = nI (dm + 1)) (y5 : m_many v' = upd (m_many v) (120 + dm) 1) (y6 : m_other v' = upd (m_other v) (3 * (120 + dm)) (nI q)) (y7 : m_pack v' = m_pack v) (y8 : m_version v' = m_version v) (y9 : m_kind v' = upd (m_kind v) (120 + dm) kd) (y10 : m_set v' = upd (m_set v) (3 * (120 + dm)) s) (y11 : m_out v' = m_out v) (y12 : m_locks v' = m_locks v) (y13 : m_away v' = m_away v) :
    RelN u' v' n vs r (dm + 1) (cu mn (120 + dm) 1) (cu ot (3 * (120 + dm)) q) pk ver od' L nd' := by
  obtain ⟨⟨⟨b1, b2, b3, b4, b5, b6, b7, b8, b9, b10, b11⟩, m2, m3, m4, m5, ⟨kz, m6, m7⟩, m8, m9, m10, m11⟩, ⟨i1, i2, i3, i4, i5⟩, h3, h4, h5, h6, ⟨h7, h8⟩, h9, h10⟩ := hN
  unfold RelN MSrch MB
  rw [y1, y2, y3, y4, y5, y6, y7, y8, y9, y10, y11, y12, y13]
  refine ⟨⟨⟨b1, b2, b3, b4, b5, rfl, by omega, fun k hk => ⟨?_, ?_⟩, fun j hj => ⟨?_, ?_⟩, b10, b11⟩, m2, ⟨_, x5⟩, t1, t2, ⟨fun k => if k = dm then decide (kd = 0) else kz k, fun k hk => ?_, ?_⟩, fun d hd => ?_, fun k hk => ?_, fun d hd i hi => ?_, m11⟩, ⟨by rw [x1]; exact i1, by rw [x2]; exact i2, x3, x4, x5⟩, by rw [x6]; exact h3, fun k hk p hp a ha => ?_, fun d hd p hp a ha => ?_, by rw [x9]; exact h6, ⟨by rw [x10]; exact h7, h8⟩, fun k hk => ?_, fun d hd => ?_⟩
  · show upd (m_many v) (120 + dm) 1 k = _
    exact updI (x := 1) (b8 k hk).1
  · by_cases hkr : k = 120 + dm
    · rw [hkr, cu_s]; decide
    · rw [cu_n _ _ hkr]; exact (b8 k hk).2
  · show upd (m_other v) (3 * (120 + dm)) (nI q) j = _
    exact updI (b9 j hj).1
  · by_cases hjr : j = 3 * (120 + dm)
    · rw [hjr, cu_s]; omega
    · rw [cu_n _ _ hjr]; exact (b9 j hj).2
  · show (if k = dm then decide (kd = 0) else kz k) = true ↔ upd (m_kind v) (120 + dm) kd (120 + k) = 0
    by_cases hkd : k = dm
    · rw [if_pos hkd, hkd, pk_us, decide_eq_true_iff]
    · rw [if_neg hkd, pk_un (by omega)]; exact m6 k hk
  · rw [dems_snoc]
    refine ⟨nd, dems_congr _ _ _ _ t4 (fun j j1 j2 => ⟨?_, cu_n _ _ (by omega), fun i hi => cu_n _ _ ?_⟩) m7, ?_⟩
    · show (if j = dm then decide (kd = 0) else kz j) = kz j
      rw [if_neg (by omega)]
    · have := (b8 (120 + j) (by omega)).2
      omega
    · show if (if 0 + dm = dm then decide (kd = 0) else kz (0 + dm)) = true then _ else _
      rw [if_pos (show 0 + dm = dm by omega), show 0 + dm = dm by omega, cu_s]
      by_cases hk0 : kd = 0
      · rw [if_pos (decide_eq_true hk0)]
        rw [if_pos hk0] at t3
        refine alts_congr _ _ _ _ (fun _ _ => rfl) (fun j j1 j2 => ?_) t3
        show cu ot (3 * (120 + dm)) q (3 * (120 + dm) + j) = q
        rw [show 3 * (120 + dm) + j = 3 * (120 + dm) by omega, cu_s]
      · rw [if_neg (by rw [decide_eq_false hk0]; decide)]
        rw [if_neg hk0] at t3
        exact t3
  · by_cases hdd : d = dm
    · rw [hdd, cu_s]; decide
    · rw [cu_n _ _ (by omega)]; exact m8 d (by omega)
  · have := (b8 k (by omega)).2
    rw [cu_n _ _ (by omega)]
    refine ⟨(m9 k hk).1, fun i hi => ?_⟩
    rw [cu_n _ _ (by omega)]; exact (m9 k hk).2 i hi
  · by_cases hdd : d = dm
    · rw [hdd, cu_s] at hi
      rw [hdd, show 3 * (120 + dm) + i = 3 * (120 + dm) by omega, cu_s]; exact hq
    · rw [cu_n _ _ (show 120 + d ≠ 120 + dm by omega)] at hi
      have := (b8 (120 + d) (by omega)).2
      rw [cu_n _ _ (by omega)]; exact m10 d (by omega) i hi
  · rw [x7]
    show _ = (_ || anyA (upd (m_kind v) (120 + dm) kd) (upd (m_set v) (3 * (120 + dm)) s) (cu ot (3 * (120 + dm)) q) k p a _ 0)
    have := (b8 k (by omega)).2
    rw [cu_n _ _ (show k ≠ 120 + dm by omega), h4 k hk p hp a ha, any_congr (kd := m_kind v) (st := m_set v) (ot := ot) (pk_un (by omega)) (mn k) 0 (fun j j1 j2 => ⟨pk_un (by omega), cu_n _ _ (by omega)⟩)]
  · rw [x8]
    show _ = anyA (upd (m_kind v) (120 + dm) kd) (upd (m_set v) (3 * (120 + dm)) s) (cu ot (3 * (120 + dm)) q) (120 + d) p a _ 0
    by_cases hdd : d = dm
    · subst hdd
      rw [pk_uLs, cu_s, anyA, anyA, keep_bits (by omega) k1 hp ha]
      simp only [Nat.add_zero, cu_s, pk_us, Bool.or_false]
    · have := (b8 (120 + d) (by omega)).2
      rw [pk_uLn hdd, cu_n _ _ (show 120 + d ≠ 120 + dm by omega), h5 d (by omega) p hp a ha, any_congr (kd := m_kind v) (st := m_set v) (ot := ot) (pk_un (by omega)) (mn (120 + d)) 0 (fun j j1 j2 => ⟨pk_un (by omega), cu_n _ _ (by omega)⟩)]
  · show 0 < _ ∧ (upd (m_kind v) (120 + dm) kd k = 0 ∨ ((upd (m_kind v) (120 + dm) kd k = 1 ∨ upd (m_kind v) (120 + dm) kd k = 2) ∧ _))
    rw [pk_un (by omega), cu_n _ _ (by omega)]; exact h9 k hk
  · show upd (m_kind v) (120 + dm) kd (120 + d) = 0 ∨ ((upd (m_kind v) (120 + dm) kd (120 + d) = 1 ∨ upd (m_kind v) (120 + dm) kd (120 + d) = 2) ∧ _)
    by_cases hdd : d = dm
    · rw [hdd, pk_us, cu_s]
      exact k1.elim Or.inl (fun h => Or.inr ⟨h, rfl⟩)
    · rw [pk_un (by omega), cu_n _ _ (by omega)]; exact h10 d (by omega)
theorem demand_rel {n : Nat} {vs : Nat → Nat} {r dm : Nat} {mn ot pk ver od L : Nat → Nat} {nd : Nat} (hN : RelN u v n vs r dm mn ot pk ver od L nd) (hd12 : dm < 12) {kd s : Int32} (k1 : kd = 0 ∨ kd = 1 ∨ kd = 2) {q : Nat} (hq : q < n) {u' : XS} {v' : MS} {od' : Nat → Nat} {nd' : Nat}
    (x1 : x_packs u' = x_packs u) (x2 : x_rows u' = x_rows u) (x3 : x_demands u' = nI (dm + 1)) (x4 : x_neededPacks u' = nI nd') (x5 : OrdOK (x_order u') od') (x6 : x_places u' = x_places u) (x7 : x_rowRules u' = x_rowRules u) (x8 : x_demandRules u' = vp_updL (x_demandRules u) dm (pf_X0_keeping kd (nI q) s)) (x9 : x_leftOut u' = x_leftOut u) (x10 : x_locked u' = x_locked u)
    (t1 : TailOK n nd' od') (t2 : ∀ j, j < nd' → od' j < n) (t3 : if kd = 0 then altsOK od' (fun _ => q) 1 0 nd nd' else nd' = nd) (t4 : ∀ j, j < nd → od' j = od j)
    (y1 : m_packages v' = m_packages v) (y2 : m_versions v' = m_versions v) (y3 : m_rows v' = m_rows v) (y4 : m_demands v' = nI (dm + 1)) (y5 : m_many v' = upd (m_many v) (120 + dm) 1) (y6 : m_other v' = upd (m_other v) (3 * (120 + dm)) (nI q)) (y7 : m_pack v' = m_pack v) (y8 : m_version v' = m_version v) (y9 : m_kind v' = upd (m_kind v) (120 + dm) kd) (y10 : m_set v' = upd (m_set v) (3 * (120 + dm)) s) (y11 : m_out v' = m_out v) (y12 : m_locks v' = m_locks v) (y13 : m_away v' = m_away v) 
    (l1 : m_latest v' = nI (120 + dm)) (l2 : x_latestIsDemand u' = 1) (l3 : x_alternativesFree u' = if kd = 0 then (2 : Int32) else 0) (c1 : m_chosen v' = m_chosen v) (c2 : x_picked u' = x_picked u) (e1 : m_blames v' = m_blames v) (e2 : m_blamed v' = m_blamed v) (e3 : x_toBlame u' = x_toBlame u) (hC : RelC u v) (hB : RelB u v) : Rel u' v' := by
  refine ⟨n, vs, r, dm + 1, cu mn (120 + dm) 1, cu ot (3 * (120 + dm)) q, pk, ver, od', L, nd', dem_rel hN hd12 k1 hq x1 x2 x3 x4 x5 x6 x7 x8 x9 x10 t1 t2 t3 t4 y1 y2 y3 y4 y5 y6 y7 y8 y9 y10 y11 y12 y13, Or.inr (Or.inr ⟨by omega, l1, l2, ?_⟩), RelC_to hC c1 c2, RelB_to hB e1 e2 e3⟩
  rw [l3]
  unfold frOf
  rw [y9, show dm + 1 - 1 = dm by omega, pk_us, cu_s]
  by_cases hk0 : kd = 0
  · rw [if_pos hk0, if_pos hk0]; decide
  · rw [if_neg hk0, if_neg hk0]
end CE
