/-! ONE CALL ON BOTH SIDES, 4: pack, leaveOut, lock. -/
section CC
variable {fu : Nat} {u : XS} {v : MS}
theorem int_in {p : Int32} {m : Nat} (hm : m < 2 ^ 30) (h0 : ¬ p < 0) (h1 : p ≤ nI m) : ∃ w, w ≤ m ∧ p = nI w := by
  rcases pk_ix p (n := m + 1) (by omega) with h2 | h2 | ⟨j, h2, h3⟩
  · exact absurd h2 h0
  · have a1 := Int32.le_iff_toInt_le.mp h1
    have a2 := Int32.le_iff_toInt_le.mp h2
    rw [nI_toInt (by omega)] at a1
    rw [nI_toInt (by omega)] at a2
    omega
  · exact ⟨j, by omega, h3⟩
theorem pack_step (h : Rel u v) (p : Int32) : Step (pf_X0_pack fu p u) (pf_X1_pack fu p v) := by
  have hcode := rel_code h
  obtain ⟨n, vs, r, dm, mn, ot, pk, ver, od, L, nd, hN, hL, hC, hB⟩ := h
  have hn8 := hN.1.1.2.1
  unfold pf_X0_pack pf_X1_pack
  rw [hN.2.1.1, hN.1.1.1]
  rcases Nat.lt_or_ge n 8 with q | q
  · rw [if_neg (show ¬ (8 : Int32) ≤ nI n from nI_ge q (by decide)), if_neg (show ¬ nI (n) = (8 : Int32) from fun h => by have := (nI_eq (a := n) (b := 8) (by omega) (by decide)).mp h; omega)]
    by_cases h0 : p < 0
    · rw [if_pos h0, if_pos h0]; exact ⟨_, _, _, rfl, rfl, hcode⟩
    · rw [if_neg h0, if_neg h0]
      by_cases h6 : p ≤ (6 : Int32)
      · rw [if_pos h6, if_pos h6]
        obtain ⟨w, hw, rfl⟩ := int_in (m := 6) (by decide) h0 h6
        rw [og_t (inb_nI q (by decide)), nI_clamp (by omega), nI_1]
        have e1 : nI (n + 1) - (1 : Int32) = nI n := nI_pred n
        rw [e1]
        refine ⟨nI n, _, _, rfl, rfl, n + 1, cu vs n w, r, dm, mn, ot, pk, ver, od, L, nd, ?_, hL, hC, hB⟩
        obtain ⟨⟨⟨b1, b2, b3, b4, b5, b6, b7, b8, b9, b10, b11⟩, m2, m3, ⟨t1, t2, t3⟩, m5, m6, m8, m9, m10, m11⟩, ⟨i1, i2, i3, i4, i5⟩, h3, h4, h5, h6, ⟨h7, h8⟩, h9, h10⟩ := hN
        refine ⟨⟨⟨rfl, by omega, fun p hp => ?_, b4, b5, b6, b7, b8, b9, b10, b11⟩, m2, m3, ⟨t1, fun i i1 i2 => t2 i (by omega) i2, by omega⟩, fun j hj => by have := m5 j hj; omega, m6, m8, fun k hk => ⟨by have := (m9 k hk).1; omega, fun i hi => by have := (m9 k hk).2 i hi; omega⟩, fun d hd i hi => by have := m10 d hd i hi; omega, fun p hp => ?_⟩, ⟨rfl, i2, i3, i4, i5⟩, fun p hp b hb => ?_, h4, h5, h6, ⟨h7, fun p p1 p2 => h8 p (by omega) p2⟩, h9, h10⟩
        · show upd (m_versions v) n (nI w) p = _ ∧ _
          by_cases hpn : p = n
          · rw [hpn, pk_us, cu_s]; exact ⟨rfl, hw⟩
          · rw [pk_un hpn, cu_n _ _ hpn]; exact b3 p hp
        · by_cases hpn : p = n
          · have := h8 n (Nat.le_refl n) q
            rw [hpn]
            exact ⟨by omega, Or.inl this.1, by rw [this.1]; exact this.2⟩
          · rw [cu_n _ _ hpn]
            exact m11 p (by omega)
        · show gb (x_places u ||| pf_X0_versionsOf (nI n) (((1 : Int32) <<< (nI w &&& 31)) - (1 : Int32))) p b = _
          rw [gb_or, h3 p hp b hb, gb_vers _ q hp hb, cnt_bits w (by omega) b (by omega)]
          by_cases hpn : p = n
          · rw [hpn, cu_s]
            by_cases hb6 : b = 6
            · simp [hb6]
            · by_cases hbw : b < w
              · have : b < 6 := by omega
                simp [hb6, hbw, this]
              · simp [hb6, hbw]
          · rw [cu_n _ _ hpn]
            have e : (p < n + 1) ↔ p < n := by omega
            simp [hpn, e]
      · rw [if_neg h6, if_neg h6]; exact ⟨_, _, _, rfl, rfl, hcode⟩
  · have : n = 8 := by omega
    subst this
    rw [if_pos (by decide), if_pos (by decide)]
    exact ⟨_, _, _, rfl, rfl, hcode⟩
theorem leaveOut_step (h : Rel u v) (p w : Int32) (hw : w = 0 ∨ w = 1) : Step (pf_X0_leaveOut fu p w u) (pf_X1_leaveOut fu p w v) := by
  have hcode := rel_code h
  obtain ⟨n, vs, r, dm, mn, ot, pk, ver, od, L, nd, hN, hL, hC, hB⟩ := h
  have hdm := hN.1.1.2.2.2.2.2.2.1
  unfold pf_X0_leaveOut pf_X1_leaveOut
  rw [hN.2.1.2.2.1, hN.1.1.2.2.2.2.2.1]
  by_cases h0 : p < 0
  · rw [if_pos h0, if_pos h0]; exact ⟨_, _, _, rfl, rfl, hcode⟩
  · rw [if_neg h0, if_neg h0]
    rcases pk_ix p (n := dm) (by omega) with h2 | h2 | ⟨d, hd, rfl⟩
    · exact absurd h2 h0
    · rw [if_neg (by rw [Int32.not_lt]; exact h2), if_pos h2]; exact ⟨_, _, _, rfl, rfl, hcode⟩
    · rw [if_pos (nI_lt hd (by omega)), if_neg (nI_ge hd (by omega)), og_t (inb_nI (show d < 12 by omega) (by decide)), og_t (inb_nI (show d < 12 by omega) (by decide)), nI_clamp (by omega)]
      have hbit := hN.2.2.2.2.2.1 d (by omega)
      have hout := (hN.1.1.2.2.2.2.2.2.2.2.2.2 d (by omega)).1
      have hwn : vp_nar .boolean w = w := by rcases hw with rfl | rfl <;> decide
      have new : m_out v d ≠ w → Rel (xs_leftOut u (x_leftOut u ^^^ ((1 : Int32) <<< (nI d &&& 31)))) (ms_out (ms_code v (0 : Int32)) (upd (m_out v) d w)) := by
        intro hne
        refine ⟨n, vs, r, dm, mn, ot, pk, ver, od, L, nd, ?_, hL, hC, hB⟩
        obtain ⟨⟨⟨b1, b2, b3, b4, b5, b6, b7, b8, b9, b10, b11⟩, m2, m3, m4, m5, m6, m8, m9, m10, m11⟩, i1, h3, h4, h5, h6, h7, h9, h10⟩ := hN
        refine ⟨⟨⟨b1, b2, b3, b4, b5, b6, b7, b8, b9, b10, fun e he => ⟨?_, (b11 e he).2⟩⟩, m2, m3, m4, m5, m6, m8, m9, m10, m11⟩, i1, h3, h4, h5, fun e he => ?_, h7, h9, h10⟩
        · show upd (m_out v) d w e = 0 ∨ upd (m_out v) d w e = 1
          by_cases hed : e = d
          · rw [hed, pk_us]; exact hw
          · rw [pk_un hed]; exact (b11 e he).1
        · show b32 (x_leftOut u ^^^ ((1 : Int32) <<< (nI d &&& 31))) e = decide (upd (m_out v) d w e = 1)
          rw [b32_xor, b32_one (by omega), h6 e he]
          by_cases hed : e = d
          · subst hed
            rw [pk_us]
            rcases hout with ho | ho <;> rcases hw with hw | hw <;> rw [ho, hw] at hne ⊢ <;> first | exact absurd rfl hne | simp
          · rw [pk_un hed]
            have : ¬ d = e := fun h => hed h.symm
            simp [this]
      have key : (x_leftOut u &&& ((1 : Int32) <<< (nI d &&& 31)) = 0) ↔ m_out v d = 0 := by
        rw [b32_test _ (by omega), hbit]
        rcases hout with ho | ho <;> rw [ho] <;> decide
      by_cases hc : m_out v d = 0
      · rw [if_pos (key.mpr hc)]
        by_cases he : (0 : Int32) = w
        · rw [if_pos he, if_pos (by rw [hc, he])]; exact ⟨_, _, _, rfl, rfl, hcode⟩
        · rw [if_neg he, if_neg (by rw [hc]; exact he), hwn]
          exact ⟨1, _, _, rfl, rfl, new (by rw [hc]; exact he)⟩
      · have hc1 : m_out v d = 1 := by rcases hout with ho | ho; exact absurd ho hc; exact ho
        rw [if_neg (fun h => hc (key.mp h))]
        by_cases he : (1 : Int32) = w
        · rw [if_pos he, if_pos (by rw [hc1, he])]; exact ⟨_, _, _, rfl, rfl, hcode⟩
        · rw [if_neg he, if_neg (by rw [hc1]; exact he), hwn]
          exact ⟨1, _, _, rfl, rfl, new (by rw [hc1]; exact he)⟩
theorem lock_step (h : Rel u v) (p w : Int32) : Step (pf_X0_lock fu p w u) (pf_X1_lock fu p w v) := by
  have hcode := rel_code h
  obtain ⟨n, vs, r, dm, mn, ot, pk, ver, od, L, nd, hN, hL, hC, hB⟩ := h
  have hn8 := hN.1.1.2.1
  have hvs := hN.1.1.2.2.1
  unfold pf_X0_lock pf_X1_lock
  rcases hasPlace_ok (fu := fu) hn8 hN.2.1.1 (fun p hp => (hvs p hp).2) hN.2.2.1 p w with ⟨e1, q, b, hq, hb, rfl, rfl⟩ | ⟨e1, hbad⟩
  · have hv := (hvs q (by omega)).2
    rw [ob_s e1, if_neg (by decide)]
    rw [(m_place (fu := fu) (v := ms_code v (0 : Int32)) hn8 hN.1.1.1 hvs (nI q) (vlOf b) (some ((0 : Int32), ms_code v (0 : Int32))) (og (inb (nI q) 8) (some ((1 : Int32), (ms_locks (ms_code v (0 : Int32)) (upd (m_locks v) (nI q).toNatClampNeg (vlOf b))))))).1 ⟨q, b, hq, hb, rfl, rfl⟩]
    rw [og_t (inb_nI (show q < 8 by omega) (by decide)), nI_clamp (by omega)]
    have new : ∀ lk : Int64, (∀ p, p < 8 → ∀ a, a < 8 → gb lk p a = decide (cu L q b p < 6 ∧ a = cu L q b p)) → Rel (xs_locked u lk) (ms_locks (ms_code v (0 : Int32)) (upd (m_locks v) q (vlOf b))) := by
      intro lk hlk
      refine ⟨n, vs, r, dm, mn, ot, pk, ver, od, cu L q b, nd, ?_, hL, hC, hB⟩
      obtain ⟨⟨⟨b1, b2, b3, b4, b5, b6, b7, b8, b9, b10, b11⟩, m2, m3, m4, m5, m6, m8, m9, m10, m11⟩, i1, h3, h4, h5, h6, ⟨h7, h8⟩, h9, h10⟩ := hN
      refine ⟨⟨⟨b1, b2, b3, b4, b5, b6, b7, b8, b9, b10, b11⟩, m2, m3, m4, m5, m6, m8, m9, m10, fun p hp => ?_⟩, i1, h3, h4, h5, h6, ⟨hlk, fun p p1 p2 => ?_⟩, h9, h10⟩
      · show _ ∧ _ ∧ upd (m_locks v) q (vlOf b) p = _
        by_cases hpq : p = q
        · rw [hpq, cu_s, pk_us]
          exact ⟨by omega, by omega, rfl⟩
        · rw [cu_n _ _ hpq, pk_un hpq]; exact m11 p hp
      · show _ ∧ upd (m_locks v) q (vlOf b) p = _
        have hpq : p ≠ q := by omega
        rw [cu_n _ _ hpq, pk_un hpq]; exact h8 p p1 p2
    have hlk0 := hN.2.2.2.2.2.2.1.1
    rcases hb with hb | hb
    · rw [if_pos ((vl_m1 (by omega)).mpr hb)]
      refine ⟨1, _, _, rfl, rfl, new _ (fun p hp a ha => ?_)⟩
      rw [gb_and, gb_nm _ hp ha, gb_all q (by omega) p hp a ha, hlk0 p hp a ha]
      by_cases hpq : p = q
      · rw [hpq, cu_s, hb]
        rcases Nat.lt_or_ge a 7 with z | z
        · simp [z]
        · have : ¬ (L q < 6 ∧ a = L q) := by omega
          simp [this]
      · rw [cu_n _ _ hpq]
        simp [hpq]
    · rw [if_neg (fun h => by have := (vl_m1 (b := b) (by omega)).mp h; omega)]
      refine ⟨1, _, _, rfl, rfl, new _ (fun p hp a ha => ?_)⟩
      have hvb : vlOf b = nI b := by unfold vlOf; rw [if_pos (by omega)]
      rw [gb_or, gb_and, gb_nm _ hp ha, gb_all q (by omega) p hp a ha, hlk0 p hp a ha, hvb, gb_plc q (by omega) b (by omega) p hp a ha]
      by_cases hpq : p = q
      · rw [hpq, cu_s]
        have hb6 : b < 6 := by omega
        rcases Nat.lt_or_ge a 7 with z | z
        · simp [z, hb6]
        · have h1 : ¬ (L q < 6 ∧ a = L q) := by omega
          have h2 : ¬ a = b := by omega
          simp [h1, h2]
      · rw [cu_n _ _ hpq]
        simp [hpq]
  · rw [ob_s e1, if_pos rfl]
    rw [(m_place (fu := fu) (v := ms_code v (0 : Int32)) hn8 hN.1.1.1 hvs p w (some ((0 : Int32), ms_code v (0 : Int32))) (og (inb p 8) (some ((1 : Int32), (ms_locks (ms_code v (0 : Int32)) (upd (m_locks v) p.toNatClampNeg w)))))).2 hbad]
    exact ⟨0, _, _, rfl, rfl, hcode⟩
end CC
