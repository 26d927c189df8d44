/-! THE REFERENCE'S SEARCH, WHOLE. -/
theorem msv_msv (v : MS) (f f' : Nat → Int32) : ms_value (ms_value v f) f' = ms_value v f' := rfl
theorem msv_value (v : MS) (f : Nat → Int32) : m_value (ms_value v f) = f := rfl
theorem value_loop {fu : Nat} {v : MS} (K : Int32 → MS → Option (Int32 × MS)) : ∀ (n i : Nat) (f : Nat → Int32), i ≤ 8 → 8 < i + n → (∀ j, j < i → f j = (-2 : Int32)) →
    ∃ j f', pl_X1_search_6 fu K n (nI i) (ms_value v f) = K j (ms_value v f') ∧ ∀ j, j < 8 → f' j = (-2 : Int32) := by
  intro n
  induction n with
  | zero => intro i f h1 h2; exact absurd h2 (by omega)
  | succ n ih =>
    intro i f h1 h2 h3
    rw [pl_X1_search_6]
    rcases Nat.lt_or_ge i 8 with q | q
    · rw [if_neg (show ¬ (8 : Int32) ≤ nI i from nI_ge q (by decide)), og_t (inb_nI q (by decide)), nI_clamp (by omega), nI_1, msv_value, msv_msv]
      refine ih (i + 1) _ (by omega) (by omega) (fun j hj => ?_)
      rcases Nat.lt_or_ge j i with w | w
      · rw [pk_un (by omega)]; exact h3 j w
      · rw [show j = i by omega, pk_us]
    · rw [if_pos (show (8 : Int32) ≤ nI i from nI_le q (by omega))]
      exact ⟨_, f, rfl, fun j hj => h3 j (by omega)⟩
theorem msv_self (v : MS) : ms_value v (m_value v) = v := rfl
theorem mk_mvs (w : MS) (f : Nat → Int32) (x y : Int32) : ms_blames0 (ms_option (ms_value w f) (upd (m_option (ms_value w f)) 0 x)) (upd (m_blames0 (ms_value w f)) 0 y) = mvs w f (upd (m_option w) 0 x) (upd (m_blames0 w) 0 y) := by
  rw [rq_m_option_value, rq_m_blames0_value, mvs]
section MT
variable {fu : Nat} {v : MS} {n : Nat} {vs : Nat → Nat} {r dm : Nat} {mn ot pk ver od L : Nat → Nat} {nd : Nat} {p0 p1 : Int32}
/-- what the reference's state must be for a search -/
def MSrch (v : MS) (n : Nat) (vs : Nat → Nat) (r dm : Nat) (mn ot pk ver od L : Nat → Nat) (nd : Nat) : Prop :=
  MB v n vs r dm mn ot pk ∧ (∀ k, k < r → m_version v k = nI (ver k) ∧ ver k < 6) ∧ (∃ f0, OrdOK f0 od) ∧ TailOK n nd od ∧ (∀ j, j < nd → od j < n) ∧
  (∃ kz : Nat → Bool, (∀ k, k < 12 → (kz k = true ↔ m_kind v (120 + k) = 0)) ∧ demsOK od kz mn ot dm 0 0 nd) ∧ (∀ d, d < dm → 0 < mn (120 + d)) ∧
  (∀ k, k < r → pk k < n ∧ ∀ i, i < mn k → ot (3 * k + i) < n) ∧ (∀ d, d < dm → ∀ i, i < mn (120 + d) → ot (3 * (120 + d) + i) < n) ∧
  ∀ p, p < n → L p < 7 ∧ (L p = 6 ∨ L p < vs p) ∧ m_locks v p = vlOf (L p)
def BestM (n : Nat) (vs L od : Nat → Nat) (nd : Nat) (S : (Nat → Nat) → Prop) (c : Nat → Nat) : Prop :=
  S c ∧ ∀ c', S c' → (∀ i, i < n → c' (od i) = c (od i)) ∨ ∃ i, i < n ∧ (∀ j, j < i → c' (od j) = c (od j)) ∧ rkM (vs (od i)) (L (od i)) (flg nd i) (c (od i)) < rkM (vs (od i)) (L (od i)) (flg nd i) (c' (od i))
theorem od_lt (hod : ∃ f0, OrdOK f0 od) (ht : TailOK n nd od) (hn : n ≤ 8) {i : Nat} (hi : i < n) : od i < n := by
  obtain ⟨f0, h1, h2, h3⟩ := hod
  rcases Nat.lt_or_ge (od i) n with w | w
  · exact w
  · have hi8 : i < 8 := by omega
    have := h2 i (od i) hi8 (h1 i hi8).2 (ht.2.1 (od i) w (h1 i hi8).2).symm
    omega
theorem od_sur (hod : ∃ f0, OrdOK f0 od) (ht : TailOK n nd od) (hn : n ≤ 8) {p : Nat} (hp : p < n) : ∃ i, i < n ∧ od i = p := by
  obtain ⟨f0, h1, h2, h3⟩ := hod
  obtain ⟨i, hi, he⟩ := h3 p (by omega)
  refine ⟨i, ?_, he⟩
  rcases Nat.lt_or_ge i n with w | w
  · exact w
  · have := ht.2.1 i w hi
    omega
theorem search_core {w : MS} (hfu : 400000000 ≤ fu) (hR : SR w n vs r dm mn ot pk ver od L nd) (hod : ∃ f0, OrdOK f0 od) (ht : TailOK n nd od) (hmn1 : ∀ d, d < dm → 0 < mn (120 + d)) (hL : ∀ p, p < n → L p < 7 ∧ (L p = 6 ∨ L p < vs p)) (p0 p1 : Int32) :
    ∃ (z : Int32) (f g h : Nat → Int32), pl_X1_search_6 fu (fun x3_6 u_6 => (og (inb (0 : Int32) 8) (og (inb (0 : Int32) 8) (pl_X1_search_42 fu p0 p1 (fun x3_42 u_42 => (if x3_42 < 0 then (some ((0 : Int32), u_42)) else (if 0 < (m_packages u_42) then (some ((1 : Int32), u_42)) else (ob (pf_X1_broken fu u_42) (fun q_27 => (if q_27 = 0 then (some ((1 : Int32), u_42)) else (some ((0 : Int32), u_42)))))))) fu (0 : Int32) (ms_blames0 (ms_option u_6 (upd (m_option u_6) (0 : Int32).toNatClampNeg (0 : Int32))) (upd (m_blames0 u_6) (0 : Int32).toNatClampNeg (0 : Int32))))))) fu (0 : Int32) w = some (z, mvs w f g h) ∧
      ((z = 0 ∧ ∀ c, ¬ SM w n vs r dm mn ot pk ver p0 p1 c) ∨ (z = 1 ∧ ∃ c, BestM n vs L od nd (SM w n vs r dm mn ot pk ver p0 p1) c ∧ ∀ p, p < n → f p = vlOf (c p))) := by
  obtain ⟨hB, hver, -, -, -, hrow, hdem⟩ := id hR
  have hn8 := hB.2.1
  obtain ⟨f0, hod0⟩ := id hod
  obtain ⟨j1, fv, e2, hfv⟩ := value_loop (fu := fu) (v := w) (fun x3_6 u_6 => (og (inb (0 : Int32) 8) (og (inb (0 : Int32) 8) (pl_X1_search_42 fu p0 p1 (fun x3_42 u_42 => (if x3_42 < 0 then (some ((0 : Int32), u_42)) else (if 0 < (m_packages u_42) then (some ((1 : Int32), u_42)) else (ob (pf_X1_broken fu u_42) (fun q_27 => (if q_27 = 0 then (some ((1 : Int32), u_42)) else (some ((0 : Int32), u_42)))))))) fu (0 : Int32) (ms_blames0 (ms_option u_6 (upd (m_option u_6) (0 : Int32).toNatClampNeg (0 : Int32))) (upd (m_blames0 u_6) (0 : Int32).toNatClampNeg (0 : Int32))))))) fu 0 (m_value w) (by decide) (by omega) (fun j hj => by omega)
  rw [nI_0, msv_self] at e2
  rw [e2, og_t (show inb (0 : Int32) 8 = true by decide), og_t (show inb (0 : Int32) 8 = true by decide), show (0 : Int32).toNatClampNeg = 0 by decide]
  have hvb0 : VB fv (fun _ => 7) := fun p hp => Or.inl ⟨hfv p hp, rfl⟩
  have hI0 : SI (w) n vs r dm mn ot pk ver od L nd p0 p1 0 fv (upd (m_option w) 0 0) (upd (m_blames0 w) 0 0) (fun _ => 7) (fun _ => 0) := by
    refine ⟨hvb0, fun j hj => by omega, fun j _ _ => rfl, fun _ => ⟨by rw [pk_us, nI_0], Nat.zero_le _, fun a _ _ h => absurd h (Nat.not_lt_zero _)⟩, fun h1 h2 => by omega⟩
  have hbig := tsum_big (fun _ => 0) (if 0 < n then 0 + 1 else n) (by split <;> omega)
  have h9 : (9 : Nat) ^ 9 = 387420489 := by decide
  have hpos : 0 < (9 : Nat) ^ (9 - (if 0 < n then 0 + 1 else n)) := Nat.pow_pos (by decide)
  have hS := search_loop (fu := fu) (by omega) hR (p0 := p0) (p1 := p1) (fun x3_42 u_42 => (if x3_42 < 0 then (some ((0 : Int32), u_42)) else (if 0 < (m_packages u_42) then (some ((1 : Int32), u_42)) else (ob (pf_X1_broken fu u_42) (fun q_27 => (if q_27 = 0 then (some ((1 : Int32), u_42)) else (some ((0 : Int32), u_42)))))))) fu 0 fv _ _ _ _ (Nat.zero_le _) hI0 (by omega)
  rw [nI_0] at hS
  rw [mk_mvs]
  rcases hS with ⟨f', g', h', cc, gN, e3, hI⟩ | ⟨f', g', h', e3, hno⟩
  · obtain ⟨hvb, hlow, -, -, hend⟩ := hI
    rw [e3, if_neg (nI_pos (by omega))]
    simp only [mvs_packages, hB.1]
    -- the choice that was found
    have hfound : (∀ k, k < r → brR w mn ot pk ver cc k = false) → (∀ d, d < dm → brD w mn ot cc d = false) →
        BestM n vs L od nd (SM w n vs r dm mn ot pk ver p0 p1) (fun p => if p < n then cc p else 6) ∧ ∀ p, p < n → f' p = vlOf (if p < n then cc p else 6) := by
      intro hbr hbd
      have hc : ∀ p, p < n → cc p < 7 ∧ vld (vs p) (cc p) ∧ (p0 = nI p → vlOf (cc p) = p1) := fun p hp => by
        obtain ⟨i, hi, rfl⟩ := od_sur hod ht hn8 hp
        obtain ⟨c1, c2, -, -, c5, -⟩ := hlow i hi
        exact ⟨c1, c2, c5⟩
      have hcn : ∀ p, p < n → (fun p => if p < n then cc p else 6) p = cc p := fun p hp => if_pos hp
      refine ⟨⟨⟨fun p hp => ?_, fun p hp => ?_, fun p h1 h2 => if_neg (by omega), fun k hk => ?_, fun d hd => ?_, fun p hp h1 => ?_⟩, fun c' hc' => ?_⟩, fun p hp => ?_⟩
      · show (if p < n then cc p else 6) < 7
        by_cases h : p < n
        · rw [if_pos h]; exact (hc p h).1
        · rw [if_neg h]; decide
      · rw [hcn p hp]; exact (hc p hp).2.1
      · have h1 := hbr k hk
        unfold brR at h1 ⊢
        rw [hcn _ (hrow k hk).1, allB_congr (c' := cc) (mn k) 0 (fun j j1 j2 => hcn _ ((hrow k hk).2 j (by omega)))]
        exact h1
      · have h1 := hbd d hd
        unfold brD at h1 ⊢
        rw [allB_congr (c' := cc) (mn (120 + d)) 0 (fun j j1 j2 => hcn _ (hdem d hd j (by omega)))]
        exact h1
      · rw [hcn p hp]; exact (hc p hp).2.2 h1
      · apply Classical.byContradiction
        intro hno
        rw [not_or] at hno
        -- the first level at which they differ
        have hex : ∃ i, i < n ∧ c' (od i) ≠ cc (od i) := by
          apply Classical.byContradiction
          intro h
          apply hno.1
          intro i hi
          rw [hcn _ (od_lt hod ht hn8 hi)]
          apply Classical.byContradiction
          intro h2
          exact h ⟨i, hi, h2⟩
        obtain ⟨i, ⟨hi, hne⟩, hleast⟩ := pk_least (fun i => i < n ∧ c' (od i) ≠ cc (od i)) hex
        have heq : ∀ j, j < i → c' (od j) = cc (od j) := fun j hj => by
          apply Classical.byContradiction
          intro h
          exact hleast j hj ⟨by omega, h⟩
        obtain ⟨c1, c2, c3, c4, c5, c6⟩ := hlow i hi
        have hc7 := hc'.1 (od i) (hod0.1 i (by omega)).2
        have hcv := hc'.2.1 (od i) (od_lt hod ht hn8 hi)
        rcases Nat.lt_trichotomy (rkM (vs (od i)) (L (od i)) (flg nd i) (c' (od i))) (rkM (vs (od i)) (L (od i)) (flg nd i) (cc (od i))) with w | w | w
        · obtain ⟨j, j1, -, j3⟩ := c6 _ hc7 hcv w c' hc' rfl
          exact j3 (heq j j1)
        · have hLi := hL _ (od_lt hod ht hn8 hi)
          have hVi := (hB.2.2.1 _ (hod0.1 i (by omega)).2).2
          exact hne (rk_one _ (by omega) _ hLi.1 hLi.2 (flg nd i) (flg_lt nd i) _ hc7 hcv _ c1 c2 w)
        · refine hno.2 ⟨i, hi, fun j hj => ?_, ?_⟩
          · rw [hcn _ (od_lt hod ht hn8 (by omega))]; exact heq j hj
          · rw [hcn _ (od_lt hod ht hn8 hi)]; exact w
      · rw [if_pos hp]
        rcases hvb p (by omega) with ⟨-, h2⟩ | ⟨-, h2⟩
        · have := (hc p hp).1
          omega
        · exact h2
    rcases Nat.lt_or_ge 0 n with w0 | w0
    · rw [if_pos (show 0 < nI n by rw [← nI_0]; exact nI_lt w0 (by omega))]
      obtain ⟨h1, h2⟩ := hend rfl w0
      exact ⟨1, f', g', h', rfl, Or.inr ⟨rfl, _, hfound h1 h2⟩⟩
    · have hn0 : n = 0 := by omega
      subst hn0
      rw [if_neg (show ¬ 0 < nI 0 by decide)]
      have hr0 : ∀ k, k < r → False := fun k hk => by have := (hrow k hk).1; omega
      have hd0 : ∀ d, d < dm → False := fun d hd => by have := hdem d hd 0 (hmn1 d hd); omega
      have hB2 : MB (mvs (w) f' g' h') 0 vs r dm mn ot pk := hB
      obtain ⟨S, eS, hS⟩ := broken_ok (fu := fu) (v := mvs (w) f' g' h') (c := cc) (ver := ver) (by omega) hB2 hvb hver
      rw [ob_s eS]
      rcases hS with ⟨s1, -, -⟩ | ⟨-, ⟨k, hk, -⟩ | ⟨d, hd, -⟩⟩
      · rw [if_pos s1]
        exact ⟨1, f', g', h', rfl, Or.inr ⟨rfl, _, hfound (fun k hk => (hr0 k hk).elim) (fun d hd => (hd0 d hd).elim)⟩⟩
      · exact (hr0 k hk).elim
      · exact (hd0 d hd).elim
  · rw [e3, if_pos (by decide)]
    exact ⟨0, f', g', h', rfl, Or.inl ⟨rfl, hno⟩⟩
theorem MB_mon (o : Nat → Int32) (k : Int32) (h : MB v n vs r dm mn ot pk) : MB (mon v o k) n vs r dm mn ot pk := by
  unfold MB
  rw [mon_packages, mon_versions, mon_rows, mon_demands, mon_many, mon_other, mon_pack, mon_out, mon_away]
  exact h
theorem SM_mon (o : Nat → Int32) (k : Int32) : SM (mon v o k) n vs r dm mn ot pk ver p0 p1 = SM v n vs r dm mn ot pk ver p0 p1 := by
  unfold SM brR brD
  rw [mon_kind, mon_set, mon_out, mon_away]
theorem search_ok (hfu : 400000000 ≤ fu) (hM : MSrch v n vs r dm mn ot pk ver od L nd) (p0 p1 : Int32) :
    ∃ (z : Int32) (o : Nat → Int32) (f g h : Nat → Int32), pf_X1_search fu p0 p1 v = some (z, mvs (mon v o (nI nd)) f g h) ∧
      ((z = 0 ∧ ∀ c, ¬ SM v n vs r dm mn ot pk ver p0 p1 c) ∨ (z = 1 ∧ ∃ c, BestM n vs L od nd (SM v n vs r dm mn ot pk ver p0 p1) c ∧ ∀ p, p < n → f p = vlOf (c p))) := by
  obtain ⟨hB, hver, hod, ht, hndl, ⟨kz, hkz, hD⟩, hmn1, hrow, hdem, hL⟩ := hM
  have hn8 := hB.2.1
  obtain ⟨f0, hod0⟩ := id hod
  obtain ⟨o', e1, ho'⟩ := arrange_ok (fu := fu) (by omega) hB hkz hmn1 hod0 ht hD hndl
  unfold pf_X1_search
  rw [ob_s e1]
  have hR : SR (mon v o' (nI nd)) n vs r dm mn ot pk ver od L nd := by
    refine ⟨MB_mon o' (nI nd) hB, fun k hk => by rw [mon_version]; exact hver k hk, fun i hi => ⟨⟨by omega, (hod0.1 i (by omega)).2, by rw [mon_order]; exact (ho' i hi).1, ?_, by rw [mon_versions]; exact (hB.2.2.1 _ (hod0.1 i (by omega)).2).1, (hL _ (od_lt hod ht hn8 hi)).1, (hL _ (od_lt hod ht hn8 hi)).2.1, by rw [mon_locks]; exact (hL _ (od_lt hod ht hn8 hi)).2.2, ?_, mon_needed _ _ _⟩, od_lt hod ht hn8 hi⟩, fun i j hi hj => hod0.2.1 i j (by omega) (by omega), fun p hp => od_sur hod ht hn8 hp, hrow, hdem⟩
    · have := (hB.2.2.1 _ (hod0.1 i (by omega)).2).2
      omega
    · have := ht.2.2
      omega
  obtain ⟨z, f, g, h, e, hr⟩ := search_core hfu hR hod ht hmn1 (fun p hp => ⟨(hL p hp).1, (hL p hp).2.1⟩) p0 p1
  rw [SM_mon] at hr
  exact ⟨z, o', f, g, h, e, hr⟩
end MT
