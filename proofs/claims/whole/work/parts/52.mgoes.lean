/-! THE REFERENCE'S STEP: goes(i). The scratch of a search: values, options, blames. -/
def mvs (v : MS) (f g h : Nat → Int32) : MS := ms_blames0 (ms_option (ms_value v f) g) h
theorem mvs_value (v : MS) (f g h : Nat → Int32) : m_value (mvs v f g h) = f := rfl
theorem mvs_option (v : MS) (f g h : Nat → Int32) : m_option (mvs v f g h) = g := rfl
theorem mvs_blames0 (v : MS) (f g h : Nat → Int32) : m_blames0 (mvs v f g h) = h := rfl
theorem mvs_order (v : MS) (f g h : Nat → Int32) : m_order (mvs v f g h) = m_order v := rfl
theorem mvs_versions (v : MS) (f g h : Nat → Int32) : m_versions (mvs v f g h) = m_versions v := rfl
theorem mvs_packages (v : MS) (f g h : Nat → Int32) : m_packages (mvs v f g h) = m_packages v := rfl
theorem mvs_sv (v : MS) (f g h f' : Nat → Int32) : ms_value (mvs v f g h) f' = mvs v f' g h := rfl
theorem mvs_so (v : MS) (f g h g' : Nat → Int32) : ms_option (mvs v f g h) g' = mvs v f g' h := rfl
theorem mvs_sb (v : MS) (f g h h' : Nat → Int32) : ms_blames0 (mvs v f g h) h' = mvs v f g h' := rfl
def cu (c : Nat → Nat) (p b : Nat) : Nat → Nat := fun q => if q = p then b else c q
theorem cu_s (c : Nat → Nat) (p b : Nat) : cu c p b p = b := if_pos rfl
theorem cu_n (c : Nat → Nat) {p q : Nat} (b : Nat) (h : q ≠ p) : cu c p b q = c q := if_neg h
theorem cu_cu (c : Nat → Nat) (p b b' : Nat) : cu (cu c p b) p b' = cu c p b' := by
  funext q
  by_cases h : q = p
  · rw [h, cu_s, cu_s]
  · rw [cu_n _ _ h, cu_n _ _ h, cu_n _ _ h]
/-- the setting of a search -/
def SR (v : MS) (n : Nat) (vs : Nat → Nat) (r dm : Nat) (mn ot pk ver om L : Nat → Nat) (nd : Nat) : Prop :=
  MB v n vs r dm mn ot pk ∧ (∀ k, k < r → m_version v k = nI (ver k) ∧ ver k < 6) ∧ (∀ i, i < n → RkAt v i (om i) (vs (om i)) (L (om i)) nd ∧ om i < n) ∧
  (∀ i j, i < n → j < n → om i = om j → i = j) ∧ (∀ p, p < n → ∃ i, i < n ∧ om i = p) ∧
  (∀ k, k < r → pk k < n ∧ ∀ i, i < mn k → ot (3 * k + i) < n) ∧ ∀ d, d < dm → ∀ i, i < mn (120 + d) → ot (3 * (120 + d) + i) < n
/-- a right choice, with what was fixed -/
def SM (v : MS) (n : Nat) (vs : Nat → Nat) (r dm : Nat) (mn ot pk ver : Nat → Nat) (p0 p1 : Int32) (c : Nat → Nat) : Prop :=
  ch7 c ∧ (∀ p, p < n → vld (vs p) (c p)) ∧ (∀ p, n ≤ p → p < 8 → c p = 6) ∧ (∀ k, k < r → brR v mn ot pk ver c k = false) ∧ (∀ d, d < dm → brD v mn ot c d = false) ∧
  ∀ p, p < n → p0 = nI p → vlOf (c p) = p1
def Ref (S : (Nat → Nat) → Prop) (om : Nat → Nat) (cc : Nat → Nat) (bl : Int32) (i b : Nat) : Prop := ∀ c, S c → c (om i) = b → ∃ j, j < i ∧ b32 bl (om j) = true ∧ c (om j) ≠ cc (om j)
theorem allB_congr {v : MS} {ot : Nat → Nat} {c c' : Nat → Nat} {k : Nat} : ∀ (m i : Nat), (∀ j, i ≤ j → j < i + m → c (ot (3 * k + j)) = c' (ot (3 * k + j))) → allB (m_kind v) (m_set v) ot c k m i = allB (m_kind v) (m_set v) ot c' k m i := by
  intro m
  induction m with
  | zero => intro i _; rfl
  | succ m ih =>
    intro i h
    rw [allB, allB, h i (Nat.le_refl i) (by omega), ih (i + 1) (fun j h1 h2 => h j (by omega) (by omega))]
theorem allB_lt {v : MS} {ot : Nat → Nat} {c : Nat → Nat} {k : Nat} : ∀ (m i : Nat), allB (m_kind v) (m_set v) ot c k m i = true → ∀ j, i ≤ j → j < i + m → c (ot (3 * k + j)) < 7 := by
  intro m
  induction m with
  | zero => intro i _ j h1 h2; omega
  | succ m ih =>
    intro i h j h1 h2
    rw [allB, Bool.and_eq_true] at h
    rcases Nat.lt_or_ge i j with w | w
    · exact ih (i + 1) h.2 j w (by omega)
    · rw [show j = i by omega]
      have h3 := h.1
      unfold altB at h3
      rw [Bool.and_eq_true] at h3
      exact of_decide_eq_true h3.1
section GO
variable {fu : Nat} {v : MS} {n : Nat} {vs : Nat → Nat} {r dm : Nat} {mn ot pk ver om L : Nat → Nat} {nd : Nat} {p0 p1 : Int32}
theorem ref_of_S (hR : SR v n vs r dm mn ot pk ver om L nd) {i : Nat} (hi : i < n) {cc : Nat → Nat} {b : Nat} (hopen : ∀ j, i < j → j < n → cc (om j) = 7) {S : Int32}
    (hS : (∃ k, k < r ∧ brR v mn ot pk ver (cu cc (om i) b) k = true ∧ b32 S (pk k) = true ∧ ∀ a, a < mn k → b32 S (ot (3 * k + a)) = true) ∨
      ∃ d, d < dm ∧ brD v mn ot (cu cc (om i) b) d = true ∧ ∀ a, a < mn (120 + d) → b32 S (ot (3 * (120 + d) + a)) = true) :
    Ref (SM v n vs r dm mn ot pk ver p0 p1) om cc S i b := by
  obtain ⟨hB, hver, hrk, hinj, hsur, hrow, hdem⟩ := hR
  intro c hc hcb
  apply Classical.byContradiction
  intro hno
  have agree : ∀ j, j < i → b32 S (om j) = true → c (om j) = cc (om j) := fun j hj hb => by
    apply Classical.byContradiction
    intro h
    exact hno ⟨j, hj, hb, h⟩
  have at_ : ∀ q, q < n → b32 S q = true → cu cc (om i) b q < 7 → c q = cu cc (om i) b q := by
    intro q hq hb hlt
    obtain ⟨j, hj, rfl⟩ := hsur q hq
    by_cases hji : j = i
    · rw [hji, cu_s]; exact hcb
    · have hne : om j ≠ om i := fun h => hji (hinj j i hj hi h)
      rw [cu_n _ _ hne] at hlt ⊢
      rcases Nat.lt_or_ge j i with w | w
      · exact agree j w hb
      · rw [hopen j (by omega) hj] at hlt
        omega
  rcases hS with ⟨k, hk, hbr, hbp, hbo⟩ | ⟨d, hd, hbr, hbo⟩
  · have hn := hc.2.2.2.1 k hk
    unfold brR at hbr hn
    rw [Bool.and_eq_true] at hbr
    have h1 := of_decide_eq_true hbr.1
    have h2 := (hver k hk).2
    have h3 := at_ (pk k) (hrow k hk).1 hbp (by omega)
    have h4 := allB_lt (mn k) 0 hbr.2
    rw [allB_congr (c' := cu cc (om i) b) (mn k) 0 (fun j j1 j2 => at_ _ ((hrow k hk).2 j (by omega)) (hbo j (by omega)) (h4 j j1 j2)), hbr.2, h3, h1] at hn
    simp at hn
  · have hn := hc.2.2.2.2.1 d hd
    unfold brD at hbr hn
    rw [Bool.and_eq_true] at hbr
    have h4 := allB_lt (mn (120 + d)) 0 hbr.2
    rw [allB_congr (c' := cu cc (om i) b) (mn (120 + d)) 0 (fun j j1 j2 => at_ _ (hdem d hd j (by omega)) (hbo j (by omega)) (h4 j j1 j2)), hbr.2, hbr.1] at hn
    cases hn
theorem ref_or {S : (Nat → Nat) → Prop} {cc : Nat → Nat} {x y : Int32} {i b : Nat} (h : Ref S om cc x i b) : Ref S om cc (x ||| y) i b := fun c hc hb => by
  obtain ⟨j, h1, h2, h3⟩ := h c hc hb
  exact ⟨j, h1, by rw [b32_or, h2]; rfl, h3⟩
theorem ref_or' {S : (Nat → Nat) → Prop} {cc : Nat → Nat} {x y : Int32} {i b : Nat} (h : Ref S om cc y i b) : Ref S om cc (x ||| y) i b := fun c hc hb => by
  obtain ⟨j, h1, h2, h3⟩ := h c hc hb
  exact ⟨j, h1, by rw [b32_or, h2, Bool.or_true], h3⟩
theorem VB_upd {f : Nat → Int32} {cc : Nat → Nat} {p x b : Nat} (h : VB f (cu cc p x)) (hb : b < 7) : VB (upd f p (vlOf b)) (cu cc p b) := by
  intro q hq
  by_cases hqp : q = p
  · subst hqp
    rw [cu_s, pk_us]
    exact Or.inr ⟨hb, rfl⟩
  · have h1 := h q hq
    rw [cu_n _ _ hqp] at h1
    rw [cu_n _ _ hqp, pk_un hqp]
    exact h1
theorem VB_open {f : Nat → Int32} {cc : Nat → Nat} (p : Nat) (h : VB f cc) : VB (upd f p (-2 : Int32)) (cu cc p 7) := by
  intro q hq
  by_cases hqp : q = p
  · subst hqp
    rw [cu_s, pk_us]
    exact Or.inl ⟨rfl, rfl⟩
  · rw [cu_n _ _ hqp, pk_un hqp]
    exact h q hq
def GoesT (v : MS) (n : Nat) (vs : Nat → Nat) (r dm : Nat) (mn ot pk ver om L : Nat → Nat) (nd : Nat) (p0 p1 : Int32) (i : Nat) (cc : Nat → Nat) (g h : Nat → Int32) (o b : Nat) (f' g' h' : Nat → Int32) : Prop :=
  b < 7 ∧ vld (vs (om i)) b ∧ VB f' (cu cc (om i) b) ∧ (∀ j, j ≠ i → g' j = g j ∧ h' j = h j) ∧ g' i = nI (rkM (vs (om i)) (L (om i)) (flg nd i) b + 1) ∧
  (∀ a, a < 7 → vld (vs (om i)) a → rkM (vs (om i)) (L (om i)) (flg nd i) a < rkM (vs (om i)) (L (om i)) (flg nd i) b → Ref (SM v n vs r dm mn ot pk ver p0 p1) om cc (h' i) i a) ∧
  (∀ k, k < r → brR v mn ot pk ver (cu cc (om i) b) k = false) ∧ (∀ d, d < dm → brD v mn ot (cu cc (om i) b) d = false) ∧ (p0 = nI (om i) → vlOf b = p1) ∧ o ≤ rkM (vs (om i)) (L (om i)) (flg nd i) b
def GoesF (v : MS) (n : Nat) (vs : Nat → Nat) (r dm : Nat) (mn ot pk ver om : Nat → Nat) (p0 p1 : Int32) (i : Nat) (cc : Nat → Nat) (g h : Nat → Int32) (x : Nat) (f' g' h' : Nat → Int32) : Prop :=
  VB f' (cu cc (om i) x) ∧ (∀ j, j ≠ i → g' j = g j ∧ h' j = h j) ∧ ∀ a, a < 7 → vld (vs (om i)) a → Ref (SM v n vs r dm mn ot pk ver p0 p1) om cc (h' i) i a
theorem goes_loop (hfu : 200 ≤ fu) (hR : SR v n vs r dm mn ot pk ver om L nd) {i : Nat} (hi : i < n) {u : MS} (hu : m_order u = m_order v) {cc : Nat → Nat} (hopen : ∀ j, i < j → j < n → cc (om j) = 7) (K : MS → Option (Int32 × MS)) :
    ∀ (fl o : Nat) (f g h : Nat → Int32) (x : Nat), o ≤ vs (om i) + 1 → vs (om i) + 1 < o + fl → VB f (cu cc (om i) x) → g i = nI o →
      (∀ a, a < 7 → vld (vs (om i)) a → rkM (vs (om i)) (L (om i)) (flg nd i) a < o → Ref (SM v n vs r dm mn ot pk ver p0 p1) om cc (h i) i a) →
      (∃ b f' g' h', pl_X1_goes_17 fu (nI i) p0 p1 u K fl (mvs v f g h) = some (1, mvs v f' g' h') ∧ GoesT v n vs r dm mn ot pk ver om L nd p0 p1 i cc g h o b f' g' h') ∨
      ∃ y f' g' h', pl_X1_goes_17 fu (nI i) p0 p1 u K fl (mvs v f g h) = K (mvs v f' g' h') ∧ GoesF v n vs r dm mn ot pk ver om p0 p1 i cc g h y f' g' h' := by
  have hR0 := hR
  obtain ⟨hB, hver, hrk, hinj, hsur, hrow, hdem⟩ := hR
  obtain ⟨hat, homn⟩ := hrk i hi
  obtain ⟨hi8, hp8, ho, hV, hvs, hL, hLv, hlk, hnd, hne⟩ := id hat
  intro fl
  induction fl with
  | zero => intro o f g h x h1 h2; exact absurd h2 (by omega)
  | succ fl ih =>
    intro o f g h x h1 h2 hvb hgi href
    rw [pl_X1_goes_17]
    simp only [mvs_value, mvs_option, mvs_blames0, mvs_versions, mvs_sv, mvs_so, mvs_sb, hu, nI_clamp (show i < 2 ^ 31 by omega), ho, og_t (inb_nI hi8 (by decide)), og_t (inb_nI hp8 (by decide)), nI_clamp (show om i < 2 ^ 31 by omega), hvs, hgi, pk_us]
    rcases Nat.lt_or_ge (vs (om i)) o with q | q
    · rw [if_pos (nI_lt q (by omega))]
      refine Or.inr ⟨x, f, g, h, rfl, hvb, fun _ _ => ⟨rfl, rfl⟩, fun a ha hav => href a ha hav ?_⟩
      have := (rk_ok _ hV _ hL hLv (flg nd i) (flg_lt nd i) a ha hav).2
      omega
    · rw [if_neg (nI_nlt q (by omega))]
      obtain ⟨b, hb, hbv, hbo⟩ := rk_sur _ hV _ hL hLv (flg nd i) (flg_lt nd i) o q
      have hat2 : RkAt (mvs v f g h) i (om i) (vs (om i)) (L (om i)) nd := hat
      have e1 := ranked_ok hfu hat2 hb hbv
      rw [hbo] at e1
      rw [ob_s e1, nI_1]
      have hvb2 := VB_upd (b := b) hvb hb
      have next : ∀ h2 : Nat → Int32, (∀ j, j ≠ i → h2 j = h j) → (∀ a, Ref (SM v n vs r dm mn ot pk ver p0 p1) om cc (h i) i a → Ref (SM v n vs r dm mn ot pk ver p0 p1) om cc (h2 i) i a) → Ref (SM v n vs r dm mn ot pk ver p0 p1) om cc (h2 i) i b →
          (∃ b' f' g' h', pl_X1_goes_17 fu (nI i) p0 p1 u K fl (mvs v (upd f (om i) (vlOf b)) (upd g i (nI (o + 1))) h2) = some (1, mvs v f' g' h') ∧ GoesT v n vs r dm mn ot pk ver om L nd p0 p1 i cc g h o b' f' g' h') ∨
          ∃ y f' g' h', pl_X1_goes_17 fu (nI i) p0 p1 u K fl (mvs v (upd f (om i) (vlOf b)) (upd g i (nI (o + 1))) h2) = K (mvs v f' g' h') ∧ GoesF v n vs r dm mn ot pk ver om p0 p1 i cc g h y f' g' h' := by
        intro hh hne2 hmono hnew
        have hstep := ih (o + 1) (upd f (om i) (vlOf b)) (upd g i (nI (o + 1))) hh b (by omega) (by omega) hvb2 pk_us (fun a ha hav hlt => by
          rcases Nat.lt_or_ge (rkM (vs (om i)) (L (om i)) (flg nd i) a) o with w | w
          · exact hmono a (href a ha hav w)
          · have : a = b := rk_one _ hV _ hL hLv (flg nd i) (flg_lt nd i) a ha hav b hb hbv (by omega)
            rw [this]
            exact hnew)
        rcases hstep with ⟨b', f', g', h', e2, t1, t2, t3, t4, t5, t6, t7, t8, t9, t10⟩ | ⟨y, f', g', h', e2, t3, t4, t5⟩
        · refine Or.inl ⟨b', f', g', h', e2, t1, t2, t3, fun j hj => ?_, t5, t6, t7, t8, t9, by omega⟩
          obtain ⟨a1, a2⟩ := t4 j hj
          rw [a1, a2, pk_un hj, hne2 j hj]
          exact ⟨rfl, rfl⟩
        · refine Or.inr ⟨y, f', g', h', e2, t3, fun j hj => ?_, t5⟩
          obtain ⟨a1, a2⟩ := t4 j hj
          rw [a1, a2, pk_un hj, hne2 j hj]
          exact ⟨rfl, rfl⟩
      have hB2 : MB (mvs v (upd f (om i) (vlOf b)) (upd g i (nI (o + 1))) h) n vs r dm mn ot pk := hB
      have hver2 : ∀ k, k < r → m_version (mvs v (upd f (om i) (vlOf b)) (upd g i (nI (o + 1))) h) k = nI (ver k) ∧ ver k < 6 := hver
      have hc2 : VB (m_value (mvs v (upd f (om i) (vlOf b)) (upd g i (nI (o + 1))) h)) (cu cc (om i) b) := hvb2
      obtain ⟨S, eS, hS⟩ := broken_ok hfu hB2 hc2 hver2
      have tail : (p0 = nI (om i) → vlOf b = p1) → ∀ T : Option (Int32 × MS), T = (if S = 0 then some ((1 : Int32), mvs v (upd f (om i) (vlOf b)) (upd g i (nI (o + 1))) h) else pl_X1_goes_17 fu (nI i) p0 p1 u K fl (mvs v (upd f (om i) (vlOf b)) (upd g i (nI (o + 1))) (upd h i (h i ||| S)))) →
          (∃ b' f' g' h', T = some (1, mvs v f' g' h') ∧ GoesT v n vs r dm mn ot pk ver om L nd p0 p1 i cc g h o b' f' g' h') ∨
          ∃ y f' g' h', T = K (mvs v f' g' h') ∧ GoesF v n vs r dm mn ot pk ver om p0 p1 i cc g h y f' g' h' := by
        intro hfix T hT
        rcases hS with ⟨s1, s2, s3⟩ | ⟨s1, s2⟩
        · rw [if_pos s1] at hT
          refine Or.inl ⟨b, _, _, _, hT, hb, hbv, hvb2, fun j hj => ⟨pk_un hj, rfl⟩, by rw [pk_us, hbo], fun a ha hav hlt => href a ha hav (by omega), s2, s3, hfix, by omega⟩
        · rw [if_neg s1] at hT
          rw [hT]
          refine next (upd h i (h i ||| S)) (fun j hj => pk_un hj) (fun a ha => ?_) ?_
          · rw [pk_us]; exact ref_or ha
          · rw [pk_us]; exact ref_or' (ref_of_S hR0 hi hopen s2)
      by_cases c1 : nI (om i) = p0
      · rw [if_pos c1]
        by_cases c2 : vlOf b = p1
        · rw [if_pos c2, ob_s eS]
          exact tail (fun _ => c2) _ rfl
        · rw [if_neg c2]
          refine next h (fun _ _ => rfl) (fun _ ha => ha) (fun c hc hcb => ?_)
          have h5 := hc.2.2.2.2.2 (om i) homn c1.symm
          rw [hcb] at h5
          exact absurd h5 c2
      · rw [if_neg c1, ob_s eS]
        exact tail (fun h5 => absurd h5.symm c1) _ rfl
theorem goes_ok (hfu : 200 ≤ fu) (hR : SR v n vs r dm mn ot pk ver om L nd) {i : Nat} (hi : i < n) {cc : Nat → Nat} (hopen : ∀ j, i < j → j < n → cc (om j) = 7) {o : Nat} {f g h : Nat → Int32}
    (ho : o ≤ vs (om i) + 1) (hvb : VB f cc) (hgi : g i = nI o) (href : ∀ a, a < 7 → vld (vs (om i)) a → rkM (vs (om i)) (L (om i)) (flg nd i) a < o → Ref (SM v n vs r dm mn ot pk ver p0 p1) om cc (h i) i a) :
    (∃ b f' g' h', pf_X1_goes fu (nI i) p0 p1 (mvs v f g h) = some (1, mvs v f' g' h') ∧ GoesT v n vs r dm mn ot pk ver om L nd p0 p1 i cc g h o b f' g' h') ∨
    ∃ y f' g' h', pf_X1_goes fu (nI i) p0 p1 (mvs v f g h) = some (0, mvs v f' g' h') ∧ GoesF v n vs r dm mn ot pk ver om p0 p1 i cc g h y f' g' h' := by
  obtain ⟨hat, homn⟩ := hR.2.2.1 i hi
  obtain ⟨hi8, hp8, hoe, hV, -⟩ := id hat
  unfold pf_X1_goes
  simp only [mvs_value, mvs_order, mvs_sv, nI_clamp (show i < 2 ^ 31 by omega), hoe, og_t (inb_nI hi8 (by decide)), og_t (inb_nI hp8 (by decide)), nI_clamp (show om i < 2 ^ 31 by omega)]
  exact goes_loop hfu hR hi (u := mvs v f g h) rfl hopen (fun u_17 => (some ((0 : Int32), u_17))) fu o _ g h 7 ho (by omega) (VB_open (om i) hvb) hgi href
end GO
