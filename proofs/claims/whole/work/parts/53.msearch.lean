/-! THE REFERENCE'S SEARCH: back-jumping finds the first right choice, or there is none. -/
def tsum (gN : Nat → Nat) : Nat → Nat
  | 0 => 0
  | m + 1 => tsum gN m + (8 - gN m) * 9 ^ (8 - m)
theorem tsum_congr {a b : Nat → Nat} : ∀ m, (∀ j, j < m → a j = b j) → tsum a m = tsum b m := by
  intro m
  induction m with
  | zero => intro _; rfl
  | succ m ih =>
    intro h
    rw [tsum, tsum, ih (fun j hj => h j (by omega)), h m (by omega)]
theorem tsum_mono (a : Nat → Nat) : ∀ m k, m ≤ k → tsum a m ≤ tsum a k := by
  intro m k h
  induction k with
  | zero => rw [show m = 0 by omega]; exact Nat.le_refl _
  | succ k ih =>
    rcases Nat.lt_or_ge m (k + 1) with w | w
    · rw [tsum]
      have := ih (by omega)
      omega
    · rw [show m = k + 1 by omega]; exact Nat.le_refl _
theorem tsum_lt (a : Nat → Nat) {m k : Nat} (h : m < k) (hk : k ≤ 8) (ha : ∀ j, j < k → a j < 8) : tsum a m < tsum a k := by
  have h1 := tsum_mono a m (k - 1) (by omega)
  rw [show k = (k - 1) + 1 by omega, tsum]
  have h2 := ha (k - 1) (by omega)
  have h3 : 0 < 9 ^ (8 - (k - 1)) := Nat.pow_pos (by decide)
  have h4 : 0 < (8 - a (k - 1)) * 9 ^ (8 - (k - 1)) := Nat.mul_pos (by omega) h3
  omega
theorem tsum_big (a : Nat → Nat) : ∀ m, m ≤ 8 → tsum a m + 9 ^ (9 - m) ≤ 9 ^ 9 := by
  intro m
  induction m with
  | zero => intro _; rw [tsum]; exact Nat.le_of_eq (Nat.zero_add _)
  | succ m ih =>
    intro h
    have h1 := ih (by omega)
    rw [tsum]
    have h2 : 9 ^ (9 - m) = 9 * 9 ^ (8 - m) := by rw [show 9 - m = (8 - m) + 1 by omega, Nat.pow_succ, Nat.mul_comm]
    have h3 : (8 - a m) * 9 ^ (8 - m) ≤ 8 * 9 ^ (8 - m) := Nat.mul_le_mul_right _ (by omega)
    rw [show 9 - (m + 1) = 8 - m by omega]
    omega
/-- a step that goes on: option i has grown, and the next level begins anew -/
theorem tsum_push {a b : Nat → Nat} {i : Nat} (hi : i < 8) (hj : ∀ j, j < i → b j = a j) (hlt : a i < b i) (hb : b i < 8) : tsum b (i + 1) < tsum a (i + 1) ∧ (i + 1 < 8 → b (i + 1) = 0 → tsum b (i + 2) < tsum a (i + 1)) := by
  have h1 : 9 ^ (8 - i) = 9 * 9 ^ (7 - i) := by rw [show 8 - i = (7 - i) + 1 by omega, Nat.pow_succ, Nat.mul_comm]
  have h0 : 0 < 9 ^ (7 - i) := Nat.pow_pos (by decide)
  have h2 : (8 - b i) * 9 ^ (8 - i) + 9 ^ (8 - i) ≤ (8 - a i) * 9 ^ (8 - i) := by
    have : (8 - b i + 1) * 9 ^ (8 - i) ≤ (8 - a i) * 9 ^ (8 - i) := Nat.mul_le_mul_right _ (by omega)
    rw [Nat.add_mul, Nat.one_mul] at this
    exact this
  refine ⟨?_, fun h8 hz => ?_⟩
  · rw [tsum, tsum, tsum_congr i hj]
    omega
  · rw [tsum, tsum, tsum, tsum_congr i hj, hz, show 8 - (i + 1) = 7 - i by omega]
    omega
theorem shr_bit0 (s : Int32) {b : Nat} (hb : b < 8) : ((s >>> (nI b &&& 31)) &&& (1 : Int32) = 0 ↔ b32 s b = false) := by
  have h : ((nI b &&& 31).toBitVec.smod 32).toNat = b := by
    revert b
    decide
  have hbit : b32 (s >>> (nI b &&& 31)) 0 = b32 s b := by
    simp only [b32]
    rw [Int32.toBitVec_shiftRight, BitVec.sshiftRight_eq', h, BitVec.getLsbD_sshiftRight]
    have : b < 32 := by omega
    simp [this]
  have hone : ∀ i, i < 32 → b32 1 i = decide (i = 0) := by decide
  constructor
  · intro h1
    have h2 := congrArg (fun z => b32 z 0) h1
    simp only [b32_and, hbit, b32_0] at h2
    rw [hone 0 (by decide)] at h2
    simpa using h2
  · intro h1
    apply b32_ext
    intro i hi
    rw [b32_and, hone i hi, b32_0]
    by_cases h0 : i = 0
    · subst h0
      rw [hbit, h1]
      rfl
    · simp [h0]
section SE
variable {fu : Nat} {v : MS} {n : Nat} {vs : Nat → Nat} {r dm : Nat} {mn ot pk ver om L : Nat → Nat} {nd : Nat} {p0 p1 : Int32}
/-- level k - 1 as the machine has it -/
theorem lv_neg : nI 0 + (-1 : Int32) < 0 := by decide
theorem lv_suc (k : Nat) : nI (k + 1) + (-1 : Int32) = nI k := pk_m1 k
/-- back over the levels that aren't to blame -/
theorem down_loop (hR : SR v n vs r dm mn ot pk ver om L nd) {x42 : Int32} {q8 : Int32 × MS} {s0 : Int32} (hs0 : ((m_blames0 q8.2) x42.toNatClampNeg) &&& (((1 : Int32) <<< (((m_order q8.2) x42.toNatClampNeg) &&& 31)) ^^^ (-1 : Int32)) = s0) (K : Int32 → MS → Option (Int32 × MS)) {g h : Nat → Int32} :
    ∀ (fl k : Nat) (f : Nat → Int32) (cc : Nat → Nat), k ≤ n → k < fl → VB f cc →
      ∃ k' f' cc', k' ≤ k ∧ pl_X1_search_127 fu x42 q8 K fl (nI k + (-1 : Int32)) (mvs v f g h) = K (nI k' + (-1 : Int32)) (mvs v f' g h) ∧ VB f' cc' ∧ (k' = 0 ∨ b32 s0 (om (k' - 1)) = true) ∧
        (∀ j, k' ≤ j → j < k → b32 s0 (om j) = false ∧ cc' (om j) = 7) ∧ ∀ q, (∀ j, k' ≤ j → j < k → om j ≠ q) → cc' q = cc q := by
  obtain ⟨hB, hver, hrk, hinj, hsur, hrow, hdem⟩ := hR
  have hn8 := hB.2.1
  intro fl
  induction fl with
  | zero => intro k f cc h1 h2; exact absurd h2 (by omega)
  | succ fl ih =>
    intro k f cc h1 h2 hvb
    rw [pl_X1_search_127]
    cases k with
    | zero =>
      rw [if_pos lv_neg]
      exact ⟨0, f, cc, Nat.le_refl _, rfl, hvb, Or.inl rfl, fun j j1 j2 => by omega, fun _ _ => rfl⟩
    | succ k =>
      obtain ⟨hat, homn⟩ := hrk k (by omega)
      obtain ⟨hi8, hp8, hoe, -⟩ := id hat
      rw [lv_suc, if_neg (nI_pos (by omega)), hs0]
      simp only [mvs_order, mvs_value, mvs_sv, nI_clamp (show k < 2 ^ 31 by omega), hoe, og_t (inb_nI hi8 (by decide)), og_t (inb_nI hp8 (by decide)), nI_clamp (show om k < 2 ^ 31 by omega)]
      cases hb : b32 s0 (om k) with
      | true =>
        rw [if_neg (fun h => by have := (shr_bit0 s0 hp8).mp h; rw [hb] at this; cases this)]
        refine ⟨k + 1, f, cc, Nat.le_refl _, by rw [lv_suc], hvb, Or.inr (by simpa using hb), fun j j1 j2 => by omega, fun _ _ => rfl⟩
      | false =>
        rw [if_pos ((shr_bit0 s0 hp8).mpr hb)]
        obtain ⟨k', f', cc', a1, a2, a3, a4, a5, a6⟩ := ih k (upd f (om k) (-2 : Int32)) (cu cc (om k) 7) (by omega) (by omega) (VB_open (om k) hvb)
        refine ⟨k', f', cc', by omega, a2, a3, a4, fun j j1 j2 => ?_, fun q hq => ?_⟩
        · rcases Nat.lt_or_ge j k with w | w
          · exact a5 j j1 w
          · have hjk : j = k := by omega
            subst hjk
            refine ⟨hb, ?_⟩
            rw [a6 (om j) (fun j' b1 b2 h3 => by have := hinj j' j (by omega) (by omega) h3; omega), cu_s]
        · rw [a6 q (fun j b1 b2 => hq j b1 (by omega)), cu_n _ _ (fun h3 => hq k (by omega) (by omega) h3.symm)]
/-- what holds at the head of the search's loop, at level i -/
def SI (v : MS) (n : Nat) (vs : Nat → Nat) (r dm : Nat) (mn ot pk ver om L : Nat → Nat) (nd : Nat) (p0 p1 : Int32) (i : Nat) (f g h : Nat → Int32) (cc gN : Nat → Nat) : Prop :=
  VB f cc ∧ (∀ j, j < i → cc (om j) < 7 ∧ vld (vs (om j)) (cc (om j)) ∧ g j = nI (gN j) ∧ gN j = rkM (vs (om j)) (L (om j)) (flg nd j) (cc (om j)) + 1 ∧ (p0 = nI (om j) → vlOf (cc (om j)) = p1) ∧
      ∀ a, a < 7 → vld (vs (om j)) a → rkM (vs (om j)) (L (om j)) (flg nd j) a < rkM (vs (om j)) (L (om j)) (flg nd j) (cc (om j)) → Ref (SM v n vs r dm mn ot pk ver p0 p1) om cc (h j) j a) ∧
  (∀ j, i < j → j < n → cc (om j) = 7) ∧
  (i < n → g i = nI (gN i) ∧ gN i ≤ vs (om i) + 1 ∧ ∀ a, a < 7 → vld (vs (om i)) a → rkM (vs (om i)) (L (om i)) (flg nd i) a < gN i → Ref (SM v n vs r dm mn ot pk ver p0 p1) om cc (h i) i a) ∧
  (i = n → 0 < n → (∀ k, k < r → brR v mn ot pk ver cc k = false) ∧ ∀ d, d < dm → brD v mn ot cc d = false)
theorem Ref_cc {S : (Nat → Nat) → Prop} {cc cc' : Nat → Nat} {bl : Int32} {i b : Nat} (h : Ref S om cc bl i b) (he : ∀ j, j < i → cc' (om j) = cc (om j)) : Ref S om cc' bl i b := fun c hc hb => by
  obtain ⟨j, h1, h2, h3⟩ := h c hc hb
  exact ⟨j, h1, h2, by rw [he j h1]; exact h3⟩
theorem search_loop (hfu : 200 ≤ fu) (hR : SR v n vs r dm mn ot pk ver om L nd) (K : Int32 → MS → Option (Int32 × MS)) :
    ∀ (fl i : Nat) (f g h : Nat → Int32) (cc gN : Nat → Nat), i ≤ n → SI v n vs r dm mn ot pk ver om L nd p0 p1 i f g h cc gN → tsum gN (if i < n then i + 1 else n) < fl →
      (∃ f' g' h' cc' gN', pl_X1_search_42 fu p0 p1 K fl (nI i) (mvs v f g h) = K (nI n) (mvs v f' g' h') ∧ SI v n vs r dm mn ot pk ver om L nd p0 p1 n f' g' h' cc' gN') ∨
      ∃ f' g' h', pl_X1_search_42 fu p0 p1 K fl (nI i) (mvs v f g h) = K (-1 : Int32) (mvs v f' g' h') ∧ ∀ c, ¬ SM v n vs r dm mn ot pk ver p0 p1 c := by
  have hR0 := hR
  obtain ⟨hB, hver, hrk, hinj, hsur, hrow, hdem⟩ := hR
  have hn8 := hB.2.1
  have hpe := hB.1
  intro fl
  induction fl with
  | zero => intro i f g h cc gN h1 hI h2; exact absurd h2 (by omega)
  | succ fl ih =>
    intro i f g h cc gN h1 hI h2
    obtain ⟨hvb, hlow, hop, hcur, hend⟩ := id hI
    rw [pl_X1_search_42, if_neg (nI_pos (by omega))]
    simp only [mvs_packages, hpe]
    rcases Nat.lt_or_ge i n with q | q
    · rw [if_neg (nI_ge q (by omega))]
      rw [if_pos q] at h2
      obtain ⟨hat, homn⟩ := hrk i q
      obtain ⟨hi8, hp8, hoe, hV, hvs, hL, hLv, -⟩ := id hat
      obtain ⟨hg, hg2, href⟩ := hcur q
      have hgl : ∀ j, j < i + 1 → gN j < 8 := fun j hj => by
        rcases Nat.lt_or_ge j i with w | w
        · obtain ⟨c1, c2, -, c4, -⟩ := hlow j w
          obtain ⟨hatj, -⟩ := hrk j (by omega)
          obtain ⟨-, -, -, hVj, -, hLj, hLvj, -⟩ := hatj
          have := (rk_ok _ hVj _ hLj hLvj (flg nd j) (flg_lt nd j) _ c1 c2).2
          omega
        · rw [show j = i by omega]; omega
      rcases goes_ok hfu hR0 q (fun j j1 j2 => hop j (by omega) j2) hg2 hvb hg href with ⟨b, f', g', h', e1, G⟩ | ⟨y, f', g', h', e1, G⟩
      · obtain ⟨b1, b2, b3, b4, b5, b6, b7, b8, b9, b10⟩ := G
        rw [ob_s e1]
        simp only [if_neg (show ¬ (1 : Int32) = 0 by decide), mvs_packages, hpe, nI_1, mvs_option, mvs_blames0, mvs_so, mvs_sb]
        have hrb := (rk_ok _ hV _ hL hLv (flg nd i) (flg_lt nd i) b b1 b2).2
        have hcj : ∀ j, j < n → j ≠ i → cu cc (om i) b (om j) = cc (om j) := fun j hj hne => cu_n _ _ (fun h3 => hne (hinj j i hj q h3))
        have hlow2 : ∀ (g2 h2 : Nat → Int32) (gN2 : Nat → Nat), (∀ j, j < i + 1 → g2 j = g' j ∧ h2 j = h' j) → (∀ j, j < i → gN2 j = gN j) → gN2 i = rkM (vs (om i)) (L (om i)) (flg nd i) b + 1 → ∀ j, j < i + 1 → cu cc (om i) b (om j) < 7 ∧ vld (vs (om j)) (cu cc (om i) b (om j)) ∧ g2 j = nI (gN2 j) ∧ gN2 j = rkM (vs (om j)) (L (om j)) (flg nd j) (cu cc (om i) b (om j)) + 1 ∧ (p0 = nI (om j) → vlOf (cu cc (om i) b (om j)) = p1) ∧
            ∀ a, a < 7 → vld (vs (om j)) a → rkM (vs (om j)) (L (om j)) (flg nd j) a < rkM (vs (om j)) (L (om j)) (flg nd j) (cu cc (om i) b (om j)) → Ref (SM v n vs r dm mn ot pk ver p0 p1) om (cu cc (om i) b) (h2 j) j a := by
          intro g2 h2 gN2 hgh hN1 hN2 j hj
          obtain ⟨e2, e3⟩ := hgh j hj
          rcases Nat.lt_or_ge j i with w | w
          · obtain ⟨c1, c2, c3, c4, c5, c6⟩ := hlow j w
            obtain ⟨d1, d2⟩ := b4 j (by omega)
            rw [hcj j (by omega) (by omega), e2, e3, d1, d2, hN1 j w]
            exact ⟨c1, c2, c3, c4, c5, fun a a1 a2 a3 => Ref_cc (c6 a a1 a2 a3) (fun j' hj' => hcj j' (by omega) (by omega))⟩
          · have hji : j = i := by omega
            subst hji
            rw [cu_s, e2, e3, b5, hN2]
            exact ⟨b1, b2, rfl, rfl, b9, fun a a1 a2 a3 => Ref_cc (b6 a a1 a2 a3) (fun j' hj' => hcj j' (by omega) (by omega))⟩
        rcases Nat.lt_or_ge (i + 1) n with w | w
        · rw [if_neg (nI_ge w (by omega)), og_t (inb_nI (show i + 1 < 8 by omega) (by decide)), og_t (inb_nI (show i + 1 < 8 by omega) (by decide)), nI_clamp (by omega)]
          have hT := (tsum_push (a := gN) (b := cu (cu gN (i + 1) 0) i (rkM (vs (om i)) (L (om i)) (flg nd i) b + 1)) (i := i) (by omega) (fun j hj => by rw [cu_n _ _ (by omega), cu_n _ _ (by omega)]) (by rw [cu_s]; omega) (by rw [cu_s]; omega)).2 (by omega) (by rw [cu_n _ _ (by omega), cu_s])
          refine ih (i + 1) f' (upd g' (i + 1) 0) (upd h' (i + 1) 0) (cu cc (om i) b) (cu (cu gN (i + 1) 0) i (rkM (vs (om i)) (L (om i)) (flg nd i) b + 1)) (by omega) ⟨b3, hlow2 _ _ _ (fun j hj => ⟨pk_un (by omega), pk_un (by omega)⟩) (fun j hj => by rw [cu_n _ _ (by omega), cu_n _ _ (by omega)]) (cu_s _ _ _), fun j j1 j2 => by rw [hcj j j2 (by omega)]; exact hop j (by omega) j2, fun _ => ⟨?_, ?_, fun a _ _ h3 => ?_⟩, fun h3 => by omega⟩ ?_
          · rw [pk_us, cu_n _ _ (by omega), cu_s, nI_0]
          · rw [cu_n _ _ (by omega), cu_s]
            omega
          · rw [cu_n _ _ (by omega), cu_s] at h3
            omega
          · rw [if_pos w, show i + 1 + 1 = i + 2 by omega]
            omega
        · rw [if_pos (nI_le w (by omega))]
          have hin : i + 1 = n := by omega
          have hT := (tsum_push (a := gN) (b := cu gN i (rkM (vs (om i)) (L (om i)) (flg nd i) b + 1)) (i := i) (by omega) (fun j hj => by rw [cu_n _ _ (by omega)]) (by rw [cu_s]; omega) (by rw [cu_s]; omega)).1
          refine ih (i + 1) f' g' h' (cu cc (om i) b) (cu gN i (rkM (vs (om i)) (L (om i)) (flg nd i) b + 1)) (by omega) ⟨b3, hlow2 _ _ _ (fun j hj => ⟨rfl, rfl⟩) (fun j hj => by rw [cu_n _ _ (by omega)]) (cu_s _ _ _), fun j j1 j2 => by omega, fun h3 => by omega, fun _ _ => ⟨b7, b8⟩⟩ ?_
          rw [if_neg (by omega), ← hin]
          omega
      · obtain ⟨b3, b4, b6⟩ := G
        rw [ob_s e1]
        simp only [if_true, mvs_order, mvs_blames0, mvs_value, mvs_sv, mvs_sb, nI_clamp (show i < 2 ^ 31 by omega), hoe, og_t (inb_nI hi8 (by decide)), og_t (inb_nI hp8 (by decide)), nI_clamp (show om i < 2 ^ 31 by omega)]
        obtain ⟨k', f2, cc2, a1, a2, a3, a4, a5, a6⟩ := down_loop (fu := fu) hR0 (x42 := nI i) (q8 := ((0 : Int32), mvs v f' g' h')) (s0 := h' i &&& (((1 : Int32) <<< (nI (om i) &&& 31)) ^^^ (-1 : Int32))) (by
            simp only [mvs_order, mvs_blames0, nI_clamp (show i < 2 ^ 31 by omega), hoe]) (fun x3_127 u_127 => (if x3_127 < 0 then (pl_X1_search_42 fu p0 p1 K fl x3_127 u_127) else (og (inb x3_127 8) (og (inb x3_127 8) (pl_X1_search_42 fu p0 p1 K fl x3_127 (ms_blames0 u_127 (upd (m_blames0 u_127) x3_127.toNatClampNeg (((m_blames0 u_127) x3_127.toNatClampNeg) ||| (h' i &&& (((1 : Int32) <<< (nI (om i) &&& 31)) ^^^ (-1 : Int32)))))))))))
          (g := g') (h := h') fu i (upd f' (om i) (-2 : Int32)) (cu (cu cc (om i) y) (om i) 7) (by omega) (by omega) (VB_open (om i) b3)
        rw [a2]
        generalize hs0 : h' i &&& (((1 : Int32) <<< (nI (om i) &&& 31)) ^^^ (-1 : Int32)) = s0 at a4 a5 ⊢
        rw [cu_cu] at a6
        have hs0b : ∀ j, j < i → b32 (h' i) (om j) = true → b32 s0 (om j) = true := fun j hj hb => by
          have hj8 := (hrk j (by omega)).1.2.1
          rw [← hs0, b32_and, hb, b32_nm _ (by omega), b32_one (by omega)]
          have : ¬ om i = om j := fun h3 => by have := hinj i j q (by omega) h3; omega
          simp [this]
        have wit : ∀ c, SM v n vs r dm mn ot pk ver p0 p1 c → ∃ j, j < k' ∧ b32 s0 (om j) = true ∧ c (om j) ≠ cc (om j) := fun c hc => by
          obtain ⟨j, j1, j2, j3⟩ := b6 (c (om i)) (hc.1 _ hp8) (hc.2.1 _ homn) c hc rfl
          have j4 := hs0b j j1 j2
          rcases Nat.lt_or_ge j k' with w | w
          · exact ⟨j, w, j4, j3⟩
          · rw [(a5 j w j1).1] at j4
            cases j4
        have hfl : 0 < fl := by
          have := tsum_lt gN (m := i) (k := i + 1) (by omega) (by omega) hgl
          omega
        cases k' with
        | zero =>
          rw [if_pos lv_neg]
          obtain ⟨fl1, rfl⟩ : ∃ k, fl = k + 1 := ⟨fl - 1, by omega⟩
          rw [pl_X1_search_42, if_pos lv_neg, show nI 0 + (-1 : Int32) = (-1 : Int32) by decide]
          refine Or.inr ⟨f2, g', h', rfl, fun c hc => ?_⟩
          obtain ⟨j, j1, -⟩ := wit c hc
          omega
        | succ k =>
          rw [lv_suc, if_neg (nI_pos (by omega)), og_t (inb_nI (show k < 8 by omega) (by decide)), og_t (inb_nI (show k < 8 by omega) (by decide)), nI_clamp (by omega), mvs_blames0, mvs_sb]
          have hck : ∀ j, j < k + 1 → cc2 (om j) = cc (om j) := fun j hj => by
            rw [a6 (om j) (fun j' c1 c2 h3 => by have := hinj j' j (by omega) (by omega) h3; omega), cu_n _ _ (fun h3 => by have := hinj j i (by omega) q h3; omega)]
          obtain ⟨c1, c2, c3, c4, c5, c6⟩ := hlow k (by omega)
          obtain ⟨hatk, homk⟩ := hrk k (by omega)
          obtain ⟨-, hpk8, -, hVk, -, hLk, hLvk, -⟩ := id hatk
          have hrk2 := (rk_ok _ hVk _ hLk hLvk (flg nd k) (flg_lt nd k) _ c1 c2).2
          refine ih k f2 g' (upd h' k (h' k ||| s0)) cc2 gN (by omega) ⟨a3, fun j hj => ?_, fun j j1 j2 => ?_, fun _ => ⟨?_, by omega, fun a d1 d2 d3 => ?_⟩, fun h3 => by omega⟩ ?_
          · obtain ⟨x1, x2, x3, x4, x5, x6⟩ := hlow j (by omega)
            obtain ⟨y1, y2⟩ := b4 j (by omega)
            rw [hck j (by omega), y1, pk_un (by omega), y2]
            exact ⟨x1, x2, x3, x4, x5, fun a z1 z2 z3 => Ref_cc (x6 a z1 z2 z3) (fun j' hj' => hck j' (by omega))⟩
          · rcases Nat.lt_or_ge j i with w | w
            · exact (a5 j (by omega) w).2
            · rw [a6 (om j) (fun j' e1 e2 h3 => by have := hinj j' j (by omega) (by omega) h3; omega)]
              rcases Nat.lt_or_ge i j with w2 | w2
              · rw [cu_n _ _ (fun h3 => by have := hinj j i (by omega) q h3; omega)]
                exact hop j w2 j2
              · rw [show j = i by omega, cu_s]
          · rw [(b4 k (by omega)).1]
            exact c3
          · rw [pk_us]
            rcases Nat.lt_or_ge (rkM (vs (om k)) (L (om k)) (flg nd k) a) (rkM (vs (om k)) (L (om k)) (flg nd k) (cc (om k))) with w | w
            · have h9 := c6 a d1 d2 w
              rw [← (b4 k (by omega)).2] at h9
              exact ref_or (Ref_cc h9 (fun j' hj' => hck j' (by omega)))
            · have hae : a = cc (om k) := rk_one _ hVk _ hLk hLvk (flg nd k) (flg_lt nd k) a d1 d2 _ c1 c2 (by omega)
              refine ref_or' (fun c hc hca => ?_)
              obtain ⟨j, j1, j2, j3⟩ := wit c hc
              refine ⟨j, ?_, j2, by rw [hck j (by omega)]; exact j3⟩
              rcases Nat.lt_or_ge j k with w2 | w2
              · exact w2
              · rw [show j = k by omega] at j3
                exact absurd (by rw [hca, hae]) j3
          · rw [if_pos (by omega)]
            have := tsum_lt gN (m := k + 1) (k := i + 1) (by omega) (by omega) hgl
            omega
    · rw [if_pos (nI_le q (by omega))]
      have hin : i = n := by omega
      subst hin
      exact Or.inl ⟨f, g, h, cc, gN, rfl, hI⟩
end SE
