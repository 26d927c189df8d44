/-! NEW OBJECTS ON BOTH SIDES. -/
theorem initX_loop {fu : Nat} {w : XS} (K : Int32 → XS → Option XS) : ∀ (m i : Nat) (f : Nat → Int32), i ≤ 8 → 8 < i + m → (∀ j, j < i → f j = nI j) →
    ∃ x f', pl_X0_init_37 fu K m (nI i) (xs_order w f) = K x (xs_order w f') ∧ ∀ j, j < 8 → f' j = nI j := by
  intro m
  induction m with
  | zero => intro i f h1 h2; exact absurd h2 (by omega)
  | succ m ih =>
    intro i f h1 h2 h3
    rw [pl_X0_init_37]
    rcases Nat.lt_or_ge i 8 with q | q
    · rw [if_neg (show ¬ (8 : Int32) ≤ nI i from nI_ge q (by decide)), og_t (inb_nI q (by decide)), nI_clamp (by omega), nI_1, xso_order, xso_xso]
      refine ih (i + 1) _ (by omega) (by omega) (fun j hj => ?_)
      rcases Nat.lt_or_ge j i with z | z
      · rw [pk_un (by omega)]; exact h3 j z
      · rw [show j = i by omega, pk_us]
    · rw [if_pos (show (8 : Int32) ≤ nI i from nI_le q (by omega))]
      exact ⟨_, f, rfl, fun j hj => h3 j (by omega)⟩
theorem initM_loop {fu : Nat} {w : MS} (K : Int32 → MS → Option MS) : ∀ (m i : Nat) (f g : Nat → Int32), i ≤ 8 → 8 < i + m → (∀ j, j < i → f j = (-1 : Int32) ∧ g j = (-1 : Int32)) →
    ∃ x f' g', pl_X1_init_145 fu K m (nI i) (ms_chosen (ms_locks w f) g) = K x (ms_chosen (ms_locks w f') g') ∧ ∀ j, j < 8 → f' j = (-1 : Int32) ∧ g' j = (-1 : Int32) := by
  intro m
  induction m with
  | zero => intro i f g h1 h2; exact absurd h2 (by omega)
  | succ m ih =>
    intro i f g h1 h2 h3
    rw [pl_X1_init_145]
    rcases Nat.lt_or_ge i 8 with q | q
    · rw [if_neg (show ¬ (8 : Int32) ≤ nI i from nI_ge q (by decide)), og_t (inb_nI q (by decide)), og_t (inb_nI q (by decide)), nI_clamp (by omega), nI_1]
      rw [show m_locks (ms_chosen (ms_locks w f) g) = f from rfl, show m_chosen (ms_chosen (ms_locks w f) g) = g from rfl, show ms_chosen (ms_locks (ms_chosen (ms_locks w f) g) (upd f i (-1 : Int32))) (upd g i (-1 : Int32)) = ms_chosen (ms_locks w (upd f i (-1 : Int32))) (upd g i (-1 : Int32)) from rfl]
      refine ih (i + 1) _ _ (by omega) (by omega) (fun j hj => ?_)
      rcases Nat.lt_or_ge j i with z | z
      · rw [pk_un (by omega), pk_un (by omega)]; exact h3 j z
      · rw [show j = i by omega, pk_us, pk_us]; exact ⟨rfl, rfl⟩
    · rw [if_pos (show (8 : Int32) ≤ nI i from nI_le q (by omega))]
      exact ⟨_, f, g, rfl, fun j hj => h3 j (by omega)⟩
theorem pl0 : ∀ p, p < 8 → ∀ b, b < 8 → gb (4629771061636907072 : Int64) p b = decide (b = 6) := by decide +kernel
theorem init_rel {fu : Nat} (hfu : 400000000 ≤ fu) : ∃ u v, pf_X0_init fu xI0 = some u ∧ pf_X1_init fu mI0 = some v ∧ Rel u v := by
  obtain ⟨x, f, e1, hf⟩ := initX_loop (fu := fu) (w := xs_places xI0 (4629771061636907072 : Int64)) (fun x1_37 u_37 => (some u_37)) fu 0 (fun _ => 0) (by decide) (by omega) (fun j hj => by omega)
  obtain ⟨y, f2, g2, e2, hf2⟩ := initM_loop (fu := fu) (w := mI0) (fun x1_145 u_145 => (some u_145)) fu 0 (fun _ => 0) (fun _ => 0) (by decide) (by omega) (fun j hj => by omega)
  rw [nI_0] at e1 e2
  refine ⟨_, _, e1, e2, 0, fun _ => 0, 0, 0, fun _ => 0, fun _ => 0, fun _ => 0, fun _ => 0, fun i => i, fun _ => 6, 0, ?_, Or.inl ⟨rfl, rfl⟩, fun p hp => ⟨6, by decide, (hf2 p hp).2, fun b' hb' => ?_⟩, 0, fun _ => 0, by decide, nI_0.symm, fun i hi => by omega, fun i j h1 h2 => by omega, fun d hd => ?_⟩
  · have hod : OrdOK f (fun i => i) := ⟨fun i hi => ⟨hf i hi, hi⟩, fun i j _ _ h => h, fun p hp => ⟨p, hp, rfl⟩⟩
    refine ⟨⟨⟨nI_0.symm, by decide, fun p hp => ⟨nI_0.symm, Nat.zero_le _⟩, nI_0.symm, by decide, nI_0.symm, by decide, fun k hk => ⟨nI_0.symm, Nat.zero_le _⟩, fun j hj => ⟨nI_0.symm, show 0 < 8 by decide⟩, fun k hk => ⟨nI_0.symm, show 0 < 8 by decide⟩, fun d hd => ⟨Or.inl rfl, Or.inl rfl⟩⟩, fun k hk => by omega, ⟨f, hod⟩, ⟨fun i j _ h _ => h, fun i _ _ => rfl, Nat.le_refl 0⟩, fun j hj => by omega, ⟨fun _ => true, fun k hk => ⟨fun _ => rfl, fun _ => rfl⟩, rfl⟩, fun d hd => by omega, fun k hk => by omega, fun d hd => by omega, fun p hp => by omega⟩, ⟨nI_0.symm, nI_0.symm, nI_0.symm, nI_0.symm, hod⟩, fun p hp b hb => ?_, fun k hk => by omega, fun d hd => by omega, fun d hd => ?_, ⟨fun p hp b hb => ?_, fun p p1 p2 => ⟨rfl, (hf2 p p2).1⟩⟩, fun k hk => by omega, fun d hd => by omega⟩
    · show gb (4629771061636907072 : Int64) p b = _
      rw [pl0 p hp b hb]
      simp
    · show b32 0 d = decide ((0 : Int32) = 1)
      rw [b32_0]; decide
    · show gb 0 p b = _
      rw [gb_0]; simp
  · show gb 0 p b' = _
    rw [gb_0]
    have : ¬ b' = 6 := by omega
    simp [this]
  · show b32 0 d = true ↔ _
    rw [b32_0]
    constructor
    · intro h; cases h
    · rintro ⟨i, hi, -⟩; omega
