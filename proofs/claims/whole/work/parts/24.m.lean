set_option maxHeartbeats 4000000 in
set_option maxRecDepth 100000 in
theorem c_X1_none (l : Launch) (dC : Nat → ClassId) (dI : Nat → Nat → Nat) (hs : Nat → Nat) (ka : Nat → ClassId) (sz : Nat) (fu : Nat) (u : MS) (u' : MS) (h : pf_X1_none fu u = some u') : Met l yX1_none wzX1_none ({ frames := 0, cells := 0, slots := 0, locals := 0 }) (va_Pc [.ref (hs 0)] (fun U => U.heap.size = sz ∧ va_P (dC, dI) vwCl (cM hs ka u) U.heap ∧ va_K (dC, dI) vwCl (tM ka) U ∧ va_D (fun _ => True) (cM hs ka u))) (va_Qv (fun (u1 : MS) => u1 = u') (aM dC dI (va_A (cM hs ka u) sz) hs ka) (va_A (cM hs ka u) sz)) 0 0 (va_A (cM hs ka u) sz) := by
  refine Met.ofW (cc := cX1_none) (maxL := 2) (ret := none) (by decide) rfl ?_
  intro p e s m args below meth c s₁ B hml hv
  obtain ⟨rfl, hsz, hP, hK, hD0⟩ := hv
  have hx := B.exec
  have hb := B.bytes
  have hr := B.returns
  have hts := atoms_spec (ws := wzX1_none) B.pre
  have hown : s.vm.findClass RX1 = some m.cls := findClass_of_methodNamed B.named
  have hlocks := B.notSynchronized
  subst hsz
  have hD := hD0.self (sz := s.heap.size)
  generalize hAe : va_A (cM hs ka u) s.heap.size = A at hD ⊢
  have hA : ∀ q : Nat, s.heap.size ≤ q → A q := fun q h => by rw [← hAe]; exact Or.inr h
  have hS : va_S A s.heap s.heap [] := va_S.rf
  have hP : va_P (dC, dI) vwCl (cM hs ka u) s.heap := hP
  clear hD0 hAe
  have hin0 : ∀ w ∈ u_ws RX1 TX1 23, w ∈ wzX1_none := fun w h => List.mem_cons_of_mem _ (inTX1 w h)
  have hf_53 := hts (.fieldLink RX1 53 "ConflictSolveModel" "away" "[Z") (List.mem_cons_of_mem _ tz_257)
  have hl := lv_entry ([.ref (hs 0)]) (n := 2) (Nat.le_of_ble_eq_true rfl)
  rw [lg_entry_eq]
  generalize (lg_sl ([.ref (hs 0)]) ++ List.replicate (2 - (lg_sl ([.ref (hs 0)])).length) Slot.unset).toArray = ls at hl ⊢
  have hl : lv_has ls 2 [(0, .ref (hs 0))] := hl
  rw [pf_X1_none] at h
  refine lv_iconst (v := (0 : Int32)) hx hb dX1_none_0 (by decide) ?_
  refine lv_istore_n (lv' := [(1, .int (0 : Int32)), (0, .ref (hs 0))]) hx hb dX1_none_1 rfl hl (by decide) rfl (fun ls hl => ?_)
  have lp_2 : ∀ K_2 : Int32 → MS → Option (MS), (∀ (x1_2 : Int32) (u_2 : MS) (H : Heap) (locs : List Loc) (ls : Array Slot), K_2 x1_2 u_2 = some u' → va_P (dC, dI) vwCl (cM hs ka u_2) H → va_D A (cM hs ka u_2) → va_S A s.heap H locs → lv_has ls 2 [(1, .int x1_2), (0, .ref (hs 0))] → W p l e (headSpec wzX1_none ({ frames := 0, cells := 0, slots := 0, locals := 0 })).room s m ([.ref (hs 0)] : List Value).toArray below meth c H locs 0 0 (MQ below (va_Qv (fun (u1 : MS) => u1 = u') (aM dC dI A hs ka) A) ([.ref (hs 0)] : List Value).toArray s 0 0 A) (F0 m 21 ls [])) → ∀ n_2 : Nat, ∀ (x1_2 : Int32) (u_2 : MS) (H : Heap) (locs : List Loc) (ls : Array Slot), pl_X1_none_2 fu K_2 n_2 x1_2 u_2 = some u' → va_P (dC, dI) vwCl (cM hs ka u_2) H → va_D A (cM hs ka u_2) → va_S A s.heap H locs → lv_has ls 2 [(1, .int x1_2), (0, .ref (hs 0))] → W p l e (headSpec wzX1_none ({ frames := 0, cells := 0, slots := 0, locals := 0 })).room s m ([.ref (hs 0)] : List Value).toArray below meth c H locs 0 0 (MQ below (va_Qv (fun (u1 : MS) => u1 = u') (aM dC dI A hs ka) A) ([.ref (hs 0)] : List Value).toArray s 0 0 A) (F0 m 2 ls []) := by
    intro K_2 hk_2 n_2
    induction n_2 with
    | zero =>
      intro x1_2 u_2 H locs ls h
      exact absurd (show (none : Option (MS)) = some u' from h) (fun q => by cases q)
    | succ n_2 ih_2 =>
      intro x1_2 u_2 H locs ls h hP hD hS hl
      rw [pl_X1_none_2] at h
      refine lv_iload_n hx hb dX1_none_2 rfl (lv_at hl 0 rfl) ?_
      refine lv_bipush (v := (12 : Int32)) hx hb dX1_none_3 (by decide) ?_
      refine lv_icmp_ge (tgt := 21) hx hb dX1_none_5 (by decide) (fun c_1 => ?_) (fun c_1 => ?_)
      · rw [if_pos c_1] at h
        exact hk_2 x1_2 u_2 _ _ _ h hP hD hS (lv_sub hl [0, 1] rfl)
      · rw [if_neg c_1] at h
        refine lv_aload_n hx hb dX1_none_8 rfl (lv_at hl 1 rfl) ?_
        refine va_get (D := (dC, dI)) (ci := 1) (v := .ref (hs 15)) (C := RX1) (T := TX1) (N := 23) hx hb hts hin0 hown hK hP 0 rfl rfl 19 (by decide) hf_53 (fun _ h9 => h9) rfl dX1_none_9 ?_
        refine lv_iload_n hx hb dX1_none_12 rfl (lv_at hl 0 rfl) ?_
        refine lv_iconst (v := (0 : Int32)) hx hb dX1_none_13 (by decide) ?_
        obtain ⟨g_2, h⟩ := og_some h
        refine va_zast (f := (m_away u_2)) hx hb hK hP hD hS 15 14 rfl rfl (inb_in g_2) dX1_none_14 (fun H locs hP hD hS => ?_)
        have hP : va_P (dC, dI) vwCl (cM hs ka (ms_away u_2 (upd (m_away u_2) x1_2.toNatClampNeg (vp_nar .boolean (0 : Int32))))) H := hP
        have hD : va_D A (cM hs ka (ms_away u_2 (upd (m_away u_2) x1_2.toNatClampNeg (vp_nar .boolean (0 : Int32))))) := hD
        refine lv_iinc (v := (x1_2 + (1 : Int32))) (lv' := [(1, .int (x1_2 + (1 : Int32))), (0, .ref (hs 0))]) hx hb dX1_none_15 hl (k := 0) rfl (congrArg (fun z : Int32 => x1_2 + z) (by decide : Int32.ofInt (1) = (1 : Int32))) (by decide) rfl (fun ls hl => ?_)
        refine lv_goto (tgt := 2) hx hb dX1_none_18 (by decide) ?_
        exact ih_2 (x1_2 + (1 : Int32)) (ms_away u_2 (upd (m_away u_2) x1_2.toNatClampNeg (vp_nar .boolean (0 : Int32)))) _ _ _ h hP hD hS (lv_sub hl [0, 1] rfl)
  refine lp_2 _ (fun x1_2 u_2 H locs ls h hP hD hS hl => ?_) fu (0 : Int32) u _ _ _ h hP hD hS hl
  have e9 := Option.some.inj h
  exact W.vret hx hb hr (fun t ht hW => ⟨⟨u_2, rfl, e9, by rw [ht]; exact hP, va_K.moved hW.alike hK, hD⟩, hS.F ht⟩) hS.2.2 dX1_none_21
set_option maxHeartbeats 4000000 in
set_option maxRecDepth 100000 in
theorem c_X1_solve (l : Launch) (dC : Nat → ClassId) (dI : Nat → Nat → Nat) (hs : Nat → Nat) (ka : Nat → ClassId) (sz : Nat) (fu : Nat) (u : MS) (r : Int32) (u' : MS) (h : pf_X1_solve fu u = some (r, u')) : Met l yX1_solve wzX1_solve ({ frames := 4, cells := 0, slots := 0, locals := 97 }) (va_Pc [.ref (hs 0)] (fun U => U.heap.size = sz ∧ va_P (dC, dI) vwCl (cM hs ka u) U.heap ∧ va_K (dC, dI) vwCl (tM ka) U ∧ va_D (fun _ => True) (cM hs ka u))) (va_Qi (fun (r1 : Int32) (u1 : MS) => r1 = r ∧ u1 = u') (aM dC dI (va_A (cM hs ka u) sz) hs ka) (va_A (cM hs ka u) sz)) 0 0 (va_A (cM hs ka u) sz) := by
  refine Met.ofW (cc := cX1_solve) (maxL := 3) (ret := (some .int)) (by decide) rfl ?_
  intro p e s m args below meth c s₁ B hml hv
  obtain ⟨rfl, hsz, hP, hK, hD0⟩ := hv
  have hx := B.exec
  have hb := B.bytes
  have hr := B.returns
  have hts := atoms_spec (ws := wzX1_solve) B.pre
  have hown : s.vm.findClass RX1 = some m.cls := findClass_of_methodNamed B.named
  have hlocks := B.notSynchronized
  subst hsz
  have hD := hD0.self (sz := s.heap.size)
  generalize hAe : va_A (cM hs ka u) s.heap.size = A at hD ⊢
  have hA : ∀ q : Nat, s.heap.size ≤ q → A q := fun q h => by rw [← hAe]; exact Or.inr h
  have hS : va_S A s.heap s.heap [] := va_S.rf
  have hP : va_P (dC, dI) vwCl (cM hs ka u) s.heap := hP
  clear hD0 hAe
  have hin0 : ∀ w ∈ u_ws RX1 TX1 23, w ∈ wzX1_solve := fun w h => List.mem_cons_of_mem _ (inTX1 w h)
  have hf_16 := hts (.fieldLink RX1 16 "ConflictSolveModel" "chosen" "[I") (List.mem_cons_of_mem _ tz_241)
  have hf_19 := hts (.fieldLink RX1 19 "ConflictSolveModel" "value" "[I") (List.mem_cons_of_mem _ tz_242)
  have hf_63 := hts (.fieldLink RX1 63 "ConflictSolveModel" "code" "I") (List.mem_cons_of_mem _ tz_238)
  have hf_66 := hts (.fieldLink RX1 66 "ConflictSolveModel" "packages" "I") (List.mem_cons_of_mem _ tz_246)
  have hl := lv_entry ([.ref (hs 0)]) (n := 3) (Nat.le_of_ble_eq_true rfl)
  rw [lg_entry_eq]
  generalize (lg_sl ([.ref (hs 0)]) ++ List.replicate (3 - (lg_sl ([.ref (hs 0)])).length) Slot.unset).toArray = ls at hl ⊢
  have hl : lv_has ls 3 [(0, .ref (hs 0))] := hl
  rw [pf_X1_solve] at h
  refine lv_aload_n hx hb dX1_solve_0 rfl (lv_at hl 0 rfl) ?_
  refine lv_iconst (v := (0 : Int32)) hx hb dX1_solve_1 (by decide) ?_
  refine va_put (D := (dC, dI)) (ci := 1) (v := .int (0 : Int32)) (ty := .int) (C := RX1) (T := TX1) (N := 23) hx hb hts hin0 tyX1 tyX1_ok nmX1 hown hK hP hD hS 0 rfl rfl 0 (by decide) hf_63 (fun _ h9 => h9) rfl (by decide +kernel) rfl rfl (Nat.le_of_ble_eq_true rfl) dX1_solve_2 (fun H locs hP hD hS => ?_)
  have hP : va_P (dC, dI) vwCl (cM hs ka (ms_code u (0 : Int32))) H := hP
  have hD : va_D A (cM hs ka (ms_code u (0 : Int32))) := hD
  refine lv_aload_n hx hb dX1_solve_5 rfl (lv_at hl 0 rfl) ?_
  obtain ⟨q_1, hc_1, h⟩ := ob_some h
  have hPc : va_P (dC, dI) vwCl (cM hs ka (ms_code u (0 : Int32))) H := hP.sub [0, 1, 2, 3, 4, 5, 6, 7, 8, 9, 10, 11, 12, 13, 14, 15, 16] rfl
  have hDc : va_D A (cM hs ka (ms_code u (0 : Int32))) := hD.sub [0, 1, 2, 3, 4, 5, 6, 7, 8, 9, 10, 11, 12, 13, 14, 15, 16] (by decide) rfl
  have hKc := hK.sub (tys' := (tM ka)) [0, 1, 2, 3, 4, 5, 6, 7, 8, 9, 10, 11, 12, 13, 14, 15] rfl
  have hFc := va_free (wc := (cM hs ka (ms_code u (0 : Int32)))) hD hS hA [0, 1, 2, 3, 4, 5, 6, 7, 8, 9, 10, 11, 12, 13, 14, 15, 16] rfl
  refine va_callv (va_runV (As := []) (rest := []) ⟨hx, hb, hml, hown, hts⟩ (c_X1_none l dC dI hs ka H.size fu (ms_code u (0 : Int32)) q_1 hc_1) (cwV 0 hts gX1_solve_X1_none rfl rfl rfl (by decide +kernel) ⟨Nat.le_of_ble_eq_true rfl, Nat.le_of_ble_eq_true rfl⟩) ⟨fun a U g mk q => by obtain ⟨q0, q1, qP, qK, qD⟩ := q; exact ⟨q0, q1, qP, va_K.moved (u := U) (U := U.calling g mk a) (Vm.Alike.refl U.vm) qK, qD⟩, va_recv hKc hPc (ci := 1) (q0 := 0) rfl rfl, fun U hU hW => ⟨rfl, by rw [hU], by rw [hU]; exact hPc, va_K.moved hW.alike hKc, hDc.weaken (fun _ _ _ _ => trivial)⟩⟩ rfl rfl hl.1 rfl (lv_room (Nat.le_of_ble_eq_true rfl)) dX1_solve_6 ⟨Nat.zero_le _, Nat.zero_le _⟩) hS (fun q _ h => hFc q h) hFc (fun u_c1 t H1 locs ht hvm hw hB hz1 hk1 hS => ?_)
  subst u_c1
  obtain ⟨hP1, hK1, hD1⟩ := hB
  rw [ht] at hP1
  obtain ⟨hP, hD⟩ := va_join (wc := (cM hs ka (ms_code u (0 : Int32)))) (wr := []) (w1 := (cM hs ka q_1)) hP hD [0, 1, 2, 3, 4, 5, 6, 7, 8, 9, 10, 11, 12, 13, 14, 15, 16] [] rfl rfl (by decide) (by decide) hk1 hFc hP1 hD1
  clear hPc hDc hKc hFc hz1 hk1 hP1 hK1 hD1
  generalize H1 = H at hP hS ⊢
  have hP : va_P (dC, dI) vwCl (cM hs ka q_1) H := hP
  have hD : va_D A (cM hs ka q_1) := hD
  refine lv_aload_n hx hb dX1_solve_9 rfl (lv_at hl 0 rfl) ?_
  refine lv_iconst (v := (-1 : Int32)) hx hb dX1_solve_10 (by decide) ?_
  refine lv_iconst (v := (-1 : Int32)) hx hb dX1_solve_11 (by decide) ?_
  obtain ⟨q_2, hc_2, h⟩ := ob_some h
  have hPc : va_P (dC, dI) vwCl (cM hs ka q_1) H := hP.sub [0, 1, 2, 3, 4, 5, 6, 7, 8, 9, 10, 11, 12, 13, 14, 15, 16] rfl
  have hDc : va_D A (cM hs ka q_1) := hD.sub [0, 1, 2, 3, 4, 5, 6, 7, 8, 9, 10, 11, 12, 13, 14, 15, 16] (by decide) rfl
  have hKc := hK.sub (tys' := (tM ka)) [0, 1, 2, 3, 4, 5, 6, 7, 8, 9, 10, 11, 12, 13, 14, 15] rfl
  have hFc := va_free (wc := (cM hs ka q_1)) hD hS hA [0, 1, 2, 3, 4, 5, 6, 7, 8, 9, 10, 11, 12, 13, 14, 15, 16] rfl
  refine va_calli (va_runV (As := [.int (-1 : Int32), .int (-1 : Int32)]) (rest := []) ⟨hx, hb, hml, hown, hts⟩ (c_X1_search l dC dI hs ka H.size fu q_1 (-1 : Int32) (-1 : Int32) q_2.1 q_2.2 hc_2) (cwV 2 hts gX1_solve_X1_search rfl rfl rfl (by decide +kernel) ⟨Nat.le_of_ble_eq_true rfl, Nat.le_of_ble_eq_true rfl⟩) ⟨fun a U g mk q => by obtain ⟨q0, q1, qP, qK, qD⟩ := q; exact ⟨q0, q1, qP, va_K.moved (u := U) (U := U.calling g mk a) (Vm.Alike.refl U.vm) qK, qD⟩, va_recv hKc hPc (ci := 1) (q0 := 0) rfl rfl, fun U hU hW => ⟨rfl, by rw [hU], by rw [hU]; exact hPc, va_K.moved hW.alike hKc, hDc.weaken (fun _ _ _ _ => trivial)⟩⟩ rfl rfl hl.1 rfl (lv_room (Nat.le_of_ble_eq_true rfl)) dX1_solve_12 ⟨Nat.zero_le _, Nat.zero_le _⟩) hS (fun q _ h => hFc q h) hFc (fun r_2 u_c2 t H1 locs ht hvm hw hB hz1 hk1 hS => ?_)
  obtain ⟨hw1, hw2⟩ := hw
  subst r_2
  subst u_c2
  obtain ⟨hP1, hK1, hD1⟩ := hB
  rw [ht] at hP1
  obtain ⟨hP, hD⟩ := va_join (wc := (cM hs ka q_1)) (wr := []) (w1 := (cM hs ka q_2.2)) hP hD [0, 1, 2, 3, 4, 5, 6, 7, 8, 9, 10, 11, 12, 13, 14, 15, 16] [] rfl rfl (by decide) (by decide) hk1 hFc hP1 hD1
  clear hPc hDc hKc hFc hz1 hk1 hP1 hK1 hD1
  generalize H1 = H at hP hS ⊢
  have hP : va_P (dC, dI) vwCl (cM hs ka q_2.2) H := hP
  have hD : va_D A (cM hs ka q_2.2) := hD
  refine lv_istore_n (lv' := [(1, .int q_2.1), (0, .ref (hs 0))]) hx hb dX1_solve_15 rfl hl (by decide) rfl (fun ls hl => ?_)
  refine lv_iconst (v := (0 : Int32)) hx hb dX1_solve_16 (by decide) ?_
  refine lv_istore_n (lv' := [(2, .int (0 : Int32)), (1, .int q_2.1), (0, .ref (hs 0))]) hx hb dX1_solve_17 rfl hl (by decide) rfl (fun ls hl => ?_)
  have lp_18 : ∀ K_18 : Int32 → MS → Option (Int32 × MS), (∀ (x2_18 : Int32) (u_18 : MS) (H : Heap) (locs : List Loc) (ls : Array Slot), K_18 x2_18 u_18 = some (r, u') → va_P (dC, dI) vwCl (cM hs ka u_18) H → va_D A (cM hs ka u_18) → va_S A s.heap H locs → lv_has ls 3 [(2, .int x2_18), (1, .int q_2.1), (0, .ref (hs 0))] → W p l e (headSpec wzX1_solve ({ frames := 4, cells := 0, slots := 0, locals := 97 })).room s m ([.ref (hs 0)] : List Value).toArray below meth c H locs 0 0 (MQ below (va_Qi (fun (r1 : Int32) (u1 : MS) => r1 = r ∧ u1 = u') (aM dC dI A hs ka) A) ([.ref (hs 0)] : List Value).toArray s 0 0 A) (F0 m 58 ls [])) → ∀ n_18 : Nat, ∀ (x2_18 : Int32) (u_18 : MS) (H : Heap) (locs : List Loc) (ls : Array Slot), pl_X1_solve_18 fu q_2 K_18 n_18 x2_18 u_18 = some (r, u') → va_P (dC, dI) vwCl (cM hs ka u_18) H → va_D A (cM hs ka u_18) → va_S A s.heap H locs → lv_has ls 3 [(2, .int x2_18), (1, .int q_2.1), (0, .ref (hs 0))] → W p l e (headSpec wzX1_solve ({ frames := 4, cells := 0, slots := 0, locals := 97 })).room s m ([.ref (hs 0)] : List Value).toArray below meth c H locs 0 0 (MQ below (va_Qi (fun (r1 : Int32) (u1 : MS) => r1 = r ∧ u1 = u') (aM dC dI A hs ka) A) ([.ref (hs 0)] : List Value).toArray s 0 0 A) (F0 m 18 ls []) := by
    intro K_18 hk_18 n_18
    induction n_18 with
    | zero =>
      intro x2_18 u_18 H locs ls h
      exact absurd (show (none : Option (Int32 × MS)) = some (r, u') from h) (fun q => by cases q)
    | succ n_18 ih_18 =>
      intro x2_18 u_18 H locs ls h hP hD hS hl
      rw [pl_X1_solve_18] at h
      refine lv_iload_n hx hb dX1_solve_18 rfl (lv_at hl 0 rfl) ?_
      refine lv_bipush (v := (8 : Int32)) hx hb dX1_solve_19 (by decide) ?_
      refine lv_icmp_ge (tgt := 58) hx hb dX1_solve_21 (by decide) (fun c_3 => ?_) (fun c_3 => ?_)
      · rw [if_pos c_3] at h
        exact hk_18 x2_18 u_18 _ _ _ h hP hD hS (lv_sub hl [0, 1, 2] rfl)
      · rw [if_neg c_3] at h
        refine lv_aload_n hx hb dX1_solve_24 rfl (lv_at hl 2 rfl) ?_
        refine va_get (D := (dC, dI)) (ci := 1) (v := .ref (hs 3)) (C := RX1) (T := TX1) (N := 23) hx hb hts hin0 hown hK hP 0 rfl rfl 3 (by decide) hf_16 (fun _ h9 => h9) rfl dX1_solve_25 ?_
        refine lv_iload_n hx hb dX1_solve_28 rfl (lv_at hl 0 rfl) ?_
        refine lv_iload_n hx hb dX1_solve_29 rfl (lv_at hl 1 rfl) ?_
        refine lv_if_eq (tgt := 50) hx hb dX1_solve_30 (by decide) (fun c_4 => ?_) (fun c_4 => ?_)
        · rw [if_pos c_4] at h
          refine lv_iconst (v := (-1 : Int32)) hx hb dX1_solve_50 (by decide) ?_
          obtain ⟨g_5, h⟩ := og_some h
          refine va_iast (f := (m_chosen u_18)) hx hb hK hP hD hS 3 2 rfl rfl (inb_in g_5) dX1_solve_51 (fun H locs hP hD hS => ?_)
          have hP : va_P (dC, dI) vwCl (cM hs ka (ms_chosen u_18 (upd (m_chosen u_18) x2_18.toNatClampNeg (-1 : Int32)))) H := hP
          have hD : va_D A (cM hs ka (ms_chosen u_18 (upd (m_chosen u_18) x2_18.toNatClampNeg (-1 : Int32)))) := hD
          refine lv_iinc (v := (x2_18 + (1 : Int32))) (lv' := [(2, .int (x2_18 + (1 : Int32))), (1, .int q_2.1), (0, .ref (hs 0))]) hx hb dX1_solve_52 hl (k := 0) rfl (congrArg (fun z : Int32 => x2_18 + z) (by decide : Int32.ofInt (1) = (1 : Int32))) (by decide) rfl (fun ls hl => ?_)
          refine lv_goto (tgt := 18) hx hb dX1_solve_55 (by decide) ?_
          exact ih_18 (x2_18 + (1 : Int32)) (ms_chosen u_18 (upd (m_chosen u_18) x2_18.toNatClampNeg (-1 : Int32))) _ _ _ h hP hD hS (lv_sub hl [0, 1, 2] rfl)
        · rw [if_neg c_4] at h
          refine lv_iload_n hx hb dX1_solve_33 rfl (lv_at hl 0 rfl) ?_
          refine lv_aload_n hx hb dX1_solve_34 rfl (lv_at hl 2 rfl) ?_
          refine va_get (D := (dC, dI)) (ci := 1) (v := .int (m_packages u_18)) (C := RX1) (T := TX1) (N := 23) hx hb hts hin0 hown hK hP 0 rfl rfl 8 (by decide) hf_66 (fun _ h9 => h9) rfl dX1_solve_35 ?_
          refine lv_icmp_ge (tgt := 50) hx hb dX1_solve_38 (by decide) (fun c_6 => ?_) (fun c_6 => ?_)
          · rw [if_pos c_6] at h
            refine lv_iconst (v := (-1 : Int32)) hx hb dX1_solve_50 (by decide) ?_
            obtain ⟨g_7, h⟩ := og_some h
            refine va_iast (f := (m_chosen u_18)) hx hb hK hP hD hS 3 2 rfl rfl (inb_in g_7) dX1_solve_51 (fun H locs hP hD hS => ?_)
            have hP : va_P (dC, dI) vwCl (cM hs ka (ms_chosen u_18 (upd (m_chosen u_18) x2_18.toNatClampNeg (-1 : Int32)))) H := hP
            have hD : va_D A (cM hs ka (ms_chosen u_18 (upd (m_chosen u_18) x2_18.toNatClampNeg (-1 : Int32)))) := hD
            refine lv_iinc (v := (x2_18 + (1 : Int32))) (lv' := [(2, .int (x2_18 + (1 : Int32))), (1, .int q_2.1), (0, .ref (hs 0))]) hx hb dX1_solve_52 hl (k := 0) rfl (congrArg (fun z : Int32 => x2_18 + z) (by decide : Int32.ofInt (1) = (1 : Int32))) (by decide) rfl (fun ls hl => ?_)
            refine lv_goto (tgt := 18) hx hb dX1_solve_55 (by decide) ?_
            exact ih_18 (x2_18 + (1 : Int32)) (ms_chosen u_18 (upd (m_chosen u_18) x2_18.toNatClampNeg (-1 : Int32))) _ _ _ h hP hD hS (lv_sub hl [0, 1, 2] rfl)
          · rw [if_neg c_6] at h
            refine lv_aload_n hx hb dX1_solve_41 rfl (lv_at hl 2 rfl) ?_
            refine va_get (D := (dC, dI)) (ci := 1) (v := .ref (hs 4)) (C := RX1) (T := TX1) (N := 23) hx hb hts hin0 hown hK hP 0 rfl rfl 4 (by decide) hf_19 (fun _ h9 => h9) rfl dX1_solve_42 ?_
            refine lv_iload_n hx hb dX1_solve_45 rfl (lv_at hl 0 rfl) ?_
            obtain ⟨g_8, h⟩ := og_some h
            refine va_iald (f := (m_value u_18)) hx hb hK hP 4 3 rfl rfl (inb_in g_8) dX1_solve_46 ?_
            refine lv_goto (tgt := 51) hx hb dX1_solve_47 (by decide) ?_
            obtain ⟨g_9, h⟩ := og_some h
            refine va_iast (f := (m_chosen u_18)) hx hb hK hP hD hS 3 2 rfl rfl (inb_in g_9) dX1_solve_51 (fun H locs hP hD hS => ?_)
            have hP : va_P (dC, dI) vwCl (cM hs ka (ms_chosen u_18 (upd (m_chosen u_18) x2_18.toNatClampNeg ((m_value u_18) x2_18.toNatClampNeg)))) H := hP
            have hD : va_D A (cM hs ka (ms_chosen u_18 (upd (m_chosen u_18) x2_18.toNatClampNeg ((m_value u_18) x2_18.toNatClampNeg)))) := hD
            refine lv_iinc (v := (x2_18 + (1 : Int32))) (lv' := [(2, .int (x2_18 + (1 : Int32))), (1, .int q_2.1), (0, .ref (hs 0))]) hx hb dX1_solve_52 hl (k := 0) rfl (congrArg (fun z : Int32 => x2_18 + z) (by decide : Int32.ofInt (1) = (1 : Int32))) (by decide) rfl (fun ls hl => ?_)
            refine lv_goto (tgt := 18) hx hb dX1_solve_55 (by decide) ?_
            exact ih_18 (x2_18 + (1 : Int32)) (ms_chosen u_18 (upd (m_chosen u_18) x2_18.toNatClampNeg ((m_value u_18) x2_18.toNatClampNeg))) _ _ _ h hP hD hS (lv_sub hl [0, 1, 2] rfl)
  refine lp_18 _ (fun x2_18 u_18 H locs ls h hP hD hS hl => ?_) fu (0 : Int32) q_2.2 _ _ _ h hP hD hS hl
  refine lv_iload_n hx hb dX1_solve_58 rfl (lv_at hl 1 rfl) ?_
  refine lv_if_eq (tgt := 66) hx hb dX1_solve_59 (by decide) (fun c_10 => ?_) (fun c_10 => ?_)
  · rw [if_pos c_10] at h
    refine lv_iconst (v := (0 : Int32)) hx hb dX1_solve_66 (by decide) ?_
    have e9 := Option.some.inj h
    exact W.iret (v := (0 : Int32)) hx hb hr (fun t ht hW => ⟨⟨(0 : Int32), u_18, rfl, ⟨congrArg Prod.fst e9, congrArg Prod.snd e9⟩, by rw [ht]; exact hP, va_K.moved hW.alike hK, hD⟩, hS.F ht⟩) hS.2.2 dX1_solve_67
  · rw [if_neg c_10] at h
    refine lv_iconst (v := (1 : Int32)) hx hb dX1_solve_62 (by decide) ?_
    refine lv_goto (tgt := 67) hx hb dX1_solve_63 (by decide) ?_
    have e9 := Option.some.inj h
    exact W.iret (v := (1 : Int32)) hx hb hr (fun t ht hW => ⟨⟨(1 : Int32), u_18, rfl, ⟨congrArg Prod.fst e9, congrArg Prod.snd e9⟩, by rw [ht]; exact hP, va_K.moved hW.alike hK, hD⟩, hS.F ht⟩) hS.2.2 dX1_solve_67
set_option maxHeartbeats 4000000 in
set_option maxRecDepth 100000 in
theorem c_X1_chosen (l : Launch) (dC : Nat → ClassId) (dI : Nat → Nat → Nat) (hs : Nat → Nat) (ka : Nat → ClassId) (sz : Nat) (fu : Nat) (u : MS) (p0 : Int32) (r : Int32) (u' : MS) (h : pf_X1_chosen fu p0 u = some (r, u')) : Met l yX1_chosen wzX1_chosen ({ frames := 1, cells := 0, slots := 0, locals := 21 }) (va_Pc [.ref (hs 0), .int p0] (fun U => U.heap.size = sz ∧ va_P (dC, dI) vwCl (cM hs ka u) U.heap ∧ va_K (dC, dI) vwCl (tM ka) U ∧ va_D (fun _ => True) (cM hs ka u))) (va_Qi (fun (r1 : Int32) (u1 : MS) => r1 = r ∧ u1 = u') (aM dC dI (va_A (cM hs ka u) sz) hs ka) (va_A (cM hs ka u) sz)) 0 0 (va_A (cM hs ka u) sz) := by
  refine Met.ofW (cc := cX1_chosen) (maxL := 2) (ret := (some .int)) (by decide) rfl ?_
  intro p e s m args below meth c s₁ B hml hv
  obtain ⟨rfl, hsz, hP, hK, hD0⟩ := hv
  have hx := B.exec
  have hb := B.bytes
  have hr := B.returns
  have hts := atoms_spec (ws := wzX1_chosen) B.pre
  have hown : s.vm.findClass RX1 = some m.cls := findClass_of_methodNamed B.named
  have hlocks := B.notSynchronized
  subst hsz
  have hD := hD0.self (sz := s.heap.size)
  generalize hAe : va_A (cM hs ka u) s.heap.size = A at hD ⊢
  have hA : ∀ q : Nat, s.heap.size ≤ q → A q := fun q h => by rw [← hAe]; exact Or.inr h
  have hS : va_S A s.heap s.heap [] := va_S.rf
  have hP : va_P (dC, dI) vwCl (cM hs ka u) s.heap := hP
  clear hD0 hAe
  have hin0 : ∀ w ∈ u_ws RX1 TX1 23, w ∈ wzX1_chosen := fun w h => List.mem_cons_of_mem _ (inTX1 w h)
  have hf_16 := hts (.fieldLink RX1 16 "ConflictSolveModel" "chosen" "[I") (List.mem_cons_of_mem _ tz_241)
  have hf_63 := hts (.fieldLink RX1 63 "ConflictSolveModel" "code" "I") (List.mem_cons_of_mem _ tz_238)
  have hl := lv_entry ([.ref (hs 0), .int p0]) (n := 2) (Nat.le_of_ble_eq_true rfl)
  rw [lg_entry_eq]
  generalize (lg_sl ([.ref (hs 0), .int p0]) ++ List.replicate (2 - (lg_sl ([.ref (hs 0), .int p0])).length) Slot.unset).toArray = ls at hl ⊢
  have hl : lv_has ls 2 [(0, .ref (hs 0)), (1, .int p0)] := hl
  rw [pf_X1_chosen] at h
  refine lv_aload_n hx hb dX1_chosen_0 rfl (lv_at hl 0 rfl) ?_
  refine lv_iconst (v := (0 : Int32)) hx hb dX1_chosen_1 (by decide) ?_
  refine va_put (D := (dC, dI)) (ci := 1) (v := .int (0 : Int32)) (ty := .int) (C := RX1) (T := TX1) (N := 23) hx hb hts hin0 tyX1 tyX1_ok nmX1 hown hK hP hD hS 0 rfl rfl 0 (by decide) hf_63 (fun _ h9 => h9) rfl (by decide +kernel) rfl rfl (Nat.le_of_ble_eq_true rfl) dX1_chosen_2 (fun H locs hP hD hS => ?_)
  have hP : va_P (dC, dI) vwCl (cM hs ka (ms_code u (0 : Int32))) H := hP
  have hD : va_D A (cM hs ka (ms_code u (0 : Int32))) := hD
  refine lv_aload_n hx hb dX1_chosen_5 rfl (lv_at hl 0 rfl) ?_
  refine lv_iload_n hx hb dX1_chosen_6 rfl (lv_at hl 1 rfl) ?_
  have hPc : va_P (dC, dI) vwCl (cM hs ka (ms_code u (0 : Int32))) H := hP.sub [0, 1, 2, 3, 4, 5, 6, 7, 8, 9, 10, 11, 12, 13, 14, 15, 16] rfl
  have hDc : va_D A (cM hs ka (ms_code u (0 : Int32))) := hD.sub [0, 1, 2, 3, 4, 5, 6, 7, 8, 9, 10, 11, 12, 13, 14, 15, 16] (by decide) rfl
  have hKc := hK.sub (tys' := (tM ka)) [0, 1, 2, 3, 4, 5, 6, 7, 8, 9, 10, 11, 12, 13, 14, 15] rfl
  have hFc := va_free (wc := (cM hs ka (ms_code u (0 : Int32)))) hD hS hA [0, 1, 2, 3, 4, 5, 6, 7, 8, 9, 10, 11, 12, 13, 14, 15, 16] rfl
  refine va_calli (va_runV (As := [.int p0]) (rest := []) ⟨hx, hb, hml, hown, hts⟩ (c_X1_isPackage l dC dI hs ka H.size (ms_code u (0 : Int32)) p0 _ rfl) (cwV 1 hts gX1_chosen_X1_isPackage rfl rfl rfl (by decide +kernel) ⟨Nat.le_of_ble_eq_true rfl, Nat.le_of_ble_eq_true rfl⟩) ⟨fun a U g mk q => by obtain ⟨q0, q1, qP, qK, qD⟩ := q; exact ⟨q0, q1, qP, va_K.moved (u := U) (U := U.calling g mk a) (Vm.Alike.refl U.vm) qK, qD⟩, va_recv hKc hPc (ci := 1) (q0 := 0) rfl rfl, fun U hU hW => ⟨rfl, by rw [hU], by rw [hU]; exact hPc, va_K.moved hW.alike hKc, hDc.weaken (fun _ _ _ _ => trivial)⟩⟩ rfl rfl hl.1 rfl (lv_room (Nat.le_of_ble_eq_true rfl)) dX1_chosen_7 ⟨Nat.zero_le _, Nat.zero_le _⟩) hS (fun q _ h => hFc q h) hFc (fun r_1 u_c1 t H1 locs ht hvm hw hB hz1 hk1 hS => ?_)
  obtain ⟨hw1, hw2⟩ := hw
  subst r_1
  subst u_c1
  obtain ⟨hP1, hK1, hD1⟩ := hB
  rw [ht] at hP1
  obtain ⟨hP, hD⟩ := va_join (wc := (cM hs ka (ms_code u (0 : Int32)))) (wr := []) (w1 := (cM hs ka (ms_code u (0 : Int32)))) hP hD [0, 1, 2, 3, 4, 5, 6, 7, 8, 9, 10, 11, 12, 13, 14, 15, 16] [] rfl rfl (by decide) (by decide) hk1 hFc hP1 hD1
  clear hPc hDc hKc hFc hz1 hk1 hP1 hK1 hD1
  generalize H1 = H at hP hS ⊢
  have hP : va_P (dC, dI) vwCl (cM hs ka (ms_code u (0 : Int32))) H := hP
  have hD : va_D A (cM hs ka (ms_code u (0 : Int32))) := hD
  refine lv_if_eq (tgt := 22) hx hb dX1_chosen_10 (by decide) (fun c_2 => ?_) (fun c_2 => ?_)
  · rw [if_pos c_2] at h
    refine lv_iconst (v := (-1 : Int32)) hx hb dX1_chosen_22 (by decide) ?_
    have e9 := Option.some.inj h
    exact W.iret (v := (-1 : Int32)) hx hb hr (fun t ht hW => ⟨⟨(-1 : Int32), (ms_code u (0 : Int32)), rfl, ⟨congrArg Prod.fst e9, congrArg Prod.snd e9⟩, by rw [ht]; exact hP, va_K.moved hW.alike hK, hD⟩, hS.F ht⟩) hS.2.2 dX1_chosen_23
  · rw [if_neg c_2] at h
    refine lv_aload_n hx hb dX1_chosen_13 rfl (lv_at hl 0 rfl) ?_
    refine va_get (D := (dC, dI)) (ci := 1) (v := .ref (hs 3)) (C := RX1) (T := TX1) (N := 23) hx hb hts hin0 hown hK hP 0 rfl rfl 3 (by decide) hf_16 (fun _ h9 => h9) rfl dX1_chosen_14 ?_
    refine lv_iload_n hx hb dX1_chosen_17 rfl (lv_at hl 1 rfl) ?_
    obtain ⟨g_3, h⟩ := og_some h
    refine va_iald (f := (m_chosen u)) hx hb hK hP 3 2 rfl rfl (inb_in g_3) dX1_chosen_18 ?_
    refine lv_goto (tgt := 23) hx hb dX1_chosen_19 (by decide) ?_
    have e9 := Option.some.inj h
    exact W.iret (v := ((m_chosen u) p0.toNatClampNeg)) hx hb hr (fun t ht hW => ⟨⟨((m_chosen u) p0.toNatClampNeg), (ms_code u (0 : Int32)), rfl, ⟨congrArg Prod.fst e9, congrArg Prod.snd e9⟩, by rw [ht]; exact hP, va_K.moved hW.alike hK, hD⟩, hS.F ht⟩) hS.2.2 dX1_chosen_23
set_option maxHeartbeats 4000000 in
set_option maxRecDepth 100000 in
theorem c_X1_blame (l : Launch) (dC : Nat → ClassId) (dI : Nat → Nat → Nat) (hs : Nat → Nat) (ka : Nat → ClassId) (sz : Nat) (fu : Nat) (u : MS) (r : Int32) (u' : MS) (h : pf_X1_blame fu u = some (r, u')) : Met l yX1_blame wzX1_blame ({ frames := 4, cells := 0, slots := 0, locals := 97 }) (va_Pc [.ref (hs 0)] (fun U => U.heap.size = sz ∧ va_P (dC, dI) vwCl (cM hs ka u) U.heap ∧ va_K (dC, dI) vwCl (tM ka) U ∧ va_D (fun _ => True) (cM hs ka u))) (va_Qi (fun (r1 : Int32) (u1 : MS) => r1 = r ∧ u1 = u') (aM dC dI (va_A (cM hs ka u) sz) hs ka) (va_A (cM hs ka u) sz)) 0 0 (va_A (cM hs ka u) sz) := by
  refine Met.ofW (cc := cX1_blame) (maxL := 2) (ret := (some .int)) (by decide) rfl ?_
  intro p e s m args below meth c s₁ B hml hv
  obtain ⟨rfl, hsz, hP, hK, hD0⟩ := hv
  have hx := B.exec
  have hb := B.bytes
  have hr := B.returns
  have hts := atoms_spec (ws := wzX1_blame) B.pre
  have hown : s.vm.findClass RX1 = some m.cls := findClass_of_methodNamed B.named
  have hlocks := B.notSynchronized
  subst hsz
  have hD := hD0.self (sz := s.heap.size)
  generalize hAe : va_A (cM hs ka u) s.heap.size = A at hD ⊢
  have hA : ∀ q : Nat, s.heap.size ≤ q → A q := fun q h => by rw [← hAe]; exact Or.inr h
  have hS : va_S A s.heap s.heap [] := va_S.rf
  have hP : va_P (dC, dI) vwCl (cM hs ka u) s.heap := hP
  clear hD0 hAe
  have hin0 : ∀ w ∈ u_ws RX1 TX1 23, w ∈ wzX1_blame := fun w h => List.mem_cons_of_mem _ (inTX1 w h)
  have hf_125 := hts (.fieldLink RX1 125 "ConflictSolveModel" "blames" "I") (List.mem_cons_of_mem _ tz_260)
  have hf_49 := hts (.fieldLink RX1 49 "ConflictSolveModel" "out" "[Z") (List.mem_cons_of_mem _ tz_256)
  have hf_53 := hts (.fieldLink RX1 53 "ConflictSolveModel" "away" "[Z") (List.mem_cons_of_mem _ tz_257)
  have hf_60 := hts (.fieldLink RX1 60 "ConflictSolveModel" "blamed" "[I") (List.mem_cons_of_mem _ tz_259)
  have hf_63 := hts (.fieldLink RX1 63 "ConflictSolveModel" "code" "I") (List.mem_cons_of_mem _ tz_238)
  have hf_84 := hts (.fieldLink RX1 84 "ConflictSolveModel" "demands" "I") (List.mem_cons_of_mem _ tz_248)
  have hl := lv_entry ([.ref (hs 0)]) (n := 2) (Nat.le_of_ble_eq_true rfl)
  rw [lg_entry_eq]
  generalize (lg_sl ([.ref (hs 0)]) ++ List.replicate (2 - (lg_sl ([.ref (hs 0)])).length) Slot.unset).toArray = ls at hl ⊢
  have hl : lv_has ls 2 [(0, .ref (hs 0))] := hl
  rw [pf_X1_blame] at h
  refine lv_aload_n hx hb dX1_blame_0 rfl (lv_at hl 0 rfl) ?_
  refine lv_iconst (v := (0 : Int32)) hx hb dX1_blame_1 (by decide) ?_
  refine va_put (D := (dC, dI)) (ci := 1) (v := .int (0 : Int32)) (ty := .int) (C := RX1) (T := TX1) (N := 23) hx hb hts hin0 tyX1 tyX1_ok nmX1 hown hK hP hD hS 0 rfl rfl 0 (by decide) hf_63 (fun _ h9 => h9) rfl (by decide +kernel) rfl rfl (Nat.le_of_ble_eq_true rfl) dX1_blame_2 (fun H locs hP hD hS => ?_)
  have hP : va_P (dC, dI) vwCl (cM hs ka (ms_code u (0 : Int32))) H := hP
  have hD : va_D A (cM hs ka (ms_code u (0 : Int32))) := hD
  refine lv_aload_n hx hb dX1_blame_5 rfl (lv_at hl 0 rfl) ?_
  refine lv_iconst (v := (0 : Int32)) hx hb dX1_blame_6 (by decide) ?_
  refine va_put (D := (dC, dI)) (ci := 1) (v := .int (0 : Int32)) (ty := .int) (C := RX1) (T := TX1) (N := 23) hx hb hts hin0 tyX1 tyX1_ok nmX1 hown hK hP hD hS 0 rfl rfl 22 (by decide) hf_125 (fun _ h9 => h9) rfl (by decide +kernel) rfl rfl (Nat.le_of_ble_eq_true rfl) dX1_blame_7 (fun H locs hP hD hS => ?_)
  have hP : va_P (dC, dI) vwCl (cM hs ka (ms_blames (ms_code u (0 : Int32)) (0 : Int32))) H := hP
  have hD : va_D A (cM hs ka (ms_blames (ms_code u (0 : Int32)) (0 : Int32))) := hD
  refine lv_aload_n hx hb dX1_blame_10 rfl (lv_at hl 0 rfl) ?_
  obtain ⟨q_1, hc_1, h⟩ := ob_some h
  have hPc : va_P (dC, dI) vwCl (cM hs ka (ms_blames (ms_code u (0 : Int32)) (0 : Int32))) H := hP.sub [0, 1, 2, 3, 4, 5, 6, 7, 8, 9, 10, 11, 12, 13, 14, 15, 16] rfl
  have hDc : va_D A (cM hs ka (ms_blames (ms_code u (0 : Int32)) (0 : Int32))) := hD.sub [0, 1, 2, 3, 4, 5, 6, 7, 8, 9, 10, 11, 12, 13, 14, 15, 16] (by decide) rfl
  have hKc := hK.sub (tys' := (tM ka)) [0, 1, 2, 3, 4, 5, 6, 7, 8, 9, 10, 11, 12, 13, 14, 15] rfl
  have hFc := va_free (wc := (cM hs ka (ms_blames (ms_code u (0 : Int32)) (0 : Int32)))) hD hS hA [0, 1, 2, 3, 4, 5, 6, 7, 8, 9, 10, 11, 12, 13, 14, 15, 16] rfl
  refine va_callv (va_runV (As := []) (rest := []) ⟨hx, hb, hml, hown, hts⟩ (c_X1_none l dC dI hs ka H.size fu (ms_blames (ms_code u (0 : Int32)) (0 : Int32)) q_1 hc_1) (cwV 0 hts gX1_blame_X1_none rfl rfl rfl (by decide +kernel) ⟨Nat.le_of_ble_eq_true rfl, Nat.le_of_ble_eq_true rfl⟩) ⟨fun a U g mk q => by obtain ⟨q0, q1, qP, qK, qD⟩ := q; exact ⟨q0, q1, qP, va_K.moved (u := U) (U := U.calling g mk a) (Vm.Alike.refl U.vm) qK, qD⟩, va_recv hKc hPc (ci := 1) (q0 := 0) rfl rfl, fun U hU hW => ⟨rfl, by rw [hU], by rw [hU]; exact hPc, va_K.moved hW.alike hKc, hDc.weaken (fun _ _ _ _ => trivial)⟩⟩ rfl rfl hl.1 rfl (lv_room (Nat.le_of_ble_eq_true rfl)) dX1_blame_11 ⟨Nat.zero_le _, Nat.zero_le _⟩) hS (fun q _ h => hFc q h) hFc (fun u_c1 t H1 locs ht hvm hw hB hz1 hk1 hS => ?_)
  subst u_c1
  obtain ⟨hP1, hK1, hD1⟩ := hB
  rw [ht] at hP1
  obtain ⟨hP, hD⟩ := va_join (wc := (cM hs ka (ms_blames (ms_code u (0 : Int32)) (0 : Int32)))) (wr := []) (w1 := (cM hs ka q_1)) hP hD [0, 1, 2, 3, 4, 5, 6, 7, 8, 9, 10, 11, 12, 13, 14, 15, 16] [] rfl rfl (by decide) (by decide) hk1 hFc hP1 hD1
  clear hPc hDc hKc hFc hz1 hk1 hP1 hK1 hD1
  generalize H1 = H at hP hS ⊢
  have hP : va_P (dC, dI) vwCl (cM hs ka q_1) H := hP
  have hD : va_D A (cM hs ka q_1) := hD
  refine lv_aload_n hx hb dX1_blame_14 rfl (lv_at hl 0 rfl) ?_
  refine lv_iconst (v := (-1 : Int32)) hx hb dX1_blame_15 (by decide) ?_
  refine lv_iconst (v := (-1 : Int32)) hx hb dX1_blame_16 (by decide) ?_
  obtain ⟨q_2, hc_2, h⟩ := ob_some h
  have hPc : va_P (dC, dI) vwCl (cM hs ka q_1) H := hP.sub [0, 1, 2, 3, 4, 5, 6, 7, 8, 9, 10, 11, 12, 13, 14, 15, 16] rfl
  have hDc : va_D A (cM hs ka q_1) := hD.sub [0, 1, 2, 3, 4, 5, 6, 7, 8, 9, 10, 11, 12, 13, 14, 15, 16] (by decide) rfl
  have hKc := hK.sub (tys' := (tM ka)) [0, 1, 2, 3, 4, 5, 6, 7, 8, 9, 10, 11, 12, 13, 14, 15] rfl
  have hFc := va_free (wc := (cM hs ka q_1)) hD hS hA [0, 1, 2, 3, 4, 5, 6, 7, 8, 9, 10, 11, 12, 13, 14, 15, 16] rfl
  refine va_calli (va_runV (As := [.int (-1 : Int32), .int (-1 : Int32)]) (rest := []) ⟨hx, hb, hml, hown, hts⟩ (c_X1_search l dC dI hs ka H.size fu q_1 (-1 : Int32) (-1 : Int32) q_2.1 q_2.2 hc_2) (cwV 2 hts gX1_blame_X1_search rfl rfl rfl (by decide +kernel) ⟨Nat.le_of_ble_eq_true rfl, Nat.le_of_ble_eq_true rfl⟩) ⟨fun a U g mk q => by obtain ⟨q0, q1, qP, qK, qD⟩ := q; exact ⟨q0, q1, qP, va_K.moved (u := U) (U := U.calling g mk a) (Vm.Alike.refl U.vm) qK, qD⟩, va_recv hKc hPc (ci := 1) (q0 := 0) rfl rfl, fun U hU hW => ⟨rfl, by rw [hU], by rw [hU]; exact hPc, va_K.moved hW.alike hKc, hDc.weaken (fun _ _ _ _ => trivial)⟩⟩ rfl rfl hl.1 rfl (lv_room (Nat.le_of_ble_eq_true rfl)) dX1_blame_17 ⟨Nat.zero_le _, Nat.zero_le _⟩) hS (fun q _ h => hFc q h) hFc (fun r_2 u_c2 t H1 locs ht hvm hw hB hz1 hk1 hS => ?_)
  obtain ⟨hw1, hw2⟩ := hw
  subst r_2
  subst u_c2
  obtain ⟨hP1, hK1, hD1⟩ := hB
  rw [ht] at hP1
  obtain ⟨hP, hD⟩ := va_join (wc := (cM hs ka q_1)) (wr := []) (w1 := (cM hs ka q_2.2)) hP hD [0, 1, 2, 3, 4, 5, 6, 7, 8, 9, 10, 11, 12, 13, 14, 15, 16] [] rfl rfl (by decide) (by decide) hk1 hFc hP1 hD1
  clear hPc hDc hKc hFc hz1 hk1 hP1 hK1 hD1
  generalize H1 = H at hP hS ⊢
  have hP : va_P (dC, dI) vwCl (cM hs ka q_2.2) H := hP
  have hD : va_D A (cM hs ka q_2.2) := hD
  refine lv_if_eq (tgt := 25) hx hb dX1_blame_20 (by decide) (fun c_3 => ?_) (fun c_3 => ?_)
  · rw [if_pos c_3] at h
    refine lv_iconst (v := (0 : Int32)) hx hb dX1_blame_25 (by decide) ?_
    refine lv_istore_n (lv' := [(1, .int (0 : Int32)), (0, .ref (hs 0))]) hx hb dX1_blame_26 rfl hl (by decide) rfl (fun ls hl => ?_)
    have lp_27 : ∀ K_27 : Int32 → MS → Option (Int32 × MS), (∀ (x1_27 : Int32) (u_27 : MS) (H : Heap) (locs : List Loc) (ls : Array Slot), K_27 x1_27 u_27 = some (r, u') → va_P (dC, dI) vwCl (cM hs ka u_27) H → va_D A (cM hs ka u_27) → va_S A s.heap H locs → lv_has ls 2 [(1, .int x1_27), (0, .ref (hs 0))] → W p l e (headSpec wzX1_blame ({ frames := 4, cells := 0, slots := 0, locals := 97 })).room s m ([.ref (hs 0)] : List Value).toArray below meth c H locs 0 0 (MQ below (va_Qi (fun (r1 : Int32) (u1 : MS) => r1 = r ∧ u1 = u') (aM dC dI A hs ka) A) ([.ref (hs 0)] : List Value).toArray s 0 0 A) (F0 m 99 ls [])) → ∀ n_27 : Nat, ∀ (x1_27 : Int32) (u_27 : MS) (H : Heap) (locs : List Loc) (ls : Array Slot), pl_X1_blame_27 fu K_27 n_27 x1_27 u_27 = some (r, u') → va_P (dC, dI) vwCl (cM hs ka u_27) H → va_D A (cM hs ka u_27) → va_S A s.heap H locs → lv_has ls 2 [(1, .int x1_27), (0, .ref (hs 0))] → W p l e (headSpec wzX1_blame ({ frames := 4, cells := 0, slots := 0, locals := 97 })).room s m ([.ref (hs 0)] : List Value).toArray below meth c H locs 0 0 (MQ below (va_Qi (fun (r1 : Int32) (u1 : MS) => r1 = r ∧ u1 = u') (aM dC dI A hs ka) A) ([.ref (hs 0)] : List Value).toArray s 0 0 A) (F0 m 27 ls []) := by
      intro K_27 hk_27 n_27
      induction n_27 with
      | zero =>
        intro x1_27 u_27 H locs ls h
        exact absurd (show (none : Option (Int32 × MS)) = some (r, u') from h) (fun q => by cases q)
      | succ n_27 ih_27 =>
        intro x1_27 u_27 H locs ls h hP hD hS hl
        rw [pl_X1_blame_27] at h
        refine lv_iload_n hx hb dX1_blame_27 rfl (lv_at hl 0 rfl) ?_
        refine lv_aload_n hx hb dX1_blame_28 rfl (lv_at hl 1 rfl) ?_
        refine va_get (D := (dC, dI)) (ci := 1) (v := .int (m_demands u_27)) (C := RX1) (T := TX1) (N := 23) hx hb hts hin0 hown hK hP 0 rfl rfl 10 (by decide) hf_84 (fun _ h9 => h9) rfl dX1_blame_29 ?_
        refine lv_icmp_ge (tgt := 99) hx hb dX1_blame_32 (by decide) (fun c_4 => ?_) (fun c_4 => ?_)
        · rw [if_pos c_4] at h
          exact hk_27 x1_27 u_27 _ _ _ h hP hD hS (lv_sub hl [0, 1] rfl)
        · rw [if_neg c_4] at h
          refine lv_aload_n hx hb dX1_blame_35 rfl (lv_at hl 1 rfl) ?_
          refine va_get (D := (dC, dI)) (ci := 1) (v := .ref (hs 14)) (C := RX1) (T := TX1) (N := 23) hx hb hts hin0 hown hK hP 0 rfl rfl 18 (by decide) hf_49 (fun _ h9 => h9) rfl dX1_blame_36 ?_
          refine lv_iload_n hx hb dX1_blame_39 rfl (lv_at hl 0 rfl) ?_
          obtain ⟨g_5, h⟩ := og_some h
          refine va_zald (f := (m_out u_27)) hx hb hK hP 14 13 rfl rfl (inb_in g_5) dX1_blame_40 ?_
          refine lv_if_eq (tgt := 47) hx hb dX1_blame_41 (by decide) (fun c_6 => ?_) (fun c_6 => ?_)
          · rw [if_pos c_6] at h
            refine lv_aload_n hx hb dX1_blame_47 rfl (lv_at hl 1 rfl) ?_
            refine va_get (D := (dC, dI)) (ci := 1) (v := .ref (hs 15)) (C := RX1) (T := TX1) (N := 23) hx hb hts hin0 hown hK hP 0 rfl rfl 19 (by decide) hf_53 (fun _ h9 => h9) rfl dX1_blame_48 ?_
            refine lv_iload_n hx hb dX1_blame_51 rfl (lv_at hl 0 rfl) ?_
            refine lv_iconst (v := (1 : Int32)) hx hb dX1_blame_52 (by decide) ?_
            obtain ⟨g_7, h⟩ := og_some h
            refine va_zast (f := (m_away u_27)) hx hb hK hP hD hS 15 14 rfl rfl (inb_in g_7) dX1_blame_53 (fun H locs hP hD hS => ?_)
            have hP : va_P (dC, dI) vwCl (cM hs ka (ms_away u_27 (upd (m_away u_27) x1_27.toNatClampNeg (vp_nar .boolean (1 : Int32))))) H := hP
            have hD : va_D A (cM hs ka (ms_away u_27 (upd (m_away u_27) x1_27.toNatClampNeg (vp_nar .boolean (1 : Int32))))) := hD
            refine lv_aload_n hx hb dX1_blame_54 rfl (lv_at hl 1 rfl) ?_
            refine lv_iconst (v := (-1 : Int32)) hx hb dX1_blame_55 (by decide) ?_
            refine lv_iconst (v := (-1 : Int32)) hx hb dX1_blame_56 (by decide) ?_
            obtain ⟨q_8, hc_8, h⟩ := ob_some h
            have hPc : va_P (dC, dI) vwCl (cM hs ka (ms_away u_27 (upd (m_away u_27) x1_27.toNatClampNeg (vp_nar .boolean (1 : Int32))))) H := hP.sub [0, 1, 2, 3, 4, 5, 6, 7, 8, 9, 10, 11, 12, 13, 14, 15, 16] rfl
            have hDc : va_D A (cM hs ka (ms_away u_27 (upd (m_away u_27) x1_27.toNatClampNeg (vp_nar .boolean (1 : Int32))))) := hD.sub [0, 1, 2, 3, 4, 5, 6, 7, 8, 9, 10, 11, 12, 13, 14, 15, 16] (by decide) rfl
            have hKc := hK.sub (tys' := (tM ka)) [0, 1, 2, 3, 4, 5, 6, 7, 8, 9, 10, 11, 12, 13, 14, 15] rfl
            have hFc := va_free (wc := (cM hs ka (ms_away u_27 (upd (m_away u_27) x1_27.toNatClampNeg (vp_nar .boolean (1 : Int32)))))) hD hS hA [0, 1, 2, 3, 4, 5, 6, 7, 8, 9, 10, 11, 12, 13, 14, 15, 16] rfl
            refine va_calli (va_runV (As := [.int (-1 : Int32), .int (-1 : Int32)]) (rest := []) ⟨hx, hb, hml, hown, hts⟩ (c_X1_search l dC dI hs ka H.size fu (ms_away u_27 (upd (m_away u_27) x1_27.toNatClampNeg (vp_nar .boolean (1 : Int32)))) (-1 : Int32) (-1 : Int32) q_8.1 q_8.2 hc_8) (cwV 2 hts gX1_blame_X1_search rfl rfl rfl (by decide +kernel) ⟨Nat.le_of_ble_eq_true rfl, Nat.le_of_ble_eq_true rfl⟩) ⟨fun a U g mk q => by obtain ⟨q0, q1, qP, qK, qD⟩ := q; exact ⟨q0, q1, qP, va_K.moved (u := U) (U := U.calling g mk a) (Vm.Alike.refl U.vm) qK, qD⟩, va_recv hKc hPc (ci := 1) (q0 := 0) rfl rfl, fun U hU hW => ⟨rfl, by rw [hU], by rw [hU]; exact hPc, va_K.moved hW.alike hKc, hDc.weaken (fun _ _ _ _ => trivial)⟩⟩ rfl rfl hl.1 rfl (lv_room (Nat.le_of_ble_eq_true rfl)) dX1_blame_57 ⟨Nat.zero_le _, Nat.zero_le _⟩) hS (fun q _ h => hFc q h) hFc (fun r_8 u_c8 t H1 locs ht hvm hw hB hz1 hk1 hS => ?_)
            obtain ⟨hw1, hw2⟩ := hw
            subst r_8
            subst u_c8
            obtain ⟨hP1, hK1, hD1⟩ := hB
            rw [ht] at hP1
            obtain ⟨hP, hD⟩ := va_join (wc := (cM hs ka (ms_away u_27 (upd (m_away u_27) x1_27.toNatClampNeg (vp_nar .boolean (1 : Int32)))))) (wr := []) (w1 := (cM hs ka q_8.2)) hP hD [0, 1, 2, 3, 4, 5, 6, 7, 8, 9, 10, 11, 12, 13, 14, 15, 16] [] rfl rfl (by decide) (by decide) hk1 hFc hP1 hD1
            clear hPc hDc hKc hFc hz1 hk1 hP1 hK1 hD1
            generalize H1 = H at hP hS ⊢
            have hP : va_P (dC, dI) vwCl (cM hs ka q_8.2) H := hP
            have hD : va_D A (cM hs ka q_8.2) := hD
            refine lv_if_ne (tgt := 66) hx hb dX1_blame_60 (by decide) (fun c_9 => ?_) (fun c_9 => ?_)
            · rw [if_neg c_9] at h
              refine lv_aload_n hx hb dX1_blame_66 rfl (lv_at hl 1 rfl) ?_
              refine va_get (D := (dC, dI)) (ci := 1) (v := .ref (hs 15)) (C := RX1) (T := TX1) (N := 23) hx hb hts hin0 hown hK hP 0 rfl rfl 19 (by decide) hf_53 (fun _ h9 => h9) rfl dX1_blame_67 ?_
              refine lv_iload_n hx hb dX1_blame_70 rfl (lv_at hl 0 rfl) ?_
              refine lv_iconst (v := (0 : Int32)) hx hb dX1_blame_71 (by decide) ?_
              obtain ⟨g_10, h⟩ := og_some h
              refine va_zast (f := (m_away q_8.2)) hx hb hK hP hD hS 15 14 rfl rfl (inb_in g_10) dX1_blame_72 (fun H locs hP hD hS => ?_)
              have hP : va_P (dC, dI) vwCl (cM hs ka (ms_away q_8.2 (upd (m_away q_8.2) x1_27.toNatClampNeg (vp_nar .boolean (0 : Int32))))) H := hP
              have hD : va_D A (cM hs ka (ms_away q_8.2 (upd (m_away q_8.2) x1_27.toNatClampNeg (vp_nar .boolean (0 : Int32))))) := hD
              refine lv_aload_n hx hb dX1_blame_73 rfl (lv_at hl 1 rfl) ?_
              refine va_get (D := (dC, dI)) (ci := 1) (v := .ref (hs 16)) (C := RX1) (T := TX1) (N := 23) hx hb hts hin0 hown hK hP 0 rfl rfl 21 (by decide) hf_60 (fun _ h9 => h9) rfl dX1_blame_74 ?_
              refine lv_aload_n hx hb dX1_blame_77 rfl (lv_at hl 1 rfl) ?_
              refine va_get (D := (dC, dI)) (ci := 1) (v := .int (m_blames q_8.2)) (C := RX1) (T := TX1) (N := 23) hx hb hts hin0 hown hK hP 0 rfl rfl 22 (by decide) hf_125 (fun _ h9 => h9) rfl dX1_blame_78 ?_
              refine lv_iload_n hx hb dX1_blame_81 rfl (lv_at hl 0 rfl) ?_
              obtain ⟨g_11, h⟩ := og_some h
              refine va_iast (f := (m_blamed q_8.2)) hx hb hK hP hD hS 16 15 rfl rfl (inb_in g_11) dX1_blame_82 (fun H locs hP hD hS => ?_)
              have hP : va_P (dC, dI) vwCl (cM hs ka (ms_blamed (ms_away q_8.2 (upd (m_away q_8.2) x1_27.toNatClampNeg (vp_nar .boolean (0 : Int32)))) (upd (m_blamed q_8.2) (m_blames q_8.2).toNatClampNeg x1_27))) H := hP
              have hD : va_D A (cM hs ka (ms_blamed (ms_away q_8.2 (upd (m_away q_8.2) x1_27.toNatClampNeg (vp_nar .boolean (0 : Int32)))) (upd (m_blamed q_8.2) (m_blames q_8.2).toNatClampNeg x1_27))) := hD
              refine lv_aload_n hx hb dX1_blame_83 rfl (lv_at hl 1 rfl) ?_
              refine lv_dup hx hb dX1_blame_84 rfl ?_
              refine va_get (D := (dC, dI)) (ci := 1) (v := .int (m_blames q_8.2)) (C := RX1) (T := TX1) (N := 23) hx hb hts hin0 hown hK hP 0 rfl rfl 22 (by decide) hf_125 (fun _ h9 => h9) rfl dX1_blame_85 ?_
              refine lv_iconst (v := (1 : Int32)) hx hb dX1_blame_88 (by decide) ?_
              refine lv_iadd hx hb dX1_blame_89 ?_
              refine va_put (D := (dC, dI)) (ci := 1) (v := .int ((m_blames q_8.2) + (1 : Int32))) (ty := .int) (C := RX1) (T := TX1) (N := 23) hx hb hts hin0 tyX1 tyX1_ok nmX1 hown hK hP hD hS 0 rfl rfl 22 (by decide) hf_125 (fun _ h9 => h9) rfl (by decide +kernel) rfl rfl (Nat.le_of_ble_eq_true rfl) dX1_blame_90 (fun H locs hP hD hS => ?_)
              have hP : va_P (dC, dI) vwCl (cM hs ka (ms_blames (ms_blamed (ms_away q_8.2 (upd (m_away q_8.2) x1_27.toNatClampNeg (vp_nar .boolean (0 : Int32)))) (upd (m_blamed q_8.2) (m_blames q_8.2).toNatClampNeg x1_27)) ((m_blames q_8.2) + (1 : Int32)))) H := hP
              have hD : va_D A (cM hs ka (ms_blames (ms_blamed (ms_away q_8.2 (upd (m_away q_8.2) x1_27.toNatClampNeg (vp_nar .boolean (0 : Int32)))) (upd (m_blamed q_8.2) (m_blames q_8.2).toNatClampNeg x1_27)) ((m_blames q_8.2) + (1 : Int32)))) := hD
              refine lv_iinc (v := (x1_27 + (1 : Int32))) (lv' := [(1, .int (x1_27 + (1 : Int32))), (0, .ref (hs 0))]) hx hb dX1_blame_93 hl (k := 0) rfl (congrArg (fun z : Int32 => x1_27 + z) (by decide : Int32.ofInt (1) = (1 : Int32))) (by decide) rfl (fun ls hl => ?_)
              refine lv_goto (tgt := 27) hx hb dX1_blame_96 (by decide) ?_
              exact ih_27 (x1_27 + (1 : Int32)) (ms_blames (ms_blamed (ms_away q_8.2 (upd (m_away q_8.2) x1_27.toNatClampNeg (vp_nar .boolean (0 : Int32)))) (upd (m_blamed q_8.2) (m_blames q_8.2).toNatClampNeg x1_27)) ((m_blames q_8.2) + (1 : Int32))) _ _ _ h hP hD hS (lv_sub hl [0, 1] rfl)
            · rw [if_pos c_9] at h
              refine lv_goto (tgt := 93) hx hb dX1_blame_63 (by decide) ?_
              refine lv_iinc (v := (x1_27 + (1 : Int32))) (lv' := [(1, .int (x1_27 + (1 : Int32))), (0, .ref (hs 0))]) hx hb dX1_blame_93 hl (k := 0) rfl (congrArg (fun z : Int32 => x1_27 + z) (by decide : Int32.ofInt (1) = (1 : Int32))) (by decide) rfl (fun ls hl => ?_)
              refine lv_goto (tgt := 27) hx hb dX1_blame_96 (by decide) ?_
              exact ih_27 (x1_27 + (1 : Int32)) q_8.2 _ _ _ h hP hD hS (lv_sub hl [0, 1] rfl)
          · rw [if_neg c_6] at h
            refine lv_goto (tgt := 93) hx hb dX1_blame_44 (by decide) ?_
            refine lv_iinc (v := (x1_27 + (1 : Int32))) (lv' := [(1, .int (x1_27 + (1 : Int32))), (0, .ref (hs 0))]) hx hb dX1_blame_93 hl (k := 0) rfl (congrArg (fun z : Int32 => x1_27 + z) (by decide : Int32.ofInt (1) = (1 : Int32))) (by decide) rfl (fun ls hl => ?_)
            refine lv_goto (tgt := 27) hx hb dX1_blame_96 (by decide) ?_
            exact ih_27 (x1_27 + (1 : Int32)) u_27 _ _ _ h hP hD hS (lv_sub hl [0, 1] rfl)
    refine lp_27 _ (fun x1_27 u_27 H locs ls h hP hD hS hl => ?_) fu (0 : Int32) q_2.2 _ _ _ h hP hD hS hl
    refine lv_aload_n hx hb dX1_blame_99 rfl (lv_at hl 1 rfl) ?_
    refine va_get (D := (dC, dI)) (ci := 1) (v := .int (m_blames u_27)) (C := RX1) (T := TX1) (N := 23) hx hb hts hin0 hown hK hP 0 rfl rfl 22 (by decide) hf_125 (fun _ h9 => h9) rfl dX1_blame_100 ?_
    have e9 := Option.some.inj h
    exact W.iret (v := (m_blames u_27)) hx hb hr (fun t ht hW => ⟨⟨(m_blames u_27), u_27, rfl, ⟨congrArg Prod.fst e9, congrArg Prod.snd e9⟩, by rw [ht]; exact hP, va_K.moved hW.alike hK, hD⟩, hS.F ht⟩) hS.2.2 dX1_blame_103
  · rw [if_neg c_3] at h
    refine lv_iconst (v := (0 : Int32)) hx hb dX1_blame_23 (by decide) ?_
    have e9 := Option.some.inj h
    exact W.iret (v := (0 : Int32)) hx hb hr (fun t ht hW => ⟨⟨(0 : Int32), q_2.2, rfl, ⟨congrArg Prod.fst e9, congrArg Prod.snd e9⟩, by rw [ht]; exact hP, va_K.moved hW.alike hK, hD⟩, hS.F ht⟩) hS.2.2 dX1_blame_24
set_option maxHeartbeats 4000000 in
set_option maxRecDepth 100000 in
theorem c_X1_blamed (l : Launch) (dC : Nat → ClassId) (dI : Nat → Nat → Nat) (hs : Nat → Nat) (ka : Nat → ClassId) (sz : Nat) (fu : Nat) (u : MS) (p0 : Int32) (r : Int32) (u' : MS) (h : pf_X1_blamed fu p0 u = some (r, u')) : Met l yX1_blamed wzX1_blamed ({ frames := 0, cells := 0, slots := 0, locals := 0 }) (va_Pc [.ref (hs 0), .int p0] (fun U => U.heap.size = sz ∧ va_P (dC, dI) vwCl (cM hs ka u) U.heap ∧ va_K (dC, dI) vwCl (tM ka) U ∧ va_D (fun _ => True) (cM hs ka u))) (va_Qi (fun (r1 : Int32) (u1 : MS) => r1 = r ∧ u1 = u') (aM dC dI (va_A (cM hs ka u) sz) hs ka) (va_A (cM hs ka u) sz)) 0 0 (va_A (cM hs ka u) sz) := by
  refine Met.ofW (cc := cX1_blamed) (maxL := 2) (ret := (some .int)) (by decide) rfl ?_
  intro p e s m args below meth c s₁ B hml hv
  obtain ⟨rfl, hsz, hP, hK, hD0⟩ := hv
  have hx := B.exec
  have hb := B.bytes
  have hr := B.returns
  have hts := atoms_spec (ws := wzX1_blamed) B.pre
  have hown : s.vm.findClass RX1 = some m.cls := findClass_of_methodNamed B.named
  have hlocks := B.notSynchronized
  subst hsz
  have hD := hD0.self (sz := s.heap.size)
  generalize hAe : va_A (cM hs ka u) s.heap.size = A at hD ⊢
  have hA : ∀ q : Nat, s.heap.size ≤ q → A q := fun q h => by rw [← hAe]; exact Or.inr h
  have hS : va_S A s.heap s.heap [] := va_S.rf
  have hP : va_P (dC, dI) vwCl (cM hs ka u) s.heap := hP
  clear hD0 hAe
  have hin0 : ∀ w ∈ u_ws RX1 TX1 23, w ∈ wzX1_blamed := fun w h => List.mem_cons_of_mem _ (inTX1 w h)
  have hf_125 := hts (.fieldLink RX1 125 "ConflictSolveModel" "blames" "I") (List.mem_cons_of_mem _ tz_260)
  have hf_60 := hts (.fieldLink RX1 60 "ConflictSolveModel" "blamed" "[I") (List.mem_cons_of_mem _ tz_259)
  have hf_63 := hts (.fieldLink RX1 63 "ConflictSolveModel" "code" "I") (List.mem_cons_of_mem _ tz_238)
  have hl := lv_entry ([.ref (hs 0), .int p0]) (n := 2) (Nat.le_of_ble_eq_true rfl)
  rw [lg_entry_eq]
  generalize (lg_sl ([.ref (hs 0), .int p0]) ++ List.replicate (2 - (lg_sl ([.ref (hs 0), .int p0])).length) Slot.unset).toArray = ls at hl ⊢
  have hl : lv_has ls 2 [(0, .ref (hs 0)), (1, .int p0)] := hl
  rw [pf_X1_blamed] at h
  refine lv_aload_n hx hb dX1_blamed_0 rfl (lv_at hl 0 rfl) ?_
  refine lv_iconst (v := (0 : Int32)) hx hb dX1_blamed_1 (by decide) ?_
  refine va_put (D := (dC, dI)) (ci := 1) (v := .int (0 : Int32)) (ty := .int) (C := RX1) (T := TX1) (N := 23) hx hb hts hin0 tyX1 tyX1_ok nmX1 hown hK hP hD hS 0 rfl rfl 0 (by decide) hf_63 (fun _ h9 => h9) rfl (by decide +kernel) rfl rfl (Nat.le_of_ble_eq_true rfl) dX1_blamed_2 (fun H locs hP hD hS => ?_)
  have hP : va_P (dC, dI) vwCl (cM hs ka (ms_code u (0 : Int32))) H := hP
  have hD : va_D A (cM hs ka (ms_code u (0 : Int32))) := hD
  refine lv_iload_n hx hb dX1_blamed_5 rfl (lv_at hl 1 rfl) ?_
  refine lv_if_lt (tgt := 17) hx hb dX1_blamed_6 (by decide) (fun c_1 => ?_) (fun c_1 => ?_)
  · rw [if_pos c_1] at h
    refine lv_iconst (v := (-1 : Int32)) hx hb dX1_blamed_17 (by decide) ?_
    refine lv_goto (tgt := 27) hx hb dX1_blamed_18 (by decide) ?_
    have e9 := Option.some.inj h
    exact W.iret (v := (-1 : Int32)) hx hb hr (fun t ht hW => ⟨⟨(-1 : Int32), (ms_code u (0 : Int32)), rfl, ⟨congrArg Prod.fst e9, congrArg Prod.snd e9⟩, by rw [ht]; exact hP, va_K.moved hW.alike hK, hD⟩, hS.F ht⟩) hS.2.2 dX1_blamed_27
  · rw [if_neg c_1] at h
    refine lv_iload_n hx hb dX1_blamed_9 rfl (lv_at hl 1 rfl) ?_
    refine lv_aload_n hx hb dX1_blamed_10 rfl (lv_at hl 0 rfl) ?_
    refine va_get (D := (dC, dI)) (ci := 1) (v := .int (m_blames u)) (C := RX1) (T := TX1) (N := 23) hx hb hts hin0 hown hK hP 0 rfl rfl 22 (by decide) hf_125 (fun _ h9 => h9) rfl dX1_blamed_11 ?_
    refine lv_icmp_lt (tgt := 21) hx hb dX1_blamed_14 (by decide) (fun c_2 => ?_) (fun c_2 => ?_)
    · rw [if_pos c_2] at h
      refine lv_aload_n hx hb dX1_blamed_21 rfl (lv_at hl 0 rfl) ?_
      refine va_get (D := (dC, dI)) (ci := 1) (v := .ref (hs 16)) (C := RX1) (T := TX1) (N := 23) hx hb hts hin0 hown hK hP 0 rfl rfl 21 (by decide) hf_60 (fun _ h9 => h9) rfl dX1_blamed_22 ?_
      refine lv_iload_n hx hb dX1_blamed_25 rfl (lv_at hl 1 rfl) ?_
      obtain ⟨g_3, h⟩ := og_some h
      refine va_iald (f := (m_blamed u)) hx hb hK hP 16 15 rfl rfl (inb_in g_3) dX1_blamed_26 ?_
      have e9 := Option.some.inj h
      exact W.iret (v := ((m_blamed u) p0.toNatClampNeg)) hx hb hr (fun t ht hW => ⟨⟨((m_blamed u) p0.toNatClampNeg), (ms_code u (0 : Int32)), rfl, ⟨congrArg Prod.fst e9, congrArg Prod.snd e9⟩, by rw [ht]; exact hP, va_K.moved hW.alike hK, hD⟩, hS.F ht⟩) hS.2.2 dX1_blamed_27
    · rw [if_neg c_2] at h
      refine lv_iconst (v := (-1 : Int32)) hx hb dX1_blamed_17 (by decide) ?_
      refine lv_goto (tgt := 27) hx hb dX1_blamed_18 (by decide) ?_
      have e9 := Option.some.inj h
      exact W.iret (v := (-1 : Int32)) hx hb hr (fun t ht hW => ⟨⟨(-1 : Int32), (ms_code u (0 : Int32)), rfl, ⟨congrArg Prod.fst e9, congrArg Prod.snd e9⟩, by rw [ht]; exact hP, va_K.moved hW.alike hK, hD⟩, hS.F ht⟩) hS.2.2 dX1_blamed_27
