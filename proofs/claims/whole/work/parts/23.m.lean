set_option maxHeartbeats 4000000 in
set_option maxRecDepth 100000 in
theorem c_X1_solve (l : Launch) (dC : Nat → ClassId) (dI : Nat → Nat → Nat) (hs : Nat → Nat) (ka : Nat → ClassId) (sz : Nat) (fu : Nat) (u : MS) (r : Int32) (u' : MS) (h : pf_X1_solve fu u = some (r, u')) : Met l yX1_solve wzX1_solve ({ frames := 4, cells := 0, slots := 0, locals := 97 }) (va_Pc [.ref (hs 0)] (fun U => U.heap.size = sz ∧ va_P (dC, dI) vwCl (cM hs ka u) U.heap ∧ va_K (dC, dI) vwCl (tM ka) U ∧ va_D (fun _ => True) (cM hs ka u))) (va_Qi (fun (r1 : Int32) (u1 : MS) => r1 = r ∧ u1 = u') (aM dC dI (va_A (cM hs ka u) sz) hs ka) (va_A (cM hs ka u) sz)) 0 0 (va_A (cM hs ka u) sz) := by
  refine Met.ofW (cc := cX1_solve) (maxL := 3) (ret := (some .int)) (by decide) rfl ?_
  intro p e s m args below meth c s₁ B hml hv
  obtain ⟨rfl, hsz, hP, hK, hD0⟩ := hv
  have hx := B.exec
  have hb := B.bytes
  have hr := B.returns
  have hts := atoms_spec (ws := wzX1_solve) B.pre
  have hown : s.vm.findClass RX1 = some m.cls := findClass_of_methodNamed B.named
  have hlocks := B.notSynchronized
  subst hsz
  have hD := hD0.self (sz := s.heap.size)
  generalize hAe : va_A (cM hs ka u) s.heap.size = A at hD ⊢
  have hA : ∀ q : Nat, s.heap.size ≤ q → A q := fun q h => by rw [← hAe]; exact Or.inr h
  have hS : va_S A s.heap s.heap [] := va_S.rf
  have hP : va_P (dC, dI) vwCl (cM hs ka u) s.heap := hP
  clear hD0 hAe
  have hin0 : ∀ w ∈ u_ws RX1 TX1 23, w ∈ wzX1_solve := fun w h => List.mem_cons_of_mem _ (inTX1 w h)
  have hf_16 := hts (.fieldLink RX1 16 "ConflictSolveModel" "chosen" "[I") (List.mem_cons_of_mem _ tz_241)
  have hf_19 := hts (.fieldLink RX1 19 "ConflictSolveModel" "value" "[I") (List.mem_cons_of_mem _ tz_242)
  have hf_63 := hts (.fieldLink RX1 63 "ConflictSolveModel" "code" "I") (List.mem_cons_of_mem _ tz_238)
  have hf_66 := hts (.fieldLink RX1 66 "ConflictSolveModel" "packages" "I") (List.mem_cons_of_mem _ tz_246)
  have hl := lv_entry ([.ref (hs 0)]) (n := 3) (Nat.le_of_ble_eq_true rfl)
  rw [lg_entry_eq]
  generalize (lg_sl ([.ref (hs 0)]) ++ List.replicate (3 - (lg_sl ([.ref (hs 0)])).length) Slot.unset).toArray = ls at hl ⊢
  have hl : lv_has ls 3 [(0, .ref (hs 0))] := hl
  rw [pf_X1_solve] at h
  refine lv_aload_n hx hb dX1_solve_0 rfl (lv_at hl 0 rfl) ?_
  refine lv_iconst (v := (0 : Int32)) hx hb dX1_solve_1 (by decide) ?_
  refine pt_M_code hx hb hts hin0 hown hK hP hD hS hf_63 dX1_solve_2 (fun H locs hP hD hS => ?_)
  refine lv_aload_n hx hb dX1_solve_5 rfl (lv_at hl 0 rfl) ?_
  obtain ⟨q_1, hc_1, h⟩ := ob_some h
  have hPc := hP
  have hDc := hD
  have hKc := hK
  have hFc := fr_M hD hS hA
  refine va_callv (va_runV (As := []) (rest := []) ⟨hx, hb, hml, hown, hts⟩ (c_X1_none l dC dI hs ka H.size fu (ms_code u (0 : Int32)) q_1 hc_1) (cwV 0 hts gX1_solve_X1_none rfl rfl rfl (by decide +kernel) ⟨Nat.le_of_ble_eq_true rfl, Nat.le_of_ble_eq_true rfl⟩) ⟨fun a U g mk q => by obtain ⟨q0, q1, qP, qK, qD⟩ := q; exact ⟨q0, q1, qP, va_K.moved (u := U) (U := U.calling g mk a) (Vm.Alike.refl U.vm) qK, qD⟩, rc_M hKc hPc, fun U hU hW => ⟨rfl, by rw [hU], by rw [hU]; exact hPc, va_K.moved hW.alike hKc, hDc.weaken (fun _ _ _ _ => trivial)⟩⟩ rfl rfl hl.1 rfl (lv_room (Nat.le_of_ble_eq_true rfl)) dX1_solve_6 ⟨Nat.zero_le _, Nat.zero_le _⟩) hS (fun q _ h => hFc q h) hFc (fun u_c1 t H1 locs ht hvm hw hB hz1 hk1 hS => ?_)
  subst u_c1
  obtain ⟨hP1, hK1, hD1⟩ := hB
  rw [ht] at hP1
  obtain ⟨hP, hD⟩ := jw_M hP hD hk1 hFc hP1 hD1
  clear hPc hDc hKc hFc hz1 hk1 hP1 hK1 hD1
  generalize H1 = H at hP hS ⊢
  refine lv_aload_n hx hb dX1_solve_9 rfl (lv_at hl 0 rfl) ?_
  refine lv_iconst (v := (-1 : Int32)) hx hb dX1_solve_10 (by decide) ?_
  refine lv_iconst (v := (-1 : Int32)) hx hb dX1_solve_11 (by decide) ?_
  obtain ⟨q_2, hc_2, h⟩ := ob_some h
  have hPc := hP
  have hDc := hD
  have hKc := hK
  have hFc := fr_M hD hS hA
  refine va_calli (va_runV (As := [.int (-1 : Int32), .int (-1 : Int32)]) (rest := []) ⟨hx, hb, hml, hown, hts⟩ (c_X1_search l dC dI hs ka H.size fu q_1 (-1 : Int32) (-1 : Int32) q_2.1 q_2.2 hc_2) (cwV 2 hts gX1_solve_X1_search rfl rfl rfl (by decide +kernel) ⟨Nat.le_of_ble_eq_true rfl, Nat.le_of_ble_eq_true rfl⟩) ⟨fun a U g mk q => by obtain ⟨q0, q1, qP, qK, qD⟩ := q; exact ⟨q0, q1, qP, va_K.moved (u := U) (U := U.calling g mk a) (Vm.Alike.refl U.vm) qK, qD⟩, rc_M hKc hPc, fun U hU hW => ⟨rfl, by rw [hU], by rw [hU]; exact hPc, va_K.moved hW.alike hKc, hDc.weaken (fun _ _ _ _ => trivial)⟩⟩ rfl rfl hl.1 rfl (lv_room (Nat.le_of_ble_eq_true rfl)) dX1_solve_12 ⟨Nat.zero_le _, Nat.zero_le _⟩) hS (fun q _ h => hFc q h) hFc (fun r_2 u_c2 t H1 locs ht hvm hw hB hz1 hk1 hS => ?_)
  obtain ⟨hw1, hw2⟩ := hw
  subst r_2
  subst u_c2
  obtain ⟨hP1, hK1, hD1⟩ := hB
  rw [ht] at hP1
  obtain ⟨hP, hD⟩ := jw_M hP hD hk1 hFc hP1 hD1
  clear hPc hDc hKc hFc hz1 hk1 hP1 hK1 hD1
  generalize H1 = H at hP hS ⊢
  refine lv_istore_n (lv' := [(1, .int q_2.1), (0, .ref (hs 0))]) hx hb dX1_solve_15 rfl hl (by decide) rfl (fun ls hl => ?_)
  refine lv_iconst (v := (0 : Int32)) hx hb dX1_solve_16 (by decide) ?_
  refine lv_istore_n (lv' := [(2, .int (0 : Int32)), (1, .int q_2.1), (0, .ref (hs 0))]) hx hb dX1_solve_17 rfl hl (by decide) rfl (fun ls hl => ?_)
  have lp_18 : ∀ K_18 : Int32 → MS → Option (Int32 × MS), (∀ (x2_18 : Int32) (u_18 : MS) (H : Heap) (locs : List Loc) (ls : Array Slot), K_18 x2_18 u_18 = some (r, u') → va_P (dC, dI) vwCl (cM hs ka u_18) H → va_D A (cM hs ka u_18) → va_S A s.heap H locs → lv_has ls 3 [(2, .int x2_18), (1, .int q_2.1), (0, .ref (hs 0))] → W p l e (headSpec wzX1_solve ({ frames := 4, cells := 0, slots := 0, locals := 97 })).room s m ([.ref (hs 0)] : List Value).toArray below meth c H locs 0 0 (MQ below (va_Qi (fun (r1 : Int32) (u1 : MS) => r1 = r ∧ u1 = u') (aM dC dI A hs ka) A) ([.ref (hs 0)] : List Value).toArray s 0 0 A) (F0 m 58 ls [])) → ∀ n_18 : Nat, ∀ (x2_18 : Int32) (u_18 : MS) (H : Heap) (locs : List Loc) (ls : Array Slot), pl_X1_solve_18 fu q_2 K_18 n_18 x2_18 u_18 = some (r, u') → va_P (dC, dI) vwCl (cM hs ka u_18) H → va_D A (cM hs ka u_18) → va_S A s.heap H locs → lv_has ls 3 [(2, .int x2_18), (1, .int q_2.1), (0, .ref (hs 0))] → W p l e (headSpec wzX1_solve ({ frames := 4, cells := 0, slots := 0, locals := 97 })).room s m ([.ref (hs 0)] : List Value).toArray below meth c H locs 0 0 (MQ below (va_Qi (fun (r1 : Int32) (u1 : MS) => r1 = r ∧ u1 = u') (aM dC dI A hs ka) A) ([.ref (hs 0)] : List Value).toArray s 0 0 A) (F0 m 18 ls []) := by
    intro K_18 hk_18 n_18
    induction n_18 with
    | zero =>
      intro x2_18 u_18 H locs ls h
      exact absurd (show (none : Option (Int32 × MS)) = some (r, u') from h) (fun q => by cases q)
    | succ n_18 ih_18 =>
      intro x2_18 u_18 H locs ls h hP hD hS hl
      rw [pl_X1_solve_18] at h
      refine lv_iload_n hx hb dX1_solve_18 rfl (lv_at hl 0 rfl) ?_
      refine lv_bipush (v := (8 : Int32)) hx hb dX1_solve_19 (by decide) ?_
      refine lv_icmp_ge (tgt := 58) hx hb dX1_solve_21 (by decide) (fun c_3 => ?_) (fun c_3 => ?_)
      · rw [if_pos c_3] at h
        exact hk_18 x2_18 u_18 _ _ _ h hP hD hS (lv_sub hl [0, 1, 2] rfl)
      · rw [if_neg c_3] at h
        refine lv_aload_n hx hb dX1_solve_24 rfl (lv_at hl 2 rfl) ?_
        refine gt_M_chosen hx hb hts hin0 hown hK hP hf_16 dX1_solve_25 ?_
        refine lv_iload_n hx hb dX1_solve_28 rfl (lv_at hl 0 rfl) ?_
        refine lv_iload_n hx hb dX1_solve_29 rfl (lv_at hl 1 rfl) ?_
        refine lv_if_eq (tgt := 50) hx hb dX1_solve_30 (by decide) (fun c_4 => ?_) (fun c_4 => ?_)
        · rw [if_pos c_4] at h
          refine lv_iconst (v := (-1 : Int32)) hx hb dX1_solve_50 (by decide) ?_
          obtain ⟨g_5, h⟩ := og_some h
          refine sr_M_chosen (F := (m_chosen u_18)) hx hb hK hP hD hS rfl (inb_in g_5) dX1_solve_51 (fun H locs hP hD hS => ?_)
          refine lv_iinc (v := (x2_18 + (1 : Int32))) (lv' := [(2, .int (x2_18 + (1 : Int32))), (1, .int q_2.1), (0, .ref (hs 0))]) hx hb dX1_solve_52 hl (k := 0) rfl (congrArg (fun z : Int32 => x2_18 + z) (by decide : Int32.ofInt (1) = (1 : Int32))) (by decide) rfl (fun ls hl => ?_)
          refine lv_goto (tgt := 18) hx hb dX1_solve_55 (by decide) ?_
          exact ih_18 (x2_18 + (1 : Int32)) (ms_chosen u_18 (upd (m_chosen u_18) x2_18.toNatClampNeg (-1 : Int32))) _ _ _ h hP hD hS (lv_sub hl [0, 1, 2] rfl)
        · rw [if_neg c_4] at h
          refine lv_iload_n hx hb dX1_solve_33 rfl (lv_at hl 0 rfl) ?_
          refine lv_aload_n hx hb dX1_solve_34 rfl (lv_at hl 2 rfl) ?_
          refine gt_M_packages (V := (m_packages u_18)) hx hb hts hin0 hown hK hP hf_66 rfl dX1_solve_35 ?_
          refine lv_icmp_ge (tgt := 50) hx hb dX1_solve_38 (by decide) (fun c_6 => ?_) (fun c_6 => ?_)
          · rw [if_pos c_6] at h
            refine lv_iconst (v := (-1 : Int32)) hx hb dX1_solve_50 (by decide) ?_
            obtain ⟨g_7, h⟩ := og_some h
            refine sr_M_chosen (F := (m_chosen u_18)) hx hb hK hP hD hS rfl (inb_in g_7) dX1_solve_51 (fun H locs hP hD hS => ?_)
            refine lv_iinc (v := (x2_18 + (1 : Int32))) (lv' := [(2, .int (x2_18 + (1 : Int32))), (1, .int q_2.1), (0, .ref (hs 0))]) hx hb dX1_solve_52 hl (k := 0) rfl (congrArg (fun z : Int32 => x2_18 + z) (by decide : Int32.ofInt (1) = (1 : Int32))) (by decide) rfl (fun ls hl => ?_)
            refine lv_goto (tgt := 18) hx hb dX1_solve_55 (by decide) ?_
            exact ih_18 (x2_18 + (1 : Int32)) (ms_chosen u_18 (upd (m_chosen u_18) x2_18.toNatClampNeg (-1 : Int32))) _ _ _ h hP hD hS (lv_sub hl [0, 1, 2] rfl)
          · rw [if_neg c_6] at h
            refine lv_aload_n hx hb dX1_solve_41 rfl (lv_at hl 2 rfl) ?_
            refine gt_M_value hx hb hts hin0 hown hK hP hf_19 dX1_solve_42 ?_
            refine lv_iload_n hx hb dX1_solve_45 rfl (lv_at hl 0 rfl) ?_
            obtain ⟨g_8, h⟩ := og_some h
            refine ld_M_value (F := (m_value u_18)) hx hb hK hP rfl (inb_in g_8) dX1_solve_46 ?_
            refine lv_goto (tgt := 51) hx hb dX1_solve_47 (by decide) ?_
            obtain ⟨g_9, h⟩ := og_some h
            refine sr_M_chosen (F := (m_chosen u_18)) hx hb hK hP hD hS rfl (inb_in g_9) dX1_solve_51 (fun H locs hP hD hS => ?_)
            refine lv_iinc (v := (x2_18 + (1 : Int32))) (lv' := [(2, .int (x2_18 + (1 : Int32))), (1, .int q_2.1), (0, .ref (hs 0))]) hx hb dX1_solve_52 hl (k := 0) rfl (congrArg (fun z : Int32 => x2_18 + z) (by decide : Int32.ofInt (1) = (1 : Int32))) (by decide) rfl (fun ls hl => ?_)
            refine lv_goto (tgt := 18) hx hb dX1_solve_55 (by decide) ?_
            exact ih_18 (x2_18 + (1 : Int32)) (ms_chosen u_18 (upd (m_chosen u_18) x2_18.toNatClampNeg ((m_value u_18) x2_18.toNatClampNeg))) _ _ _ h hP hD hS (lv_sub hl [0, 1, 2] rfl)
  refine lp_18 _ (fun x2_18 u_18 H locs ls h hP hD hS hl => ?_) fu (0 : Int32) q_2.2 _ _ _ h hP hD hS hl
  refine lv_iload_n hx hb dX1_solve_58 rfl (lv_at hl 1 rfl) ?_
  refine lv_if_eq (tgt := 66) hx hb dX1_solve_59 (by decide) (fun c_10 => ?_) (fun c_10 => ?_)
  · rw [if_pos c_10] at h
    refine lv_iconst (v := (0 : Int32)) hx hb dX1_solve_66 (by decide) ?_
    have e9 := Option.some.inj h
    exact W.iret (v := (0 : Int32)) hx hb hr (fun t ht hW => ⟨⟨(0 : Int32), u_18, rfl, ⟨congrArg Prod.fst e9, congrArg Prod.snd e9⟩, by rw [ht]; exact hP, va_K.moved hW.alike hK, hD⟩, hS.F ht⟩) hS.2.2 dX1_solve_67
  · rw [if_neg c_10] at h
    refine lv_iconst (v := (1 : Int32)) hx hb dX1_solve_62 (by decide) ?_
    refine lv_goto (tgt := 67) hx hb dX1_solve_63 (by decide) ?_
    have e9 := Option.some.inj h
    exact W.iret (v := (1 : Int32)) hx hb hr (fun t ht hW => ⟨⟨(1 : Int32), u_18, rfl, ⟨congrArg Prod.fst e9, congrArg Prod.snd e9⟩, by rw [ht]; exact hP, va_K.moved hW.alike hK, hD⟩, hS.F ht⟩) hS.2.2 dX1_solve_67
set_option maxHeartbeats 4000000 in
set_option maxRecDepth 100000 in
theorem c_X1_chosen (l : Launch) (dC : Nat → ClassId) (dI : Nat → Nat → Nat) (hs : Nat → Nat) (ka : Nat → ClassId) (sz : Nat) (fu : Nat) (u : MS) (p0 : Int32) (r : Int32) (u' : MS) (h : pf_X1_chosen fu p0 u = some (r, u')) : Met l yX1_chosen wzX1_chosen ({ frames := 1, cells := 0, slots := 0, locals := 21 }) (va_Pc [.ref (hs 0), .int p0] (fun U => U.heap.size = sz ∧ va_P (dC, dI) vwCl (cM hs ka u) U.heap ∧ va_K (dC, dI) vwCl (tM ka) U ∧ va_D (fun _ => True) (cM hs ka u))) (va_Qi (fun (r1 : Int32) (u1 : MS) => r1 = r ∧ u1 = u') (aM dC dI (va_A (cM hs ka u) sz) hs ka) (va_A (cM hs ka u) sz)) 0 0 (va_A (cM hs ka u) sz) := by
  refine Met.ofW (cc := cX1_chosen) (maxL := 2) (ret := (some .int)) (by decide) rfl ?_
  intro p e s m args below meth c s₁ B hml hv
  obtain ⟨rfl, hsz, hP, hK, hD0⟩ := hv
  have hx := B.exec
  have hb := B.bytes
  have hr := B.returns
  have hts := atoms_spec (ws := wzX1_chosen) B.pre
  have hown : s.vm.findClass RX1 = some m.cls := findClass_of_methodNamed B.named
  have hlocks := B.notSynchronized
  subst hsz
  have hD := hD0.self (sz := s.heap.size)
  generalize hAe : va_A (cM hs ka u) s.heap.size = A at hD ⊢
  have hA : ∀ q : Nat, s.heap.size ≤ q → A q := fun q h => by rw [← hAe]; exact Or.inr h
  have hS : va_S A s.heap s.heap [] := va_S.rf
  have hP : va_P (dC, dI) vwCl (cM hs ka u) s.heap := hP
  clear hD0 hAe
  have hin0 : ∀ w ∈ u_ws RX1 TX1 23, w ∈ wzX1_chosen := fun w h => List.mem_cons_of_mem _ (inTX1 w h)
  have hf_16 := hts (.fieldLink RX1 16 "ConflictSolveModel" "chosen" "[I") (List.mem_cons_of_mem _ tz_241)
  have hf_63 := hts (.fieldLink RX1 63 "ConflictSolveModel" "code" "I") (List.mem_cons_of_mem _ tz_238)
  have hl := lv_entry ([.ref (hs 0), .int p0]) (n := 2) (Nat.le_of_ble_eq_true rfl)
  rw [lg_entry_eq]
  generalize (lg_sl ([.ref (hs 0), .int p0]) ++ List.replicate (2 - (lg_sl ([.ref (hs 0), .int p0])).length) Slot.unset).toArray = ls at hl ⊢
  have hl : lv_has ls 2 [(0, .ref (hs 0)), (1, .int p0)] := hl
  rw [pf_X1_chosen] at h
  refine lv_aload_n hx hb dX1_chosen_0 rfl (lv_at hl 0 rfl) ?_
  refine lv_iconst (v := (0 : Int32)) hx hb dX1_chosen_1 (by decide) ?_
  refine pt_M_code hx hb hts hin0 hown hK hP hD hS hf_63 dX1_chosen_2 (fun H locs hP hD hS => ?_)
  refine lv_aload_n hx hb dX1_chosen_5 rfl (lv_at hl 0 rfl) ?_
  refine lv_iload_n hx hb dX1_chosen_6 rfl (lv_at hl 1 rfl) ?_
  have hPc := hP
  have hDc := hD
  have hKc := hK
  have hFc := fr_M hD hS hA
  refine va_calli (va_runV (As := [.int p0]) (rest := []) ⟨hx, hb, hml, hown, hts⟩ (c_X1_isPackage l dC dI hs ka H.size (ms_code u (0 : Int32)) p0 _ rfl) (cwV 1 hts gX1_chosen_X1_isPackage rfl rfl rfl (by decide +kernel) ⟨Nat.le_of_ble_eq_true rfl, Nat.le_of_ble_eq_true rfl⟩) ⟨fun a U g mk q => by obtain ⟨q0, q1, qP, qK, qD⟩ := q; exact ⟨q0, q1, qP, va_K.moved (u := U) (U := U.calling g mk a) (Vm.Alike.refl U.vm) qK, qD⟩, rc_M hKc hPc, fun U hU hW => ⟨rfl, by rw [hU], by rw [hU]; exact hPc, va_K.moved hW.alike hKc, hDc.weaken (fun _ _ _ _ => trivial)⟩⟩ rfl rfl hl.1 rfl (lv_room (Nat.le_of_ble_eq_true rfl)) dX1_chosen_7 ⟨Nat.zero_le _, Nat.zero_le _⟩) hS (fun q _ h => hFc q h) hFc (fun r_1 u_c1 t H1 locs ht hvm hw hB hz1 hk1 hS => ?_)
  obtain ⟨hw1, hw2⟩ := hw
  subst r_1
  subst u_c1
  obtain ⟨hP1, hK1, hD1⟩ := hB
  rw [ht] at hP1
  obtain ⟨hP, hD⟩ := jw_M hP hD hk1 hFc hP1 hD1
  clear hPc hDc hKc hFc hz1 hk1 hP1 hK1 hD1
  generalize H1 = H at hP hS ⊢
  refine lv_if_eq (tgt := 22) hx hb dX1_chosen_10 (by decide) (fun c_2 => ?_) (fun c_2 => ?_)
  · rw [if_pos c_2] at h
    refine lv_iconst (v := (-1 : Int32)) hx hb dX1_chosen_22 (by decide) ?_
    have e9 := Option.some.inj h
    exact W.iret (v := (-1 : Int32)) hx hb hr (fun t ht hW => ⟨⟨(-1 : Int32), (ms_code u (0 : Int32)), rfl, ⟨congrArg Prod.fst e9, congrArg Prod.snd e9⟩, by rw [ht]; exact hP, va_K.moved hW.alike hK, hD⟩, hS.F ht⟩) hS.2.2 dX1_chosen_23
  · rw [if_neg c_2] at h
    refine lv_aload_n hx hb dX1_chosen_13 rfl (lv_at hl 0 rfl) ?_
    refine gt_M_chosen hx hb hts hin0 hown hK hP hf_16 dX1_chosen_14 ?_
    refine lv_iload_n hx hb dX1_chosen_17 rfl (lv_at hl 1 rfl) ?_
    obtain ⟨g_3, h⟩ := og_some h
    refine ld_M_chosen (F := (m_chosen u)) hx hb hK hP (rq_m_chosen_code u (0 : Int32)) (inb_in g_3) dX1_chosen_18 ?_
    refine lv_goto (tgt := 23) hx hb dX1_chosen_19 (by decide) ?_
    have e9 := Option.some.inj h
    exact W.iret (v := ((m_chosen u) p0.toNatClampNeg)) hx hb hr (fun t ht hW => ⟨⟨((m_chosen u) p0.toNatClampNeg), (ms_code u (0 : Int32)), rfl, ⟨congrArg Prod.fst e9, congrArg Prod.snd e9⟩, by rw [ht]; exact hP, va_K.moved hW.alike hK, hD⟩, hS.F ht⟩) hS.2.2 dX1_chosen_23
set_option maxHeartbeats 4000000 in
set_option maxRecDepth 100000 in
theorem c_X1_blame (l : Launch) (dC : Nat → ClassId) (dI : Nat → Nat → Nat) (hs : Nat → Nat) (ka : Nat → ClassId) (sz : Nat) (fu : Nat) (u : MS) (r : Int32) (u' : MS) (h : pf_X1_blame fu u = some (r, u')) : Met l yX1_blame wzX1_blame ({ frames := 4, cells := 0, slots := 0, locals := 97 }) (va_Pc [.ref (hs 0)] (fun U => U.heap.size = sz ∧ va_P (dC, dI) vwCl (cM hs ka u) U.heap ∧ va_K (dC, dI) vwCl (tM ka) U ∧ va_D (fun _ => True) (cM hs ka u))) (va_Qi (fun (r1 : Int32) (u1 : MS) => r1 = r ∧ u1 = u') (aM dC dI (va_A (cM hs ka u) sz) hs ka) (va_A (cM hs ka u) sz)) 0 0 (va_A (cM hs ka u) sz) := by
  refine Met.ofW (cc := cX1_blame) (maxL := 2) (ret := (some .int)) (by decide) rfl ?_
  intro p e s m args below meth c s₁ B hml hv
  obtain ⟨rfl, hsz, hP, hK, hD0⟩ := hv
  have hx := B.exec
  have hb := B.bytes
  have hr := B.returns
  have hts := atoms_spec (ws := wzX1_blame) B.pre
  have hown : s.vm.findClass RX1 = some m.cls := findClass_of_methodNamed B.named
  have hlocks := B.notSynchronized
  subst hsz
  have hD := hD0.self (sz := s.heap.size)
  generalize hAe : va_A (cM hs ka u) s.heap.size = A at hD ⊢
  have hA : ∀ q : Nat, s.heap.size ≤ q → A q := fun q h => by rw [← hAe]; exact Or.inr h
  have hS : va_S A s.heap s.heap [] := va_S.rf
  have hP : va_P (dC, dI) vwCl (cM hs ka u) s.heap := hP
  clear hD0 hAe
  have hin0 : ∀ w ∈ u_ws RX1 TX1 23, w ∈ wzX1_blame := fun w h => List.mem_cons_of_mem _ (inTX1 w h)
  have hf_125 := hts (.fieldLink RX1 125 "ConflictSolveModel" "blames" "I") (List.mem_cons_of_mem _ tz_260)
  have hf_49 := hts (.fieldLink RX1 49 "ConflictSolveModel" "out" "[Z") (List.mem_cons_of_mem _ tz_256)
  have hf_53 := hts (.fieldLink RX1 53 "ConflictSolveModel" "away" "[Z") (List.mem_cons_of_mem _ tz_257)
  have hf_60 := hts (.fieldLink RX1 60 "ConflictSolveModel" "blamed" "[I") (List.mem_cons_of_mem _ tz_259)
  have hf_63 := hts (.fieldLink RX1 63 "ConflictSolveModel" "code" "I") (List.mem_cons_of_mem _ tz_238)
  have hf_84 := hts (.fieldLink RX1 84 "ConflictSolveModel" "demands" "I") (List.mem_cons_of_mem _ tz_248)
  have hl := lv_entry ([.ref (hs 0)]) (n := 2) (Nat.le_of_ble_eq_true rfl)
  rw [lg_entry_eq]
  generalize (lg_sl ([.ref (hs 0)]) ++ List.replicate (2 - (lg_sl ([.ref (hs 0)])).length) Slot.unset).toArray = ls at hl ⊢
  have hl : lv_has ls 2 [(0, .ref (hs 0))] := hl
  rw [pf_X1_blame] at h
  refine lv_aload_n hx hb dX1_blame_0 rfl (lv_at hl 0 rfl) ?_
  refine lv_iconst (v := (0 : Int32)) hx hb dX1_blame_1 (by decide) ?_
  refine pt_M_code hx hb hts hin0 hown hK hP hD hS hf_63 dX1_blame_2 (fun H locs hP hD hS => ?_)
  refine lv_aload_n hx hb dX1_blame_5 rfl (lv_at hl 0 rfl) ?_
  refine lv_iconst (v := (0 : Int32)) hx hb dX1_blame_6 (by decide) ?_
  refine pt_M_blames hx hb hts hin0 hown hK hP hD hS hf_125 dX1_blame_7 (fun H locs hP hD hS => ?_)
  refine lv_aload_n hx hb dX1_blame_10 rfl (lv_at hl 0 rfl) ?_
  obtain ⟨q_1, hc_1, h⟩ := ob_some h
  have hPc := hP
  have hDc := hD
  have hKc := hK
  have hFc := fr_M hD hS hA
  refine va_callv (va_runV (As := []) (rest := []) ⟨hx, hb, hml, hown, hts⟩ (c_X1_none l dC dI hs ka H.size fu (ms_blames (ms_code u (0 : Int32)) (0 : Int32)) q_1 hc_1) (cwV 0 hts gX1_blame_X1_none rfl rfl rfl (by decide +kernel) ⟨Nat.le_of_ble_eq_true rfl, Nat.le_of_ble_eq_true rfl⟩) ⟨fun a U g mk q => by obtain ⟨q0, q1, qP, qK, qD⟩ := q; exact ⟨q0, q1, qP, va_K.moved (u := U) (U := U.calling g mk a) (Vm.Alike.refl U.vm) qK, qD⟩, rc_M hKc hPc, fun U hU hW => ⟨rfl, by rw [hU], by rw [hU]; exact hPc, va_K.moved hW.alike hKc, hDc.weaken (fun _ _ _ _ => trivial)⟩⟩ rfl rfl hl.1 rfl (lv_room (Nat.le_of_ble_eq_true rfl)) dX1_blame_11 ⟨Nat.zero_le _, Nat.zero_le _⟩) hS (fun q _ h => hFc q h) hFc (fun u_c1 t H1 locs ht hvm hw hB hz1 hk1 hS => ?_)
  subst u_c1
  obtain ⟨hP1, hK1, hD1⟩ := hB
  rw [ht] at hP1
  obtain ⟨hP, hD⟩ := jw_M hP hD hk1 hFc hP1 hD1
  clear hPc hDc hKc hFc hz1 hk1 hP1 hK1 hD1
  generalize H1 = H at hP hS ⊢
  refine lv_aload_n hx hb dX1_blame_14 rfl (lv_at hl 0 rfl) ?_
  refine lv_iconst (v := (-1 : Int32)) hx hb dX1_blame_15 (by decide) ?_
  refine lv_iconst (v := (-1 : Int32)) hx hb dX1_blame_16 (by decide) ?_
  obtain ⟨q_2, hc_2, h⟩ := ob_some h
  have hPc := hP
  have hDc := hD
  have hKc := hK
  have hFc := fr_M hD hS hA
  refine va_calli (va_runV (As := [.int (-1 : Int32), .int (-1 : Int32)]) (rest := []) ⟨hx, hb, hml, hown, hts⟩ (c_X1_search l dC dI hs ka H.size fu q_1 (-1 : Int32) (-1 : Int32) q_2.1 q_2.2 hc_2) (cwV 2 hts gX1_blame_X1_search rfl rfl rfl (by decide +kernel) ⟨Nat.le_of_ble_eq_true rfl, Nat.le_of_ble_eq_true rfl⟩) ⟨fun a U g mk q => by obtain ⟨q0, q1, qP, qK, qD⟩ := q; exact ⟨q0, q1, qP, va_K.moved (u := U) (U := U.calling g mk a) (Vm.Alike.refl U.vm) qK, qD⟩, rc_M hKc hPc, fun U hU hW => ⟨rfl, by rw [hU], by rw [hU]; exact hPc, va_K.moved hW.alike hKc, hDc.weaken (fun _ _ _ _ => trivial)⟩⟩ rfl rfl hl.1 rfl (lv_room (Nat.le_of_ble_eq_true rfl)) dX1_blame_17 ⟨Nat.zero_le _, Nat.zero_le _⟩) hS (fun q _ h => hFc q h) hFc (fun r_2 u_c2 t H1 locs ht hvm hw hB hz1 hk1 hS => ?_)
  obtain ⟨hw1, hw2⟩ := hw
  subst r_2
  subst u_c2
  obtain ⟨hP1, hK1, hD1⟩ := hB
  rw [ht] at hP1
  obtain ⟨hP, hD⟩ := jw_M hP hD hk1 hFc hP1 hD1
  clear hPc hDc hKc hFc hz1 hk1 hP1 hK1 hD1
  generalize H1 = H at hP hS ⊢
  refine lv_if_eq (tgt := 25) hx hb dX1_blame_20 (by decide) (fun c_3 => ?_) (fun c_3 => ?_)
  · rw [if_pos c_3] at h
    refine lv_iconst (v := (0 : Int32)) hx hb dX1_blame_25 (by decide) ?_
    refine lv_istore_n (lv' := [(1, .int (0 : Int32)), (0, .ref (hs 0))]) hx hb dX1_blame_26 rfl hl (by decide) rfl (fun ls hl => ?_)
    have lp_27 : ∀ K_27 : Int32 → MS → Option (Int32 × MS), (∀ (x1_27 : Int32) (u_27 : MS) (H : Heap) (locs : List Loc) (ls : Array Slot), K_27 x1_27 u_27 = some (r, u') → va_P (dC, dI) vwCl (cM hs ka u_27) H → va_D A (cM hs ka u_27) → va_S A s.heap H locs → lv_has ls 2 [(1, .int x1_27), (0, .ref (hs 0))] → W p l e (headSpec wzX1_blame ({ frames := 4, cells := 0, slots := 0, locals := 97 })).room s m ([.ref (hs 0)] : List Value).toArray below meth c H locs 0 0 (MQ below (va_Qi (fun (r1 : Int32) (u1 : MS) => r1 = r ∧ u1 = u') (aM dC dI A hs ka) A) ([.ref (hs 0)] : List Value).toArray s 0 0 A) (F0 m 99 ls [])) → ∀ n_27 : Nat, ∀ (x1_27 : Int32) (u_27 : MS) (H : Heap) (locs : List Loc) (ls : Array Slot), pl_X1_blame_27 fu K_27 n_27 x1_27 u_27 = some (r, u') → va_P (dC, dI) vwCl (cM hs ka u_27) H → va_D A (cM hs ka u_27) → va_S A s.heap H locs → lv_has ls 2 [(1, .int x1_27), (0, .ref (hs 0))] → W p l e (headSpec wzX1_blame ({ frames := 4, cells := 0, slots := 0, locals := 97 })).room s m ([.ref (hs 0)] : List Value).toArray below meth c H locs 0 0 (MQ below (va_Qi (fun (r1 : Int32) (u1 : MS) => r1 = r ∧ u1 = u') (aM dC dI A hs ka) A) ([.ref (hs 0)] : List Value).toArray s 0 0 A) (F0 m 27 ls []) := by
      intro K_27 hk_27 n_27
      induction n_27 with
      | zero =>
        intro x1_27 u_27 H locs ls h
        exact absurd (show (none : Option (Int32 × MS)) = some (r, u') from h) (fun q => by cases q)
      | succ n_27 ih_27 =>
        intro x1_27 u_27 H locs ls h hP hD hS hl
        rw [pl_X1_blame_27] at h
        refine lv_iload_n hx hb dX1_blame_27 rfl (lv_at hl 0 rfl) ?_
        refine lv_aload_n hx hb dX1_blame_28 rfl (lv_at hl 1 rfl) ?_
        refine gt_M_demands (V := (m_demands u_27)) hx hb hts hin0 hown hK hP hf_84 rfl dX1_blame_29 ?_
        refine lv_icmp_ge (tgt := 99) hx hb dX1_blame_32 (by decide) (fun c_4 => ?_) (fun c_4 => ?_)
        · rw [if_pos c_4] at h
          exact hk_27 x1_27 u_27 _ _ _ h hP hD hS (lv_sub hl [0, 1] rfl)
        · rw [if_neg c_4] at h
          refine lv_aload_n hx hb dX1_blame_35 rfl (lv_at hl 1 rfl) ?_
          refine gt_M_out hx hb hts hin0 hown hK hP hf_49 dX1_blame_36 ?_
          refine lv_iload_n hx hb dX1_blame_39 rfl (lv_at hl 0 rfl) ?_
          obtain ⟨g_5, h⟩ := og_some h
          refine ld_M_out (F := (m_out u_27)) hx hb hK hP rfl (inb_in g_5) dX1_blame_40 ?_
          refine lv_if_eq (tgt := 47) hx hb dX1_blame_41 (by decide) (fun c_6 => ?_) (fun c_6 => ?_)
          · rw [if_pos c_6] at h
            refine lv_aload_n hx hb dX1_blame_47 rfl (lv_at hl 1 rfl) ?_
            refine gt_M_away hx hb hts hin0 hown hK hP hf_53 dX1_blame_48 ?_
            refine lv_iload_n hx hb dX1_blame_51 rfl (lv_at hl 0 rfl) ?_
            refine lv_iconst (v := (1 : Int32)) hx hb dX1_blame_52 (by decide) ?_
            obtain ⟨g_7, h⟩ := og_some h
            refine sr_M_away (F := (m_away u_27)) hx hb hK hP hD hS rfl (inb_in g_7) dX1_blame_53 (fun H locs hP hD hS => ?_)
            refine lv_aload_n hx hb dX1_blame_54 rfl (lv_at hl 1 rfl) ?_
            refine lv_iconst (v := (-1 : Int32)) hx hb dX1_blame_55 (by decide) ?_
            refine lv_iconst (v := (-1 : Int32)) hx hb dX1_blame_56 (by decide) ?_
            obtain ⟨q_8, hc_8, h⟩ := ob_some h
            have hPc := hP
            have hDc := hD
            have hKc := hK
            have hFc := fr_M hD hS hA
            refine va_calli (va_runV (As := [.int (-1 : Int32), .int (-1 : Int32)]) (rest := []) ⟨hx, hb, hml, hown, hts⟩ (c_X1_search l dC dI hs ka H.size fu (ms_away u_27 (upd (m_away u_27) x1_27.toNatClampNeg (vp_nar .boolean (1 : Int32)))) (-1 : Int32) (-1 : Int32) q_8.1 q_8.2 hc_8) (cwV 2 hts gX1_blame_X1_search rfl rfl rfl (by decide +kernel) ⟨Nat.le_of_ble_eq_true rfl, Nat.le_of_ble_eq_true rfl⟩) ⟨fun a U g mk q => by obtain ⟨q0, q1, qP, qK, qD⟩ := q; exact ⟨q0, q1, qP, va_K.moved (u := U) (U := U.calling g mk a) (Vm.Alike.refl U.vm) qK, qD⟩, rc_M hKc hPc, fun U hU hW => ⟨rfl, by rw [hU], by rw [hU]; exact hPc, va_K.moved hW.alike hKc, hDc.weaken (fun _ _ _ _ => trivial)⟩⟩ rfl rfl hl.1 rfl (lv_room (Nat.le_of_ble_eq_true rfl)) dX1_blame_57 ⟨Nat.zero_le _, Nat.zero_le _⟩) hS (fun q _ h => hFc q h) hFc (fun r_8 u_c8 t H1 locs ht hvm hw hB hz1 hk1 hS => ?_)
            obtain ⟨hw1, hw2⟩ := hw
            subst r_8
            subst u_c8
            obtain ⟨hP1, hK1, hD1⟩ := hB
            rw [ht] at hP1
            obtain ⟨hP, hD⟩ := jw_M hP hD hk1 hFc hP1 hD1
            clear hPc hDc hKc hFc hz1 hk1 hP1 hK1 hD1
            generalize H1 = H at hP hS ⊢
            refine lv_if_ne (tgt := 66) hx hb dX1_blame_60 (by decide) (fun c_9 => ?_) (fun c_9 => ?_)
            · rw [if_neg c_9] at h
              refine lv_aload_n hx hb dX1_blame_66 rfl (lv_at hl 1 rfl) ?_
              refine gt_M_away hx hb hts hin0 hown hK hP hf_53 dX1_blame_67 ?_
              refine lv_iload_n hx hb dX1_blame_70 rfl (lv_at hl 0 rfl) ?_
              refine lv_iconst (v := (0 : Int32)) hx hb dX1_blame_71 (by decide) ?_
              obtain ⟨g_10, h⟩ := og_some h
              refine sr_M_away (F := (m_away q_8.2)) hx hb hK hP hD hS rfl (inb_in g_10) dX1_blame_72 (fun H locs hP hD hS => ?_)
              refine lv_aload_n hx hb dX1_blame_73 rfl (lv_at hl 1 rfl) ?_
              refine gt_M_blamed hx hb hts hin0 hown hK hP hf_60 dX1_blame_74 ?_
              refine lv_aload_n hx hb dX1_blame_77 rfl (lv_at hl 1 rfl) ?_
              refine gt_M_blames (V := (m_blames q_8.2)) hx hb hts hin0 hown hK hP hf_125 (rq_m_blames_away q_8.2 (upd (m_away q_8.2) x1_27.toNatClampNeg (vp_nar .boolean (0 : Int32)))) dX1_blame_78 ?_
              refine lv_iload_n hx hb dX1_blame_81 rfl (lv_at hl 0 rfl) ?_
              obtain ⟨g_11, h⟩ := og_some h
              refine sr_M_blamed (F := (m_blamed q_8.2)) hx hb hK hP hD hS (rq_m_blamed_away q_8.2 (upd (m_away q_8.2) x1_27.toNatClampNeg (vp_nar .boolean (0 : Int32)))) (inb_in g_11) dX1_blame_82 (fun H locs hP hD hS => ?_)
              refine lv_aload_n hx hb dX1_blame_83 rfl (lv_at hl 1 rfl) ?_
              refine lv_dup hx hb dX1_blame_84 rfl ?_
              refine gt_M_blames (V := (m_blames q_8.2)) hx hb hts hin0 hown hK hP hf_125 ((rq_m_blames_blamed (ms_away q_8.2 (upd (m_away q_8.2) x1_27.toNatClampNeg (vp_nar .boolean (0 : Int32)))) (upd (m_blamed q_8.2) (m_blames q_8.2).toNatClampNeg x1_27)).trans (rq_m_blames_away q_8.2 (upd (m_away q_8.2) x1_27.toNatClampNeg (vp_nar .boolean (0 : Int32))))) dX1_blame_85 ?_
              refine lv_iconst (v := (1 : Int32)) hx hb dX1_blame_88 (by decide) ?_
              refine lv_iadd hx hb dX1_blame_89 ?_
              refine pt_M_blames hx hb hts hin0 hown hK hP hD hS hf_125 dX1_blame_90 (fun H locs hP hD hS => ?_)
              refine lv_iinc (v := (x1_27 + (1 : Int32))) (lv' := [(1, .int (x1_27 + (1 : Int32))), (0, .ref (hs 0))]) hx hb dX1_blame_93 hl (k := 0) rfl (congrArg (fun z : Int32 => x1_27 + z) (by decide : Int32.ofInt (1) = (1 : Int32))) (by decide) rfl (fun ls hl => ?_)
              refine lv_goto (tgt := 27) hx hb dX1_blame_96 (by decide) ?_
              exact ih_27 (x1_27 + (1 : Int32)) (ms_blames (ms_blamed (ms_away q_8.2 (upd (m_away q_8.2) x1_27.toNatClampNeg (vp_nar .boolean (0 : Int32)))) (upd (m_blamed q_8.2) (m_blames q_8.2).toNatClampNeg x1_27)) ((m_blames q_8.2) + (1 : Int32))) _ _ _ h hP hD hS (lv_sub hl [0, 1] rfl)
            · rw [if_pos c_9] at h
              refine lv_goto (tgt := 93) hx hb dX1_blame_63 (by decide) ?_
              refine lv_iinc (v := (x1_27 + (1 : Int32))) (lv' := [(1, .int (x1_27 + (1 : Int32))), (0, .ref (hs 0))]) hx hb dX1_blame_93 hl (k := 0) rfl (congrArg (fun z : Int32 => x1_27 + z) (by decide : Int32.ofInt (1) = (1 : Int32))) (by decide) rfl (fun ls hl => ?_)
              refine lv_goto (tgt := 27) hx hb dX1_blame_96 (by decide) ?_
              exact ih_27 (x1_27 + (1 : Int32)) q_8.2 _ _ _ h hP hD hS (lv_sub hl [0, 1] rfl)
          · rw [if_neg c_6] at h
            refine lv_goto (tgt := 93) hx hb dX1_blame_44 (by decide) ?_
            refine lv_iinc (v := (x1_27 + (1 : Int32))) (lv' := [(1, .int (x1_27 + (1 : Int32))), (0, .ref (hs 0))]) hx hb dX1_blame_93 hl (k := 0) rfl (congrArg (fun z : Int32 => x1_27 + z) (by decide : Int32.ofInt (1) = (1 : Int32))) (by decide) rfl (fun ls hl => ?_)
            refine lv_goto (tgt := 27) hx hb dX1_blame_96 (by decide) ?_
            exact ih_27 (x1_27 + (1 : Int32)) u_27 _ _ _ h hP hD hS (lv_sub hl [0, 1] rfl)
    refine lp_27 _ (fun x1_27 u_27 H locs ls h hP hD hS hl => ?_) fu (0 : Int32) q_2.2 _ _ _ h hP hD hS hl
    refine lv_aload_n hx hb dX1_blame_99 rfl (lv_at hl 1 rfl) ?_
    refine gt_M_blames (V := (m_blames u_27)) hx hb hts hin0 hown hK hP hf_125 rfl dX1_blame_100 ?_
    have e9 := Option.some.inj h
    exact W.iret (v := (m_blames u_27)) hx hb hr (fun t ht hW => ⟨⟨(m_blames u_27), u_27, rfl, ⟨congrArg Prod.fst e9, congrArg Prod.snd e9⟩, by rw [ht]; exact hP, va_K.moved hW.alike hK, hD⟩, hS.F ht⟩) hS.2.2 dX1_blame_103
  · rw [if_neg c_3] at h
    refine lv_iconst (v := (0 : Int32)) hx hb dX1_blame_23 (by decide) ?_
    have e9 := Option.some.inj h
    exact W.iret (v := (0 : Int32)) hx hb hr (fun t ht hW => ⟨⟨(0 : Int32), q_2.2, rfl, ⟨congrArg Prod.fst e9, congrArg Prod.snd e9⟩, by rw [ht]; exact hP, va_K.moved hW.alike hK, hD⟩, hS.F ht⟩) hS.2.2 dX1_blame_24
set_option maxHeartbeats 4000000 in
set_option maxRecDepth 100000 in
theorem c_X1_blamed (l : Launch) (dC : Nat → ClassId) (dI : Nat → Nat → Nat) (hs : Nat → Nat) (ka : Nat → ClassId) (sz : Nat) (fu : Nat) (u : MS) (p0 : Int32) (r : Int32) (u' : MS) (h : pf_X1_blamed fu p0 u = some (r, u')) : Met l yX1_blamed wzX1_blamed ({ frames := 0, cells := 0, slots := 0, locals := 0 }) (va_Pc [.ref (hs 0), .int p0] (fun U => U.heap.size = sz ∧ va_P (dC, dI) vwCl (cM hs ka u) U.heap ∧ va_K (dC, dI) vwCl (tM ka) U ∧ va_D (fun _ => True) (cM hs ka u))) (va_Qi (fun (r1 : Int32) (u1 : MS) => r1 = r ∧ u1 = u') (aM dC dI (va_A (cM hs ka u) sz) hs ka) (va_A (cM hs ka u) sz)) 0 0 (va_A (cM hs ka u) sz) := by
  refine Met.ofW (cc := cX1_blamed) (maxL := 2) (ret := (some .int)) (by decide) rfl ?_
  intro p e s m args below meth c s₁ B hml hv
  obtain ⟨rfl, hsz, hP, hK, hD0⟩ := hv
  have hx := B.exec
  have hb := B.bytes
  have hr := B.returns
  have hts := atoms_spec (ws := wzX1_blamed) B.pre
  have hown : s.vm.findClass RX1 = some m.cls := findClass_of_methodNamed B.named
  have hlocks := B.notSynchronized
  subst hsz
  have hD := hD0.self (sz := s.heap.size)
  generalize hAe : va_A (cM hs ka u) s.heap.size = A at hD ⊢
  have hA : ∀ q : Nat, s.heap.size ≤ q → A q := fun q h => by rw [← hAe]; exact Or.inr h
  have hS : va_S A s.heap s.heap [] := va_S.rf
  have hP : va_P (dC, dI) vwCl (cM hs ka u) s.heap := hP
  clear hD0 hAe
  have hin0 : ∀ w ∈ u_ws RX1 TX1 23, w ∈ wzX1_blamed := fun w h => List.mem_cons_of_mem _ (inTX1 w h)
  have hf_125 := hts (.fieldLink RX1 125 "ConflictSolveModel" "blames" "I") (List.mem_cons_of_mem _ tz_260)
  have hf_60 := hts (.fieldLink RX1 60 "ConflictSolveModel" "blamed" "[I") (List.mem_cons_of_mem _ tz_259)
  have hf_63 := hts (.fieldLink RX1 63 "ConflictSolveModel" "code" "I") (List.mem_cons_of_mem _ tz_238)
  have hl := lv_entry ([.ref (hs 0), .int p0]) (n := 2) (Nat.le_of_ble_eq_true rfl)
  rw [lg_entry_eq]
  generalize (lg_sl ([.ref (hs 0), .int p0]) ++ List.replicate (2 - (lg_sl ([.ref (hs 0), .int p0])).length) Slot.unset).toArray = ls at hl ⊢
  have hl : lv_has ls 2 [(0, .ref (hs 0)), (1, .int p0)] := hl
  rw [pf_X1_blamed] at h
  refine lv_aload_n hx hb dX1_blamed_0 rfl (lv_at hl 0 rfl) ?_
  refine lv_iconst (v := (0 : Int32)) hx hb dX1_blamed_1 (by decide) ?_
  refine pt_M_code hx hb hts hin0 hown hK hP hD hS hf_63 dX1_blamed_2 (fun H locs hP hD hS => ?_)
  refine lv_iload_n hx hb dX1_blamed_5 rfl (lv_at hl 1 rfl) ?_
  refine lv_if_lt (tgt := 17) hx hb dX1_blamed_6 (by decide) (fun c_1 => ?_) (fun c_1 => ?_)
  · rw [if_pos c_1] at h
    refine lv_iconst (v := (-1 : Int32)) hx hb dX1_blamed_17 (by decide) ?_
    refine lv_goto (tgt := 27) hx hb dX1_blamed_18 (by decide) ?_
    have e9 := Option.some.inj h
    exact W.iret (v := (-1 : Int32)) hx hb hr (fun t ht hW => ⟨⟨(-1 : Int32), (ms_code u (0 : Int32)), rfl, ⟨congrArg Prod.fst e9, congrArg Prod.snd e9⟩, by rw [ht]; exact hP, va_K.moved hW.alike hK, hD⟩, hS.F ht⟩) hS.2.2 dX1_blamed_27
  · rw [if_neg c_1] at h
    refine lv_iload_n hx hb dX1_blamed_9 rfl (lv_at hl 1 rfl) ?_
    refine lv_aload_n hx hb dX1_blamed_10 rfl (lv_at hl 0 rfl) ?_
    refine gt_M_blames (V := (m_blames u)) hx hb hts hin0 hown hK hP hf_125 (rq_m_blames_code u (0 : Int32)) dX1_blamed_11 ?_
    refine lv_icmp_lt (tgt := 21) hx hb dX1_blamed_14 (by decide) (fun c_2 => ?_) (fun c_2 => ?_)
    · rw [if_pos c_2] at h
      refine lv_aload_n hx hb dX1_blamed_21 rfl (lv_at hl 0 rfl) ?_
      refine gt_M_blamed hx hb hts hin0 hown hK hP hf_60 dX1_blamed_22 ?_
      refine lv_iload_n hx hb dX1_blamed_25 rfl (lv_at hl 1 rfl) ?_
      obtain ⟨g_3, h⟩ := og_some h
      refine ld_M_blamed (F := (m_blamed u)) hx hb hK hP (rq_m_blamed_code u (0 : Int32)) (inb_in g_3) dX1_blamed_26 ?_
      have e9 := Option.some.inj h
      exact W.iret (v := ((m_blamed u) p0.toNatClampNeg)) hx hb hr (fun t ht hW => ⟨⟨((m_blamed u) p0.toNatClampNeg), (ms_code u (0 : Int32)), rfl, ⟨congrArg Prod.fst e9, congrArg Prod.snd e9⟩, by rw [ht]; exact hP, va_K.moved hW.alike hK, hD⟩, hS.F ht⟩) hS.2.2 dX1_blamed_27
    · rw [if_neg c_2] at h
      refine lv_iconst (v := (-1 : Int32)) hx hb dX1_blamed_17 (by decide) ?_
      refine lv_goto (tgt := 27) hx hb dX1_blamed_18 (by decide) ?_
      have e9 := Option.some.inj h
      exact W.iret (v := (-1 : Int32)) hx hb hr (fun t ht hW => ⟨⟨(-1 : Int32), (ms_code u (0 : Int32)), rfl, ⟨congrArg Prod.fst e9, congrArg Prod.snd e9⟩, by rw [ht]; exact hP, va_K.moved hW.alike hK, hD⟩, hS.F ht⟩) hS.2.2 dX1_blamed_27
set_option maxHeartbeats 4000000 in
set_option maxRecDepth 100000 in
theorem c_X1_can (l : Launch) (dC : Nat → ClassId) (dI : Nat → Nat → Nat) (hs : Nat → Nat) (ka : Nat → ClassId) (sz : Nat) (fu : Nat) (u : MS) (p0 : Int32) (p1 : Int32) (r : Int32) (u' : MS) (h : pf_X1_can fu p0 p1 u = some (r, u')) : Met l yX1_can wzX1_can ({ frames := 4, cells := 0, slots := 0, locals := 97 }) (va_Pc [.ref (hs 0), .int p0, .int p1] (fun U => U.heap.size = sz ∧ va_P (dC, dI) vwCl (cM hs ka u) U.heap ∧ va_K (dC, dI) vwCl (tM ka) U ∧ va_D (fun _ => True) (cM hs ka u))) (va_Qi (fun (r1 : Int32) (u1 : MS) => r1 = r ∧ u1 = u') (aM dC dI (va_A (cM hs ka u) sz) hs ka) (va_A (cM hs ka u) sz)) 0 0 (va_A (cM hs ka u) sz) := by
  refine Met.ofW (cc := cX1_can) (maxL := 3) (ret := (some .boolean)) (by decide) rfl ?_
  intro p e s m args below meth c s₁ B hml hv
  obtain ⟨rfl, hsz, hP, hK, hD0⟩ := hv
  have hx := B.exec
  have hb := B.bytes
  have hr := B.returns
  have hts := atoms_spec (ws := wzX1_can) B.pre
  have hown : s.vm.findClass RX1 = some m.cls := findClass_of_methodNamed B.named
  have hlocks := B.notSynchronized
  subst hsz
  have hD := hD0.self (sz := s.heap.size)
  generalize hAe : va_A (cM hs ka u) s.heap.size = A at hD ⊢
  have hA : ∀ q : Nat, s.heap.size ≤ q → A q := fun q h => by rw [← hAe]; exact Or.inr h
  have hS : va_S A s.heap s.heap [] := va_S.rf
  have hP : va_P (dC, dI) vwCl (cM hs ka u) s.heap := hP
  clear hD0 hAe
  have hin0 : ∀ w ∈ u_ws RX1 TX1 23, w ∈ wzX1_can := fun w h => List.mem_cons_of_mem _ (inTX1 w h)
  have hf_63 := hts (.fieldLink RX1 63 "ConflictSolveModel" "code" "I") (List.mem_cons_of_mem _ tz_238)
  have hl := lv_entry ([.ref (hs 0), .int p0, .int p1]) (n := 3) (Nat.le_of_ble_eq_true rfl)
  rw [lg_entry_eq]
  generalize (lg_sl ([.ref (hs 0), .int p0, .int p1]) ++ List.replicate (3 - (lg_sl ([.ref (hs 0), .int p0, .int p1])).length) Slot.unset).toArray = ls at hl ⊢
  have hl : lv_has ls 3 [(0, .ref (hs 0)), (1, .int p0), (2, .int p1)] := hl
  rw [pf_X1_can] at h
  refine lv_aload_n hx hb dX1_can_0 rfl (lv_at hl 0 rfl) ?_
  refine lv_iconst (v := (0 : Int32)) hx hb dX1_can_1 (by decide) ?_
  refine pt_M_code hx hb hts hin0 hown hK hP hD hS hf_63 dX1_can_2 (fun H locs hP hD hS => ?_)
  refine lv_aload_n hx hb dX1_can_5 rfl (lv_at hl 0 rfl) ?_
  refine lv_iload_n hx hb dX1_can_6 rfl (lv_at hl 1 rfl) ?_
  have hPc := hP
  have hDc := hD
  have hKc := hK
  have hFc := fr_M hD hS hA
  refine va_calli (va_runV (As := [.int p0]) (rest := []) ⟨hx, hb, hml, hown, hts⟩ (c_X1_isPackage l dC dI hs ka H.size (ms_code u (0 : Int32)) p0 _ rfl) (cwV 1 hts gX1_can_X1_isPackage rfl rfl rfl (by decide +kernel) ⟨Nat.le_of_ble_eq_true rfl, Nat.le_of_ble_eq_true rfl⟩) ⟨fun a U g mk q => by obtain ⟨q0, q1, qP, qK, qD⟩ := q; exact ⟨q0, q1, qP, va_K.moved (u := U) (U := U.calling g mk a) (Vm.Alike.refl U.vm) qK, qD⟩, rc_M hKc hPc, fun U hU hW => ⟨rfl, by rw [hU], by rw [hU]; exact hPc, va_K.moved hW.alike hKc, hDc.weaken (fun _ _ _ _ => trivial)⟩⟩ rfl rfl hl.1 rfl (lv_room (Nat.le_of_ble_eq_true rfl)) dX1_can_7 ⟨Nat.zero_le _, Nat.zero_le _⟩) hS (fun q _ h => hFc q h) hFc (fun r_1 u_c1 t H1 locs ht hvm hw hB hz1 hk1 hS => ?_)
  obtain ⟨hw1, hw2⟩ := hw
  subst r_1
  subst u_c1
  obtain ⟨hP1, hK1, hD1⟩ := hB
  rw [ht] at hP1
  obtain ⟨hP, hD⟩ := jw_M hP hD hk1 hFc hP1 hD1
  clear hPc hDc hKc hFc hz1 hk1 hP1 hK1 hD1
  generalize H1 = H at hP hS ⊢
  refine lv_if_eq (tgt := 27) hx hb dX1_can_10 (by decide) (fun c_2 => ?_) (fun c_2 => ?_)
  · rw [if_pos c_2] at h
    refine lv_iconst (v := (0 : Int32)) hx hb dX1_can_27 (by decide) ?_
    have e9 := Option.some.inj h
    exact W.zret (v := (0 : Int32)) hx hb hr rfl (fun t ht hW => ⟨⟨(0 : Int32), (ms_code u (0 : Int32)), rfl, ⟨congrArg Prod.fst e9, congrArg Prod.snd e9⟩, by rw [ht]; exact hP, va_K.moved hW.alike hK, hD⟩, hS.F ht⟩) hS.2.2 dX1_can_28
  · rw [if_neg c_2] at h
    refine lv_iload_n hx hb dX1_can_13 rfl (lv_at hl 2 rfl) ?_
    refine lv_iconst (v := (-1 : Int32)) hx hb dX1_can_14 (by decide) ?_
    refine lv_icmp_eq (tgt := 29) hx hb dX1_can_15 (by decide) (fun c_3 => ?_) (fun c_3 => ?_)
    · rw [if_pos c_3] at h
      refine lv_aload_n hx hb dX1_can_29 rfl (lv_at hl 0 rfl) ?_
      obtain ⟨q_4, hc_4, h⟩ := ob_some h
      have hPc := hP
      have hDc := hD
      have hKc := hK
      have hFc := fr_M hD hS hA
      refine va_callv (va_runV (As := []) (rest := []) ⟨hx, hb, hml, hown, hts⟩ (c_X1_none l dC dI hs ka H.size fu (ms_code u (0 : Int32)) q_4 hc_4) (cwV 0 hts gX1_can_X1_none rfl rfl rfl (by decide +kernel) ⟨Nat.le_of_ble_eq_true rfl, Nat.le_of_ble_eq_true rfl⟩) ⟨fun a U g mk q => by obtain ⟨q0, q1, qP, qK, qD⟩ := q; exact ⟨q0, q1, qP, va_K.moved (u := U) (U := U.calling g mk a) (Vm.Alike.refl U.vm) qK, qD⟩, rc_M hKc hPc, fun U hU hW => ⟨rfl, by rw [hU], by rw [hU]; exact hPc, va_K.moved hW.alike hKc, hDc.weaken (fun _ _ _ _ => trivial)⟩⟩ rfl rfl hl.1 rfl (lv_room (Nat.le_of_ble_eq_true rfl)) dX1_can_30 ⟨Nat.zero_le _, Nat.zero_le _⟩) hS (fun q _ h => hFc q h) hFc (fun u_c4 t H1 locs ht hvm hw hB hz1 hk1 hS => ?_)
      subst u_c4
      obtain ⟨hP1, hK1, hD1⟩ := hB
      rw [ht] at hP1
      obtain ⟨hP, hD⟩ := jw_M hP hD hk1 hFc hP1 hD1
      clear hPc hDc hKc hFc hz1 hk1 hP1 hK1 hD1
      generalize H1 = H at hP hS ⊢
      refine lv_aload_n hx hb dX1_can_33 rfl (lv_at hl 0 rfl) ?_
      refine lv_iload_n hx hb dX1_can_34 rfl (lv_at hl 1 rfl) ?_
      refine lv_iload_n hx hb dX1_can_35 rfl (lv_at hl 2 rfl) ?_
      obtain ⟨q_5, hc_5, h⟩ := ob_some h
      have hPc := hP
      have hDc := hD
      have hKc := hK
      have hFc := fr_M hD hS hA
      refine va_calli (va_runV (As := [.int p0, .int p1]) (rest := []) ⟨hx, hb, hml, hown, hts⟩ (c_X1_search l dC dI hs ka H.size fu q_4 p0 p1 q_5.1 q_5.2 hc_5) (cwV 2 hts gX1_can_X1_search rfl rfl rfl (by decide +kernel) ⟨Nat.le_of_ble_eq_true rfl, Nat.le_of_ble_eq_true rfl⟩) ⟨fun a U g mk q => by obtain ⟨q0, q1, qP, qK, qD⟩ := q; exact ⟨q0, q1, qP, va_K.moved (u := U) (U := U.calling g mk a) (Vm.Alike.refl U.vm) qK, qD⟩, rc_M hKc hPc, fun U hU hW => ⟨rfl, by rw [hU], by rw [hU]; exact hPc, va_K.moved hW.alike hKc, hDc.weaken (fun _ _ _ _ => trivial)⟩⟩ rfl rfl hl.1 rfl (lv_room (Nat.le_of_ble_eq_true rfl)) dX1_can_36 ⟨Nat.zero_le _, Nat.zero_le _⟩) hS (fun q _ h => hFc q h) hFc (fun r_5 u_c5 t H1 locs ht hvm hw hB hz1 hk1 hS => ?_)
      obtain ⟨hw1, hw2⟩ := hw
      subst r_5
      subst u_c5
      obtain ⟨hP1, hK1, hD1⟩ := hB
      rw [ht] at hP1
      obtain ⟨hP, hD⟩ := jw_M hP hD hk1 hFc hP1 hD1
      clear hPc hDc hKc hFc hz1 hk1 hP1 hK1 hD1
      generalize H1 = H at hP hS ⊢
      obtain ⟨g_6, h⟩ := og_some h
      have e9 := Option.some.inj h
      exact W.zret (v := q_5.1) hx hb hr (bz_n g_6) (fun t ht hW => ⟨⟨q_5.1, q_5.2, rfl, ⟨congrArg Prod.fst e9, congrArg Prod.snd e9⟩, by rw [ht]; exact hP, va_K.moved hW.alike hK, hD⟩, hS.F ht⟩) hS.2.2 dX1_can_39
    · rw [if_neg c_3] at h
      refine lv_aload_n hx hb dX1_can_18 rfl (lv_at hl 0 rfl) ?_
      refine lv_iload_n hx hb dX1_can_19 rfl (lv_at hl 1 rfl) ?_
      refine lv_iload_n hx hb dX1_can_20 rfl (lv_at hl 2 rfl) ?_
      obtain ⟨q_7, hc_7, h⟩ := ob_some h
      have hPc := hP
      have hDc := hD
      have hKc := hK
      have hFc := fr_M hD hS hA
      refine va_calli (va_runV (As := [.int p0, .int p1]) (rest := []) ⟨hx, hb, hml, hown, hts⟩ (c_X1_isVersion l dC dI hs ka H.size fu (ms_code u (0 : Int32)) p0 p1 q_7 hc_7) (cwV 2 hts gX1_can_X1_isVersion rfl rfl rfl (by decide +kernel) ⟨Nat.le_of_ble_eq_true rfl, Nat.le_of_ble_eq_true rfl⟩) ⟨fun a U g mk q => by obtain ⟨q0, q1, qP, qK, qD⟩ := q; exact ⟨q0, q1, qP, va_K.moved (u := U) (U := U.calling g mk a) (Vm.Alike.refl U.vm) qK, qD⟩, rc_M hKc hPc, fun U hU hW => ⟨rfl, by rw [hU], by rw [hU]; exact hPc, va_K.moved hW.alike hKc, hDc.weaken (fun _ _ _ _ => trivial)⟩⟩ rfl rfl hl.1 rfl (lv_room (Nat.le_of_ble_eq_true rfl)) dX1_can_21 ⟨Nat.zero_le _, Nat.zero_le _⟩) hS (fun q _ h => hFc q h) hFc (fun r_7 u_c7 t H1 locs ht hvm hw hB hz1 hk1 hS => ?_)
      obtain ⟨hw1, hw2⟩ := hw
      subst r_7
      subst u_c7
      obtain ⟨hP1, hK1, hD1⟩ := hB
      rw [ht] at hP1
      obtain ⟨hP, hD⟩ := jw_M hP hD hk1 hFc hP1 hD1
      clear hPc hDc hKc hFc hz1 hk1 hP1 hK1 hD1
      generalize H1 = H at hP hS ⊢
      refine lv_if_ne (tgt := 29) hx hb dX1_can_24 (by decide) (fun c_8 => ?_) (fun c_8 => ?_)
      · rw [if_neg c_8] at h
        refine lv_aload_n hx hb dX1_can_29 rfl (lv_at hl 0 rfl) ?_
        obtain ⟨q_9, hc_9, h⟩ := ob_some h
        have hPc := hP
        have hDc := hD
        have hKc := hK
        have hFc := fr_M hD hS hA
        refine va_callv (va_runV (As := []) (rest := []) ⟨hx, hb, hml, hown, hts⟩ (c_X1_none l dC dI hs ka H.size fu (ms_code u (0 : Int32)) q_9 hc_9) (cwV 0 hts gX1_can_X1_none rfl rfl rfl (by decide +kernel) ⟨Nat.le_of_ble_eq_true rfl, Nat.le_of_ble_eq_true rfl⟩) ⟨fun a U g mk q => by obtain ⟨q0, q1, qP, qK, qD⟩ := q; exact ⟨q0, q1, qP, va_K.moved (u := U) (U := U.calling g mk a) (Vm.Alike.refl U.vm) qK, qD⟩, rc_M hKc hPc, fun U hU hW => ⟨rfl, by rw [hU], by rw [hU]; exact hPc, va_K.moved hW.alike hKc, hDc.weaken (fun _ _ _ _ => trivial)⟩⟩ rfl rfl hl.1 rfl (lv_room (Nat.le_of_ble_eq_true rfl)) dX1_can_30 ⟨Nat.zero_le _, Nat.zero_le _⟩) hS (fun q _ h => hFc q h) hFc (fun u_c9 t H1 locs ht hvm hw hB hz1 hk1 hS => ?_)
        subst u_c9
        obtain ⟨hP1, hK1, hD1⟩ := hB
        rw [ht] at hP1
        obtain ⟨hP, hD⟩ := jw_M hP hD hk1 hFc hP1 hD1
        clear hPc hDc hKc hFc hz1 hk1 hP1 hK1 hD1
        generalize H1 = H at hP hS ⊢
        refine lv_aload_n hx hb dX1_can_33 rfl (lv_at hl 0 rfl) ?_
        refine lv_iload_n hx hb dX1_can_34 rfl (lv_at hl 1 rfl) ?_
        refine lv_iload_n hx hb dX1_can_35 rfl (lv_at hl 2 rfl) ?_
        obtain ⟨q_10, hc_10, h⟩ := ob_some h
        have hPc := hP
        have hDc := hD
        have hKc := hK
        have hFc := fr_M hD hS hA
        refine va_calli (va_runV (As := [.int p0, .int p1]) (rest := []) ⟨hx, hb, hml, hown, hts⟩ (c_X1_search l dC dI hs ka H.size fu q_9 p0 p1 q_10.1 q_10.2 hc_10) (cwV 2 hts gX1_can_X1_search rfl rfl rfl (by decide +kernel) ⟨Nat.le_of_ble_eq_true rfl, Nat.le_of_ble_eq_true rfl⟩) ⟨fun a U g mk q => by obtain ⟨q0, q1, qP, qK, qD⟩ := q; exact ⟨q0, q1, qP, va_K.moved (u := U) (U := U.calling g mk a) (Vm.Alike.refl U.vm) qK, qD⟩, rc_M hKc hPc, fun U hU hW => ⟨rfl, by rw [hU], by rw [hU]; exact hPc, va_K.moved hW.alike hKc, hDc.weaken (fun _ _ _ _ => trivial)⟩⟩ rfl rfl hl.1 rfl (lv_room (Nat.le_of_ble_eq_true rfl)) dX1_can_36 ⟨Nat.zero_le _, Nat.zero_le _⟩) hS (fun q _ h => hFc q h) hFc (fun r_10 u_c10 t H1 locs ht hvm hw hB hz1 hk1 hS => ?_)
        obtain ⟨hw1, hw2⟩ := hw
        subst r_10
        subst u_c10
        obtain ⟨hP1, hK1, hD1⟩ := hB
        rw [ht] at hP1
        obtain ⟨hP, hD⟩ := jw_M hP hD hk1 hFc hP1 hD1
        clear hPc hDc hKc hFc hz1 hk1 hP1 hK1 hD1
        generalize H1 = H at hP hS ⊢
        obtain ⟨g_11, h⟩ := og_some h
        have e9 := Option.some.inj h
        exact W.zret (v := q_10.1) hx hb hr (bz_n g_11) (fun t ht hW => ⟨⟨q_10.1, q_10.2, rfl, ⟨congrArg Prod.fst e9, congrArg Prod.snd e9⟩, by rw [ht]; exact hP, va_K.moved hW.alike hK, hD⟩, hS.F ht⟩) hS.2.2 dX1_can_39
      · rw [if_pos c_8] at h
        refine lv_iconst (v := (0 : Int32)) hx hb dX1_can_27 (by decide) ?_
        have e9 := Option.some.inj h
        exact W.zret (v := (0 : Int32)) hx hb hr rfl (fun t ht hW => ⟨⟨(0 : Int32), (ms_code u (0 : Int32)), rfl, ⟨congrArg Prod.fst e9, congrArg Prod.snd e9⟩, by rw [ht]; exact hP, va_K.moved hW.alike hK, hD⟩, hS.F ht⟩) hS.2.2 dX1_can_28
set_option maxHeartbeats 4000000 in
set_option maxRecDepth 100000 in
theorem c_X1_must (l : Launch) (dC : Nat → ClassId) (dI : Nat → Nat → Nat) (hs : Nat → Nat) (ka : Nat → ClassId) (sz : Nat) (fu : Nat) (u : MS) (p0 : Int32) (r : Int32) (u' : MS) (h : pf_X1_must fu p0 u = some (r, u')) : Met l yX1_must wzX1_must ({ frames := 4, cells := 0, slots := 0, locals := 97 }) (va_Pc [.ref (hs 0), .int p0] (fun U => U.heap.size = sz ∧ va_P (dC, dI) vwCl (cM hs ka u) U.heap ∧ va_K (dC, dI) vwCl (tM ka) U ∧ va_D (fun _ => True) (cM hs ka u))) (va_Qi (fun (r1 : Int32) (u1 : MS) => r1 = r ∧ u1 = u') (aM dC dI (va_A (cM hs ka u) sz) hs ka) (va_A (cM hs ka u) sz)) 0 0 (va_A (cM hs ka u) sz) := by
  refine Met.ofW (cc := cX1_must) (maxL := 2) (ret := (some .boolean)) (by decide) rfl ?_
  intro p e s m args below meth c s₁ B hml hv
  obtain ⟨rfl, hsz, hP, hK, hD0⟩ := hv
  have hx := B.exec
  have hb := B.bytes
  have hr := B.returns
  have hts := atoms_spec (ws := wzX1_must) B.pre
  have hown : s.vm.findClass RX1 = some m.cls := findClass_of_methodNamed B.named
  have hlocks := B.notSynchronized
  subst hsz
  have hD := hD0.self (sz := s.heap.size)
  generalize hAe : va_A (cM hs ka u) s.heap.size = A at hD ⊢
  have hA : ∀ q : Nat, s.heap.size ≤ q → A q := fun q h => by rw [← hAe]; exact Or.inr h
  have hS : va_S A s.heap s.heap [] := va_S.rf
  have hP : va_P (dC, dI) vwCl (cM hs ka u) s.heap := hP
  clear hD0 hAe
  have hin0 : ∀ w ∈ u_ws RX1 TX1 23, w ∈ wzX1_must := fun w h => List.mem_cons_of_mem _ (inTX1 w h)
  have hf_63 := hts (.fieldLink RX1 63 "ConflictSolveModel" "code" "I") (List.mem_cons_of_mem _ tz_238)
  have hl := lv_entry ([.ref (hs 0), .int p0]) (n := 2) (Nat.le_of_ble_eq_true rfl)
  rw [lg_entry_eq]
  generalize (lg_sl ([.ref (hs 0), .int p0]) ++ List.replicate (2 - (lg_sl ([.ref (hs 0), .int p0])).length) Slot.unset).toArray = ls at hl ⊢
  have hl : lv_has ls 2 [(0, .ref (hs 0)), (1, .int p0)] := hl
  rw [pf_X1_must] at h
  refine lv_aload_n hx hb dX1_must_0 rfl (lv_at hl 0 rfl) ?_
  refine lv_iconst (v := (0 : Int32)) hx hb dX1_must_1 (by decide) ?_
  refine pt_M_code hx hb hts hin0 hown hK hP hD hS hf_63 dX1_must_2 (fun H locs hP hD hS => ?_)
  refine lv_aload_n hx hb dX1_must_5 rfl (lv_at hl 0 rfl) ?_
  refine lv_iload_n hx hb dX1_must_6 rfl (lv_at hl 1 rfl) ?_
  have hPc := hP
  have hDc := hD
  have hKc := hK
  have hFc := fr_M hD hS hA
  refine va_calli (va_runV (As := [.int p0]) (rest := []) ⟨hx, hb, hml, hown, hts⟩ (c_X1_isPackage l dC dI hs ka H.size (ms_code u (0 : Int32)) p0 _ rfl) (cwV 1 hts gX1_must_X1_isPackage rfl rfl rfl (by decide +kernel) ⟨Nat.le_of_ble_eq_true rfl, Nat.le_of_ble_eq_true rfl⟩) ⟨fun a U g mk q => by obtain ⟨q0, q1, qP, qK, qD⟩ := q; exact ⟨q0, q1, qP, va_K.moved (u := U) (U := U.calling g mk a) (Vm.Alike.refl U.vm) qK, qD⟩, rc_M hKc hPc, fun U hU hW => ⟨rfl, by rw [hU], by rw [hU]; exact hPc, va_K.moved hW.alike hKc, hDc.weaken (fun _ _ _ _ => trivial)⟩⟩ rfl rfl hl.1 rfl (lv_room (Nat.le_of_ble_eq_true rfl)) dX1_must_7 ⟨Nat.zero_le _, Nat.zero_le _⟩) hS (fun q _ h => hFc q h) hFc (fun r_1 u_c1 t H1 locs ht hvm hw hB hz1 hk1 hS => ?_)
  obtain ⟨hw1, hw2⟩ := hw
  subst r_1
  subst u_c1
  obtain ⟨hP1, hK1, hD1⟩ := hB
  rw [ht] at hP1
  obtain ⟨hP, hD⟩ := jw_M hP hD hk1 hFc hP1 hD1
  clear hPc hDc hKc hFc hz1 hk1 hP1 hK1 hD1
  generalize H1 = H at hP hS ⊢
  refine lv_if_ne (tgt := 15) hx hb dX1_must_10 (by decide) (fun c_2 => ?_) (fun c_2 => ?_)
  · rw [if_neg c_2] at h
    refine lv_aload_n hx hb dX1_must_15 rfl (lv_at hl 0 rfl) ?_
    obtain ⟨q_3, hc_3, h⟩ := ob_some h
    have hPc := hP
    have hDc := hD
    have hKc := hK
    have hFc := fr_M hD hS hA
    refine va_callv (va_runV (As := []) (rest := []) ⟨hx, hb, hml, hown, hts⟩ (c_X1_none l dC dI hs ka H.size fu (ms_code u (0 : Int32)) q_3 hc_3) (cwV 0 hts gX1_must_X1_none rfl rfl rfl (by decide +kernel) ⟨Nat.le_of_ble_eq_true rfl, Nat.le_of_ble_eq_true rfl⟩) ⟨fun a U g mk q => by obtain ⟨q0, q1, qP, qK, qD⟩ := q; exact ⟨q0, q1, qP, va_K.moved (u := U) (U := U.calling g mk a) (Vm.Alike.refl U.vm) qK, qD⟩, rc_M hKc hPc, fun U hU hW => ⟨rfl, by rw [hU], by rw [hU]; exact hPc, va_K.moved hW.alike hKc, hDc.weaken (fun _ _ _ _ => trivial)⟩⟩ rfl rfl hl.1 rfl (lv_room (Nat.le_of_ble_eq_true rfl)) dX1_must_16 ⟨Nat.zero_le _, Nat.zero_le _⟩) hS (fun q _ h => hFc q h) hFc (fun u_c3 t H1 locs ht hvm hw hB hz1 hk1 hS => ?_)
    subst u_c3
    obtain ⟨hP1, hK1, hD1⟩ := hB
    rw [ht] at hP1
    obtain ⟨hP, hD⟩ := jw_M hP hD hk1 hFc hP1 hD1
    clear hPc hDc hKc hFc hz1 hk1 hP1 hK1 hD1
    generalize H1 = H at hP hS ⊢
    refine lv_aload_n hx hb dX1_must_19 rfl (lv_at hl 0 rfl) ?_
    refine lv_iload_n hx hb dX1_must_20 rfl (lv_at hl 1 rfl) ?_
    refine lv_iconst (v := (-1 : Int32)) hx hb dX1_must_21 (by decide) ?_
    obtain ⟨q_4, hc_4, h⟩ := ob_some h
    have hPc := hP
    have hDc := hD
    have hKc := hK
    have hFc := fr_M hD hS hA
    refine va_calli (va_runV (As := [.int p0, .int (-1 : Int32)]) (rest := []) ⟨hx, hb, hml, hown, hts⟩ (c_X1_search l dC dI hs ka H.size fu q_3 p0 (-1 : Int32) q_4.1 q_4.2 hc_4) (cwV 2 hts gX1_must_X1_search rfl rfl rfl (by decide +kernel) ⟨Nat.le_of_ble_eq_true rfl, Nat.le_of_ble_eq_true rfl⟩) ⟨fun a U g mk q => by obtain ⟨q0, q1, qP, qK, qD⟩ := q; exact ⟨q0, q1, qP, va_K.moved (u := U) (U := U.calling g mk a) (Vm.Alike.refl U.vm) qK, qD⟩, rc_M hKc hPc, fun U hU hW => ⟨rfl, by rw [hU], by rw [hU]; exact hPc, va_K.moved hW.alike hKc, hDc.weaken (fun _ _ _ _ => trivial)⟩⟩ rfl rfl hl.1 rfl (lv_room (Nat.le_of_ble_eq_true rfl)) dX1_must_22 ⟨Nat.zero_le _, Nat.zero_le _⟩) hS (fun q _ h => hFc q h) hFc (fun r_4 u_c4 t H1 locs ht hvm hw hB hz1 hk1 hS => ?_)
    obtain ⟨hw1, hw2⟩ := hw
    subst r_4
    subst u_c4
    obtain ⟨hP1, hK1, hD1⟩ := hB
    rw [ht] at hP1
    obtain ⟨hP, hD⟩ := jw_M hP hD hk1 hFc hP1 hD1
    clear hPc hDc hKc hFc hz1 hk1 hP1 hK1 hD1
    generalize H1 = H at hP hS ⊢
    refine lv_if_ne (tgt := 32) hx hb dX1_must_25 (by decide) (fun c_5 => ?_) (fun c_5 => ?_)
    · rw [if_neg c_5] at h
      refine lv_iconst (v := (0 : Int32)) hx hb dX1_must_32 (by decide) ?_
      have e9 := Option.some.inj h
      exact W.zret (v := (0 : Int32)) hx hb hr rfl (fun t ht hW => ⟨⟨(0 : Int32), q_4.2, rfl, ⟨congrArg Prod.fst e9, congrArg Prod.snd e9⟩, by rw [ht]; exact hP, va_K.moved hW.alike hK, hD⟩, hS.F ht⟩) hS.2.2 dX1_must_33
    · rw [if_pos c_5] at h
      refine lv_iconst (v := (1 : Int32)) hx hb dX1_must_28 (by decide) ?_
      refine lv_goto (tgt := 33) hx hb dX1_must_29 (by decide) ?_
      have e9 := Option.some.inj h
      exact W.zret (v := (1 : Int32)) hx hb hr rfl (fun t ht hW => ⟨⟨(1 : Int32), q_4.2, rfl, ⟨congrArg Prod.fst e9, congrArg Prod.snd e9⟩, by rw [ht]; exact hP, va_K.moved hW.alike hK, hD⟩, hS.F ht⟩) hS.2.2 dX1_must_33
  · rw [if_pos c_2] at h
    refine lv_iconst (v := (0 : Int32)) hx hb dX1_must_13 (by decide) ?_
    have e9 := Option.some.inj h
    exact W.zret (v := (0 : Int32)) hx hb hr rfl (fun t ht hW => ⟨⟨(0 : Int32), (ms_code u (0 : Int32)), rfl, ⟨congrArg Prod.fst e9, congrArg Prod.snd e9⟩, by rw [ht]; exact hP, va_K.moved hW.alike hK, hD⟩, hS.F ht⟩) hS.2.2 dX1_must_14
