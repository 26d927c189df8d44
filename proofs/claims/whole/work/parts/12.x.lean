set_option maxHeartbeats 4000000 in
set_option maxRecDepth 100000 in
theorem c_X0_or (l : Launch) (dC : Nat → ClassId) (dI : Nat → Nat → Nat) (hs : Nat → Nat) (ka : Nat → ClassId) (sz : Nat) (fu : Nat) (u : XS) (p0 : Int32) (p1 : Int32) (r : Int32) (u' : XS) (h : pf_X0_or fu p0 p1 u = some (r, u')) : Met l yX0_or wzX0_or ({ frames := 3, cells := 0, slots := 0, locals := 67 }) (va_Pc [.ref (hs 0), .int p0, .int p1] (fun U => U.heap.size = sz ∧ va_P (dC, dI) vwCl (cX hs ka u) U.heap ∧ va_K (dC, dI) vwCl (tX ka) U ∧ va_D (fun _ => True) (cX hs ka u))) (va_Qi (fun (r1 : Int32) (u1 : XS) => r1 = r ∧ u1 = u') (aX dC dI (va_A (cX hs ka u) sz) hs ka) (va_A (cX hs ka u) sz)) 0 0 (va_A (cX hs ka u) sz) := by
  refine Met.ofW (cc := cX0_or) (maxL := 3) (ret := (some .boolean)) (by decide) rfl ?_
  intro p e s m args below meth c s₁ B hml hv
  obtain ⟨rfl, hsz, hP, hK, hD0⟩ := hv
  have hx := B.exec
  have hb := B.bytes
  have hr := B.returns
  have hts := atoms_spec (ws := wzX0_or) B.pre
  have hown : s.vm.findClass RX0 = some m.cls := findClass_of_methodNamed B.named
  have hlocks := B.notSynchronized
  subst hsz
  have hD := hD0.self (sz := s.heap.size)
  generalize hAe : va_A (cX hs ka u) s.heap.size = A at hD ⊢
  have hA : ∀ q : Nat, s.heap.size ≤ q → A q := fun q h => by rw [← hAe]; exact Or.inr h
  have hS : va_S A s.heap s.heap [] := va_S.rf
  have hP : va_P (dC, dI) vwCl (cX hs ka u) s.heap := hP
  clear hD0 hAe
  have hin0 : ∀ w ∈ u_ws RX0 TX0 14, w ∈ wzX0_or := fun w h => List.mem_cons_of_mem _ (inTX0 w h)
  have hf_72 := hts (.fieldLink RX0 72 "ConflictSolve" "alternativesFree" "I") (List.mem_cons_of_mem _ tz_52)
  have hf_75 := hts (.fieldLink RX0 75 "ConflictSolve" "latestIsDemand" "Z") (List.mem_cons_of_mem _ tz_53)
  have hl := lv_entry ([.ref (hs 0), .int p0, .int p1]) (n := 3) (Nat.le_of_ble_eq_true rfl)
  rw [lg_entry_eq]
  generalize (lg_sl ([.ref (hs 0), .int p0, .int p1]) ++ List.replicate (3 - (lg_sl ([.ref (hs 0), .int p0, .int p1])).length) Slot.unset).toArray = ls at hl ⊢
  have hl : lv_has ls 3 [(0, .ref (hs 0)), (1, .int p0), (2, .int p1)] := hl
  rw [pf_X0_or] at h
  refine lv_aload_n hx hb dX0_or_0 rfl (lv_at hl 0 rfl) ?_
  refine gt_X_alternativesFree (V := (x_alternativesFree u)) hx hb hts hin0 hown hK hP hf_72 rfl dX0_or_1 ?_
  refine lv_if_le (tgt := 15) hx hb dX0_or_4 (by decide) (fun c_1 => ?_) (fun c_1 => ?_)
  · rw [if_pos c_1] at h
    refine lv_iconst (v := (0 : Int32)) hx hb dX0_or_15 (by decide) ?_
    have e9 := Option.some.inj h
    exact W.zret (v := (0 : Int32)) hx hb hr rfl (fun t ht hW => ⟨⟨(0 : Int32), u, rfl, ⟨congrArg Prod.fst e9, congrArg Prod.snd e9⟩, by rw [ht]; exact hP, va_K.moved hW.alike hK, hD⟩, hS.F ht⟩) hS.2.2 dX0_or_16
  · rw [if_neg c_1] at h
    refine lv_aload_n hx hb dX0_or_7 rfl (lv_at hl 0 rfl) ?_
    refine lv_iload_n hx hb dX0_or_8 rfl (lv_at hl 1 rfl) ?_
    have hPc := hP
    have hDc := hD
    have hKc := hK
    have hFc := fr_X hD hS hA
    refine va_calli (va_runV (As := [.int p0]) (rest := []) ⟨hx, hb, hml, hown, hts⟩ (c_X0_hasPack l dC dI hs ka s.heap.size u p0 _ rfl) (cwV 1 hts gX0_or_X0_hasPack rfl rfl rfl (by decide +kernel) ⟨Nat.le_of_ble_eq_true rfl, Nat.le_of_ble_eq_true rfl⟩) ⟨fun a U g mk q => by obtain ⟨q0, q1, qP, qK, qD⟩ := q; exact ⟨q0, q1, qP, va_K.moved (u := U) (U := U.calling g mk a) (Vm.Alike.refl U.vm) qK, qD⟩, rc_X hKc hPc, fun U hU hW => ⟨rfl, by rw [hU], by rw [hU]; exact hPc, va_K.moved hW.alike hKc, hDc.weaken (fun _ _ _ _ => trivial)⟩⟩ rfl rfl hl.1 rfl (lv_room (Nat.le_of_ble_eq_true rfl)) dX0_or_9 ⟨Nat.zero_le _, Nat.zero_le _⟩) hS (fun q _ h => hFc q h) hFc (fun r_2 u_c2 t H1 locs ht hvm hw hB hz1 hk1 hS => ?_)
    obtain ⟨hw1, hw2⟩ := hw
    subst r_2
    subst u_c2
    obtain ⟨hP1, hK1, hD1⟩ := hB
    rw [ht] at hP1
    obtain ⟨hP, hD⟩ := jw_X hP hD hk1 hFc hP1 hD1
    clear hPc hDc hKc hFc hz1 hk1 hP1 hK1 hD1
    generalize H1 = H at hP hS ⊢
    refine lv_if_ne (tgt := 17) hx hb dX0_or_12 (by decide) (fun c_3 => ?_) (fun c_3 => ?_)
    · rw [if_neg c_3] at h
      refine lv_aload_n hx hb dX0_or_17 rfl (lv_at hl 0 rfl) ?_
      refine lv_dup hx hb dX0_or_18 rfl ?_
      refine gt_X_alternativesFree (V := (x_alternativesFree u)) hx hb hts hin0 hown hK hP hf_72 rfl dX0_or_19 ?_
      refine lv_iconst (v := (1 : Int32)) hx hb dX0_or_22 (by decide) ?_
      refine lv_isub hx hb dX0_or_23 ?_
      refine pt_X_alternativesFree hx hb hts hin0 hown hK hP hD hS hf_72 dX0_or_24 (fun H locs hP hD hS => ?_)
      refine lv_aload_n hx hb dX0_or_27 rfl (lv_at hl 0 rfl) ?_
      refine gt_X_latestIsDemand (V := (x_latestIsDemand u)) hx hb hts hin0 hown hK hP hf_75 (rq_x_latestIsDemand_alternativesFree u ((x_alternativesFree u) - (1 : Int32))) dX0_or_28 ?_
      refine lv_if_eq (tgt := 43) hx hb dX0_or_31 (by decide) (fun c_4 => ?_) (fun c_4 => ?_)
      · rw [if_pos c_4] at h
        refine lv_aload_n hx hb dX0_or_43 rfl (lv_at hl 0 rfl) ?_
        refine lv_iload_n hx hb dX0_or_44 rfl (lv_at hl 1 rfl) ?_
        refine lv_iload_n hx hb dX0_or_45 rfl (lv_at hl 2 rfl) ?_
        obtain ⟨q_5, hc_5, h⟩ := ob_some h
        have hPc := hP
        have hDc := hD
        have hKc := hK
        have hFc := fr_X hD hS hA
        refine va_callv (va_runV (As := [.int p0, .int p1]) (rest := []) ⟨hx, hb, hml, hown, hts⟩ (c_X0_addToLatestRow l dC dI hs ka H.size fu (xs_alternativesFree u ((x_alternativesFree u) - (1 : Int32))) p0 p1 q_5 hc_5) (cwV 2 hts gX0_or_X0_addToLatestRow rfl rfl rfl (by decide +kernel) ⟨Nat.le_of_ble_eq_true rfl, Nat.le_of_ble_eq_true rfl⟩) ⟨fun a U g mk q => by obtain ⟨q0, q1, qP, qK, qD⟩ := q; exact ⟨q0, q1, qP, va_K.moved (u := U) (U := U.calling g mk a) (Vm.Alike.refl U.vm) qK, qD⟩, rc_X hKc hPc, fun U hU hW => ⟨rfl, by rw [hU], by rw [hU]; exact hPc, va_K.moved hW.alike hKc, hDc.weaken (fun _ _ _ _ => trivial)⟩⟩ rfl rfl hl.1 rfl (lv_room (Nat.le_of_ble_eq_true rfl)) dX0_or_46 ⟨Nat.zero_le _, Nat.zero_le _⟩) hS (fun q _ h => hFc q h) hFc (fun u_c5 t H1 locs ht hvm hw hB hz1 hk1 hS => ?_)
        subst u_c5
        obtain ⟨hP1, hK1, hD1⟩ := hB
        rw [ht] at hP1
        obtain ⟨hP, hD⟩ := jw_X hP hD hk1 hFc hP1 hD1
        clear hPc hDc hKc hFc hz1 hk1 hP1 hK1 hD1
        generalize H1 = H at hP hS ⊢
        refine lv_iconst (v := (1 : Int32)) hx hb dX0_or_49 (by decide) ?_
        have e9 := Option.some.inj h
        exact W.zret (v := (1 : Int32)) hx hb hr rfl (fun t ht hW => ⟨⟨(1 : Int32), q_5, rfl, ⟨congrArg Prod.fst e9, congrArg Prod.snd e9⟩, by rw [ht]; exact hP, va_K.moved hW.alike hK, hD⟩, hS.F ht⟩) hS.2.2 dX0_or_50
      · rw [if_neg c_4] at h
        refine lv_aload_n hx hb dX0_or_34 rfl (lv_at hl 0 rfl) ?_
        refine lv_iload_n hx hb dX0_or_35 rfl (lv_at hl 1 rfl) ?_
        refine lv_iload_n hx hb dX0_or_36 rfl (lv_at hl 2 rfl) ?_
        obtain ⟨q_6, hc_6, h⟩ := ob_some h
        have hPc := hP
        have hDc := hD
        have hKc := hK
        have hFc := fr_X hD hS hA
        refine va_callv (va_runV (As := [.int p0, .int p1]) (rest := []) ⟨hx, hb, hml, hown, hts⟩ (c_X0_addToLatestDemand l dC dI hs ka H.size fu (xs_alternativesFree u ((x_alternativesFree u) - (1 : Int32))) p0 p1 q_6 hc_6) (cwV 2 hts gX0_or_X0_addToLatestDemand rfl rfl rfl (by decide +kernel) ⟨Nat.le_of_ble_eq_true rfl, Nat.le_of_ble_eq_true rfl⟩) ⟨fun a U g mk q => by obtain ⟨q0, q1, qP, qK, qD⟩ := q; exact ⟨q0, q1, qP, va_K.moved (u := U) (U := U.calling g mk a) (Vm.Alike.refl U.vm) qK, qD⟩, rc_X hKc hPc, fun U hU hW => ⟨rfl, by rw [hU], by rw [hU]; exact hPc, va_K.moved hW.alike hKc, hDc.weaken (fun _ _ _ _ => trivial)⟩⟩ rfl rfl hl.1 rfl (lv_room (Nat.le_of_ble_eq_true rfl)) dX0_or_37 ⟨Nat.zero_le _, Nat.zero_le _⟩) hS (fun q _ h => hFc q h) hFc (fun u_c6 t H1 locs ht hvm hw hB hz1 hk1 hS => ?_)
        subst u_c6
        obtain ⟨hP1, hK1, hD1⟩ := hB
        rw [ht] at hP1
        obtain ⟨hP, hD⟩ := jw_X hP hD hk1 hFc hP1 hD1
        clear hPc hDc hKc hFc hz1 hk1 hP1 hK1 hD1
        generalize H1 = H at hP hS ⊢
        refine lv_goto (tgt := 49) hx hb dX0_or_40 (by decide) ?_
        refine lv_iconst (v := (1 : Int32)) hx hb dX0_or_49 (by decide) ?_
        have e9 := Option.some.inj h
        exact W.zret (v := (1 : Int32)) hx hb hr rfl (fun t ht hW => ⟨⟨(1 : Int32), q_6, rfl, ⟨congrArg Prod.fst e9, congrArg Prod.snd e9⟩, by rw [ht]; exact hP, va_K.moved hW.alike hK, hD⟩, hS.F ht⟩) hS.2.2 dX0_or_50
    · rw [if_pos c_3] at h
      refine lv_iconst (v := (0 : Int32)) hx hb dX0_or_15 (by decide) ?_
      have e9 := Option.some.inj h
      exact W.zret (v := (0 : Int32)) hx hb hr rfl (fun t ht hW => ⟨⟨(0 : Int32), u, rfl, ⟨congrArg Prod.fst e9, congrArg Prod.snd e9⟩, by rw [ht]; exact hP, va_K.moved hW.alike hK, hD⟩, hS.F ht⟩) hS.2.2 dX0_or_16
set_option maxHeartbeats 4000000 in
set_option maxRecDepth 100000 in
theorem c_X0_leaveOut (l : Launch) (dC : Nat → ClassId) (dI : Nat → Nat → Nat) (hs : Nat → Nat) (ka : Nat → ClassId) (sz : Nat) (fu : Nat) (u : XS) (p0 : Int32) (p1 : Int32) (r : Int32) (u' : XS) (h : pf_X0_leaveOut fu p0 p1 u = some (r, u')) : Met l yX0_leaveOut wzX0_leaveOut ({ frames := 0, cells := 0, slots := 0, locals := 0 }) (va_Pc [.ref (hs 0), .int p0, .int p1] (fun U => U.heap.size = sz ∧ va_P (dC, dI) vwCl (cX hs ka u) U.heap ∧ va_K (dC, dI) vwCl (tX ka) U ∧ va_D (fun _ => True) (cX hs ka u))) (va_Qi (fun (r1 : Int32) (u1 : XS) => r1 = r ∧ u1 = u') (aX dC dI (va_A (cX hs ka u) sz) hs ka) (va_A (cX hs ka u) sz)) 0 0 (va_A (cX hs ka u) sz) := by
  refine Met.ofW (cc := cX0_leaveOut) (maxL := 5) (ret := (some .boolean)) (by decide) rfl ?_
  intro p e s m args below meth c s₁ B hml hv
  obtain ⟨rfl, hsz, hP, hK, hD0⟩ := hv
  have hx := B.exec
  have hb := B.bytes
  have hr := B.returns
  have hts := atoms_spec (ws := wzX0_leaveOut) B.pre
  have hown : s.vm.findClass RX0 = some m.cls := findClass_of_methodNamed B.named
  have hlocks := B.notSynchronized
  subst hsz
  have hD := hD0.self (sz := s.heap.size)
  generalize hAe : va_A (cX hs ka u) s.heap.size = A at hD ⊢
  have hA : ∀ q : Nat, s.heap.size ≤ q → A q := fun q h => by rw [← hAe]; exact Or.inr h
  have hS : va_S A s.heap s.heap [] := va_S.rf
  have hP : va_P (dC, dI) vwCl (cX hs ka u) s.heap := hP
  clear hD0 hAe
  have hin0 : ∀ w ∈ u_ws RX0 TX0 14, w ∈ wzX0_leaveOut := fun w h => List.mem_cons_of_mem _ (inTX0 w h)
  have hf_65 := hts (.fieldLink RX0 65 "ConflictSolve" "demands" "I") (List.mem_cons_of_mem _ tz_47)
  have hf_86 := hts (.fieldLink RX0 86 "ConflictSolve" "leftOut" "I") (List.mem_cons_of_mem _ tz_51)
  have hl := lv_entry ([.ref (hs 0), .int p0, .int p1]) (n := 5) (Nat.le_of_ble_eq_true rfl)
  rw [lg_entry_eq]
  generalize (lg_sl ([.ref (hs 0), .int p0, .int p1]) ++ List.replicate (5 - (lg_sl ([.ref (hs 0), .int p0, .int p1])).length) Slot.unset).toArray = ls at hl ⊢
  have hl : lv_has ls 5 [(0, .ref (hs 0)), (1, .int p0), (2, .int p1)] := hl
  rw [pf_X0_leaveOut] at h
  refine lv_iload_n hx hb dX0_leaveOut_0 rfl (lv_at hl 1 rfl) ?_
  refine lv_if_lt (tgt := 12) hx hb dX0_leaveOut_1 (by decide) (fun c_1 => ?_) (fun c_1 => ?_)
  · rw [if_pos c_1] at h
    refine lv_iconst (v := (0 : Int32)) hx hb dX0_leaveOut_12 (by decide) ?_
    have e9 := Option.some.inj h
    exact W.zret (v := (0 : Int32)) hx hb hr rfl (fun t ht hW => ⟨⟨(0 : Int32), u, rfl, ⟨congrArg Prod.fst e9, congrArg Prod.snd e9⟩, by rw [ht]; exact hP, va_K.moved hW.alike hK, hD⟩, hS.F ht⟩) hS.2.2 dX0_leaveOut_13
  · rw [if_neg c_1] at h
    refine lv_iload_n hx hb dX0_leaveOut_4 rfl (lv_at hl 1 rfl) ?_
    refine lv_aload_n hx hb dX0_leaveOut_5 rfl (lv_at hl 0 rfl) ?_
    refine gt_X_demands (V := (x_demands u)) hx hb hts hin0 hown hK hP hf_65 rfl dX0_leaveOut_6 ?_
    refine lv_icmp_lt (tgt := 14) hx hb dX0_leaveOut_9 (by decide) (fun c_2 => ?_) (fun c_2 => ?_)
    · rw [if_pos c_2] at h
      refine lv_iconst (v := (1 : Int32)) hx hb dX0_leaveOut_14 (by decide) ?_
      refine lv_iload_n hx hb dX0_leaveOut_15 rfl (lv_at hl 1 rfl) ?_
      refine lv_ishl hx hb dX0_leaveOut_16 ?_
      refine lv_istore_n (lv' := [(3, .int ((1 : Int32) <<< (p0 &&& 31))), (0, .ref (hs 0)), (1, .int p0), (2, .int p1)]) hx hb dX0_leaveOut_17 rfl hl (by decide) rfl (fun ls hl => ?_)
      refine lv_aload_n hx hb dX0_leaveOut_18 rfl (lv_at hl 1 rfl) ?_
      refine gt_X_leftOut (V := (x_leftOut u)) hx hb hts hin0 hown hK hP hf_86 rfl dX0_leaveOut_19 ?_
      refine lv_iload_n hx hb dX0_leaveOut_22 rfl (lv_at hl 0 rfl) ?_
      refine lv_iand hx hb dX0_leaveOut_23 ?_
      refine lv_if_eq (tgt := 31) hx hb dX0_leaveOut_24 (by decide) (fun c_3 => ?_) (fun c_3 => ?_)
      · rw [if_pos c_3] at h
        refine lv_iconst (v := (0 : Int32)) hx hb dX0_leaveOut_31 (by decide) ?_
        refine lv_istore (lv' := [(4, .int (0 : Int32)), (3, .int ((1 : Int32) <<< (p0 &&& 31))), (0, .ref (hs 0)), (1, .int p0), (2, .int p1)]) hx hb dX0_leaveOut_32 hl (by decide) rfl (fun ls hl => ?_)
        refine lv_iload hx hb dX0_leaveOut_34 (lv_at hl 0 rfl) ?_
        refine lv_iload_n hx hb dX0_leaveOut_36 rfl (lv_at hl 4 rfl) ?_
        refine lv_icmp_ne (tgt := 42) hx hb dX0_leaveOut_37 (by decide) (fun c_4 => ?_) (fun c_4 => ?_)
        · rw [if_neg c_4] at h
          refine lv_aload_n hx hb dX0_leaveOut_42 rfl (lv_at hl 2 rfl) ?_
          refine lv_dup hx hb dX0_leaveOut_43 rfl ?_
          refine gt_X_leftOut (V := (x_leftOut u)) hx hb hts hin0 hown hK hP hf_86 rfl dX0_leaveOut_44 ?_
          refine lv_iload_n hx hb dX0_leaveOut_47 rfl (lv_at hl 1 rfl) ?_
          refine lv_ixor hx hb dX0_leaveOut_48 ?_
          refine pt_X_leftOut hx hb hts hin0 hown hK hP hD hS hf_86 dX0_leaveOut_49 (fun H locs hP hD hS => ?_)
          refine lv_iconst (v := (1 : Int32)) hx hb dX0_leaveOut_52 (by decide) ?_
          have e9 := Option.some.inj h
          exact W.zret (v := (1 : Int32)) hx hb hr rfl (fun t ht hW => ⟨⟨(1 : Int32), (xs_leftOut u ((x_leftOut u) ^^^ ((1 : Int32) <<< (p0 &&& 31)))), rfl, ⟨congrArg Prod.fst e9, congrArg Prod.snd e9⟩, by rw [ht]; exact hP, va_K.moved hW.alike hK, hD⟩, hS.F ht⟩) hS.2.2 dX0_leaveOut_53
        · rw [if_pos c_4] at h
          refine lv_iconst (v := (0 : Int32)) hx hb dX0_leaveOut_40 (by decide) ?_
          have e9 := Option.some.inj h
          exact W.zret (v := (0 : Int32)) hx hb hr rfl (fun t ht hW => ⟨⟨(0 : Int32), u, rfl, ⟨congrArg Prod.fst e9, congrArg Prod.snd e9⟩, by rw [ht]; exact hP, va_K.moved hW.alike hK, hD⟩, hS.F ht⟩) hS.2.2 dX0_leaveOut_41
      · rw [if_neg c_3] at h
        refine lv_iconst (v := (1 : Int32)) hx hb dX0_leaveOut_27 (by decide) ?_
        refine lv_goto (tgt := 32) hx hb dX0_leaveOut_28 (by decide) ?_
        refine lv_istore (lv' := [(4, .int (1 : Int32)), (3, .int ((1 : Int32) <<< (p0 &&& 31))), (0, .ref (hs 0)), (1, .int p0), (2, .int p1)]) hx hb dX0_leaveOut_32 hl (by decide) rfl (fun ls hl => ?_)
        refine lv_iload hx hb dX0_leaveOut_34 (lv_at hl 0 rfl) ?_
        refine lv_iload_n hx hb dX0_leaveOut_36 rfl (lv_at hl 4 rfl) ?_
        refine lv_icmp_ne (tgt := 42) hx hb dX0_leaveOut_37 (by decide) (fun c_5 => ?_) (fun c_5 => ?_)
        · rw [if_neg c_5] at h
          refine lv_aload_n hx hb dX0_leaveOut_42 rfl (lv_at hl 2 rfl) ?_
          refine lv_dup hx hb dX0_leaveOut_43 rfl ?_
          refine gt_X_leftOut (V := (x_leftOut u)) hx hb hts hin0 hown hK hP hf_86 rfl dX0_leaveOut_44 ?_
          refine lv_iload_n hx hb dX0_leaveOut_47 rfl (lv_at hl 1 rfl) ?_
          refine lv_ixor hx hb dX0_leaveOut_48 ?_
          refine pt_X_leftOut hx hb hts hin0 hown hK hP hD hS hf_86 dX0_leaveOut_49 (fun H locs hP hD hS => ?_)
          refine lv_iconst (v := (1 : Int32)) hx hb dX0_leaveOut_52 (by decide) ?_
          have e9 := Option.some.inj h
          exact W.zret (v := (1 : Int32)) hx hb hr rfl (fun t ht hW => ⟨⟨(1 : Int32), (xs_leftOut u ((x_leftOut u) ^^^ ((1 : Int32) <<< (p0 &&& 31)))), rfl, ⟨congrArg Prod.fst e9, congrArg Prod.snd e9⟩, by rw [ht]; exact hP, va_K.moved hW.alike hK, hD⟩, hS.F ht⟩) hS.2.2 dX0_leaveOut_53
        · rw [if_pos c_5] at h
          refine lv_iconst (v := (0 : Int32)) hx hb dX0_leaveOut_40 (by decide) ?_
          have e9 := Option.some.inj h
          exact W.zret (v := (0 : Int32)) hx hb hr rfl (fun t ht hW => ⟨⟨(0 : Int32), u, rfl, ⟨congrArg Prod.fst e9, congrArg Prod.snd e9⟩, by rw [ht]; exact hP, va_K.moved hW.alike hK, hD⟩, hS.F ht⟩) hS.2.2 dX0_leaveOut_41
    · rw [if_neg c_2] at h
      refine lv_iconst (v := (0 : Int32)) hx hb dX0_leaveOut_12 (by decide) ?_
      have e9 := Option.some.inj h
      exact W.zret (v := (0 : Int32)) hx hb hr rfl (fun t ht hW => ⟨⟨(0 : Int32), u, rfl, ⟨congrArg Prod.fst e9, congrArg Prod.snd e9⟩, by rw [ht]; exact hP, va_K.moved hW.alike hK, hD⟩, hS.F ht⟩) hS.2.2 dX0_leaveOut_13
set_option maxHeartbeats 4000000 in
set_option maxRecDepth 100000 in
theorem c_X0_hasPlace (l : Launch) (dC : Nat → ClassId) (dI : Nat → Nat → Nat) (hs : Nat → Nat) (ka : Nat → ClassId) (sz : Nat) (fu : Nat) (u : XS) (p0 : Int32) (p1 : Int32) (r : Int32) (h : pf_X0_hasPlace fu p0 p1 u = some r) : Met l yX0_hasPlace wzX0_hasPlace ({ frames := 3, cells := 0, slots := 0, locals := 64 }) (va_Pc [.ref (hs 0), .int p0, .int p1] (fun U => U.heap.size = sz ∧ va_P (dC, dI) vwCl (cX hs ka u) U.heap ∧ va_K (dC, dI) vwCl (tX ka) U ∧ va_D (fun _ => True) (cX hs ka u))) (va_Qi (fun (r1 : Int32) (u1 : XS) => r1 = r ∧ u1 = u) (aX dC dI (va_A (cX hs ka u) sz) hs ka) (va_A (cX hs ka u) sz)) 0 0 (va_A (cX hs ka u) sz) := by
  refine Met.ofW (cc := cX0_hasPlace) (maxL := 3) (ret := (some .boolean)) (by decide) rfl ?_
  intro p e s m args below meth c s₁ B hml hv
  obtain ⟨rfl, hsz, hP, hK, hD0⟩ := hv
  have hx := B.exec
  have hb := B.bytes
  have hr := B.returns
  have hts := atoms_spec (ws := wzX0_hasPlace) B.pre
  have hown : s.vm.findClass RX0 = some m.cls := findClass_of_methodNamed B.named
  have hlocks := B.notSynchronized
  subst hsz
  have hD := hD0.self (sz := s.heap.size)
  generalize hAe : va_A (cX hs ka u) s.heap.size = A at hD ⊢
  have hA : ∀ q : Nat, s.heap.size ≤ q → A q := fun q h => by rw [← hAe]; exact Or.inr h
  have hS : va_S A s.heap s.heap [] := va_S.rf
  have hP : va_P (dC, dI) vwCl (cX hs ka u) s.heap := hP
  clear hD0 hAe
  have hl := lv_entry ([.ref (hs 0), .int p0, .int p1]) (n := 3) (Nat.le_of_ble_eq_true rfl)
  rw [lg_entry_eq]
  generalize (lg_sl ([.ref (hs 0), .int p0, .int p1]) ++ List.replicate (3 - (lg_sl ([.ref (hs 0), .int p0, .int p1])).length) Slot.unset).toArray = ls at hl ⊢
  have hl : lv_has ls 3 [(0, .ref (hs 0)), (1, .int p0), (2, .int p1)] := hl
  rw [pf_X0_hasPlace] at h
  refine lv_iload_n hx hb dX0_hasPlace_0 rfl (lv_at hl 2 rfl) ?_
  refine lv_iconst (v := (-1 : Int32)) hx hb dX0_hasPlace_1 (by decide) ?_
  refine lv_icmp_ne (tgt := 13) hx hb dX0_hasPlace_2 (by decide) (fun c_1 => ?_) (fun c_1 => ?_)
  · rw [if_neg c_1] at h
    refine lv_aload_n hx hb dX0_hasPlace_13 rfl (lv_at hl 0 rfl) ?_
    refine lv_iload_n hx hb dX0_hasPlace_14 rfl (lv_at hl 1 rfl) ?_
    refine lv_iload_n hx hb dX0_hasPlace_15 rfl (lv_at hl 2 rfl) ?_
    have hPc := hP
    have hDc := hD
    have hKc := hK
    have hFc := fr_X hD hS hA
    refine va_calli (va_runV (As := [.int p0, .int p1]) (rest := []) ⟨hx, hb, hml, hown, hts⟩ (c_X0_hasVersion l dC dI hs ka s.heap.size u p0 p1 _ rfl) (cwV 2 hts gX0_hasPlace_X0_hasVersion rfl rfl rfl (by decide +kernel) ⟨Nat.le_of_ble_eq_true rfl, Nat.le_of_ble_eq_true rfl⟩) ⟨fun a U g mk q => by obtain ⟨q0, q1, qP, qK, qD⟩ := q; exact ⟨q0, q1, qP, va_K.moved (u := U) (U := U.calling g mk a) (Vm.Alike.refl U.vm) qK, qD⟩, rc_X hKc hPc, fun U hU hW => ⟨rfl, by rw [hU], by rw [hU]; exact hPc, va_K.moved hW.alike hKc, hDc.weaken (fun _ _ _ _ => trivial)⟩⟩ rfl rfl hl.1 rfl (lv_room (Nat.le_of_ble_eq_true rfl)) dX0_hasPlace_16 ⟨Nat.zero_le _, Nat.zero_le _⟩) hS (fun q _ h => hFc q h) hFc (fun r_2 u_c2 t H1 locs ht hvm hw hB hz1 hk1 hS => ?_)
    obtain ⟨hw1, hw2⟩ := hw
    subst r_2
    subst u_c2
    obtain ⟨hP1, hK1, hD1⟩ := hB
    rw [ht] at hP1
    obtain ⟨hP, hD⟩ := jw_X hP hD hk1 hFc hP1 hD1
    clear hPc hDc hKc hFc hz1 hk1 hP1 hK1 hD1
    generalize H1 = H at hP hS ⊢
    obtain ⟨g_3, h⟩ := og_some h
    have e9 := Option.some.inj h
    exact W.zret (v := (pf_X0_hasVersion p0 p1 u)) hx hb hr (bz_n g_3) (fun t ht hW => ⟨⟨(pf_X0_hasVersion p0 p1 u), u, rfl, ⟨e9, rfl⟩, by rw [ht]; exact hP, va_K.moved hW.alike hK, hD⟩, hS.F ht⟩) hS.2.2 dX0_hasPlace_19
  · rw [if_pos c_1] at h
    refine lv_aload_n hx hb dX0_hasPlace_5 rfl (lv_at hl 0 rfl) ?_
    refine lv_iload_n hx hb dX0_hasPlace_6 rfl (lv_at hl 1 rfl) ?_
    have hPc := hP
    have hDc := hD
    have hKc := hK
    have hFc := fr_X hD hS hA
    refine va_calli (va_runV (As := [.int p0]) (rest := []) ⟨hx, hb, hml, hown, hts⟩ (c_X0_hasPack l dC dI hs ka s.heap.size u p0 _ rfl) (cwV 1 hts gX0_hasPlace_X0_hasPack rfl rfl rfl (by decide +kernel) ⟨Nat.le_of_ble_eq_true rfl, Nat.le_of_ble_eq_true rfl⟩) ⟨fun a U g mk q => by obtain ⟨q0, q1, qP, qK, qD⟩ := q; exact ⟨q0, q1, qP, va_K.moved (u := U) (U := U.calling g mk a) (Vm.Alike.refl U.vm) qK, qD⟩, rc_X hKc hPc, fun U hU hW => ⟨rfl, by rw [hU], by rw [hU]; exact hPc, va_K.moved hW.alike hKc, hDc.weaken (fun _ _ _ _ => trivial)⟩⟩ rfl rfl hl.1 rfl (lv_room (Nat.le_of_ble_eq_true rfl)) dX0_hasPlace_7 ⟨Nat.zero_le _, Nat.zero_le _⟩) hS (fun q _ h => hFc q h) hFc (fun r_4 u_c4 t H1 locs ht hvm hw hB hz1 hk1 hS => ?_)
    obtain ⟨hw1, hw2⟩ := hw
    subst r_4
    subst u_c4
    obtain ⟨hP1, hK1, hD1⟩ := hB
    rw [ht] at hP1
    obtain ⟨hP, hD⟩ := jw_X hP hD hk1 hFc hP1 hD1
    clear hPc hDc hKc hFc hz1 hk1 hP1 hK1 hD1
    generalize H1 = H at hP hS ⊢
    refine lv_goto (tgt := 19) hx hb dX0_hasPlace_10 (by decide) ?_
    obtain ⟨g_5, h⟩ := og_some h
    have e9 := Option.some.inj h
    exact W.zret (v := (pf_X0_hasPack p0 u)) hx hb hr (bz_n g_5) (fun t ht hW => ⟨⟨(pf_X0_hasPack p0 u), u, rfl, ⟨e9, rfl⟩, by rw [ht]; exact hP, va_K.moved hW.alike hK, hD⟩, hS.F ht⟩) hS.2.2 dX0_hasPlace_19
set_option maxHeartbeats 4000000 in
set_option maxRecDepth 100000 in
theorem c_X0_lock (l : Launch) (dC : Nat → ClassId) (dI : Nat → Nat → Nat) (hs : Nat → Nat) (ka : Nat → ClassId) (sz : Nat) (fu : Nat) (u : XS) (p0 : Int32) (p1 : Int32) (r : Int32) (u' : XS) (h : pf_X0_lock fu p0 p1 u = some (r, u')) : Met l yX0_lock wzX0_lock ({ frames := 4, cells := 0, slots := 0, locals := 86 }) (va_Pc [.ref (hs 0), .int p0, .int p1] (fun U => U.heap.size = sz ∧ va_P (dC, dI) vwCl (cX hs ka u) U.heap ∧ va_K (dC, dI) vwCl (tX ka) U ∧ va_D (fun _ => True) (cX hs ka u))) (va_Qi (fun (r1 : Int32) (u1 : XS) => r1 = r ∧ u1 = u') (aX dC dI (va_A (cX hs ka u) sz) hs ka) (va_A (cX hs ka u) sz)) 0 0 (va_A (cX hs ka u) sz) := by
  refine Met.ofW (cc := cX0_lock) (maxL := 3) (ret := (some .boolean)) (by decide) rfl ?_
  intro p e s m args below meth c s₁ B hml hv
  obtain ⟨rfl, hsz, hP, hK, hD0⟩ := hv
  have hx := B.exec
  have hb := B.bytes
  have hr := B.returns
  have hts := atoms_spec (ws := wzX0_lock) B.pre
  have hown : s.vm.findClass RX0 = some m.cls := findClass_of_methodNamed B.named
  have hlocks := B.notSynchronized
  subst hsz
  have hD := hD0.self (sz := s.heap.size)
  generalize hAe : va_A (cX hs ka u) s.heap.size = A at hD ⊢
  have hA : ∀ q : Nat, s.heap.size ≤ q → A q := fun q h => by rw [← hAe]; exact Or.inr h
  have hS : va_S A s.heap s.heap [] := va_S.rf
  have hP : va_P (dC, dI) vwCl (cX hs ka u) s.heap := hP
  clear hD0 hAe
  have hin0 : ∀ w ∈ u_ws RX0 TX0 14, w ∈ wzX0_lock := fun w h => List.mem_cons_of_mem _ (inTX0 w h)
  have hf_92 := hts (.fieldLink RX0 92 "ConflictSolve" "locked" "J") (List.mem_cons_of_mem _ tz_50)
  have hl := lv_entry ([.ref (hs 0), .int p0, .int p1]) (n := 3) (Nat.le_of_ble_eq_true rfl)
  rw [lg_entry_eq]
  generalize (lg_sl ([.ref (hs 0), .int p0, .int p1]) ++ List.replicate (3 - (lg_sl ([.ref (hs 0), .int p0, .int p1])).length) Slot.unset).toArray = ls at hl ⊢
  have hl : lv_has ls 3 [(0, .ref (hs 0)), (1, .int p0), (2, .int p1)] := hl
  rw [pf_X0_lock] at h
  refine lv_aload_n hx hb dX0_lock_0 rfl (lv_at hl 0 rfl) ?_
  refine lv_iload_n hx hb dX0_lock_1 rfl (lv_at hl 1 rfl) ?_
  refine lv_iload_n hx hb dX0_lock_2 rfl (lv_at hl 2 rfl) ?_
  obtain ⟨q_1, hc_1, h⟩ := ob_some h
  have hPc := hP
  have hDc := hD
  have hKc := hK
  have hFc := fr_X hD hS hA
  refine va_calli (va_runV (As := [.int p0, .int p1]) (rest := []) ⟨hx, hb, hml, hown, hts⟩ (c_X0_hasPlace l dC dI hs ka s.heap.size fu u p0 p1 q_1 hc_1) (cwV 2 hts gX0_lock_X0_hasPlace rfl rfl rfl (by decide +kernel) ⟨Nat.le_of_ble_eq_true rfl, Nat.le_of_ble_eq_true rfl⟩) ⟨fun a U g mk q => by obtain ⟨q0, q1, qP, qK, qD⟩ := q; exact ⟨q0, q1, qP, va_K.moved (u := U) (U := U.calling g mk a) (Vm.Alike.refl U.vm) qK, qD⟩, rc_X hKc hPc, fun U hU hW => ⟨rfl, by rw [hU], by rw [hU]; exact hPc, va_K.moved hW.alike hKc, hDc.weaken (fun _ _ _ _ => trivial)⟩⟩ rfl rfl hl.1 rfl (lv_room (Nat.le_of_ble_eq_true rfl)) dX0_lock_3 ⟨Nat.zero_le _, Nat.zero_le _⟩) hS (fun q _ h => hFc q h) hFc (fun r_1 u_c1 t H1 locs ht hvm hw hB hz1 hk1 hS => ?_)
  obtain ⟨hw1, hw2⟩ := hw
  subst r_1
  subst u_c1
  obtain ⟨hP1, hK1, hD1⟩ := hB
  rw [ht] at hP1
  obtain ⟨hP, hD⟩ := jw_X hP hD hk1 hFc hP1 hD1
  clear hPc hDc hKc hFc hz1 hk1 hP1 hK1 hD1
  generalize H1 = H at hP hS ⊢
  refine lv_if_ne (tgt := 11) hx hb dX0_lock_6 (by decide) (fun c_2 => ?_) (fun c_2 => ?_)
  · rw [if_neg c_2] at h
    refine lv_aload_n hx hb dX0_lock_11 rfl (lv_at hl 0 rfl) ?_
    refine lv_dup hx hb dX0_lock_12 rfl ?_
    refine gt_X_locked (V := (x_locked u)) hx hb hts hin0 hown hK hP hf_92 rfl dX0_lock_13 ?_
    refine lv_iload_n hx hb dX0_lock_16 rfl (lv_at hl 1 rfl) ?_
    have hPc : va_P (dC, dI) vwCl ([] : va_W) H := hP.sub [] rfl
    have hDc : va_D A ([] : va_W) := hD.sub [] (by decide) rfl
    have hKc := hK.sub (tys' := []) [] rfl
    have hFc := fn_X hD hS hA
    refine va_calll (va_runS (As := [.int p0]) (rest := [.long (x_locked u), .ref (hs 0)]) ⟨hx, hb, hml, hown, hts⟩ (c_X0_allOf l dC dI H.size p0 _ rfl) (va_cwS 1 hts gX0_lock_X0_allOf rfl rfl rfl (by decide +kernel) ⟨Nat.le_of_ble_eq_true rfl, Nat.le_of_ble_eq_true rfl⟩) ⟨fun a U g mk q => by obtain ⟨q0, q1, qP, qK, qD⟩ := q; exact ⟨q0, q1, qP, va_K.moved (u := U) (U := U.calling g mk a) (Vm.Alike.refl U.vm) qK, qD⟩, fun U hU hW => ⟨rfl, by rw [hU], by rw [hU]; exact hPc, va_K.moved hW.alike hKc, hDc.weaken (fun _ _ _ _ => trivial)⟩⟩ rfl rfl hl.1 rfl (lv_room (Nat.le_of_ble_eq_true rfl)) dX0_lock_17 ⟨Nat.zero_le _, Nat.zero_le _⟩) hS (fun q _ h => hFc q h) hFc (fun r_3 u_c3 t H1 locs ht hvm hw hB hz1 hk1 hS => ?_)
    subst r_3
    obtain ⟨hP1, hK1, hD1⟩ := hB
    rw [ht] at hP1
    obtain ⟨hP, hD⟩ := js_X hP hD hk1 hFc hP1 hD1
    clear hPc hDc hKc hFc hz1 hk1 hP1 hK1 hD1
    generalize H1 = H at hP hS ⊢
    refine lv_ldc2 (v := (-1 : Int64)) hx hb hown (hts (.constantLong RX0 55 (-1)) (List.mem_cons_of_mem _ tz_121)) dX0_lock_20 ?_
    refine lv_lxor hx hb dX0_lock_23 ?_
    refine lv_land hx hb dX0_lock_24 ?_
    refine pt_X_locked hx hb hts hin0 hown hK hP hD hS hf_92 dX0_lock_25 (fun H locs hP hD hS => ?_)
    refine lv_iload_n hx hb dX0_lock_28 rfl (lv_at hl 2 rfl) ?_
    refine lv_iconst (v := (-1 : Int32)) hx hb dX0_lock_29 (by decide) ?_
    refine lv_icmp_eq (tgt := 47) hx hb dX0_lock_30 (by decide) (fun c_4 => ?_) (fun c_4 => ?_)
    · rw [if_pos c_4] at h
      refine lv_iconst (v := (1 : Int32)) hx hb dX0_lock_47 (by decide) ?_
      have e9 := Option.some.inj h
      exact W.zret (v := (1 : Int32)) hx hb hr rfl (fun t ht hW => ⟨⟨(1 : Int32), (xs_locked u ((x_locked u) &&& ((pf_X0_allOf p0) ^^^ (-1 : Int64)))), rfl, ⟨congrArg Prod.fst e9, congrArg Prod.snd e9⟩, by rw [ht]; exact hP, va_K.moved hW.alike hK, hD⟩, hS.F ht⟩) hS.2.2 dX0_lock_48
    · rw [if_neg c_4] at h
      refine lv_aload_n hx hb dX0_lock_33 rfl (lv_at hl 0 rfl) ?_
      refine lv_dup hx hb dX0_lock_34 rfl ?_
      refine gt_X_locked (V := ((x_locked u) &&& ((pf_X0_allOf p0) ^^^ (-1 : Int64)))) hx hb hts hin0 hown hK hP hf_92 (rq_x_locked_locked u ((x_locked u) &&& ((pf_X0_allOf p0) ^^^ (-1 : Int64)))) dX0_lock_35 ?_
      refine lv_iload_n hx hb dX0_lock_38 rfl (lv_at hl 1 rfl) ?_
      refine lv_iload_n hx hb dX0_lock_39 rfl (lv_at hl 2 rfl) ?_
      have hPc : va_P (dC, dI) vwCl ([] : va_W) H := hP.sub [] rfl
      have hDc : va_D A ([] : va_W) := hD.sub [] (by decide) rfl
      have hKc := hK.sub (tys' := []) [] rfl
      have hFc := fn_X hD hS hA
      refine va_calll (va_runS (As := [.int p0, .int p1]) (rest := [.long ((x_locked u) &&& ((pf_X0_allOf p0) ^^^ (-1 : Int64))), .ref (hs 0)]) ⟨hx, hb, hml, hown, hts⟩ (c_X0_placeOf l dC dI H.size p0 p1 _ rfl) (va_cwS 2 hts gX0_lock_X0_placeOf rfl rfl rfl (by decide +kernel) ⟨Nat.le_of_ble_eq_true rfl, Nat.le_of_ble_eq_true rfl⟩) ⟨fun a U g mk q => by obtain ⟨q0, q1, qP, qK, qD⟩ := q; exact ⟨q0, q1, qP, va_K.moved (u := U) (U := U.calling g mk a) (Vm.Alike.refl U.vm) qK, qD⟩, fun U hU hW => ⟨rfl, by rw [hU], by rw [hU]; exact hPc, va_K.moved hW.alike hKc, hDc.weaken (fun _ _ _ _ => trivial)⟩⟩ rfl rfl hl.1 rfl (lv_room (Nat.le_of_ble_eq_true rfl)) dX0_lock_40 ⟨Nat.zero_le _, Nat.zero_le _⟩) hS (fun q _ h => hFc q h) hFc (fun r_5 u_c5 t H1 locs ht hvm hw hB hz1 hk1 hS => ?_)
      subst r_5
      obtain ⟨hP1, hK1, hD1⟩ := hB
      rw [ht] at hP1
      obtain ⟨hP, hD⟩ := js_X hP hD hk1 hFc hP1 hD1
      clear hPc hDc hKc hFc hz1 hk1 hP1 hK1 hD1
      generalize H1 = H at hP hS ⊢
      refine lv_lor hx hb dX0_lock_43 ?_
      refine pt_X_locked hx hb hts hin0 hown hK hP hD hS hf_92 dX0_lock_44 (fun H locs hP hD hS => ?_)
      refine lv_iconst (v := (1 : Int32)) hx hb dX0_lock_47 (by decide) ?_
      have e9 := Option.some.inj h
      exact W.zret (v := (1 : Int32)) hx hb hr rfl (fun t ht hW => ⟨⟨(1 : Int32), (xs_locked (xs_locked u ((x_locked u) &&& ((pf_X0_allOf p0) ^^^ (-1 : Int64)))) (((x_locked u) &&& ((pf_X0_allOf p0) ^^^ (-1 : Int64))) ||| (pf_X0_placeOf p0 p1))), rfl, ⟨congrArg Prod.fst e9, congrArg Prod.snd e9⟩, by rw [ht]; exact hP, va_K.moved hW.alike hK, hD⟩, hS.F ht⟩) hS.2.2 dX0_lock_48
  · rw [if_pos c_2] at h
    refine lv_iconst (v := (0 : Int32)) hx hb dX0_lock_9 (by decide) ?_
    have e9 := Option.some.inj h
    exact W.zret (v := (0 : Int32)) hx hb hr rfl (fun t ht hW => ⟨⟨(0 : Int32), u, rfl, ⟨congrArg Prod.fst e9, congrArg Prod.snd e9⟩, by rw [ht]; exact hP, va_K.moved hW.alike hK, hD⟩, hS.F ht⟩) hS.2.2 dX0_lock_10
set_option maxHeartbeats 4000000 in
set_option maxRecDepth 100000 in
theorem c_X0_demandsThatCount (l : Launch) (dC : Nat → ClassId) (dI : Nat → Nat → Nat) (hs : Nat → Nat) (ka : Nat → ClassId) (sz : Nat) (u : XS) (r : Int32) (h : pf_X0_demandsThatCount u = r) : Met l yX0_demandsThatCount wzX0_demandsThatCount ({ frames := 0, cells := 0, slots := 0, locals := 0 }) (va_Pc [.ref (hs 0)] (fun U => U.heap.size = sz ∧ va_P (dC, dI) vwCl (cX hs ka u) U.heap ∧ va_K (dC, dI) vwCl (tX ka) U ∧ va_D (fun _ => True) (cX hs ka u))) (va_Qi (fun (r1 : Int32) (u1 : XS) => r1 = r ∧ u1 = u) (aX dC dI (va_A (cX hs ka u) sz) hs ka) (va_A (cX hs ka u) sz)) 0 0 (va_A (cX hs ka u) sz) := by
  refine Met.ofW (cc := cX0_demandsThatCount) (maxL := 1) (ret := (some .int)) (by decide) rfl ?_
  intro p e s m args below meth c s₁ B hml hv
  obtain ⟨rfl, hsz, hP, hK, hD0⟩ := hv
  have hx := B.exec
  have hb := B.bytes
  have hr := B.returns
  have hts := atoms_spec (ws := wzX0_demandsThatCount) B.pre
  have hown : s.vm.findClass RX0 = some m.cls := findClass_of_methodNamed B.named
  have hlocks := B.notSynchronized
  subst hsz
  have hD := hD0.self (sz := s.heap.size)
  generalize hAe : va_A (cX hs ka u) s.heap.size = A at hD ⊢
  have hA : ∀ q : Nat, s.heap.size ≤ q → A q := fun q h => by rw [← hAe]; exact Or.inr h
  have hS : va_S A s.heap s.heap [] := va_S.rf
  have hP : va_P (dC, dI) vwCl (cX hs ka u) s.heap := hP
  clear hD0 hAe
  have hin0 : ∀ w ∈ u_ws RX0 TX0 14, w ∈ wzX0_demandsThatCount := fun w h => List.mem_cons_of_mem _ (inTX0 w h)
  have hf_65 := hts (.fieldLink RX0 65 "ConflictSolve" "demands" "I") (List.mem_cons_of_mem _ tz_47)
  have hf_86 := hts (.fieldLink RX0 86 "ConflictSolve" "leftOut" "I") (List.mem_cons_of_mem _ tz_51)
  have hl := lv_entry ([.ref (hs 0)]) (n := 1) (Nat.le_of_ble_eq_true rfl)
  rw [lg_entry_eq]
  generalize (lg_sl ([.ref (hs 0)]) ++ List.replicate (1 - (lg_sl ([.ref (hs 0)])).length) Slot.unset).toArray = ls at hl ⊢
  have hl : lv_has ls 1 [(0, .ref (hs 0))] := hl
  rw [pf_X0_demandsThatCount] at h
  refine lv_iconst (v := (1 : Int32)) hx hb dX0_demandsThatCount_0 (by decide) ?_
  refine lv_aload_n hx hb dX0_demandsThatCount_1 rfl (lv_at hl 0 rfl) ?_
  refine gt_X_demands (V := (x_demands u)) hx hb hts hin0 hown hK hP hf_65 rfl dX0_demandsThatCount_2 ?_
  refine lv_ishl hx hb dX0_demandsThatCount_5 ?_
  refine lv_iconst (v := (1 : Int32)) hx hb dX0_demandsThatCount_6 (by decide) ?_
  refine lv_isub hx hb dX0_demandsThatCount_7 ?_
  refine lv_aload_n hx hb dX0_demandsThatCount_8 rfl (lv_at hl 0 rfl) ?_
  refine gt_X_leftOut (V := (x_leftOut u)) hx hb hts hin0 hown hK hP hf_86 rfl dX0_demandsThatCount_9 ?_
  refine lv_iconst (v := (-1 : Int32)) hx hb dX0_demandsThatCount_12 (by decide) ?_
  refine lv_ixor hx hb dX0_demandsThatCount_13 ?_
  refine lv_iand hx hb dX0_demandsThatCount_14 ?_
  have e9 := h
  exact W.iret (v := ((((1 : Int32) <<< ((x_demands u) &&& 31)) - (1 : Int32)) &&& ((x_leftOut u) ^^^ (-1 : Int32)))) hx hb hr (fun t ht hW => ⟨⟨((((1 : Int32) <<< ((x_demands u) &&& 31)) - (1 : Int32)) &&& ((x_leftOut u) ^^^ (-1 : Int32))), u, rfl, ⟨e9, rfl⟩, by rw [ht]; exact hP, va_K.moved hW.alike hK, hD⟩, hS.F ht⟩) hS.2.2 dX0_demandsThatCount_15
