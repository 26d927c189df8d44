set_option maxHeartbeats 4000000 in
set_option maxRecDepth 100000 in
theorem c_X1_leaveOut (l : Launch) (dC : Nat → ClassId) (dI : Nat → Nat → Nat) (hs : Nat → Nat) (ka : Nat → ClassId) (sz : Nat) (fu : Nat) (u : MS) (p0 : Int32) (p1 : Int32) (r : Int32) (u' : MS) (h : pf_X1_leaveOut fu p0 p1 u = some (r, u')) : Met l yX1_leaveOut wzX1_leaveOut ({ frames := 0, cells := 0, slots := 0, locals := 0 }) (va_Pc [.ref (hs 0), .int p0, .int p1] (fun U => U.heap.size = sz ∧ va_P (dC, dI) vwCl (cM hs ka u) U.heap ∧ va_K (dC, dI) vwCl (tM ka) U ∧ va_D (fun _ => True) (cM hs ka u))) (va_Qi (fun (r1 : Int32) (u1 : MS) => r1 = r ∧ u1 = u') (aM dC dI (va_A (cM hs ka u) sz) hs ka) (va_A (cM hs ka u) sz)) 0 0 (va_A (cM hs ka u) sz) := by
  refine Met.ofW (cc := cX1_leaveOut) (maxL := 3) (ret := (some .boolean)) (by decide) rfl ?_
  intro p e s m args below meth c s₁ B hml hv
  obtain ⟨rfl, hsz, hP, hK, hD0⟩ := hv
  have hx := B.exec
  have hb := B.bytes
  have hr := B.returns
  have hts := atoms_spec (ws := wzX1_leaveOut) B.pre
  have hown : s.vm.findClass RX1 = some m.cls := findClass_of_methodNamed B.named
  have hlocks := B.notSynchronized
  subst hsz
  have hD := hD0.self (sz := s.heap.size)
  generalize hAe : va_A (cM hs ka u) s.heap.size = A at hD ⊢
  have hA : ∀ q : Nat, s.heap.size ≤ q → A q := fun q h => by rw [← hAe]; exact Or.inr h
  have hS : va_S A s.heap s.heap [] := va_S.rf
  have hP : va_P (dC, dI) vwCl (cM hs ka u) s.heap := hP
  clear hD0 hAe
  have hin0 : ∀ w ∈ u_ws RX1 TX1 23, w ∈ wzX1_leaveOut := fun w h => List.mem_cons_of_mem _ (inTX1 w h)
  have hf_49 := hts (.fieldLink RX1 49 "ConflictSolveModel" "out" "[Z") (List.mem_cons_of_mem _ tz_256)
  have hf_63 := hts (.fieldLink RX1 63 "ConflictSolveModel" "code" "I") (List.mem_cons_of_mem _ tz_238)
  have hf_84 := hts (.fieldLink RX1 84 "ConflictSolveModel" "demands" "I") (List.mem_cons_of_mem _ tz_248)
  have hl := lv_entry ([.ref (hs 0), .int p0, .int p1]) (n := 3) (Nat.le_of_ble_eq_true rfl)
  rw [lg_entry_eq]
  generalize (lg_sl ([.ref (hs 0), .int p0, .int p1]) ++ List.replicate (3 - (lg_sl ([.ref (hs 0), .int p0, .int p1])).length) Slot.unset).toArray = ls at hl ⊢
  have hl : lv_has ls 3 [(0, .ref (hs 0)), (1, .int p0), (2, .int p1)] := hl
  rw [pf_X1_leaveOut] at h
  refine lv_aload_n hx hb dX1_leaveOut_0 rfl (lv_at hl 0 rfl) ?_
  refine lv_iconst (v := (0 : Int32)) hx hb dX1_leaveOut_1 (by decide) ?_
  refine pt_M_code hx hb hts hin0 hown hK hP hD hS hf_63 dX1_leaveOut_2 (fun H locs hP hD hS => ?_)
  refine lv_iload_n hx hb dX1_leaveOut_5 rfl (lv_at hl 1 rfl) ?_
  refine lv_if_lt (tgt := 27) hx hb dX1_leaveOut_6 (by decide) (fun c_1 => ?_) (fun c_1 => ?_)
  · rw [if_pos c_1] at h
    refine lv_iconst (v := (0 : Int32)) hx hb dX1_leaveOut_27 (by decide) ?_
    have e9 := Option.some.inj h
    exact W.zret (v := (0 : Int32)) hx hb hr rfl (fun t ht hW => ⟨⟨(0 : Int32), (ms_code u (0 : Int32)), rfl, ⟨congrArg Prod.fst e9, congrArg Prod.snd e9⟩, by rw [ht]; exact hP, va_K.moved hW.alike hK, hD⟩, hS.F ht⟩) hS.2.2 dX1_leaveOut_28
  · rw [if_neg c_1] at h
    refine lv_iload_n hx hb dX1_leaveOut_9 rfl (lv_at hl 1 rfl) ?_
    refine lv_aload_n hx hb dX1_leaveOut_10 rfl (lv_at hl 0 rfl) ?_
    refine gt_M_demands (V := (m_demands u)) hx hb hts hin0 hown hK hP hf_84 (rq_m_demands_code u (0 : Int32)) dX1_leaveOut_11 ?_
    refine lv_icmp_ge (tgt := 27) hx hb dX1_leaveOut_14 (by decide) (fun c_2 => ?_) (fun c_2 => ?_)
    · rw [if_pos c_2] at h
      refine lv_iconst (v := (0 : Int32)) hx hb dX1_leaveOut_27 (by decide) ?_
      have e9 := Option.some.inj h
      exact W.zret (v := (0 : Int32)) hx hb hr rfl (fun t ht hW => ⟨⟨(0 : Int32), (ms_code u (0 : Int32)), rfl, ⟨congrArg Prod.fst e9, congrArg Prod.snd e9⟩, by rw [ht]; exact hP, va_K.moved hW.alike hK, hD⟩, hS.F ht⟩) hS.2.2 dX1_leaveOut_28
    · rw [if_neg c_2] at h
      refine lv_aload_n hx hb dX1_leaveOut_17 rfl (lv_at hl 0 rfl) ?_
      refine gt_M_out hx hb hts hin0 hown hK hP hf_49 dX1_leaveOut_18 ?_
      refine lv_iload_n hx hb dX1_leaveOut_21 rfl (lv_at hl 1 rfl) ?_
      obtain ⟨g_3, h⟩ := og_some h
      refine ld_M_out (F := (m_out u)) hx hb hK hP (rq_m_out_code u (0 : Int32)) (inb_in g_3) dX1_leaveOut_22 ?_
      refine lv_iload_n hx hb dX1_leaveOut_23 rfl (lv_at hl 2 rfl) ?_
      refine lv_icmp_ne (tgt := 29) hx hb dX1_leaveOut_24 (by decide) (fun c_4 => ?_) (fun c_4 => ?_)
      · rw [if_neg c_4] at h
        refine lv_aload_n hx hb dX1_leaveOut_29 rfl (lv_at hl 0 rfl) ?_
        refine gt_M_out hx hb hts hin0 hown hK hP hf_49 dX1_leaveOut_30 ?_
        refine lv_iload_n hx hb dX1_leaveOut_33 rfl (lv_at hl 1 rfl) ?_
        refine lv_iload_n hx hb dX1_leaveOut_34 rfl (lv_at hl 2 rfl) ?_
        obtain ⟨g_5, h⟩ := og_some h
        refine sr_M_out (F := (m_out u)) hx hb hK hP hD hS (rq_m_out_code u (0 : Int32)) (inb_in g_5) dX1_leaveOut_35 (fun H locs hP hD hS => ?_)
        refine lv_iconst (v := (1 : Int32)) hx hb dX1_leaveOut_36 (by decide) ?_
        have e9 := Option.some.inj h
        exact W.zret (v := (1 : Int32)) hx hb hr rfl (fun t ht hW => ⟨⟨(1 : Int32), (ms_out (ms_code u (0 : Int32)) (upd (m_out u) p0.toNatClampNeg (vp_nar .boolean p1))), rfl, ⟨congrArg Prod.fst e9, congrArg Prod.snd e9⟩, by rw [ht]; exact hP, va_K.moved hW.alike hK, hD⟩, hS.F ht⟩) hS.2.2 dX1_leaveOut_37
      · rw [if_pos c_4] at h
        refine lv_iconst (v := (0 : Int32)) hx hb dX1_leaveOut_27 (by decide) ?_
        have e9 := Option.some.inj h
        exact W.zret (v := (0 : Int32)) hx hb hr rfl (fun t ht hW => ⟨⟨(0 : Int32), (ms_code u (0 : Int32)), rfl, ⟨congrArg Prod.fst e9, congrArg Prod.snd e9⟩, by rw [ht]; exact hP, va_K.moved hW.alike hK, hD⟩, hS.F ht⟩) hS.2.2 dX1_leaveOut_28
set_option maxHeartbeats 4000000 in
set_option maxRecDepth 100000 in
theorem c_X1_lock (l : Launch) (dC : Nat → ClassId) (dI : Nat → Nat → Nat) (hs : Nat → Nat) (ka : Nat → ClassId) (sz : Nat) (fu : Nat) (u : MS) (p0 : Int32) (p1 : Int32) (r : Int32) (u' : MS) (h : pf_X1_lock fu p0 p1 u = some (r, u')) : Met l yX1_lock wzX1_lock ({ frames := 2, cells := 0, slots := 0, locals := 43 }) (va_Pc [.ref (hs 0), .int p0, .int p1] (fun U => U.heap.size = sz ∧ va_P (dC, dI) vwCl (cM hs ka u) U.heap ∧ va_K (dC, dI) vwCl (tM ka) U ∧ va_D (fun _ => True) (cM hs ka u))) (va_Qi (fun (r1 : Int32) (u1 : MS) => r1 = r ∧ u1 = u') (aM dC dI (va_A (cM hs ka u) sz) hs ka) (va_A (cM hs ka u) sz)) 0 0 (va_A (cM hs ka u) sz) := by
  refine Met.ofW (cc := cX1_lock) (maxL := 3) (ret := (some .boolean)) (by decide) rfl ?_
  intro p e s m args below meth c s₁ B hml hv
  obtain ⟨rfl, hsz, hP, hK, hD0⟩ := hv
  have hx := B.exec
  have hb := B.bytes
  have hr := B.returns
  have hts := atoms_spec (ws := wzX1_lock) B.pre
  have hown : s.vm.findClass RX1 = some m.cls := findClass_of_methodNamed B.named
  have hlocks := B.notSynchronized
  subst hsz
  have hD := hD0.self (sz := s.heap.size)
  generalize hAe : va_A (cM hs ka u) s.heap.size = A at hD ⊢
  have hA : ∀ q : Nat, s.heap.size ≤ q → A q := fun q h => by rw [← hAe]; exact Or.inr h
  have hS : va_S A s.heap s.heap [] := va_S.rf
  have hP : va_P (dC, dI) vwCl (cM hs ka u) s.heap := hP
  clear hD0 hAe
  have hin0 : ∀ w ∈ u_ws RX1 TX1 23, w ∈ wzX1_lock := fun w h => List.mem_cons_of_mem _ (inTX1 w h)
  have hf_13 := hts (.fieldLink RX1 13 "ConflictSolveModel" "locks" "[I") (List.mem_cons_of_mem _ tz_240)
  have hf_63 := hts (.fieldLink RX1 63 "ConflictSolveModel" "code" "I") (List.mem_cons_of_mem _ tz_238)
  have hl := lv_entry ([.ref (hs 0), .int p0, .int p1]) (n := 3) (Nat.le_of_ble_eq_true rfl)
  rw [lg_entry_eq]
  generalize (lg_sl ([.ref (hs 0), .int p0, .int p1]) ++ List.replicate (3 - (lg_sl ([.ref (hs 0), .int p0, .int p1])).length) Slot.unset).toArray = ls at hl ⊢
  have hl : lv_has ls 3 [(0, .ref (hs 0)), (1, .int p0), (2, .int p1)] := hl
  rw [pf_X1_lock] at h
  refine lv_aload_n hx hb dX1_lock_0 rfl (lv_at hl 0 rfl) ?_
  refine lv_iconst (v := (0 : Int32)) hx hb dX1_lock_1 (by decide) ?_
  refine pt_M_code hx hb hts hin0 hown hK hP hD hS hf_63 dX1_lock_2 (fun H locs hP hD hS => ?_)
  refine lv_aload_n hx hb dX1_lock_5 rfl (lv_at hl 0 rfl) ?_
  refine lv_iload_n hx hb dX1_lock_6 rfl (lv_at hl 1 rfl) ?_
  have hPc := hP
  have hDc := hD
  have hKc := hK
  have hFc := fr_M hD hS hA
  refine va_calli (va_runV (As := [.int p0]) (rest := []) ⟨hx, hb, hml, hown, hts⟩ (c_X1_isPackage l dC dI hs ka H.size (ms_code u (0 : Int32)) p0 _ rfl) (cwV 1 hts gX1_lock_X1_isPackage rfl rfl rfl (by decide +kernel) ⟨Nat.le_of_ble_eq_true rfl, Nat.le_of_ble_eq_true rfl⟩) ⟨fun a U g mk q => by obtain ⟨q0, q1, qP, qK, qD⟩ := q; exact ⟨q0, q1, qP, va_K.moved (u := U) (U := U.calling g mk a) (Vm.Alike.refl U.vm) qK, qD⟩, rc_M hKc hPc, fun U hU hW => ⟨rfl, by rw [hU], by rw [hU]; exact hPc, va_K.moved hW.alike hKc, hDc.weaken (fun _ _ _ _ => trivial)⟩⟩ rfl rfl hl.1 rfl (lv_room (Nat.le_of_ble_eq_true rfl)) dX1_lock_7 ⟨Nat.zero_le _, Nat.zero_le _⟩) hS (fun q _ h => hFc q h) hFc (fun r_1 u_c1 t H1 locs ht hvm hw hB hz1 hk1 hS => ?_)
  obtain ⟨hw1, hw2⟩ := hw
  subst r_1
  subst u_c1
  obtain ⟨hP1, hK1, hD1⟩ := hB
  rw [ht] at hP1
  obtain ⟨hP, hD⟩ := jw_M hP hD hk1 hFc hP1 hD1
  clear hPc hDc hKc hFc hz1 hk1 hP1 hK1 hD1
  generalize H1 = H at hP hS ⊢
  refine lv_if_eq (tgt := 27) hx hb dX1_lock_10 (by decide) (fun c_2 => ?_) (fun c_2 => ?_)
  · rw [if_pos c_2] at h
    refine lv_iconst (v := (0 : Int32)) hx hb dX1_lock_27 (by decide) ?_
    have e9 := Option.some.inj h
    exact W.zret (v := (0 : Int32)) hx hb hr rfl (fun t ht hW => ⟨⟨(0 : Int32), (ms_code u (0 : Int32)), rfl, ⟨congrArg Prod.fst e9, congrArg Prod.snd e9⟩, by rw [ht]; exact hP, va_K.moved hW.alike hK, hD⟩, hS.F ht⟩) hS.2.2 dX1_lock_28
  · rw [if_neg c_2] at h
    refine lv_iload_n hx hb dX1_lock_13 rfl (lv_at hl 2 rfl) ?_
    refine lv_iconst (v := (-1 : Int32)) hx hb dX1_lock_14 (by decide) ?_
    refine lv_icmp_eq (tgt := 29) hx hb dX1_lock_15 (by decide) (fun c_3 => ?_) (fun c_3 => ?_)
    · rw [if_pos c_3] at h
      refine lv_aload_n hx hb dX1_lock_29 rfl (lv_at hl 0 rfl) ?_
      refine gt_M_locks hx hb hts hin0 hown hK hP hf_13 dX1_lock_30 ?_
      refine lv_iload_n hx hb dX1_lock_33 rfl (lv_at hl 1 rfl) ?_
      refine lv_iload_n hx hb dX1_lock_34 rfl (lv_at hl 2 rfl) ?_
      obtain ⟨g_4, h⟩ := og_some h
      refine sr_M_locks (F := (m_locks u)) hx hb hK hP hD hS (rq_m_locks_code u (0 : Int32)) (inb_in g_4) dX1_lock_35 (fun H locs hP hD hS => ?_)
      refine lv_iconst (v := (1 : Int32)) hx hb dX1_lock_36 (by decide) ?_
      have e9 := Option.some.inj h
      exact W.zret (v := (1 : Int32)) hx hb hr rfl (fun t ht hW => ⟨⟨(1 : Int32), (ms_locks (ms_code u (0 : Int32)) (upd (m_locks u) p0.toNatClampNeg p1)), rfl, ⟨congrArg Prod.fst e9, congrArg Prod.snd e9⟩, by rw [ht]; exact hP, va_K.moved hW.alike hK, hD⟩, hS.F ht⟩) hS.2.2 dX1_lock_37
    · rw [if_neg c_3] at h
      refine lv_aload_n hx hb dX1_lock_18 rfl (lv_at hl 0 rfl) ?_
      refine lv_iload_n hx hb dX1_lock_19 rfl (lv_at hl 1 rfl) ?_
      refine lv_iload_n hx hb dX1_lock_20 rfl (lv_at hl 2 rfl) ?_
      obtain ⟨q_5, hc_5, h⟩ := ob_some h
      have hPc := hP
      have hDc := hD
      have hKc := hK
      have hFc := fr_M hD hS hA
      refine va_calli (va_runV (As := [.int p0, .int p1]) (rest := []) ⟨hx, hb, hml, hown, hts⟩ (c_X1_isVersion l dC dI hs ka H.size fu (ms_code u (0 : Int32)) p0 p1 q_5 hc_5) (cwV 2 hts gX1_lock_X1_isVersion rfl rfl rfl (by decide +kernel) ⟨Nat.le_of_ble_eq_true rfl, Nat.le_of_ble_eq_true rfl⟩) ⟨fun a U g mk q => by obtain ⟨q0, q1, qP, qK, qD⟩ := q; exact ⟨q0, q1, qP, va_K.moved (u := U) (U := U.calling g mk a) (Vm.Alike.refl U.vm) qK, qD⟩, rc_M hKc hPc, fun U hU hW => ⟨rfl, by rw [hU], by rw [hU]; exact hPc, va_K.moved hW.alike hKc, hDc.weaken (fun _ _ _ _ => trivial)⟩⟩ rfl rfl hl.1 rfl (lv_room (Nat.le_of_ble_eq_true rfl)) dX1_lock_21 ⟨Nat.zero_le _, Nat.zero_le _⟩) hS (fun q _ h => hFc q h) hFc (fun r_5 u_c5 t H1 locs ht hvm hw hB hz1 hk1 hS => ?_)
      obtain ⟨hw1, hw2⟩ := hw
      subst r_5
      subst u_c5
      obtain ⟨hP1, hK1, hD1⟩ := hB
      rw [ht] at hP1
      obtain ⟨hP, hD⟩ := jw_M hP hD hk1 hFc hP1 hD1
      clear hPc hDc hKc hFc hz1 hk1 hP1 hK1 hD1
      generalize H1 = H at hP hS ⊢
      refine lv_if_ne (tgt := 29) hx hb dX1_lock_24 (by decide) (fun c_6 => ?_) (fun c_6 => ?_)
      · rw [if_neg c_6] at h
        refine lv_aload_n hx hb dX1_lock_29 rfl (lv_at hl 0 rfl) ?_
        refine gt_M_locks hx hb hts hin0 hown hK hP hf_13 dX1_lock_30 ?_
        refine lv_iload_n hx hb dX1_lock_33 rfl (lv_at hl 1 rfl) ?_
        refine lv_iload_n hx hb dX1_lock_34 rfl (lv_at hl 2 rfl) ?_
        obtain ⟨g_7, h⟩ := og_some h
        refine sr_M_locks (F := (m_locks u)) hx hb hK hP hD hS (rq_m_locks_code u (0 : Int32)) (inb_in g_7) dX1_lock_35 (fun H locs hP hD hS => ?_)
        refine lv_iconst (v := (1 : Int32)) hx hb dX1_lock_36 (by decide) ?_
        have e9 := Option.some.inj h
        exact W.zret (v := (1 : Int32)) hx hb hr rfl (fun t ht hW => ⟨⟨(1 : Int32), (ms_locks (ms_code u (0 : Int32)) (upd (m_locks u) p0.toNatClampNeg p1)), rfl, ⟨congrArg Prod.fst e9, congrArg Prod.snd e9⟩, by rw [ht]; exact hP, va_K.moved hW.alike hK, hD⟩, hS.F ht⟩) hS.2.2 dX1_lock_37
      · rw [if_pos c_6] at h
        refine lv_iconst (v := (0 : Int32)) hx hb dX1_lock_27 (by decide) ?_
        have e9 := Option.some.inj h
        exact W.zret (v := (0 : Int32)) hx hb hr rfl (fun t ht hW => ⟨⟨(0 : Int32), (ms_code u (0 : Int32)), rfl, ⟨congrArg Prod.fst e9, congrArg Prod.snd e9⟩, by rw [ht]; exact hP, va_K.moved hW.alike hK, hD⟩, hS.F ht⟩) hS.2.2 dX1_lock_28
set_option maxHeartbeats 4000000 in
set_option maxRecDepth 100000 in
theorem c_X1_isBroken (l : Launch) (dC : Nat → ClassId) (dI : Nat → Nat → Nat) (hs : Nat → Nat) (ka : Nat → ClassId) (sz : Nat) (fu : Nat) (u : MS) (p0 : Int32) (r : Int32) (h : pf_X1_isBroken fu p0 u = some r) : Met l yX1_isBroken wzX1_isBroken ({ frames := 0, cells := 0, slots := 0, locals := 0 }) (va_Pc [.ref (hs 0), .int p0] (fun U => U.heap.size = sz ∧ va_P (dC, dI) vwCl (cM hs ka u) U.heap ∧ va_K (dC, dI) vwCl (tM ka) U ∧ va_D (fun _ => True) (cM hs ka u))) (va_Qi (fun (r1 : Int32) (u1 : MS) => r1 = r ∧ u1 = u) (aM dC dI (va_A (cM hs ka u) sz) hs ka) (va_A (cM hs ka u) sz)) 0 0 (va_A (cM hs ka u) sz) := by
  refine Met.ofW (cc := cX1_isBroken) (maxL := 6) (ret := (some .boolean)) (by decide) rfl ?_
  intro p e s m args below meth c s₁ B hml hv
  obtain ⟨rfl, hsz, hP, hK, hD0⟩ := hv
  have hx := B.exec
  have hb := B.bytes
  have hr := B.returns
  have hts := atoms_spec (ws := wzX1_isBroken) B.pre
  have hown : s.vm.findClass RX1 = some m.cls := findClass_of_methodNamed B.named
  have hlocks := B.notSynchronized
  subst hsz
  have hD := hD0.self (sz := s.heap.size)
  generalize hAe : va_A (cM hs ka u) s.heap.size = A at hD ⊢
  have hA : ∀ q : Nat, s.heap.size ≤ q → A q := fun q h => by rw [← hAe]; exact Or.inr h
  have hS : va_S A s.heap s.heap [] := va_S.rf
  have hP : va_P (dC, dI) vwCl (cM hs ka u) s.heap := hP
  clear hD0 hAe
  have hin0 : ∀ w ∈ u_ws RX1 TX1 23, w ∈ wzX1_isBroken := fun w h => List.mem_cons_of_mem _ (inTX1 w h)
  have hf_19 := hts (.fieldLink RX1 19 "ConflictSolveModel" "value" "[I") (List.mem_cons_of_mem _ tz_242)
  have hf_31 := hts (.fieldLink RX1 31 "ConflictSolveModel" "pack" "[I") (List.mem_cons_of_mem _ tz_250)
  have hf_34 := hts (.fieldLink RX1 34 "ConflictSolveModel" "version" "[I") (List.mem_cons_of_mem _ tz_251)
  have hf_37 := hts (.fieldLink RX1 37 "ConflictSolveModel" "kind" "[I") (List.mem_cons_of_mem _ tz_252)
  have hf_40 := hts (.fieldLink RX1 40 "ConflictSolveModel" "many" "[I") (List.mem_cons_of_mem _ tz_253)
  have hf_43 := hts (.fieldLink RX1 43 "ConflictSolveModel" "other" "[I") (List.mem_cons_of_mem _ tz_254)
  have hf_46 := hts (.fieldLink RX1 46 "ConflictSolveModel" "set" "[I") (List.mem_cons_of_mem _ tz_255)
  have hf_49 := hts (.fieldLink RX1 49 "ConflictSolveModel" "out" "[Z") (List.mem_cons_of_mem _ tz_256)
  have hf_53 := hts (.fieldLink RX1 53 "ConflictSolveModel" "away" "[Z") (List.mem_cons_of_mem _ tz_257)
  have hl := lv_entry ([.ref (hs 0), .int p0]) (n := 6) (Nat.le_of_ble_eq_true rfl)
  rw [lg_entry_eq]
  generalize (lg_sl ([.ref (hs 0), .int p0]) ++ List.replicate (6 - (lg_sl ([.ref (hs 0), .int p0])).length) Slot.unset).toArray = ls at hl ⊢
  have hl : lv_has ls 6 [(0, .ref (hs 0)), (1, .int p0)] := hl
  rw [pf_X1_isBroken] at h
  refine lv_iload_n hx hb dX1_isBroken_0 rfl (lv_at hl 1 rfl) ?_
  refine lv_bipush (v := (120 : Int32)) hx hb dX1_isBroken_1 (by decide) ?_
  refine lv_icmp_lt (tgt := 33) hx hb dX1_isBroken_3 (by decide) (fun c_1 => ?_) (fun c_1 => ?_)
  · rw [if_pos c_1] at h
    refine lv_aload_n hx hb dX1_isBroken_33 rfl (lv_at hl 0 rfl) ?_
    refine gt_M_value hx hb hts hin0 hown hK hP hf_19 dX1_isBroken_34 ?_
    refine lv_aload_n hx hb dX1_isBroken_37 rfl (lv_at hl 0 rfl) ?_
    refine gt_M_pack hx hb hts hin0 hown hK hP hf_31 dX1_isBroken_38 ?_
    refine lv_iload_n hx hb dX1_isBroken_41 rfl (lv_at hl 1 rfl) ?_
    obtain ⟨g_2, h⟩ := og_some h
    refine ld_M_pack (F := (m_pack u)) hx hb hK hP rfl (inb_in g_2) dX1_isBroken_42 ?_
    obtain ⟨g_3, h⟩ := og_some h
    refine ld_M_value (F := (m_value u)) hx hb hK hP rfl (inb_in g_3) dX1_isBroken_43 ?_
    refine lv_aload_n hx hb dX1_isBroken_44 rfl (lv_at hl 0 rfl) ?_
    refine gt_M_version hx hb hts hin0 hown hK hP hf_34 dX1_isBroken_45 ?_
    refine lv_iload_n hx hb dX1_isBroken_48 rfl (lv_at hl 1 rfl) ?_
    obtain ⟨g_4, h⟩ := og_some h
    refine ld_M_version (F := (m_version u)) hx hb hK hP rfl (inb_in g_4) dX1_isBroken_49 ?_
    refine lv_icmp_eq (tgt := 55) hx hb dX1_isBroken_50 (by decide) (fun c_5 => ?_) (fun c_5 => ?_)
    · rw [if_pos c_5] at h
      refine lv_iconst (v := (1 : Int32)) hx hb dX1_isBroken_55 (by decide) ?_
      refine lv_istore_n (lv' := [(2, .int (1 : Int32)), (0, .ref (hs 0)), (1, .int p0)]) hx hb dX1_isBroken_56 rfl hl (by decide) rfl (fun ls hl => ?_)
      refine lv_iconst (v := (0 : Int32)) hx hb dX1_isBroken_57 (by decide) ?_
      refine lv_istore_n (lv' := [(3, .int (0 : Int32)), (2, .int (1 : Int32)), (0, .ref (hs 0)), (1, .int p0)]) hx hb dX1_isBroken_58 rfl hl (by decide) rfl (fun ls hl => ?_)
      have lp_59 : ∀ K_59 : Int32 → Int32 → Option (Int32), (∀ (x3_59 : Int32) (x2_59 : Int32) (H : Heap) (locs : List Loc) (ls : Array Slot), K_59 x3_59 x2_59 = some r → va_P (dC, dI) vwCl (cM hs ka u) H → va_D A (cM hs ka u) → va_S A s.heap H locs → lv_has ls 6 [(3, .int x3_59), (2, .int x2_59), (0, .ref (hs 0)), (1, .int p0)] → W p l e (headSpec wzX1_isBroken ({ frames := 0, cells := 0, slots := 0, locals := 0 })).room s m ([.ref (hs 0), .int p0] : List Value).toArray below meth c H locs 0 0 (MQ below (va_Qi (fun (r1 : Int32) (u1 : MS) => r1 = r ∧ u1 = u) (aM dC dI A hs ka) A) ([.ref (hs 0), .int p0] : List Value).toArray s 0 0 A) (F0 m 185 ls [])) → ∀ n_59 : Nat, ∀ (x3_59 : Int32) (x2_59 : Int32) (H : Heap) (locs : List Loc) (ls : Array Slot), pl_X1_isBroken_59 fu p0 u K_59 n_59 x3_59 x2_59 = some r → va_P (dC, dI) vwCl (cM hs ka u) H → va_D A (cM hs ka u) → va_S A s.heap H locs → lv_has ls 6 [(3, .int x3_59), (2, .int x2_59), (0, .ref (hs 0)), (1, .int p0)] → W p l e (headSpec wzX1_isBroken ({ frames := 0, cells := 0, slots := 0, locals := 0 })).room s m ([.ref (hs 0), .int p0] : List Value).toArray below meth c H locs 0 0 (MQ below (va_Qi (fun (r1 : Int32) (u1 : MS) => r1 = r ∧ u1 = u) (aM dC dI A hs ka) A) ([.ref (hs 0), .int p0] : List Value).toArray s 0 0 A) (F0 m 59 ls []) := by
        intro K_59 hk_59 n_59
        induction n_59 with
        | zero =>
          intro x3_59 x2_59 H locs ls h
          exact absurd (show (none : Option (Int32)) = some r from h) (fun q => by cases q)
        | succ n_59 ih_59 =>
          intro x3_59 x2_59 H locs ls h hP hD hS hl
          rw [pl_X1_isBroken_59] at h
          refine lv_iload_n hx hb dX1_isBroken_59 rfl (lv_at hl 0 rfl) ?_
          refine lv_aload_n hx hb dX1_isBroken_60 rfl (lv_at hl 2 rfl) ?_
          refine gt_M_many hx hb hts hin0 hown hK hP hf_40 dX1_isBroken_61 ?_
          refine lv_iload_n hx hb dX1_isBroken_64 rfl (lv_at hl 3 rfl) ?_
          obtain ⟨g_6, h⟩ := og_some h
          refine ld_M_many (F := (m_many u)) hx hb hK hP rfl (inb_in g_6) dX1_isBroken_65 ?_
          refine lv_icmp_ge (tgt := 185) hx hb dX1_isBroken_66 (by decide) (fun c_7 => ?_) (fun c_7 => ?_)
          · rw [if_pos c_7] at h
            exact hk_59 x3_59 x2_59 _ _ _ h hP hD hS (lv_sub hl [0, 1, 2, 3] rfl)
          · rw [if_neg c_7] at h
            refine lv_aload_n hx hb dX1_isBroken_69 rfl (lv_at hl 2 rfl) ?_
            refine gt_M_value hx hb hts hin0 hown hK hP hf_19 dX1_isBroken_70 ?_
            refine lv_aload_n hx hb dX1_isBroken_73 rfl (lv_at hl 2 rfl) ?_
            refine gt_M_other hx hb hts hin0 hown hK hP hf_43 dX1_isBroken_74 ?_
            refine lv_iconst (v := (3 : Int32)) hx hb dX1_isBroken_77 (by decide) ?_
            refine lv_iload_n hx hb dX1_isBroken_78 rfl (lv_at hl 3 rfl) ?_
            refine lv_imul hx hb dX1_isBroken_79 ?_
            refine lv_iload_n hx hb dX1_isBroken_80 rfl (lv_at hl 0 rfl) ?_
            refine lv_iadd hx hb dX1_isBroken_81 ?_
            obtain ⟨g_8, h⟩ := og_some h
            refine ld_M_other (F := (m_other u)) hx hb hK hP rfl (inb_in g_8) dX1_isBroken_82 ?_
            obtain ⟨g_9, h⟩ := og_some h
            refine ld_M_value (F := (m_value u)) hx hb hK hP rfl (inb_in g_9) dX1_isBroken_83 ?_
            refine lv_istore (lv' := [(4, .int ((m_value u) ((m_other u) (((3 : Int32) * p0) + x3_59).toNatClampNeg).toNatClampNeg)), (3, .int x3_59), (2, .int x2_59), (0, .ref (hs 0)), (1, .int p0)]) hx hb dX1_isBroken_84 hl (by decide) rfl (fun ls hl => ?_)
            have jp_115 : ∀ (t_115 : Int32) (H : Heap) (locs : List Loc) (ls : Array Slot), ((jn (fun (t_178 : Int32) => (pl_X1_isBroken_59 fu p0 u K_59 n_59 (x3_59 + (1 : Int32)) t_178)) (fun j_178 => (if x2_59 = 0 then (j_178 (0 : Int32)) else (if ((m_value u) ((m_other u) (((3 : Int32) * p0) + x3_59).toNatClampNeg).toNatClampNeg) = (-2 : Int32) then (j_178 (0 : Int32)) else (og (inb p0 132) (if ((m_kind u) p0.toNatClampNeg) = 0 then (if t_115 = 0 then (j_178 (1 : Int32)) else (j_178 (0 : Int32))) else (og (inb p0 132) (if ((m_kind u) p0.toNatClampNeg) = (1 : Int32) then (if t_115 = 0 then (j_178 (0 : Int32)) else (j_178 (1 : Int32))) else (if ((m_value u) ((m_other u) (((3 : Int32) * p0) + x3_59).toNatClampNeg).toNatClampNeg) < 0 then (j_178 (0 : Int32)) else (if t_115 = 0 then (j_178 (1 : Int32)) else (j_178 (0 : Int32)))))))))))) : Option (Int32)) = some r → va_P (dC, dI) vwCl (cM hs ka u) H → va_D A (cM hs ka u) → va_S A s.heap H locs → lv_has ls 6 [(4, .int ((m_value u) ((m_other u) (((3 : Int32) * p0) + x3_59).toNatClampNeg).toNatClampNeg)), (3, .int x3_59), (2, .int x2_59), (0, .ref (hs 0)), (1, .int p0)] → W p l e (headSpec wzX1_isBroken ({ frames := 0, cells := 0, slots := 0, locals := 0 })).room s m ([.ref (hs 0), .int p0] : List Value).toArray below meth c H locs 0 0 (MQ below (va_Qi (fun (r1 : Int32) (u1 : MS) => r1 = r ∧ u1 = u) (aM dC dI A hs ka) A) ([.ref (hs 0), .int p0] : List Value).toArray s 0 0 A) (F0 m 115 ls [.int t_115]) := by
              intro t_115 H locs ls h hP hD hS hl
              refine lv_istore (lv' := [(5, .int t_115), (4, .int ((m_value u) ((m_other u) (((3 : Int32) * p0) + x3_59).toNatClampNeg).toNatClampNeg)), (3, .int x3_59), (2, .int x2_59), (0, .ref (hs 0)), (1, .int p0)]) hx hb dX1_isBroken_115 hl (by decide) rfl (fun ls hl => ?_)
              have jp_178 : ∀ (t_178 : Int32) (H : Heap) (locs : List Loc) (ls : Array Slot), ((pl_X1_isBroken_59 fu p0 u K_59 n_59 (x3_59 + (1 : Int32)) t_178) : Option (Int32)) = some r → va_P (dC, dI) vwCl (cM hs ka u) H → va_D A (cM hs ka u) → va_S A s.heap H locs → lv_has ls 6 [(5, .int t_115), (4, .int ((m_value u) ((m_other u) (((3 : Int32) * p0) + x3_59).toNatClampNeg).toNatClampNeg)), (3, .int x3_59), (2, .int x2_59), (0, .ref (hs 0)), (1, .int p0)] → W p l e (headSpec wzX1_isBroken ({ frames := 0, cells := 0, slots := 0, locals := 0 })).room s m ([.ref (hs 0), .int p0] : List Value).toArray below meth c H locs 0 0 (MQ below (va_Qi (fun (r1 : Int32) (u1 : MS) => r1 = r ∧ u1 = u) (aM dC dI A hs ka) A) ([.ref (hs 0), .int p0] : List Value).toArray s 0 0 A) (F0 m 178 ls [.int t_178]) := by
                intro t_178 H locs ls h hP hD hS hl
                refine lv_istore_n (lv' := [(2, .int t_178), (5, .int t_115), (4, .int ((m_value u) ((m_other u) (((3 : Int32) * p0) + x3_59).toNatClampNeg).toNatClampNeg)), (3, .int x3_59), (0, .ref (hs 0)), (1, .int p0)]) hx hb dX1_isBroken_178 rfl hl (by decide) rfl (fun ls hl => ?_)
                refine lv_iinc (v := (x3_59 + (1 : Int32))) (lv' := [(3, .int (x3_59 + (1 : Int32))), (2, .int t_178), (5, .int t_115), (4, .int ((m_value u) ((m_other u) (((3 : Int32) * p0) + x3_59).toNatClampNeg).toNatClampNeg)), (0, .ref (hs 0)), (1, .int p0)]) hx hb dX1_isBroken_179 hl (k := 3) rfl (congrArg (fun z : Int32 => x3_59 + z) (by decide : Int32.ofInt (1) = (1 : Int32))) (by decide) rfl (fun ls hl => ?_)
                refine lv_goto (tgt := 59) hx hb dX1_isBroken_182 (by decide) ?_
                exact ih_59 (x3_59 + (1 : Int32)) t_178 _ _ _ h hP hD hS (lv_sub hl [0, 1, 4, 5] rfl)
              have h := jn_e h
              refine lv_iload_n hx hb dX1_isBroken_117 rfl (lv_at hl 3 rfl) ?_
              refine lv_if_eq (tgt := 177) hx hb dX1_isBroken_118 (by decide) (fun c_10 => ?_) (fun c_10 => ?_)
              · rw [if_pos c_10] at h
                refine lv_iconst (v := (0 : Int32)) hx hb dX1_isBroken_177 (by decide) ?_
                exact jp_178 (0 : Int32) _ _ _ h hP hD hS (lv_sub hl [0, 1, 2, 3, 4, 5] rfl)
              · rw [if_neg c_10] at h
                refine lv_iload hx hb dX1_isBroken_121 (lv_at hl 1 rfl) ?_
                refine lv_bipush (v := (-2 : Int32)) hx hb dX1_isBroken_123 (by decide) ?_
                refine lv_icmp_eq (tgt := 177) hx hb dX1_isBroken_125 (by decide) (fun c_11 => ?_) (fun c_11 => ?_)
                · rw [if_pos c_11] at h
                  refine lv_iconst (v := (0 : Int32)) hx hb dX1_isBroken_177 (by decide) ?_
                  exact jp_178 (0 : Int32) _ _ _ h hP hD hS (lv_sub hl [0, 1, 2, 3, 4, 5] rfl)
                · rw [if_neg c_11] at h
                  refine lv_aload_n hx hb dX1_isBroken_128 rfl (lv_at hl 4 rfl) ?_
                  refine gt_M_kind hx hb hts hin0 hown hK hP hf_37 dX1_isBroken_129 ?_
                  refine lv_iload_n hx hb dX1_isBroken_132 rfl (lv_at hl 5 rfl) ?_
                  obtain ⟨g_12, h⟩ := og_some h
                  refine ld_M_kind (F := (m_kind u)) hx hb hK hP rfl (inb_in g_12) dX1_isBroken_133 ?_
                  refine lv_if_ne (tgt := 145) hx hb dX1_isBroken_134 (by decide) (fun c_13 => ?_) (fun c_13 => ?_)
                  · rw [if_neg c_13] at h
                    refine lv_aload_n hx hb dX1_isBroken_145 rfl (lv_at hl 4 rfl) ?_
                    refine gt_M_kind hx hb hts hin0 hown hK hP hf_37 dX1_isBroken_146 ?_
                    refine lv_iload_n hx hb dX1_isBroken_149 rfl (lv_at hl 5 rfl) ?_
                    obtain ⟨g_14, h⟩ := og_some h
                    refine ld_M_kind (F := (m_kind u)) hx hb hK hP rfl (inb_in g_14) dX1_isBroken_150 ?_
                    refine lv_iconst (v := (1 : Int32)) hx hb dX1_isBroken_151 (by decide) ?_
                    refine lv_icmp_ne (tgt := 163) hx hb dX1_isBroken_152 (by decide) (fun c_15 => ?_) (fun c_15 => ?_)
                    · rw [if_neg c_15] at h
                      refine lv_iload hx hb dX1_isBroken_163 (lv_at hl 1 rfl) ?_
                      refine lv_if_lt (tgt := 177) hx hb dX1_isBroken_165 (by decide) (fun c_16 => ?_) (fun c_16 => ?_)
                      · rw [if_pos c_16] at h
                        refine lv_iconst (v := (0 : Int32)) hx hb dX1_isBroken_177 (by decide) ?_
                        exact jp_178 (0 : Int32) _ _ _ h hP hD hS (lv_sub hl [0, 1, 2, 3, 4, 5] rfl)
                      · rw [if_neg c_16] at h
                        refine lv_iload hx hb dX1_isBroken_168 (lv_at hl 0 rfl) ?_
                        refine lv_if_ne (tgt := 177) hx hb dX1_isBroken_170 (by decide) (fun c_17 => ?_) (fun c_17 => ?_)
                        · rw [if_neg c_17] at h
                          refine lv_iconst (v := (0 : Int32)) hx hb dX1_isBroken_177 (by decide) ?_
                          exact jp_178 (0 : Int32) _ _ _ h hP hD hS (lv_sub hl [0, 1, 2, 3, 4, 5] rfl)
                        · rw [if_pos c_17] at h
                          refine lv_iconst (v := (1 : Int32)) hx hb dX1_isBroken_173 (by decide) ?_
                          refine lv_goto (tgt := 178) hx hb dX1_isBroken_174 (by decide) ?_
                          exact jp_178 (1 : Int32) _ _ _ h hP hD hS (lv_sub hl [0, 1, 2, 3, 4, 5] rfl)
                    · rw [if_pos c_15] at h
                      refine lv_iload hx hb dX1_isBroken_155 (lv_at hl 0 rfl) ?_
                      refine lv_if_eq (tgt := 177) hx hb dX1_isBroken_157 (by decide) (fun c_18 => ?_) (fun c_18 => ?_)
                      · rw [if_pos c_18] at h
                        refine lv_iconst (v := (0 : Int32)) hx hb dX1_isBroken_177 (by decide) ?_
                        exact jp_178 (0 : Int32) _ _ _ h hP hD hS (lv_sub hl [0, 1, 2, 3, 4, 5] rfl)
                      · rw [if_neg c_18] at h
                        refine lv_goto (tgt := 173) hx hb dX1_isBroken_160 (by decide) ?_
                        refine lv_iconst (v := (1 : Int32)) hx hb dX1_isBroken_173 (by decide) ?_
                        refine lv_goto (tgt := 178) hx hb dX1_isBroken_174 (by decide) ?_
                        exact jp_178 (1 : Int32) _ _ _ h hP hD hS (lv_sub hl [0, 1, 2, 3, 4, 5] rfl)
                  · rw [if_pos c_13] at h
                    refine lv_iload hx hb dX1_isBroken_137 (lv_at hl 0 rfl) ?_
                    refine lv_if_ne (tgt := 177) hx hb dX1_isBroken_139 (by decide) (fun c_19 => ?_) (fun c_19 => ?_)
                    · rw [if_neg c_19] at h
                      refine lv_iconst (v := (0 : Int32)) hx hb dX1_isBroken_177 (by decide) ?_
                      exact jp_178 (0 : Int32) _ _ _ h hP hD hS (lv_sub hl [0, 1, 2, 3, 4, 5] rfl)
                    · rw [if_pos c_19] at h
                      refine lv_goto (tgt := 173) hx hb dX1_isBroken_142 (by decide) ?_
                      refine lv_iconst (v := (1 : Int32)) hx hb dX1_isBroken_173 (by decide) ?_
                      refine lv_goto (tgt := 178) hx hb dX1_isBroken_174 (by decide) ?_
                      exact jp_178 (1 : Int32) _ _ _ h hP hD hS (lv_sub hl [0, 1, 2, 3, 4, 5] rfl)
            have h := jn_e h
            refine lv_iload hx hb dX1_isBroken_86 (lv_at hl 0 rfl) ?_
            refine lv_if_lt (tgt := 114) hx hb dX1_isBroken_88 (by decide) (fun c_20 => ?_) (fun c_20 => ?_)
            · rw [if_pos c_20] at h
              refine lv_iconst (v := (0 : Int32)) hx hb dX1_isBroken_114 (by decide) ?_
              exact jp_115 (0 : Int32) _ _ _ h hP hD hS (lv_sub hl [0, 1, 2, 3, 4] rfl)
            · rw [if_neg c_20] at h
              refine lv_aload_n hx hb dX1_isBroken_91 rfl (lv_at hl 3 rfl) ?_
              refine gt_M_set hx hb hts hin0 hown hK hP hf_46 dX1_isBroken_92 ?_
              refine lv_iconst (v := (3 : Int32)) hx hb dX1_isBroken_95 (by decide) ?_
              refine lv_iload_n hx hb dX1_isBroken_96 rfl (lv_at hl 4 rfl) ?_
              refine lv_imul hx hb dX1_isBroken_97 ?_
              refine lv_iload_n hx hb dX1_isBroken_98 rfl (lv_at hl 1 rfl) ?_
              refine lv_iadd hx hb dX1_isBroken_99 ?_
              obtain ⟨g_21, h⟩ := og_some h
              refine ld_M_set (F := (m_set u)) hx hb hK hP rfl (inb_in g_21) dX1_isBroken_100 ?_
              refine lv_iload hx hb dX1_isBroken_101 (lv_at hl 0 rfl) ?_
              refine lv_ishr hx hb dX1_isBroken_103 ?_
              refine lv_iconst (v := (1 : Int32)) hx hb dX1_isBroken_104 (by decide) ?_
              refine lv_iand hx hb dX1_isBroken_105 ?_
              refine lv_iconst (v := (1 : Int32)) hx hb dX1_isBroken_106 (by decide) ?_
              refine lv_icmp_ne (tgt := 114) hx hb dX1_isBroken_107 (by decide) (fun c_22 => ?_) (fun c_22 => ?_)
              · rw [if_neg c_22] at h
                refine lv_iconst (v := (0 : Int32)) hx hb dX1_isBroken_114 (by decide) ?_
                exact jp_115 (0 : Int32) _ _ _ h hP hD hS (lv_sub hl [0, 1, 2, 3, 4] rfl)
              · rw [if_pos c_22] at h
                refine lv_iconst (v := (1 : Int32)) hx hb dX1_isBroken_110 (by decide) ?_
                refine lv_goto (tgt := 115) hx hb dX1_isBroken_111 (by decide) ?_
                exact jp_115 (1 : Int32) _ _ _ h hP hD hS (lv_sub hl [0, 1, 2, 3, 4] rfl)
      refine lp_59 _ (fun x3_59 x2_59 H locs ls h hP hD hS hl => ?_) fu (0 : Int32) (1 : Int32) _ _ _ h hP hD hS hl
      refine lv_iload_n hx hb dX1_isBroken_185 rfl (lv_at hl 1 rfl) ?_
      obtain ⟨g_23, h⟩ := og_some h
      have e9 := Option.some.inj h
      exact W.zret (v := x2_59) hx hb hr (bz_n g_23) (fun t ht hW => ⟨⟨x2_59, u, rfl, ⟨e9, rfl⟩, by rw [ht]; exact hP, va_K.moved hW.alike hK, hD⟩, hS.F ht⟩) hS.2.2 dX1_isBroken_186
    · rw [if_neg c_5] at h
      refine lv_iconst (v := (0 : Int32)) hx hb dX1_isBroken_53 (by decide) ?_
      have e9 := Option.some.inj h
      exact W.zret (v := (0 : Int32)) hx hb hr rfl (fun t ht hW => ⟨⟨(0 : Int32), u, rfl, ⟨e9, rfl⟩, by rw [ht]; exact hP, va_K.moved hW.alike hK, hD⟩, hS.F ht⟩) hS.2.2 dX1_isBroken_54
  · rw [if_neg c_1] at h
    refine lv_aload_n hx hb dX1_isBroken_6 rfl (lv_at hl 0 rfl) ?_
    refine gt_M_out hx hb hts hin0 hown hK hP hf_49 dX1_isBroken_7 ?_
    refine lv_iload_n hx hb dX1_isBroken_10 rfl (lv_at hl 1 rfl) ?_
    refine lv_bipush (v := (120 : Int32)) hx hb dX1_isBroken_11 (by decide) ?_
    refine lv_isub hx hb dX1_isBroken_13 ?_
    obtain ⟨g_24, h⟩ := og_some h
    refine ld_M_out (F := (m_out u)) hx hb hK hP rfl (inb_in g_24) dX1_isBroken_14 ?_
    refine lv_if_ne (tgt := 53) hx hb dX1_isBroken_15 (by decide) (fun c_25 => ?_) (fun c_25 => ?_)
    · rw [if_neg c_25] at h
      refine lv_iconst (v := (0 : Int32)) hx hb dX1_isBroken_53 (by decide) ?_
      have e9 := Option.some.inj h
      exact W.zret (v := (0 : Int32)) hx hb hr rfl (fun t ht hW => ⟨⟨(0 : Int32), u, rfl, ⟨e9, rfl⟩, by rw [ht]; exact hP, va_K.moved hW.alike hK, hD⟩, hS.F ht⟩) hS.2.2 dX1_isBroken_54
    · rw [if_pos c_25] at h
      refine lv_aload_n hx hb dX1_isBroken_18 rfl (lv_at hl 0 rfl) ?_
      refine gt_M_away hx hb hts hin0 hown hK hP hf_53 dX1_isBroken_19 ?_
      refine lv_iload_n hx hb dX1_isBroken_22 rfl (lv_at hl 1 rfl) ?_
      refine lv_bipush (v := (120 : Int32)) hx hb dX1_isBroken_23 (by decide) ?_
      refine lv_isub hx hb dX1_isBroken_25 ?_
      obtain ⟨g_26, h⟩ := og_some h
      refine ld_M_away (F := (m_away u)) hx hb hK hP rfl (inb_in g_26) dX1_isBroken_26 ?_
      refine lv_if_eq (tgt := 55) hx hb dX1_isBroken_27 (by decide) (fun c_27 => ?_) (fun c_27 => ?_)
      · rw [if_pos c_27] at h
        refine lv_iconst (v := (1 : Int32)) hx hb dX1_isBroken_55 (by decide) ?_
        refine lv_istore_n (lv' := [(2, .int (1 : Int32)), (0, .ref (hs 0)), (1, .int p0)]) hx hb dX1_isBroken_56 rfl hl (by decide) rfl (fun ls hl => ?_)
        refine lv_iconst (v := (0 : Int32)) hx hb dX1_isBroken_57 (by decide) ?_
        refine lv_istore_n (lv' := [(3, .int (0 : Int32)), (2, .int (1 : Int32)), (0, .ref (hs 0)), (1, .int p0)]) hx hb dX1_isBroken_58 rfl hl (by decide) rfl (fun ls hl => ?_)
        have lp_59 : ∀ K_59 : Int32 → Int32 → Option (Int32), (∀ (x3_59 : Int32) (x2_59 : Int32) (H : Heap) (locs : List Loc) (ls : Array Slot), K_59 x3_59 x2_59 = some r → va_P (dC, dI) vwCl (cM hs ka u) H → va_D A (cM hs ka u) → va_S A s.heap H locs → lv_has ls 6 [(3, .int x3_59), (2, .int x2_59), (0, .ref (hs 0)), (1, .int p0)] → W p l e (headSpec wzX1_isBroken ({ frames := 0, cells := 0, slots := 0, locals := 0 })).room s m ([.ref (hs 0), .int p0] : List Value).toArray below meth c H locs 0 0 (MQ below (va_Qi (fun (r1 : Int32) (u1 : MS) => r1 = r ∧ u1 = u) (aM dC dI A hs ka) A) ([.ref (hs 0), .int p0] : List Value).toArray s 0 0 A) (F0 m 185 ls [])) → ∀ n_59 : Nat, ∀ (x3_59 : Int32) (x2_59 : Int32) (H : Heap) (locs : List Loc) (ls : Array Slot), pl_X1_isBroken_59 fu p0 u K_59 n_59 x3_59 x2_59 = some r → va_P (dC, dI) vwCl (cM hs ka u) H → va_D A (cM hs ka u) → va_S A s.heap H locs → lv_has ls 6 [(3, .int x3_59), (2, .int x2_59), (0, .ref (hs 0)), (1, .int p0)] → W p l e (headSpec wzX1_isBroken ({ frames := 0, cells := 0, slots := 0, locals := 0 })).room s m ([.ref (hs 0), .int p0] : List Value).toArray below meth c H locs 0 0 (MQ below (va_Qi (fun (r1 : Int32) (u1 : MS) => r1 = r ∧ u1 = u) (aM dC dI A hs ka) A) ([.ref (hs 0), .int p0] : List Value).toArray s 0 0 A) (F0 m 59 ls []) := by
          intro K_59 hk_59 n_59
          induction n_59 with
          | zero =>
            intro x3_59 x2_59 H locs ls h
            exact absurd (show (none : Option (Int32)) = some r from h) (fun q => by cases q)
          | succ n_59 ih_59 =>
            intro x3_59 x2_59 H locs ls h hP hD hS hl
            rw [pl_X1_isBroken_59] at h
            refine lv_iload_n hx hb dX1_isBroken_59 rfl (lv_at hl 0 rfl) ?_
            refine lv_aload_n hx hb dX1_isBroken_60 rfl (lv_at hl 2 rfl) ?_
            refine gt_M_many hx hb hts hin0 hown hK hP hf_40 dX1_isBroken_61 ?_
            refine lv_iload_n hx hb dX1_isBroken_64 rfl (lv_at hl 3 rfl) ?_
            obtain ⟨g_28, h⟩ := og_some h
            refine ld_M_many (F := (m_many u)) hx hb hK hP rfl (inb_in g_28) dX1_isBroken_65 ?_
            refine lv_icmp_ge (tgt := 185) hx hb dX1_isBroken_66 (by decide) (fun c_29 => ?_) (fun c_29 => ?_)
            · rw [if_pos c_29] at h
              exact hk_59 x3_59 x2_59 _ _ _ h hP hD hS (lv_sub hl [0, 1, 2, 3] rfl)
            · rw [if_neg c_29] at h
              refine lv_aload_n hx hb dX1_isBroken_69 rfl (lv_at hl 2 rfl) ?_
              refine gt_M_value hx hb hts hin0 hown hK hP hf_19 dX1_isBroken_70 ?_
              refine lv_aload_n hx hb dX1_isBroken_73 rfl (lv_at hl 2 rfl) ?_
              refine gt_M_other hx hb hts hin0 hown hK hP hf_43 dX1_isBroken_74 ?_
              refine lv_iconst (v := (3 : Int32)) hx hb dX1_isBroken_77 (by decide) ?_
              refine lv_iload_n hx hb dX1_isBroken_78 rfl (lv_at hl 3 rfl) ?_
              refine lv_imul hx hb dX1_isBroken_79 ?_
              refine lv_iload_n hx hb dX1_isBroken_80 rfl (lv_at hl 0 rfl) ?_
              refine lv_iadd hx hb dX1_isBroken_81 ?_
              obtain ⟨g_30, h⟩ := og_some h
              refine ld_M_other (F := (m_other u)) hx hb hK hP rfl (inb_in g_30) dX1_isBroken_82 ?_
              obtain ⟨g_31, h⟩ := og_some h
              refine ld_M_value (F := (m_value u)) hx hb hK hP rfl (inb_in g_31) dX1_isBroken_83 ?_
              refine lv_istore (lv' := [(4, .int ((m_value u) ((m_other u) (((3 : Int32) * p0) + x3_59).toNatClampNeg).toNatClampNeg)), (3, .int x3_59), (2, .int x2_59), (0, .ref (hs 0)), (1, .int p0)]) hx hb dX1_isBroken_84 hl (by decide) rfl (fun ls hl => ?_)
              have jp_115 : ∀ (t_115 : Int32) (H : Heap) (locs : List Loc) (ls : Array Slot), ((jn (fun (t_178 : Int32) => (pl_X1_isBroken_59 fu p0 u K_59 n_59 (x3_59 + (1 : Int32)) t_178)) (fun j_178 => (if x2_59 = 0 then (j_178 (0 : Int32)) else (if ((m_value u) ((m_other u) (((3 : Int32) * p0) + x3_59).toNatClampNeg).toNatClampNeg) = (-2 : Int32) then (j_178 (0 : Int32)) else (og (inb p0 132) (if ((m_kind u) p0.toNatClampNeg) = 0 then (if t_115 = 0 then (j_178 (1 : Int32)) else (j_178 (0 : Int32))) else (og (inb p0 132) (if ((m_kind u) p0.toNatClampNeg) = (1 : Int32) then (if t_115 = 0 then (j_178 (0 : Int32)) else (j_178 (1 : Int32))) else (if ((m_value u) ((m_other u) (((3 : Int32) * p0) + x3_59).toNatClampNeg).toNatClampNeg) < 0 then (j_178 (0 : Int32)) else (if t_115 = 0 then (j_178 (1 : Int32)) else (j_178 (0 : Int32)))))))))))) : Option (Int32)) = some r → va_P (dC, dI) vwCl (cM hs ka u) H → va_D A (cM hs ka u) → va_S A s.heap H locs → lv_has ls 6 [(4, .int ((m_value u) ((m_other u) (((3 : Int32) * p0) + x3_59).toNatClampNeg).toNatClampNeg)), (3, .int x3_59), (2, .int x2_59), (0, .ref (hs 0)), (1, .int p0)] → W p l e (headSpec wzX1_isBroken ({ frames := 0, cells := 0, slots := 0, locals := 0 })).room s m ([.ref (hs 0), .int p0] : List Value).toArray below meth c H locs 0 0 (MQ below (va_Qi (fun (r1 : Int32) (u1 : MS) => r1 = r ∧ u1 = u) (aM dC dI A hs ka) A) ([.ref (hs 0), .int p0] : List Value).toArray s 0 0 A) (F0 m 115 ls [.int t_115]) := by
                intro t_115 H locs ls h hP hD hS hl
                refine lv_istore (lv' := [(5, .int t_115), (4, .int ((m_value u) ((m_other u) (((3 : Int32) * p0) + x3_59).toNatClampNeg).toNatClampNeg)), (3, .int x3_59), (2, .int x2_59), (0, .ref (hs 0)), (1, .int p0)]) hx hb dX1_isBroken_115 hl (by decide) rfl (fun ls hl => ?_)
                have jp_178 : ∀ (t_178 : Int32) (H : Heap) (locs : List Loc) (ls : Array Slot), ((pl_X1_isBroken_59 fu p0 u K_59 n_59 (x3_59 + (1 : Int32)) t_178) : Option (Int32)) = some r → va_P (dC, dI) vwCl (cM hs ka u) H → va_D A (cM hs ka u) → va_S A s.heap H locs → lv_has ls 6 [(5, .int t_115), (4, .int ((m_value u) ((m_other u) (((3 : Int32) * p0) + x3_59).toNatClampNeg).toNatClampNeg)), (3, .int x3_59), (2, .int x2_59), (0, .ref (hs 0)), (1, .int p0)] → W p l e (headSpec wzX1_isBroken ({ frames := 0, cells := 0, slots := 0, locals := 0 })).room s m ([.ref (hs 0), .int p0] : List Value).toArray below meth c H locs 0 0 (MQ below (va_Qi (fun (r1 : Int32) (u1 : MS) => r1 = r ∧ u1 = u) (aM dC dI A hs ka) A) ([.ref (hs 0), .int p0] : List Value).toArray s 0 0 A) (F0 m 178 ls [.int t_178]) := by
                  intro t_178 H locs ls h hP hD hS hl
                  refine lv_istore_n (lv' := [(2, .int t_178), (5, .int t_115), (4, .int ((m_value u) ((m_other u) (((3 : Int32) * p0) + x3_59).toNatClampNeg).toNatClampNeg)), (3, .int x3_59), (0, .ref (hs 0)), (1, .int p0)]) hx hb dX1_isBroken_178 rfl hl (by decide) rfl (fun ls hl => ?_)
                  refine lv_iinc (v := (x3_59 + (1 : Int32))) (lv' := [(3, .int (x3_59 + (1 : Int32))), (2, .int t_178), (5, .int t_115), (4, .int ((m_value u) ((m_other u) (((3 : Int32) * p0) + x3_59).toNatClampNeg).toNatClampNeg)), (0, .ref (hs 0)), (1, .int p0)]) hx hb dX1_isBroken_179 hl (k := 3) rfl (congrArg (fun z : Int32 => x3_59 + z) (by decide : Int32.ofInt (1) = (1 : Int32))) (by decide) rfl (fun ls hl => ?_)
                  refine lv_goto (tgt := 59) hx hb dX1_isBroken_182 (by decide) ?_
                  exact ih_59 (x3_59 + (1 : Int32)) t_178 _ _ _ h hP hD hS (lv_sub hl [0, 1, 4, 5] rfl)
                have h := jn_e h
                refine lv_iload_n hx hb dX1_isBroken_117 rfl (lv_at hl 3 rfl) ?_
                refine lv_if_eq (tgt := 177) hx hb dX1_isBroken_118 (by decide) (fun c_32 => ?_) (fun c_32 => ?_)
                · rw [if_pos c_32] at h
                  refine lv_iconst (v := (0 : Int32)) hx hb dX1_isBroken_177 (by decide) ?_
                  exact jp_178 (0 : Int32) _ _ _ h hP hD hS (lv_sub hl [0, 1, 2, 3, 4, 5] rfl)
                · rw [if_neg c_32] at h
                  refine lv_iload hx hb dX1_isBroken_121 (lv_at hl 1 rfl) ?_
                  refine lv_bipush (v := (-2 : Int32)) hx hb dX1_isBroken_123 (by decide) ?_
                  refine lv_icmp_eq (tgt := 177) hx hb dX1_isBroken_125 (by decide) (fun c_33 => ?_) (fun c_33 => ?_)
                  · rw [if_pos c_33] at h
                    refine lv_iconst (v := (0 : Int32)) hx hb dX1_isBroken_177 (by decide) ?_
                    exact jp_178 (0 : Int32) _ _ _ h hP hD hS (lv_sub hl [0, 1, 2, 3, 4, 5] rfl)
                  · rw [if_neg c_33] at h
                    refine lv_aload_n hx hb dX1_isBroken_128 rfl (lv_at hl 4 rfl) ?_
                    refine gt_M_kind hx hb hts hin0 hown hK hP hf_37 dX1_isBroken_129 ?_
                    refine lv_iload_n hx hb dX1_isBroken_132 rfl (lv_at hl 5 rfl) ?_
                    obtain ⟨g_34, h⟩ := og_some h
                    refine ld_M_kind (F := (m_kind u)) hx hb hK hP rfl (inb_in g_34) dX1_isBroken_133 ?_
                    refine lv_if_ne (tgt := 145) hx hb dX1_isBroken_134 (by decide) (fun c_35 => ?_) (fun c_35 => ?_)
                    · rw [if_neg c_35] at h
                      refine lv_aload_n hx hb dX1_isBroken_145 rfl (lv_at hl 4 rfl) ?_
                      refine gt_M_kind hx hb hts hin0 hown hK hP hf_37 dX1_isBroken_146 ?_
                      refine lv_iload_n hx hb dX1_isBroken_149 rfl (lv_at hl 5 rfl) ?_
                      obtain ⟨g_36, h⟩ := og_some h
                      refine ld_M_kind (F := (m_kind u)) hx hb hK hP rfl (inb_in g_36) dX1_isBroken_150 ?_
                      refine lv_iconst (v := (1 : Int32)) hx hb dX1_isBroken_151 (by decide) ?_
                      refine lv_icmp_ne (tgt := 163) hx hb dX1_isBroken_152 (by decide) (fun c_37 => ?_) (fun c_37 => ?_)
                      · rw [if_neg c_37] at h
                        refine lv_iload hx hb dX1_isBroken_163 (lv_at hl 1 rfl) ?_
                        refine lv_if_lt (tgt := 177) hx hb dX1_isBroken_165 (by decide) (fun c_38 => ?_) (fun c_38 => ?_)
                        · rw [if_pos c_38] at h
                          refine lv_iconst (v := (0 : Int32)) hx hb dX1_isBroken_177 (by decide) ?_
                          exact jp_178 (0 : Int32) _ _ _ h hP hD hS (lv_sub hl [0, 1, 2, 3, 4, 5] rfl)
                        · rw [if_neg c_38] at h
                          refine lv_iload hx hb dX1_isBroken_168 (lv_at hl 0 rfl) ?_
                          refine lv_if_ne (tgt := 177) hx hb dX1_isBroken_170 (by decide) (fun c_39 => ?_) (fun c_39 => ?_)
                          · rw [if_neg c_39] at h
                            refine lv_iconst (v := (0 : Int32)) hx hb dX1_isBroken_177 (by decide) ?_
                            exact jp_178 (0 : Int32) _ _ _ h hP hD hS (lv_sub hl [0, 1, 2, 3, 4, 5] rfl)
                          · rw [if_pos c_39] at h
                            refine lv_iconst (v := (1 : Int32)) hx hb dX1_isBroken_173 (by decide) ?_
                            refine lv_goto (tgt := 178) hx hb dX1_isBroken_174 (by decide) ?_
                            exact jp_178 (1 : Int32) _ _ _ h hP hD hS (lv_sub hl [0, 1, 2, 3, 4, 5] rfl)
                      · rw [if_pos c_37] at h
                        refine lv_iload hx hb dX1_isBroken_155 (lv_at hl 0 rfl) ?_
                        refine lv_if_eq (tgt := 177) hx hb dX1_isBroken_157 (by decide) (fun c_40 => ?_) (fun c_40 => ?_)
                        · rw [if_pos c_40] at h
                          refine lv_iconst (v := (0 : Int32)) hx hb dX1_isBroken_177 (by decide) ?_
                          exact jp_178 (0 : Int32) _ _ _ h hP hD hS (lv_sub hl [0, 1, 2, 3, 4, 5] rfl)
                        · rw [if_neg c_40] at h
                          refine lv_goto (tgt := 173) hx hb dX1_isBroken_160 (by decide) ?_
                          refine lv_iconst (v := (1 : Int32)) hx hb dX1_isBroken_173 (by decide) ?_
                          refine lv_goto (tgt := 178) hx hb dX1_isBroken_174 (by decide) ?_
                          exact jp_178 (1 : Int32) _ _ _ h hP hD hS (lv_sub hl [0, 1, 2, 3, 4, 5] rfl)
                    · rw [if_pos c_35] at h
                      refine lv_iload hx hb dX1_isBroken_137 (lv_at hl 0 rfl) ?_
                      refine lv_if_ne (tgt := 177) hx hb dX1_isBroken_139 (by decide) (fun c_41 => ?_) (fun c_41 => ?_)
                      · rw [if_neg c_41] at h
                        refine lv_iconst (v := (0 : Int32)) hx hb dX1_isBroken_177 (by decide) ?_
                        exact jp_178 (0 : Int32) _ _ _ h hP hD hS (lv_sub hl [0, 1, 2, 3, 4, 5] rfl)
                      · rw [if_pos c_41] at h
                        refine lv_goto (tgt := 173) hx hb dX1_isBroken_142 (by decide) ?_
                        refine lv_iconst (v := (1 : Int32)) hx hb dX1_isBroken_173 (by decide) ?_
                        refine lv_goto (tgt := 178) hx hb dX1_isBroken_174 (by decide) ?_
                        exact jp_178 (1 : Int32) _ _ _ h hP hD hS (lv_sub hl [0, 1, 2, 3, 4, 5] rfl)
              have h := jn_e h
              refine lv_iload hx hb dX1_isBroken_86 (lv_at hl 0 rfl) ?_
              refine lv_if_lt (tgt := 114) hx hb dX1_isBroken_88 (by decide) (fun c_42 => ?_) (fun c_42 => ?_)
              · rw [if_pos c_42] at h
                refine lv_iconst (v := (0 : Int32)) hx hb dX1_isBroken_114 (by decide) ?_
                exact jp_115 (0 : Int32) _ _ _ h hP hD hS (lv_sub hl [0, 1, 2, 3, 4] rfl)
              · rw [if_neg c_42] at h
                refine lv_aload_n hx hb dX1_isBroken_91 rfl (lv_at hl 3 rfl) ?_
                refine gt_M_set hx hb hts hin0 hown hK hP hf_46 dX1_isBroken_92 ?_
                refine lv_iconst (v := (3 : Int32)) hx hb dX1_isBroken_95 (by decide) ?_
                refine lv_iload_n hx hb dX1_isBroken_96 rfl (lv_at hl 4 rfl) ?_
                refine lv_imul hx hb dX1_isBroken_97 ?_
                refine lv_iload_n hx hb dX1_isBroken_98 rfl (lv_at hl 1 rfl) ?_
                refine lv_iadd hx hb dX1_isBroken_99 ?_
                obtain ⟨g_43, h⟩ := og_some h
                refine ld_M_set (F := (m_set u)) hx hb hK hP rfl (inb_in g_43) dX1_isBroken_100 ?_
                refine lv_iload hx hb dX1_isBroken_101 (lv_at hl 0 rfl) ?_
                refine lv_ishr hx hb dX1_isBroken_103 ?_
                refine lv_iconst (v := (1 : Int32)) hx hb dX1_isBroken_104 (by decide) ?_
                refine lv_iand hx hb dX1_isBroken_105 ?_
                refine lv_iconst (v := (1 : Int32)) hx hb dX1_isBroken_106 (by decide) ?_
                refine lv_icmp_ne (tgt := 114) hx hb dX1_isBroken_107 (by decide) (fun c_44 => ?_) (fun c_44 => ?_)
                · rw [if_neg c_44] at h
                  refine lv_iconst (v := (0 : Int32)) hx hb dX1_isBroken_114 (by decide) ?_
                  exact jp_115 (0 : Int32) _ _ _ h hP hD hS (lv_sub hl [0, 1, 2, 3, 4] rfl)
                · rw [if_pos c_44] at h
                  refine lv_iconst (v := (1 : Int32)) hx hb dX1_isBroken_110 (by decide) ?_
                  refine lv_goto (tgt := 115) hx hb dX1_isBroken_111 (by decide) ?_
                  exact jp_115 (1 : Int32) _ _ _ h hP hD hS (lv_sub hl [0, 1, 2, 3, 4] rfl)
        refine lp_59 _ (fun x3_59 x2_59 H locs ls h hP hD hS hl => ?_) fu (0 : Int32) (1 : Int32) _ _ _ h hP hD hS hl
        refine lv_iload_n hx hb dX1_isBroken_185 rfl (lv_at hl 1 rfl) ?_
        obtain ⟨g_45, h⟩ := og_some h
        have e9 := Option.some.inj h
        exact W.zret (v := x2_59) hx hb hr (bz_n g_45) (fun t ht hW => ⟨⟨x2_59, u, rfl, ⟨e9, rfl⟩, by rw [ht]; exact hP, va_K.moved hW.alike hK, hD⟩, hS.F ht⟩) hS.2.2 dX1_isBroken_186
      · rw [if_neg c_27] at h
        refine lv_goto (tgt := 53) hx hb dX1_isBroken_30 (by decide) ?_
        refine lv_iconst (v := (0 : Int32)) hx hb dX1_isBroken_53 (by decide) ?_
        have e9 := Option.some.inj h
        exact W.zret (v := (0 : Int32)) hx hb hr rfl (fun t ht hW => ⟨⟨(0 : Int32), u, rfl, ⟨e9, rfl⟩, by rw [ht]; exact hP, va_K.moved hW.alike hK, hD⟩, hS.F ht⟩) hS.2.2 dX1_isBroken_54
set_option maxHeartbeats 4000000 in
set_option maxRecDepth 100000 in
theorem c_X1_others (l : Launch) (dC : Nat → ClassId) (dI : Nat → Nat → Nat) (hs : Nat → Nat) (ka : Nat → ClassId) (sz : Nat) (fu : Nat) (u : MS) (p0 : Int32) (r : Int32) (h : pf_X1_others fu p0 u = some r) : Met l yX1_others wzX1_others ({ frames := 0, cells := 0, slots := 0, locals := 0 }) (va_Pc [.ref (hs 0), .int p0] (fun U => U.heap.size = sz ∧ va_P (dC, dI) vwCl (cM hs ka u) U.heap ∧ va_K (dC, dI) vwCl (tM ka) U ∧ va_D (fun _ => True) (cM hs ka u))) (va_Qi (fun (r1 : Int32) (u1 : MS) => r1 = r ∧ u1 = u) (aM dC dI (va_A (cM hs ka u) sz) hs ka) (va_A (cM hs ka u) sz)) 0 0 (va_A (cM hs ka u) sz) := by
  refine Met.ofW (cc := cX1_others) (maxL := 4) (ret := (some .int)) (by decide) rfl ?_
  intro p e s m args below meth c s₁ B hml hv
  obtain ⟨rfl, hsz, hP, hK, hD0⟩ := hv
  have hx := B.exec
  have hb := B.bytes
  have hr := B.returns
  have hts := atoms_spec (ws := wzX1_others) B.pre
  have hown : s.vm.findClass RX1 = some m.cls := findClass_of_methodNamed B.named
  have hlocks := B.notSynchronized
  subst hsz
  have hD := hD0.self (sz := s.heap.size)
  generalize hAe : va_A (cM hs ka u) s.heap.size = A at hD ⊢
  have hA : ∀ q : Nat, s.heap.size ≤ q → A q := fun q h => by rw [← hAe]; exact Or.inr h
  have hS : va_S A s.heap s.heap [] := va_S.rf
  have hP : va_P (dC, dI) vwCl (cM hs ka u) s.heap := hP
  clear hD0 hAe
  have hin0 : ∀ w ∈ u_ws RX1 TX1 23, w ∈ wzX1_others := fun w h => List.mem_cons_of_mem _ (inTX1 w h)
  have hf_40 := hts (.fieldLink RX1 40 "ConflictSolveModel" "many" "[I") (List.mem_cons_of_mem _ tz_253)
  have hf_43 := hts (.fieldLink RX1 43 "ConflictSolveModel" "other" "[I") (List.mem_cons_of_mem _ tz_254)
  have hl := lv_entry ([.ref (hs 0), .int p0]) (n := 4) (Nat.le_of_ble_eq_true rfl)
  rw [lg_entry_eq]
  generalize (lg_sl ([.ref (hs 0), .int p0]) ++ List.replicate (4 - (lg_sl ([.ref (hs 0), .int p0])).length) Slot.unset).toArray = ls at hl ⊢
  have hl : lv_has ls 4 [(0, .ref (hs 0)), (1, .int p0)] := hl
  rw [pf_X1_others] at h
  refine lv_iconst (v := (0 : Int32)) hx hb dX1_others_0 (by decide) ?_
  refine lv_istore_n (lv' := [(2, .int (0 : Int32)), (0, .ref (hs 0)), (1, .int p0)]) hx hb dX1_others_1 rfl hl (by decide) rfl (fun ls hl => ?_)
  refine lv_iconst (v := (0 : Int32)) hx hb dX1_others_2 (by decide) ?_
  refine lv_istore_n (lv' := [(3, .int (0 : Int32)), (2, .int (0 : Int32)), (0, .ref (hs 0)), (1, .int p0)]) hx hb dX1_others_3 rfl hl (by decide) rfl (fun ls hl => ?_)
  have lp_4 : ∀ K_4 : Int32 → Int32 → Option (Int32), (∀ (x3_4 : Int32) (x2_4 : Int32) (H : Heap) (locs : List Loc) (ls : Array Slot), K_4 x3_4 x2_4 = some r → va_P (dC, dI) vwCl (cM hs ka u) H → va_D A (cM hs ka u) → va_S A s.heap H locs → lv_has ls 4 [(3, .int x3_4), (2, .int x2_4), (0, .ref (hs 0)), (1, .int p0)] → W p l e (headSpec wzX1_others ({ frames := 0, cells := 0, slots := 0, locals := 0 })).room s m ([.ref (hs 0), .int p0] : List Value).toArray below meth c H locs 0 0 (MQ below (va_Qi (fun (r1 : Int32) (u1 : MS) => r1 = r ∧ u1 = u) (aM dC dI A hs ka) A) ([.ref (hs 0), .int p0] : List Value).toArray s 0 0 A) (F0 m 35 ls [])) → ∀ n_4 : Nat, ∀ (x3_4 : Int32) (x2_4 : Int32) (H : Heap) (locs : List Loc) (ls : Array Slot), pl_X1_others_4 fu p0 u K_4 n_4 x3_4 x2_4 = some r → va_P (dC, dI) vwCl (cM hs ka u) H → va_D A (cM hs ka u) → va_S A s.heap H locs → lv_has ls 4 [(3, .int x3_4), (2, .int x2_4), (0, .ref (hs 0)), (1, .int p0)] → W p l e (headSpec wzX1_others ({ frames := 0, cells := 0, slots := 0, locals := 0 })).room s m ([.ref (hs 0), .int p0] : List Value).toArray below meth c H locs 0 0 (MQ below (va_Qi (fun (r1 : Int32) (u1 : MS) => r1 = r ∧ u1 = u) (aM dC dI A hs ka) A) ([.ref (hs 0), .int p0] : List Value).toArray s 0 0 A) (F0 m 4 ls []) := by
    intro K_4 hk_4 n_4
    induction n_4 with
    | zero =>
      intro x3_4 x2_4 H locs ls h
      exact absurd (show (none : Option (Int32)) = some r from h) (fun q => by cases q)
    | succ n_4 ih_4 =>
      intro x3_4 x2_4 H locs ls h hP hD hS hl
      rw [pl_X1_others_4] at h
      refine lv_iload_n hx hb dX1_others_4 rfl (lv_at hl 0 rfl) ?_
      refine lv_aload_n hx hb dX1_others_5 rfl (lv_at hl 2 rfl) ?_
      refine gt_M_many hx hb hts hin0 hown hK hP hf_40 dX1_others_6 ?_
      refine lv_iload_n hx hb dX1_others_9 rfl (lv_at hl 3 rfl) ?_
      obtain ⟨g_1, h⟩ := og_some h
      refine ld_M_many (F := (m_many u)) hx hb hK hP rfl (inb_in g_1) dX1_others_10 ?_
      refine lv_icmp_ge (tgt := 35) hx hb dX1_others_11 (by decide) (fun c_2 => ?_) (fun c_2 => ?_)
      · rw [if_pos c_2] at h
        exact hk_4 x3_4 x2_4 _ _ _ h hP hD hS (lv_sub hl [0, 1, 2, 3] rfl)
      · rw [if_neg c_2] at h
        refine lv_iload_n hx hb dX1_others_14 rfl (lv_at hl 1 rfl) ?_
        refine lv_iconst (v := (1 : Int32)) hx hb dX1_others_15 (by decide) ?_
        refine lv_aload_n hx hb dX1_others_16 rfl (lv_at hl 2 rfl) ?_
        refine gt_M_other hx hb hts hin0 hown hK hP hf_43 dX1_others_17 ?_
        refine lv_iconst (v := (3 : Int32)) hx hb dX1_others_20 (by decide) ?_
        refine lv_iload_n hx hb dX1_others_21 rfl (lv_at hl 3 rfl) ?_
        refine lv_imul hx hb dX1_others_22 ?_
        refine lv_iload_n hx hb dX1_others_23 rfl (lv_at hl 0 rfl) ?_
        refine lv_iadd hx hb dX1_others_24 ?_
        obtain ⟨g_3, h⟩ := og_some h
        refine ld_M_other (F := (m_other u)) hx hb hK hP rfl (inb_in g_3) dX1_others_25 ?_
        refine lv_ishl hx hb dX1_others_26 ?_
        refine lv_ior hx hb dX1_others_27 ?_
        refine lv_istore_n (lv' := [(2, .int (x2_4 ||| ((1 : Int32) <<< (((m_other u) (((3 : Int32) * p0) + x3_4).toNatClampNeg) &&& 31)))), (3, .int x3_4), (0, .ref (hs 0)), (1, .int p0)]) hx hb dX1_others_28 rfl hl (by decide) rfl (fun ls hl => ?_)
        refine lv_iinc (v := (x3_4 + (1 : Int32))) (lv' := [(3, .int (x3_4 + (1 : Int32))), (2, .int (x2_4 ||| ((1 : Int32) <<< (((m_other u) (((3 : Int32) * p0) + x3_4).toNatClampNeg) &&& 31)))), (0, .ref (hs 0)), (1, .int p0)]) hx hb dX1_others_29 hl (k := 1) rfl (congrArg (fun z : Int32 => x3_4 + z) (by decide : Int32.ofInt (1) = (1 : Int32))) (by decide) rfl (fun ls hl => ?_)
        refine lv_goto (tgt := 4) hx hb dX1_others_32 (by decide) ?_
        exact ih_4 (x3_4 + (1 : Int32)) (x2_4 ||| ((1 : Int32) <<< (((m_other u) (((3 : Int32) * p0) + x3_4).toNatClampNeg) &&& 31))) _ _ _ h hP hD hS (lv_sub hl [0, 1, 2, 3] rfl)
  refine lp_4 _ (fun x3_4 x2_4 H locs ls h hP hD hS hl => ?_) fu (0 : Int32) (0 : Int32) _ _ _ h hP hD hS hl
  refine lv_iload_n hx hb dX1_others_35 rfl (lv_at hl 1 rfl) ?_
  have e9 := Option.some.inj h
  exact W.iret (v := x2_4) hx hb hr (fun t ht hW => ⟨⟨x2_4, u, rfl, ⟨e9, rfl⟩, by rw [ht]; exact hP, va_K.moved hW.alike hK, hD⟩, hS.F ht⟩) hS.2.2 dX1_others_36
