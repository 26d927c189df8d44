set_option maxHeartbeats 4000000 in
set_option maxRecDepth 100000 in
theorem c_X1_isPackage (l : Launch) (dC : Nat → ClassId) (dI : Nat → Nat → Nat) (hs : Nat → Nat) (ka : Nat → ClassId) (sz : Nat) (u : MS) (p0 : Int32) (r : Int32) (h : pf_X1_isPackage p0 u = r) : Met l yX1_isPackage wzX1_isPackage ({ frames := 0, cells := 0, slots := 0, locals := 0 }) (va_Pc [.ref (hs 0), .int p0] (fun U => U.heap.size = sz ∧ va_P (dC, dI) vwCl (cM hs ka u) U.heap ∧ va_K (dC, dI) vwCl (tM ka) U ∧ va_D (fun _ => True) (cM hs ka u))) (va_Qi (fun (r1 : Int32) (u1 : MS) => r1 = r ∧ u1 = u) (aM dC dI (va_A (cM hs ka u) sz) hs ka) (va_A (cM hs ka u) sz)) 0 0 (va_A (cM hs ka u) sz) := by
  refine Met.ofW (cc := cX1_isPackage) (maxL := 2) (ret := (some .boolean)) (by decide) rfl ?_
  intro p e s m args below meth c s₁ B hml hv
  obtain ⟨rfl, hsz, hP, hK, hD0⟩ := hv
  have hx := B.exec
  have hb := B.bytes
  have hr := B.returns
  have hts := atoms_spec (ws := wzX1_isPackage) B.pre
  have hown : s.vm.findClass RX1 = some m.cls := findClass_of_methodNamed B.named
  have hlocks := B.notSynchronized
  subst hsz
  have hD := hD0.self (sz := s.heap.size)
  generalize hAe : va_A (cM hs ka u) s.heap.size = A at hD ⊢
  have hA : ∀ q : Nat, s.heap.size ≤ q → A q := fun q h => by rw [← hAe]; exact Or.inr h
  have hS : va_S A s.heap s.heap [] := va_S.rf
  have hP : va_P (dC, dI) vwCl (cM hs ka u) s.heap := hP
  clear hD0 hAe
  have hin0 : ∀ w ∈ u_ws RX1 TX1 23, w ∈ wzX1_isPackage := fun w h => List.mem_cons_of_mem _ (inTX1 w h)
  have hf_66 := hts (.fieldLink RX1 66 "ConflictSolveModel" "packages" "I") (List.mem_cons_of_mem _ tz_246)
  have hl := lv_entry ([.ref (hs 0), .int p0]) (n := 2) (Nat.le_of_ble_eq_true rfl)
  rw [lg_entry_eq]
  generalize (lg_sl ([.ref (hs 0), .int p0]) ++ List.replicate (2 - (lg_sl ([.ref (hs 0), .int p0])).length) Slot.unset).toArray = ls at hl ⊢
  have hl : lv_has ls 2 [(0, .ref (hs 0)), (1, .int p0)] := hl
  rw [pf_X1_isPackage] at h
  refine lv_iload_n hx hb dX1_isPackage_0 rfl (lv_at hl 1 rfl) ?_
  refine lv_if_lt (tgt := 16) hx hb dX1_isPackage_1 (by decide) (fun c_1 => ?_) (fun c_1 => ?_)
  · rw [if_pos c_1] at h
    refine lv_iconst (v := (0 : Int32)) hx hb dX1_isPackage_16 (by decide) ?_
    have e9 := h
    exact W.zret (v := (0 : Int32)) hx hb hr rfl (fun t ht hW => ⟨⟨(0 : Int32), u, rfl, ⟨e9, rfl⟩, by rw [ht]; exact hP, va_K.moved hW.alike hK, hD⟩, hS.F ht⟩) hS.2.2 dX1_isPackage_17
  · rw [if_neg c_1] at h
    refine lv_iload_n hx hb dX1_isPackage_4 rfl (lv_at hl 1 rfl) ?_
    refine lv_aload_n hx hb dX1_isPackage_5 rfl (lv_at hl 0 rfl) ?_
    refine gt_M_packages (V := (m_packages u)) hx hb hts hin0 hown hK hP hf_66 rfl dX1_isPackage_6 ?_
    refine lv_icmp_ge (tgt := 16) hx hb dX1_isPackage_9 (by decide) (fun c_2 => ?_) (fun c_2 => ?_)
    · rw [if_pos c_2] at h
      refine lv_iconst (v := (0 : Int32)) hx hb dX1_isPackage_16 (by decide) ?_
      have e9 := h
      exact W.zret (v := (0 : Int32)) hx hb hr rfl (fun t ht hW => ⟨⟨(0 : Int32), u, rfl, ⟨e9, rfl⟩, by rw [ht]; exact hP, va_K.moved hW.alike hK, hD⟩, hS.F ht⟩) hS.2.2 dX1_isPackage_17
    · rw [if_neg c_2] at h
      refine lv_iconst (v := (1 : Int32)) hx hb dX1_isPackage_12 (by decide) ?_
      refine lv_goto (tgt := 17) hx hb dX1_isPackage_13 (by decide) ?_
      have e9 := h
      exact W.zret (v := (1 : Int32)) hx hb hr rfl (fun t ht hW => ⟨⟨(1 : Int32), u, rfl, ⟨e9, rfl⟩, by rw [ht]; exact hP, va_K.moved hW.alike hK, hD⟩, hS.F ht⟩) hS.2.2 dX1_isPackage_17
set_option maxHeartbeats 4000000 in
set_option maxRecDepth 100000 in
theorem c_X1_isVersion (l : Launch) (dC : Nat → ClassId) (dI : Nat → Nat → Nat) (hs : Nat → Nat) (ka : Nat → ClassId) (sz : Nat) (fu : Nat) (u : MS) (p0 : Int32) (p1 : Int32) (r : Int32) (h : pf_X1_isVersion fu p0 p1 u = some r) : Met l yX1_isVersion wzX1_isVersion ({ frames := 1, cells := 0, slots := 0, locals := 21 }) (va_Pc [.ref (hs 0), .int p0, .int p1] (fun U => U.heap.size = sz ∧ va_P (dC, dI) vwCl (cM hs ka u) U.heap ∧ va_K (dC, dI) vwCl (tM ka) U ∧ va_D (fun _ => True) (cM hs ka u))) (va_Qi (fun (r1 : Int32) (u1 : MS) => r1 = r ∧ u1 = u) (aM dC dI (va_A (cM hs ka u) sz) hs ka) (va_A (cM hs ka u) sz)) 0 0 (va_A (cM hs ka u) sz) := by
  refine Met.ofW (cc := cX1_isVersion) (maxL := 3) (ret := (some .boolean)) (by decide) rfl ?_
  intro p e s m args below meth c s₁ B hml hv
  obtain ⟨rfl, hsz, hP, hK, hD0⟩ := hv
  have hx := B.exec
  have hb := B.bytes
  have hr := B.returns
  have hts := atoms_spec (ws := wzX1_isVersion) B.pre
  have hown : s.vm.findClass RX1 = some m.cls := findClass_of_methodNamed B.named
  have hlocks := B.notSynchronized
  subst hsz
  have hD := hD0.self (sz := s.heap.size)
  generalize hAe : va_A (cM hs ka u) s.heap.size = A at hD ⊢
  have hA : ∀ q : Nat, s.heap.size ≤ q → A q := fun q h => by rw [← hAe]; exact Or.inr h
  have hS : va_S A s.heap s.heap [] := va_S.rf
  have hP : va_P (dC, dI) vwCl (cM hs ka u) s.heap := hP
  clear hD0 hAe
  have hin0 : ∀ w ∈ u_ws RX1 TX1 23, w ∈ wzX1_isVersion := fun w h => List.mem_cons_of_mem _ (inTX1 w h)
  have hf_7 := hts (.fieldLink RX1 7 "ConflictSolveModel" "versions" "[I") (List.mem_cons_of_mem _ tz_239)
  have hl := lv_entry ([.ref (hs 0), .int p0, .int p1]) (n := 3) (Nat.le_of_ble_eq_true rfl)
  rw [lg_entry_eq]
  generalize (lg_sl ([.ref (hs 0), .int p0, .int p1]) ++ List.replicate (3 - (lg_sl ([.ref (hs 0), .int p0, .int p1])).length) Slot.unset).toArray = ls at hl ⊢
  have hl : lv_has ls 3 [(0, .ref (hs 0)), (1, .int p0), (2, .int p1)] := hl
  rw [pf_X1_isVersion] at h
  refine lv_aload_n hx hb dX1_isVersion_0 rfl (lv_at hl 0 rfl) ?_
  refine lv_iload_n hx hb dX1_isVersion_1 rfl (lv_at hl 1 rfl) ?_
  have hPc := hP
  have hDc := hD
  have hKc := hK
  have hFc := fr_M hD hS hA
  refine va_calli (va_runV (As := [.int p0]) (rest := []) ⟨hx, hb, hml, hown, hts⟩ (c_X1_isPackage l dC dI hs ka s.heap.size u p0 _ rfl) (cwV 1 hts gX1_isVersion_X1_isPackage rfl rfl rfl (by decide +kernel) ⟨Nat.le_of_ble_eq_true rfl, Nat.le_of_ble_eq_true rfl⟩) ⟨fun a U g mk q => by obtain ⟨q0, q1, qP, qK, qD⟩ := q; exact ⟨q0, q1, qP, va_K.moved (u := U) (U := U.calling g mk a) (Vm.Alike.refl U.vm) qK, qD⟩, rc_M hKc hPc, fun U hU hW => ⟨rfl, by rw [hU], by rw [hU]; exact hPc, va_K.moved hW.alike hKc, hDc.weaken (fun _ _ _ _ => trivial)⟩⟩ rfl rfl hl.1 rfl (lv_room (Nat.le_of_ble_eq_true rfl)) dX1_isVersion_2 ⟨Nat.zero_le _, Nat.zero_le _⟩) hS (fun q _ h => hFc q h) hFc (fun r_1 u_c1 t H1 locs ht hvm hw hB hz1 hk1 hS => ?_)
  obtain ⟨hw1, hw2⟩ := hw
  subst r_1
  subst u_c1
  obtain ⟨hP1, hK1, hD1⟩ := hB
  rw [ht] at hP1
  obtain ⟨hP, hD⟩ := jw_M hP hD hk1 hFc hP1 hD1
  clear hPc hDc hKc hFc hz1 hk1 hP1 hK1 hD1
  generalize H1 = H at hP hS ⊢
  refine lv_if_eq (tgt := 26) hx hb dX1_isVersion_5 (by decide) (fun c_2 => ?_) (fun c_2 => ?_)
  · rw [if_pos c_2] at h
    refine lv_iconst (v := (0 : Int32)) hx hb dX1_isVersion_26 (by decide) ?_
    have e9 := Option.some.inj h
    exact W.zret (v := (0 : Int32)) hx hb hr rfl (fun t ht hW => ⟨⟨(0 : Int32), u, rfl, ⟨e9, rfl⟩, by rw [ht]; exact hP, va_K.moved hW.alike hK, hD⟩, hS.F ht⟩) hS.2.2 dX1_isVersion_27
  · rw [if_neg c_2] at h
    refine lv_iload_n hx hb dX1_isVersion_8 rfl (lv_at hl 2 rfl) ?_
    refine lv_if_lt (tgt := 26) hx hb dX1_isVersion_9 (by decide) (fun c_3 => ?_) (fun c_3 => ?_)
    · rw [if_pos c_3] at h
      refine lv_iconst (v := (0 : Int32)) hx hb dX1_isVersion_26 (by decide) ?_
      have e9 := Option.some.inj h
      exact W.zret (v := (0 : Int32)) hx hb hr rfl (fun t ht hW => ⟨⟨(0 : Int32), u, rfl, ⟨e9, rfl⟩, by rw [ht]; exact hP, va_K.moved hW.alike hK, hD⟩, hS.F ht⟩) hS.2.2 dX1_isVersion_27
    · rw [if_neg c_3] at h
      refine lv_iload_n hx hb dX1_isVersion_12 rfl (lv_at hl 2 rfl) ?_
      refine lv_aload_n hx hb dX1_isVersion_13 rfl (lv_at hl 0 rfl) ?_
      refine gt_M_versions hx hb hts hin0 hown hK hP hf_7 dX1_isVersion_14 ?_
      refine lv_iload_n hx hb dX1_isVersion_17 rfl (lv_at hl 1 rfl) ?_
      obtain ⟨g_4, h⟩ := og_some h
      refine ld_M_versions (F := (m_versions u)) hx hb hK hP rfl (inb_in g_4) dX1_isVersion_18 ?_
      refine lv_icmp_ge (tgt := 26) hx hb dX1_isVersion_19 (by decide) (fun c_5 => ?_) (fun c_5 => ?_)
      · rw [if_pos c_5] at h
        refine lv_iconst (v := (0 : Int32)) hx hb dX1_isVersion_26 (by decide) ?_
        have e9 := Option.some.inj h
        exact W.zret (v := (0 : Int32)) hx hb hr rfl (fun t ht hW => ⟨⟨(0 : Int32), u, rfl, ⟨e9, rfl⟩, by rw [ht]; exact hP, va_K.moved hW.alike hK, hD⟩, hS.F ht⟩) hS.2.2 dX1_isVersion_27
      · rw [if_neg c_5] at h
        refine lv_iconst (v := (1 : Int32)) hx hb dX1_isVersion_22 (by decide) ?_
        refine lv_goto (tgt := 27) hx hb dX1_isVersion_23 (by decide) ?_
        have e9 := Option.some.inj h
        exact W.zret (v := (1 : Int32)) hx hb hr rfl (fun t ht hW => ⟨⟨(1 : Int32), u, rfl, ⟨e9, rfl⟩, by rw [ht]; exact hP, va_K.moved hW.alike hK, hD⟩, hS.F ht⟩) hS.2.2 dX1_isVersion_27
set_option maxHeartbeats 4000000 in
set_option maxRecDepth 100000 in
theorem c_X1_pack (l : Launch) (dC : Nat → ClassId) (dI : Nat → Nat → Nat) (hs : Nat → Nat) (ka : Nat → ClassId) (sz : Nat) (fu : Nat) (u : MS) (p0 : Int32) (r : Int32) (u' : MS) (h : pf_X1_pack fu p0 u = some (r, u')) : Met l yX1_pack wzX1_pack ({ frames := 0, cells := 0, slots := 0, locals := 0 }) (va_Pc [.ref (hs 0), .int p0] (fun U => U.heap.size = sz ∧ va_P (dC, dI) vwCl (cM hs ka u) U.heap ∧ va_K (dC, dI) vwCl (tM ka) U ∧ va_D (fun _ => True) (cM hs ka u))) (va_Qi (fun (r1 : Int32) (u1 : MS) => r1 = r ∧ u1 = u') (aM dC dI (va_A (cM hs ka u) sz) hs ka) (va_A (cM hs ka u) sz)) 0 0 (va_A (cM hs ka u) sz) := by
  refine Met.ofW (cc := cX1_pack) (maxL := 2) (ret := (some .int)) (by decide) rfl ?_
  intro p e s m args below meth c s₁ B hml hv
  obtain ⟨rfl, hsz, hP, hK, hD0⟩ := hv
  have hx := B.exec
  have hb := B.bytes
  have hr := B.returns
  have hts := atoms_spec (ws := wzX1_pack) B.pre
  have hown : s.vm.findClass RX1 = some m.cls := findClass_of_methodNamed B.named
  have hlocks := B.notSynchronized
  subst hsz
  have hD := hD0.self (sz := s.heap.size)
  generalize hAe : va_A (cM hs ka u) s.heap.size = A at hD ⊢
  have hA : ∀ q : Nat, s.heap.size ≤ q → A q := fun q h => by rw [← hAe]; exact Or.inr h
  have hS : va_S A s.heap s.heap [] := va_S.rf
  have hP : va_P (dC, dI) vwCl (cM hs ka u) s.heap := hP
  clear hD0 hAe
  have hin0 : ∀ w ∈ u_ws RX1 TX1 23, w ∈ wzX1_pack := fun w h => List.mem_cons_of_mem _ (inTX1 w h)
  have hf_63 := hts (.fieldLink RX1 63 "ConflictSolveModel" "code" "I") (List.mem_cons_of_mem _ tz_238)
  have hf_66 := hts (.fieldLink RX1 66 "ConflictSolveModel" "packages" "I") (List.mem_cons_of_mem _ tz_246)
  have hf_7 := hts (.fieldLink RX1 7 "ConflictSolveModel" "versions" "[I") (List.mem_cons_of_mem _ tz_239)
  have hl := lv_entry ([.ref (hs 0), .int p0]) (n := 2) (Nat.le_of_ble_eq_true rfl)
  rw [lg_entry_eq]
  generalize (lg_sl ([.ref (hs 0), .int p0]) ++ List.replicate (2 - (lg_sl ([.ref (hs 0), .int p0])).length) Slot.unset).toArray = ls at hl ⊢
  have hl : lv_has ls 2 [(0, .ref (hs 0)), (1, .int p0)] := hl
  rw [pf_X1_pack] at h
  refine lv_aload_n hx hb dX1_pack_0 rfl (lv_at hl 0 rfl) ?_
  refine lv_iconst (v := (0 : Int32)) hx hb dX1_pack_1 (by decide) ?_
  refine pt_M_code hx hb hts hin0 hown hK hP hD hS hf_63 dX1_pack_2 (fun H locs hP hD hS => ?_)
  refine lv_aload_n hx hb dX1_pack_5 rfl (lv_at hl 0 rfl) ?_
  refine gt_M_packages (V := (m_packages u)) hx hb hts hin0 hown hK hP hf_66 (rq_m_packages_code u (0 : Int32)) dX1_pack_6 ?_
  refine lv_bipush (v := (8 : Int32)) hx hb dX1_pack_9 (by decide) ?_
  refine lv_icmp_eq (tgt := 24) hx hb dX1_pack_11 (by decide) (fun c_1 => ?_) (fun c_1 => ?_)
  · rw [if_pos c_1] at h
    refine lv_iconst (v := (-1 : Int32)) hx hb dX1_pack_24 (by decide) ?_
    have e9 := Option.some.inj h
    exact W.iret (v := (-1 : Int32)) hx hb hr (fun t ht hW => ⟨⟨(-1 : Int32), (ms_code u (0 : Int32)), rfl, ⟨congrArg Prod.fst e9, congrArg Prod.snd e9⟩, by rw [ht]; exact hP, va_K.moved hW.alike hK, hD⟩, hS.F ht⟩) hS.2.2 dX1_pack_25
  · rw [if_neg c_1] at h
    refine lv_iload_n hx hb dX1_pack_14 rfl (lv_at hl 1 rfl) ?_
    refine lv_if_lt (tgt := 24) hx hb dX1_pack_15 (by decide) (fun c_2 => ?_) (fun c_2 => ?_)
    · rw [if_pos c_2] at h
      refine lv_iconst (v := (-1 : Int32)) hx hb dX1_pack_24 (by decide) ?_
      have e9 := Option.some.inj h
      exact W.iret (v := (-1 : Int32)) hx hb hr (fun t ht hW => ⟨⟨(-1 : Int32), (ms_code u (0 : Int32)), rfl, ⟨congrArg Prod.fst e9, congrArg Prod.snd e9⟩, by rw [ht]; exact hP, va_K.moved hW.alike hK, hD⟩, hS.F ht⟩) hS.2.2 dX1_pack_25
    · rw [if_neg c_2] at h
      refine lv_iload_n hx hb dX1_pack_18 rfl (lv_at hl 1 rfl) ?_
      refine lv_bipush (v := (6 : Int32)) hx hb dX1_pack_19 (by decide) ?_
      refine lv_icmp_le (tgt := 26) hx hb dX1_pack_21 (by decide) (fun c_3 => ?_) (fun c_3 => ?_)
      · rw [if_pos c_3] at h
        refine lv_aload_n hx hb dX1_pack_26 rfl (lv_at hl 0 rfl) ?_
        refine gt_M_versions hx hb hts hin0 hown hK hP hf_7 dX1_pack_27 ?_
        refine lv_aload_n hx hb dX1_pack_30 rfl (lv_at hl 0 rfl) ?_
        refine gt_M_packages (V := (m_packages u)) hx hb hts hin0 hown hK hP hf_66 (rq_m_packages_code u (0 : Int32)) dX1_pack_31 ?_
        refine lv_iload_n hx hb dX1_pack_34 rfl (lv_at hl 1 rfl) ?_
        obtain ⟨g_4, h⟩ := og_some h
        refine sr_M_versions (F := (m_versions u)) hx hb hK hP hD hS (rq_m_versions_code u (0 : Int32)) (inb_in g_4) dX1_pack_35 (fun H locs hP hD hS => ?_)
        refine lv_aload_n hx hb dX1_pack_36 rfl (lv_at hl 0 rfl) ?_
        refine lv_dup hx hb dX1_pack_37 rfl ?_
        refine gt_M_packages (V := (m_packages u)) hx hb hts hin0 hown hK hP hf_66 ((rq_m_packages_versions (ms_code u (0 : Int32)) (upd (m_versions u) (m_packages u).toNatClampNeg p0)).trans (rq_m_packages_code u (0 : Int32))) dX1_pack_38 ?_
        refine lv_iconst (v := (1 : Int32)) hx hb dX1_pack_41 (by decide) ?_
        refine lv_iadd hx hb dX1_pack_42 ?_
        refine pt_M_packages hx hb hts hin0 hown hK hP hD hS hf_66 dX1_pack_43 (fun H locs hP hD hS => ?_)
        refine lv_aload_n hx hb dX1_pack_46 rfl (lv_at hl 0 rfl) ?_
        refine gt_M_packages (V := ((m_packages u) + (1 : Int32))) hx hb hts hin0 hown hK hP hf_66 (rq_m_packages_packages (ms_versions (ms_code u (0 : Int32)) (upd (m_versions u) (m_packages u).toNatClampNeg p0)) ((m_packages u) + (1 : Int32))) dX1_pack_47 ?_
        refine lv_iconst (v := (1 : Int32)) hx hb dX1_pack_50 (by decide) ?_
        refine lv_isub hx hb dX1_pack_51 ?_
        have e9 := Option.some.inj h
        exact W.iret (v := (((m_packages u) + (1 : Int32)) - (1 : Int32))) hx hb hr (fun t ht hW => ⟨⟨(((m_packages u) + (1 : Int32)) - (1 : Int32)), (ms_packages (ms_versions (ms_code u (0 : Int32)) (upd (m_versions u) (m_packages u).toNatClampNeg p0)) ((m_packages u) + (1 : Int32))), rfl, ⟨congrArg Prod.fst e9, congrArg Prod.snd e9⟩, by rw [ht]; exact hP, va_K.moved hW.alike hK, hD⟩, hS.F ht⟩) hS.2.2 dX1_pack_52
      · rw [if_neg c_3] at h
        refine lv_iconst (v := (-1 : Int32)) hx hb dX1_pack_24 (by decide) ?_
        have e9 := Option.some.inj h
        exact W.iret (v := (-1 : Int32)) hx hb hr (fun t ht hW => ⟨⟨(-1 : Int32), (ms_code u (0 : Int32)), rfl, ⟨congrArg Prod.fst e9, congrArg Prod.snd e9⟩, by rw [ht]; exact hP, va_K.moved hW.alike hK, hD⟩, hS.F ht⟩) hS.2.2 dX1_pack_25
set_option maxHeartbeats 4000000 in
set_option maxRecDepth 100000 in
theorem c_X1_keep (l : Launch) (dC : Nat → ClassId) (dI : Nat → Nat → Nat) (hs : Nat → Nat) (ka : Nat → ClassId) (sz : Nat) (fu : Nat) (u : MS) (p0 : Int32) (p1 : Int32) (p2 : Int32) (p3 : Int32) (u' : MS) (h : pf_X1_keep fu p0 p1 p2 p3 u = some u') : Met l yX1_keep wzX1_keep ({ frames := 0, cells := 0, slots := 0, locals := 0 }) (va_Pc [.ref (hs 0), .int p0, .int p1, .int p2, .int p3] (fun U => U.heap.size = sz ∧ va_P (dC, dI) vwCl (cM hs ka u) U.heap ∧ va_K (dC, dI) vwCl (tM ka) U ∧ va_D (fun _ => True) (cM hs ka u))) (va_Qv (fun (u1 : MS) => u1 = u') (aM dC dI (va_A (cM hs ka u) sz) hs ka) (va_A (cM hs ka u) sz)) 0 0 (va_A (cM hs ka u) sz) := by
  refine Met.ofW (cc := cX1_keep) (maxL := 5) (ret := none) (by decide) rfl ?_
  intro p e s m args below meth c s₁ B hml hv
  obtain ⟨rfl, hsz, hP, hK, hD0⟩ := hv
  have hx := B.exec
  have hb := B.bytes
  have hr := B.returns
  have hts := atoms_spec (ws := wzX1_keep) B.pre
  have hown : s.vm.findClass RX1 = some m.cls := findClass_of_methodNamed B.named
  have hlocks := B.notSynchronized
  subst hsz
  have hD := hD0.self (sz := s.heap.size)
  generalize hAe : va_A (cM hs ka u) s.heap.size = A at hD ⊢
  have hA : ∀ q : Nat, s.heap.size ≤ q → A q := fun q h => by rw [← hAe]; exact Or.inr h
  have hS : va_S A s.heap s.heap [] := va_S.rf
  have hP : va_P (dC, dI) vwCl (cM hs ka u) s.heap := hP
  clear hD0 hAe
  have hin0 : ∀ w ∈ u_ws RX1 TX1 23, w ∈ wzX1_keep := fun w h => List.mem_cons_of_mem _ (inTX1 w h)
  have hf_37 := hts (.fieldLink RX1 37 "ConflictSolveModel" "kind" "[I") (List.mem_cons_of_mem _ tz_252)
  have hf_40 := hts (.fieldLink RX1 40 "ConflictSolveModel" "many" "[I") (List.mem_cons_of_mem _ tz_253)
  have hf_43 := hts (.fieldLink RX1 43 "ConflictSolveModel" "other" "[I") (List.mem_cons_of_mem _ tz_254)
  have hf_46 := hts (.fieldLink RX1 46 "ConflictSolveModel" "set" "[I") (List.mem_cons_of_mem _ tz_255)
  have hf_56 := hts (.fieldLink RX1 56 "ConflictSolveModel" "latest" "I") (List.mem_cons_of_mem _ tz_258)
  have hl := lv_entry ([.ref (hs 0), .int p0, .int p1, .int p2, .int p3]) (n := 5) (Nat.le_of_ble_eq_true rfl)
  rw [lg_entry_eq]
  generalize (lg_sl ([.ref (hs 0), .int p0, .int p1, .int p2, .int p3]) ++ List.replicate (5 - (lg_sl ([.ref (hs 0), .int p0, .int p1, .int p2, .int p3])).length) Slot.unset).toArray = ls at hl ⊢
  have hl : lv_has ls 5 [(0, .ref (hs 0)), (1, .int p0), (2, .int p1), (3, .int p2), (4, .int p3)] := hl
  rw [pf_X1_keep] at h
  refine lv_aload_n hx hb dX1_keep_0 rfl (lv_at hl 0 rfl) ?_
  refine gt_M_kind hx hb hts hin0 hown hK hP hf_37 dX1_keep_1 ?_
  refine lv_iload_n hx hb dX1_keep_4 rfl (lv_at hl 1 rfl) ?_
  refine lv_iload_n hx hb dX1_keep_5 rfl (lv_at hl 2 rfl) ?_
  obtain ⟨g_1, h⟩ := og_some h
  refine sr_M_kind (F := (m_kind u)) hx hb hK hP hD hS rfl (inb_in g_1) dX1_keep_6 (fun H locs hP hD hS => ?_)
  refine lv_aload_n hx hb dX1_keep_7 rfl (lv_at hl 0 rfl) ?_
  refine gt_M_many hx hb hts hin0 hown hK hP hf_40 dX1_keep_8 ?_
  refine lv_iload_n hx hb dX1_keep_11 rfl (lv_at hl 1 rfl) ?_
  refine lv_iconst (v := (1 : Int32)) hx hb dX1_keep_12 (by decide) ?_
  obtain ⟨g_2, h⟩ := og_some h
  refine sr_M_many (F := (m_many u)) hx hb hK hP hD hS (rq_m_many_kind u (upd (m_kind u) p0.toNatClampNeg p1)) (inb_in g_2) dX1_keep_13 (fun H locs hP hD hS => ?_)
  refine lv_aload_n hx hb dX1_keep_14 rfl (lv_at hl 0 rfl) ?_
  refine gt_M_other hx hb hts hin0 hown hK hP hf_43 dX1_keep_15 ?_
  refine lv_iconst (v := (3 : Int32)) hx hb dX1_keep_18 (by decide) ?_
  refine lv_iload_n hx hb dX1_keep_19 rfl (lv_at hl 1 rfl) ?_
  refine lv_imul hx hb dX1_keep_20 ?_
  refine lv_iload_n hx hb dX1_keep_21 rfl (lv_at hl 3 rfl) ?_
  obtain ⟨g_3, h⟩ := og_some h
  refine sr_M_other (F := (m_other u)) hx hb hK hP hD hS ((rq_m_other_many (ms_kind u (upd (m_kind u) p0.toNatClampNeg p1)) (upd (m_many u) p0.toNatClampNeg (1 : Int32))).trans (rq_m_other_kind u (upd (m_kind u) p0.toNatClampNeg p1))) (inb_in g_3) dX1_keep_22 (fun H locs hP hD hS => ?_)
  refine lv_aload_n hx hb dX1_keep_23 rfl (lv_at hl 0 rfl) ?_
  refine gt_M_set hx hb hts hin0 hown hK hP hf_46 dX1_keep_24 ?_
  refine lv_iconst (v := (3 : Int32)) hx hb dX1_keep_27 (by decide) ?_
  refine lv_iload_n hx hb dX1_keep_28 rfl (lv_at hl 1 rfl) ?_
  refine lv_imul hx hb dX1_keep_29 ?_
  refine lv_iload hx hb dX1_keep_30 (lv_at hl 4 rfl) ?_
  obtain ⟨g_4, h⟩ := og_some h
  refine sr_M_set (F := (m_set u)) hx hb hK hP hD hS ((rq_m_set_other (ms_many (ms_kind u (upd (m_kind u) p0.toNatClampNeg p1)) (upd (m_many u) p0.toNatClampNeg (1 : Int32))) (upd (m_other u) ((3 : Int32) * p0).toNatClampNeg p2)).trans ((rq_m_set_many (ms_kind u (upd (m_kind u) p0.toNatClampNeg p1)) (upd (m_many u) p0.toNatClampNeg (1 : Int32))).trans (rq_m_set_kind u (upd (m_kind u) p0.toNatClampNeg p1)))) (inb_in g_4) dX1_keep_32 (fun H locs hP hD hS => ?_)
  refine lv_aload_n hx hb dX1_keep_33 rfl (lv_at hl 0 rfl) ?_
  refine lv_iload_n hx hb dX1_keep_34 rfl (lv_at hl 1 rfl) ?_
  refine pt_M_latest hx hb hts hin0 hown hK hP hD hS hf_56 dX1_keep_35 (fun H locs hP hD hS => ?_)
  have e9 := Option.some.inj h
  exact W.vret hx hb hr (fun t ht hW => ⟨⟨(ms_latest (ms_set (ms_other (ms_many (ms_kind u (upd (m_kind u) p0.toNatClampNeg p1)) (upd (m_many u) p0.toNatClampNeg (1 : Int32))) (upd (m_other u) ((3 : Int32) * p0).toNatClampNeg p2)) (upd (m_set u) ((3 : Int32) * p0).toNatClampNeg p3)) p0), rfl, e9, by rw [ht]; exact hP, va_K.moved hW.alike hK, hD⟩, hS.F ht⟩) hS.2.2 dX1_keep_38
set_option maxHeartbeats 4000000 in
set_option maxRecDepth 100000 in
theorem c_X1_row (l : Launch) (dC : Nat → ClassId) (dI : Nat → Nat → Nat) (hs : Nat → Nat) (ka : Nat → ClassId) (sz : Nat) (fu : Nat) (u : MS) (p0 : Int32) (p1 : Int32) (p2 : Int32) (p3 : Int32) (p4 : Int32) (r : Int32) (u' : MS) (h : pf_X1_row fu p0 p1 p2 p3 p4 u = some (r, u')) : Met l yX1_row wzX1_row ({ frames := 2, cells := 0, slots := 0, locals := 43 }) (va_Pc [.ref (hs 0), .int p0, .int p1, .int p2, .int p3, .int p4] (fun U => U.heap.size = sz ∧ va_P (dC, dI) vwCl (cM hs ka u) U.heap ∧ va_K (dC, dI) vwCl (tM ka) U ∧ va_D (fun _ => True) (cM hs ka u))) (va_Qi (fun (r1 : Int32) (u1 : MS) => r1 = r ∧ u1 = u') (aM dC dI (va_A (cM hs ka u) sz) hs ka) (va_A (cM hs ka u) sz)) 0 0 (va_A (cM hs ka u) sz) := by
  refine Met.ofW (cc := cX1_row) (maxL := 6) (ret := (some .boolean)) (by decide) rfl ?_
  intro p e s m args below meth c s₁ B hml hv
  obtain ⟨rfl, hsz, hP, hK, hD0⟩ := hv
  have hx := B.exec
  have hb := B.bytes
  have hr := B.returns
  have hts := atoms_spec (ws := wzX1_row) B.pre
  have hown : s.vm.findClass RX1 = some m.cls := findClass_of_methodNamed B.named
  have hlocks := B.notSynchronized
  subst hsz
  have hD := hD0.self (sz := s.heap.size)
  generalize hAe : va_A (cM hs ka u) s.heap.size = A at hD ⊢
  have hA : ∀ q : Nat, s.heap.size ≤ q → A q := fun q h => by rw [← hAe]; exact Or.inr h
  have hS : va_S A s.heap s.heap [] := va_S.rf
  have hP : va_P (dC, dI) vwCl (cM hs ka u) s.heap := hP
  clear hD0 hAe
  have hin0 : ∀ w ∈ u_ws RX1 TX1 23, w ∈ wzX1_row := fun w h => List.mem_cons_of_mem _ (inTX1 w h)
  have hf_31 := hts (.fieldLink RX1 31 "ConflictSolveModel" "pack" "[I") (List.mem_cons_of_mem _ tz_250)
  have hf_34 := hts (.fieldLink RX1 34 "ConflictSolveModel" "version" "[I") (List.mem_cons_of_mem _ tz_251)
  have hf_63 := hts (.fieldLink RX1 63 "ConflictSolveModel" "code" "I") (List.mem_cons_of_mem _ tz_238)
  have hf_77 := hts (.fieldLink RX1 77 "ConflictSolveModel" "rows" "I") (List.mem_cons_of_mem _ tz_247)
  have hl := lv_entry ([.ref (hs 0), .int p0, .int p1, .int p2, .int p3, .int p4]) (n := 6) (Nat.le_of_ble_eq_true rfl)
  rw [lg_entry_eq]
  generalize (lg_sl ([.ref (hs 0), .int p0, .int p1, .int p2, .int p3, .int p4]) ++ List.replicate (6 - (lg_sl ([.ref (hs 0), .int p0, .int p1, .int p2, .int p3, .int p4])).length) Slot.unset).toArray = ls at hl ⊢
  have hl : lv_has ls 6 [(0, .ref (hs 0)), (1, .int p0), (2, .int p1), (3, .int p2), (4, .int p3), (5, .int p4)] := hl
  rw [pf_X1_row] at h
  refine lv_aload_n hx hb dX1_row_0 rfl (lv_at hl 0 rfl) ?_
  refine lv_iconst (v := (0 : Int32)) hx hb dX1_row_1 (by decide) ?_
  refine pt_M_code hx hb hts hin0 hown hK hP hD hS hf_63 dX1_row_2 (fun H locs hP hD hS => ?_)
  refine lv_aload_n hx hb dX1_row_5 rfl (lv_at hl 0 rfl) ?_
  refine lv_iload_n hx hb dX1_row_6 rfl (lv_at hl 1 rfl) ?_
  refine lv_iload_n hx hb dX1_row_7 rfl (lv_at hl 2 rfl) ?_
  obtain ⟨q_1, hc_1, h⟩ := ob_some h
  have hPc := hP
  have hDc := hD
  have hKc := hK
  have hFc := fr_M hD hS hA
  refine va_calli (va_runV (As := [.int p0, .int p1]) (rest := []) ⟨hx, hb, hml, hown, hts⟩ (c_X1_isVersion l dC dI hs ka H.size fu (ms_code u (0 : Int32)) p0 p1 q_1 hc_1) (cwV 2 hts gX1_row_X1_isVersion rfl rfl rfl (by decide +kernel) ⟨Nat.le_of_ble_eq_true rfl, Nat.le_of_ble_eq_true rfl⟩) ⟨fun a U g mk q => by obtain ⟨q0, q1, qP, qK, qD⟩ := q; exact ⟨q0, q1, qP, va_K.moved (u := U) (U := U.calling g mk a) (Vm.Alike.refl U.vm) qK, qD⟩, rc_M hKc hPc, fun U hU hW => ⟨rfl, by rw [hU], by rw [hU]; exact hPc, va_K.moved hW.alike hKc, hDc.weaken (fun _ _ _ _ => trivial)⟩⟩ rfl rfl hl.1 rfl (lv_room (Nat.le_of_ble_eq_true rfl)) dX1_row_8 ⟨Nat.zero_le _, Nat.zero_le _⟩) hS (fun q _ h => hFc q h) hFc (fun r_1 u_c1 t H1 locs ht hvm hw hB hz1 hk1 hS => ?_)
  obtain ⟨hw1, hw2⟩ := hw
  subst r_1
  subst u_c1
  obtain ⟨hP1, hK1, hD1⟩ := hB
  rw [ht] at hP1
  obtain ⟨hP, hD⟩ := jw_M hP hD hk1 hFc hP1 hD1
  clear hPc hDc hKc hFc hz1 hk1 hP1 hK1 hD1
  generalize H1 = H at hP hS ⊢
  refine lv_if_eq (tgt := 41) hx hb dX1_row_11 (by decide) (fun c_2 => ?_) (fun c_2 => ?_)
  · rw [if_pos c_2] at h
    refine lv_iconst (v := (0 : Int32)) hx hb dX1_row_41 (by decide) ?_
    have e9 := Option.some.inj h
    exact W.zret (v := (0 : Int32)) hx hb hr rfl (fun t ht hW => ⟨⟨(0 : Int32), (ms_code u (0 : Int32)), rfl, ⟨congrArg Prod.fst e9, congrArg Prod.snd e9⟩, by rw [ht]; exact hP, va_K.moved hW.alike hK, hD⟩, hS.F ht⟩) hS.2.2 dX1_row_42
  · rw [if_neg c_2] at h
    refine lv_iload_n hx hb dX1_row_14 rfl (lv_at hl 3 rfl) ?_
    refine lv_if_lt (tgt := 41) hx hb dX1_row_15 (by decide) (fun c_3 => ?_) (fun c_3 => ?_)
    · rw [if_pos c_3] at h
      refine lv_iconst (v := (0 : Int32)) hx hb dX1_row_41 (by decide) ?_
      have e9 := Option.some.inj h
      exact W.zret (v := (0 : Int32)) hx hb hr rfl (fun t ht hW => ⟨⟨(0 : Int32), (ms_code u (0 : Int32)), rfl, ⟨congrArg Prod.fst e9, congrArg Prod.snd e9⟩, by rw [ht]; exact hP, va_K.moved hW.alike hK, hD⟩, hS.F ht⟩) hS.2.2 dX1_row_42
    · rw [if_neg c_3] at h
      refine lv_iload_n hx hb dX1_row_18 rfl (lv_at hl 3 rfl) ?_
      refine lv_iconst (v := (2 : Int32)) hx hb dX1_row_19 (by decide) ?_
      refine lv_icmp_gt (tgt := 41) hx hb dX1_row_20 (by decide) (fun c_4 => ?_) (fun c_4 => ?_)
      · rw [if_pos c_4] at h
        refine lv_iconst (v := (0 : Int32)) hx hb dX1_row_41 (by decide) ?_
        have e9 := Option.some.inj h
        exact W.zret (v := (0 : Int32)) hx hb hr rfl (fun t ht hW => ⟨⟨(0 : Int32), (ms_code u (0 : Int32)), rfl, ⟨congrArg Prod.fst e9, congrArg Prod.snd e9⟩, by rw [ht]; exact hP, va_K.moved hW.alike hK, hD⟩, hS.F ht⟩) hS.2.2 dX1_row_42
      · rw [if_neg c_4] at h
        refine lv_aload_n hx hb dX1_row_23 rfl (lv_at hl 0 rfl) ?_
        refine lv_iload hx hb dX1_row_24 (lv_at hl 4 rfl) ?_
        have hPc := hP
        have hDc := hD
        have hKc := hK
        have hFc := fr_M hD hS hA
        refine va_calli (va_runV (As := [.int p3]) (rest := []) ⟨hx, hb, hml, hown, hts⟩ (c_X1_isPackage l dC dI hs ka H.size (ms_code u (0 : Int32)) p3 _ rfl) (cwV 1 hts gX1_row_X1_isPackage rfl rfl rfl (by decide +kernel) ⟨Nat.le_of_ble_eq_true rfl, Nat.le_of_ble_eq_true rfl⟩) ⟨fun a U g mk q => by obtain ⟨q0, q1, qP, qK, qD⟩ := q; exact ⟨q0, q1, qP, va_K.moved (u := U) (U := U.calling g mk a) (Vm.Alike.refl U.vm) qK, qD⟩, rc_M hKc hPc, fun U hU hW => ⟨rfl, by rw [hU], by rw [hU]; exact hPc, va_K.moved hW.alike hKc, hDc.weaken (fun _ _ _ _ => trivial)⟩⟩ rfl rfl hl.1 rfl (lv_room (Nat.le_of_ble_eq_true rfl)) dX1_row_26 ⟨Nat.zero_le _, Nat.zero_le _⟩) hS (fun q _ h => hFc q h) hFc (fun r_5 u_c5 t H1 locs ht hvm hw hB hz1 hk1 hS => ?_)
        obtain ⟨hw1, hw2⟩ := hw
        subst r_5
        subst u_c5
        obtain ⟨hP1, hK1, hD1⟩ := hB
        rw [ht] at hP1
        obtain ⟨hP, hD⟩ := jw_M hP hD hk1 hFc hP1 hD1
        clear hPc hDc hKc hFc hz1 hk1 hP1 hK1 hD1
        generalize H1 = H at hP hS ⊢
        refine lv_if_eq (tgt := 41) hx hb dX1_row_29 (by decide) (fun c_6 => ?_) (fun c_6 => ?_)
        · rw [if_pos c_6] at h
          refine lv_iconst (v := (0 : Int32)) hx hb dX1_row_41 (by decide) ?_
          have e9 := Option.some.inj h
          exact W.zret (v := (0 : Int32)) hx hb hr rfl (fun t ht hW => ⟨⟨(0 : Int32), (ms_code u (0 : Int32)), rfl, ⟨congrArg Prod.fst e9, congrArg Prod.snd e9⟩, by rw [ht]; exact hP, va_K.moved hW.alike hK, hD⟩, hS.F ht⟩) hS.2.2 dX1_row_42
        · rw [if_neg c_6] at h
          refine lv_aload_n hx hb dX1_row_32 rfl (lv_at hl 0 rfl) ?_
          refine gt_M_rows (V := (m_rows u)) hx hb hts hin0 hown hK hP hf_77 (rq_m_rows_code u (0 : Int32)) dX1_row_33 ?_
          refine lv_bipush (v := (120 : Int32)) hx hb dX1_row_36 (by decide) ?_
          refine lv_icmp_ne (tgt := 43) hx hb dX1_row_38 (by decide) (fun c_7 => ?_) (fun c_7 => ?_)
          · rw [if_neg c_7] at h
            refine lv_aload_n hx hb dX1_row_43 rfl (lv_at hl 0 rfl) ?_
            refine gt_M_pack hx hb hts hin0 hown hK hP hf_31 dX1_row_44 ?_
            refine lv_aload_n hx hb dX1_row_47 rfl (lv_at hl 0 rfl) ?_
            refine gt_M_rows (V := (m_rows u)) hx hb hts hin0 hown hK hP hf_77 (rq_m_rows_code u (0 : Int32)) dX1_row_48 ?_
            refine lv_iload_n hx hb dX1_row_51 rfl (lv_at hl 1 rfl) ?_
            obtain ⟨g_8, h⟩ := og_some h
            refine sr_M_pack (F := (m_pack u)) hx hb hK hP hD hS (rq_m_pack_code u (0 : Int32)) (inb_in g_8) dX1_row_52 (fun H locs hP hD hS => ?_)
            refine lv_aload_n hx hb dX1_row_53 rfl (lv_at hl 0 rfl) ?_
            refine gt_M_version hx hb hts hin0 hown hK hP hf_34 dX1_row_54 ?_
            refine lv_aload_n hx hb dX1_row_57 rfl (lv_at hl 0 rfl) ?_
            refine gt_M_rows (V := (m_rows u)) hx hb hts hin0 hown hK hP hf_77 ((rq_m_rows_pack (ms_code u (0 : Int32)) (upd (m_pack u) (m_rows u).toNatClampNeg p0)).trans (rq_m_rows_code u (0 : Int32))) dX1_row_58 ?_
            refine lv_iload_n hx hb dX1_row_61 rfl (lv_at hl 2 rfl) ?_
            obtain ⟨g_9, h⟩ := og_some h
            refine sr_M_version (F := (m_version u)) hx hb hK hP hD hS ((rq_m_version_pack (ms_code u (0 : Int32)) (upd (m_pack u) (m_rows u).toNatClampNeg p0)).trans (rq_m_version_code u (0 : Int32))) (inb_in g_9) dX1_row_62 (fun H locs hP hD hS => ?_)
            refine lv_aload_n hx hb dX1_row_63 rfl (lv_at hl 0 rfl) ?_
            refine lv_aload_n hx hb dX1_row_64 rfl (lv_at hl 0 rfl) ?_
            refine gt_M_rows (V := (m_rows u)) hx hb hts hin0 hown hK hP hf_77 ((rq_m_rows_version (ms_pack (ms_code u (0 : Int32)) (upd (m_pack u) (m_rows u).toNatClampNeg p0)) (upd (m_version u) (m_rows u).toNatClampNeg p1)).trans ((rq_m_rows_pack (ms_code u (0 : Int32)) (upd (m_pack u) (m_rows u).toNatClampNeg p0)).trans (rq_m_rows_code u (0 : Int32)))) dX1_row_65 ?_
            refine lv_iload_n hx hb dX1_row_68 rfl (lv_at hl 3 rfl) ?_
            refine lv_iload hx hb dX1_row_69 (lv_at hl 4 rfl) ?_
            refine lv_iload hx hb dX1_row_71 (lv_at hl 5 rfl) ?_
            obtain ⟨q_10, hc_10, h⟩ := ob_some h
            have hPc := hP
            have hDc := hD
            have hKc := hK
            have hFc := fr_M hD hS hA
            refine va_callv (va_runV (As := [.int (m_rows u), .int p2, .int p3, .int p4]) (rest := []) ⟨hx, hb, hml, hown, hts⟩ (c_X1_keep l dC dI hs ka H.size fu (ms_version (ms_pack (ms_code u (0 : Int32)) (upd (m_pack u) (m_rows u).toNatClampNeg p0)) (upd (m_version u) (m_rows u).toNatClampNeg p1)) (m_rows u) p2 p3 p4 q_10 hc_10) (cwV 4 hts gX1_row_X1_keep rfl rfl rfl (by decide +kernel) ⟨Nat.le_of_ble_eq_true rfl, Nat.le_of_ble_eq_true rfl⟩) ⟨fun a U g mk q => by obtain ⟨q0, q1, qP, qK, qD⟩ := q; exact ⟨q0, q1, qP, va_K.moved (u := U) (U := U.calling g mk a) (Vm.Alike.refl U.vm) qK, qD⟩, rc_M hKc hPc, fun U hU hW => ⟨rfl, by rw [hU], by rw [hU]; exact hPc, va_K.moved hW.alike hKc, hDc.weaken (fun _ _ _ _ => trivial)⟩⟩ rfl rfl hl.1 rfl (lv_room (Nat.le_of_ble_eq_true rfl)) dX1_row_73 ⟨Nat.zero_le _, Nat.zero_le _⟩) hS (fun q _ h => hFc q h) hFc (fun u_c10 t H1 locs ht hvm hw hB hz1 hk1 hS => ?_)
            subst u_c10
            obtain ⟨hP1, hK1, hD1⟩ := hB
            rw [ht] at hP1
            obtain ⟨hP, hD⟩ := jw_M hP hD hk1 hFc hP1 hD1
            clear hPc hDc hKc hFc hz1 hk1 hP1 hK1 hD1
            generalize H1 = H at hP hS ⊢
            refine lv_aload_n hx hb dX1_row_76 rfl (lv_at hl 0 rfl) ?_
            refine lv_dup hx hb dX1_row_77 rfl ?_
            refine gt_M_rows (V := (m_rows q_10)) hx hb hts hin0 hown hK hP hf_77 rfl dX1_row_78 ?_
            refine lv_iconst (v := (1 : Int32)) hx hb dX1_row_81 (by decide) ?_
            refine lv_iadd hx hb dX1_row_82 ?_
            refine pt_M_rows hx hb hts hin0 hown hK hP hD hS hf_77 dX1_row_83 (fun H locs hP hD hS => ?_)
            refine lv_iconst (v := (1 : Int32)) hx hb dX1_row_86 (by decide) ?_
            have e9 := Option.some.inj h
            exact W.zret (v := (1 : Int32)) hx hb hr rfl (fun t ht hW => ⟨⟨(1 : Int32), (ms_rows q_10 ((m_rows q_10) + (1 : Int32))), rfl, ⟨congrArg Prod.fst e9, congrArg Prod.snd e9⟩, by rw [ht]; exact hP, va_K.moved hW.alike hK, hD⟩, hS.F ht⟩) hS.2.2 dX1_row_87
          · rw [if_pos c_7] at h
            refine lv_iconst (v := (0 : Int32)) hx hb dX1_row_41 (by decide) ?_
            have e9 := Option.some.inj h
            exact W.zret (v := (0 : Int32)) hx hb hr rfl (fun t ht hW => ⟨⟨(0 : Int32), (ms_code u (0 : Int32)), rfl, ⟨congrArg Prod.fst e9, congrArg Prod.snd e9⟩, by rw [ht]; exact hP, va_K.moved hW.alike hK, hD⟩, hS.F ht⟩) hS.2.2 dX1_row_42
set_option maxHeartbeats 4000000 in
set_option maxRecDepth 100000 in
theorem c_X1_demand (l : Launch) (dC : Nat → ClassId) (dI : Nat → Nat → Nat) (hs : Nat → Nat) (ka : Nat → ClassId) (sz : Nat) (fu : Nat) (u : MS) (p0 : Int32) (p1 : Int32) (p2 : Int32) (r : Int32) (u' : MS) (h : pf_X1_demand fu p0 p1 p2 u = some (r, u')) : Met l yX1_demand wzX1_demand ({ frames := 1, cells := 0, slots := 0, locals := 24 }) (va_Pc [.ref (hs 0), .int p0, .int p1, .int p2] (fun U => U.heap.size = sz ∧ va_P (dC, dI) vwCl (cM hs ka u) U.heap ∧ va_K (dC, dI) vwCl (tM ka) U ∧ va_D (fun _ => True) (cM hs ka u))) (va_Qi (fun (r1 : Int32) (u1 : MS) => r1 = r ∧ u1 = u') (aM dC dI (va_A (cM hs ka u) sz) hs ka) (va_A (cM hs ka u) sz)) 0 0 (va_A (cM hs ka u) sz) := by
  refine Met.ofW (cc := cX1_demand) (maxL := 4) (ret := (some .int)) (by decide) rfl ?_
  intro p e s m args below meth c s₁ B hml hv
  obtain ⟨rfl, hsz, hP, hK, hD0⟩ := hv
  have hx := B.exec
  have hb := B.bytes
  have hr := B.returns
  have hts := atoms_spec (ws := wzX1_demand) B.pre
  have hown : s.vm.findClass RX1 = some m.cls := findClass_of_methodNamed B.named
  have hlocks := B.notSynchronized
  subst hsz
  have hD := hD0.self (sz := s.heap.size)
  generalize hAe : va_A (cM hs ka u) s.heap.size = A at hD ⊢
  have hA : ∀ q : Nat, s.heap.size ≤ q → A q := fun q h => by rw [← hAe]; exact Or.inr h
  have hS : va_S A s.heap s.heap [] := va_S.rf
  have hP : va_P (dC, dI) vwCl (cM hs ka u) s.heap := hP
  clear hD0 hAe
  have hin0 : ∀ w ∈ u_ws RX1 TX1 23, w ∈ wzX1_demand := fun w h => List.mem_cons_of_mem _ (inTX1 w h)
  have hf_63 := hts (.fieldLink RX1 63 "ConflictSolveModel" "code" "I") (List.mem_cons_of_mem _ tz_238)
  have hf_84 := hts (.fieldLink RX1 84 "ConflictSolveModel" "demands" "I") (List.mem_cons_of_mem _ tz_248)
  have hl := lv_entry ([.ref (hs 0), .int p0, .int p1, .int p2]) (n := 4) (Nat.le_of_ble_eq_true rfl)
  rw [lg_entry_eq]
  generalize (lg_sl ([.ref (hs 0), .int p0, .int p1, .int p2]) ++ List.replicate (4 - (lg_sl ([.ref (hs 0), .int p0, .int p1, .int p2])).length) Slot.unset).toArray = ls at hl ⊢
  have hl : lv_has ls 4 [(0, .ref (hs 0)), (1, .int p0), (2, .int p1), (3, .int p2)] := hl
  rw [pf_X1_demand] at h
  refine lv_aload_n hx hb dX1_demand_0 rfl (lv_at hl 0 rfl) ?_
  refine lv_iconst (v := (0 : Int32)) hx hb dX1_demand_1 (by decide) ?_
  refine pt_M_code hx hb hts hin0 hown hK hP hD hS hf_63 dX1_demand_2 (fun H locs hP hD hS => ?_)
  refine lv_iload_n hx hb dX1_demand_5 rfl (lv_at hl 1 rfl) ?_
  refine lv_if_lt (tgt := 31) hx hb dX1_demand_6 (by decide) (fun c_1 => ?_) (fun c_1 => ?_)
  · rw [if_pos c_1] at h
    refine lv_iconst (v := (-1 : Int32)) hx hb dX1_demand_31 (by decide) ?_
    have e9 := Option.some.inj h
    exact W.iret (v := (-1 : Int32)) hx hb hr (fun t ht hW => ⟨⟨(-1 : Int32), (ms_code u (0 : Int32)), rfl, ⟨congrArg Prod.fst e9, congrArg Prod.snd e9⟩, by rw [ht]; exact hP, va_K.moved hW.alike hK, hD⟩, hS.F ht⟩) hS.2.2 dX1_demand_32
  · rw [if_neg c_1] at h
    refine lv_iload_n hx hb dX1_demand_9 rfl (lv_at hl 1 rfl) ?_
    refine lv_iconst (v := (2 : Int32)) hx hb dX1_demand_10 (by decide) ?_
    refine lv_icmp_gt (tgt := 31) hx hb dX1_demand_11 (by decide) (fun c_2 => ?_) (fun c_2 => ?_)
    · rw [if_pos c_2] at h
      refine lv_iconst (v := (-1 : Int32)) hx hb dX1_demand_31 (by decide) ?_
      have e9 := Option.some.inj h
      exact W.iret (v := (-1 : Int32)) hx hb hr (fun t ht hW => ⟨⟨(-1 : Int32), (ms_code u (0 : Int32)), rfl, ⟨congrArg Prod.fst e9, congrArg Prod.snd e9⟩, by rw [ht]; exact hP, va_K.moved hW.alike hK, hD⟩, hS.F ht⟩) hS.2.2 dX1_demand_32
    · rw [if_neg c_2] at h
      refine lv_aload_n hx hb dX1_demand_14 rfl (lv_at hl 0 rfl) ?_
      refine lv_iload_n hx hb dX1_demand_15 rfl (lv_at hl 2 rfl) ?_
      have hPc := hP
      have hDc := hD
      have hKc := hK
      have hFc := fr_M hD hS hA
      refine va_calli (va_runV (As := [.int p1]) (rest := []) ⟨hx, hb, hml, hown, hts⟩ (c_X1_isPackage l dC dI hs ka H.size (ms_code u (0 : Int32)) p1 _ rfl) (cwV 1 hts gX1_demand_X1_isPackage rfl rfl rfl (by decide +kernel) ⟨Nat.le_of_ble_eq_true rfl, Nat.le_of_ble_eq_true rfl⟩) ⟨fun a U g mk q => by obtain ⟨q0, q1, qP, qK, qD⟩ := q; exact ⟨q0, q1, qP, va_K.moved (u := U) (U := U.calling g mk a) (Vm.Alike.refl U.vm) qK, qD⟩, rc_M hKc hPc, fun U hU hW => ⟨rfl, by rw [hU], by rw [hU]; exact hPc, va_K.moved hW.alike hKc, hDc.weaken (fun _ _ _ _ => trivial)⟩⟩ rfl rfl hl.1 rfl (lv_room (Nat.le_of_ble_eq_true rfl)) dX1_demand_16 ⟨Nat.zero_le _, Nat.zero_le _⟩) hS (fun q _ h => hFc q h) hFc (fun r_3 u_c3 t H1 locs ht hvm hw hB hz1 hk1 hS => ?_)
      obtain ⟨hw1, hw2⟩ := hw
      subst r_3
      subst u_c3
      obtain ⟨hP1, hK1, hD1⟩ := hB
      rw [ht] at hP1
      obtain ⟨hP, hD⟩ := jw_M hP hD hk1 hFc hP1 hD1
      clear hPc hDc hKc hFc hz1 hk1 hP1 hK1 hD1
      generalize H1 = H at hP hS ⊢
      refine lv_if_eq (tgt := 31) hx hb dX1_demand_19 (by decide) (fun c_4 => ?_) (fun c_4 => ?_)
      · rw [if_pos c_4] at h
        refine lv_iconst (v := (-1 : Int32)) hx hb dX1_demand_31 (by decide) ?_
        have e9 := Option.some.inj h
        exact W.iret (v := (-1 : Int32)) hx hb hr (fun t ht hW => ⟨⟨(-1 : Int32), (ms_code u (0 : Int32)), rfl, ⟨congrArg Prod.fst e9, congrArg Prod.snd e9⟩, by rw [ht]; exact hP, va_K.moved hW.alike hK, hD⟩, hS.F ht⟩) hS.2.2 dX1_demand_32
      · rw [if_neg c_4] at h
        refine lv_aload_n hx hb dX1_demand_22 rfl (lv_at hl 0 rfl) ?_
        refine gt_M_demands (V := (m_demands u)) hx hb hts hin0 hown hK hP hf_84 (rq_m_demands_code u (0 : Int32)) dX1_demand_23 ?_
        refine lv_bipush (v := (12 : Int32)) hx hb dX1_demand_26 (by decide) ?_
        refine lv_icmp_ne (tgt := 33) hx hb dX1_demand_28 (by decide) (fun c_5 => ?_) (fun c_5 => ?_)
        · rw [if_neg c_5] at h
          refine lv_aload_n hx hb dX1_demand_33 rfl (lv_at hl 0 rfl) ?_
          refine lv_bipush (v := (120 : Int32)) hx hb dX1_demand_34 (by decide) ?_
          refine lv_aload_n hx hb dX1_demand_36 rfl (lv_at hl 0 rfl) ?_
          refine gt_M_demands (V := (m_demands u)) hx hb hts hin0 hown hK hP hf_84 (rq_m_demands_code u (0 : Int32)) dX1_demand_37 ?_
          refine lv_iadd hx hb dX1_demand_40 ?_
          refine lv_iload_n hx hb dX1_demand_41 rfl (lv_at hl 1 rfl) ?_
          refine lv_iload_n hx hb dX1_demand_42 rfl (lv_at hl 2 rfl) ?_
          refine lv_iload_n hx hb dX1_demand_43 rfl (lv_at hl 3 rfl) ?_
          obtain ⟨q_6, hc_6, h⟩ := ob_some h
          have hPc := hP
          have hDc := hD
          have hKc := hK
          have hFc := fr_M hD hS hA
          refine va_callv (va_runV (As := [.int ((120 : Int32) + (m_demands u)), .int p0, .int p1, .int p2]) (rest := []) ⟨hx, hb, hml, hown, hts⟩ (c_X1_keep l dC dI hs ka H.size fu (ms_code u (0 : Int32)) ((120 : Int32) + (m_demands u)) p0 p1 p2 q_6 hc_6) (cwV 4 hts gX1_demand_X1_keep rfl rfl rfl (by decide +kernel) ⟨Nat.le_of_ble_eq_true rfl, Nat.le_of_ble_eq_true rfl⟩) ⟨fun a U g mk q => by obtain ⟨q0, q1, qP, qK, qD⟩ := q; exact ⟨q0, q1, qP, va_K.moved (u := U) (U := U.calling g mk a) (Vm.Alike.refl U.vm) qK, qD⟩, rc_M hKc hPc, fun U hU hW => ⟨rfl, by rw [hU], by rw [hU]; exact hPc, va_K.moved hW.alike hKc, hDc.weaken (fun _ _ _ _ => trivial)⟩⟩ rfl rfl hl.1 rfl (lv_room (Nat.le_of_ble_eq_true rfl)) dX1_demand_44 ⟨Nat.zero_le _, Nat.zero_le _⟩) hS (fun q _ h => hFc q h) hFc (fun u_c6 t H1 locs ht hvm hw hB hz1 hk1 hS => ?_)
          subst u_c6
          obtain ⟨hP1, hK1, hD1⟩ := hB
          rw [ht] at hP1
          obtain ⟨hP, hD⟩ := jw_M hP hD hk1 hFc hP1 hD1
          clear hPc hDc hKc hFc hz1 hk1 hP1 hK1 hD1
          generalize H1 = H at hP hS ⊢
          refine lv_aload_n hx hb dX1_demand_47 rfl (lv_at hl 0 rfl) ?_
          refine lv_dup hx hb dX1_demand_48 rfl ?_
          refine gt_M_demands (V := (m_demands q_6)) hx hb hts hin0 hown hK hP hf_84 rfl dX1_demand_49 ?_
          refine lv_iconst (v := (1 : Int32)) hx hb dX1_demand_52 (by decide) ?_
          refine lv_iadd hx hb dX1_demand_53 ?_
          refine pt_M_demands hx hb hts hin0 hown hK hP hD hS hf_84 dX1_demand_54 (fun H locs hP hD hS => ?_)
          refine lv_aload_n hx hb dX1_demand_57 rfl (lv_at hl 0 rfl) ?_
          refine gt_M_demands (V := ((m_demands q_6) + (1 : Int32))) hx hb hts hin0 hown hK hP hf_84 (rq_m_demands_demands q_6 ((m_demands q_6) + (1 : Int32))) dX1_demand_58 ?_
          refine lv_iconst (v := (1 : Int32)) hx hb dX1_demand_61 (by decide) ?_
          refine lv_isub hx hb dX1_demand_62 ?_
          have e9 := Option.some.inj h
          exact W.iret (v := (((m_demands q_6) + (1 : Int32)) - (1 : Int32))) hx hb hr (fun t ht hW => ⟨⟨(((m_demands q_6) + (1 : Int32)) - (1 : Int32)), (ms_demands q_6 ((m_demands q_6) + (1 : Int32))), rfl, ⟨congrArg Prod.fst e9, congrArg Prod.snd e9⟩, by rw [ht]; exact hP, va_K.moved hW.alike hK, hD⟩, hS.F ht⟩) hS.2.2 dX1_demand_63
        · rw [if_pos c_5] at h
          refine lv_iconst (v := (-1 : Int32)) hx hb dX1_demand_31 (by decide) ?_
          have e9 := Option.some.inj h
          exact W.iret (v := (-1 : Int32)) hx hb hr (fun t ht hW => ⟨⟨(-1 : Int32), (ms_code u (0 : Int32)), rfl, ⟨congrArg Prod.fst e9, congrArg Prod.snd e9⟩, by rw [ht]; exact hP, va_K.moved hW.alike hK, hD⟩, hS.F ht⟩) hS.2.2 dX1_demand_32
set_option maxHeartbeats 4000000 in
set_option maxRecDepth 100000 in
theorem c_X1_or (l : Launch) (dC : Nat → ClassId) (dI : Nat → Nat → Nat) (hs : Nat → Nat) (ka : Nat → ClassId) (sz : Nat) (fu : Nat) (u : MS) (p0 : Int32) (p1 : Int32) (r : Int32) (u' : MS) (h : pf_X1_or fu p0 p1 u = some (r, u')) : Met l yX1_or wzX1_or ({ frames := 1, cells := 0, slots := 0, locals := 21 }) (va_Pc [.ref (hs 0), .int p0, .int p1] (fun U => U.heap.size = sz ∧ va_P (dC, dI) vwCl (cM hs ka u) U.heap ∧ va_K (dC, dI) vwCl (tM ka) U ∧ va_D (fun _ => True) (cM hs ka u))) (va_Qi (fun (r1 : Int32) (u1 : MS) => r1 = r ∧ u1 = u') (aM dC dI (va_A (cM hs ka u) sz) hs ka) (va_A (cM hs ka u) sz)) 0 0 (va_A (cM hs ka u) sz) := by
  refine Met.ofW (cc := cX1_or) (maxL := 3) (ret := (some .boolean)) (by decide) rfl ?_
  intro p e s m args below meth c s₁ B hml hv
  obtain ⟨rfl, hsz, hP, hK, hD0⟩ := hv
  have hx := B.exec
  have hb := B.bytes
  have hr := B.returns
  have hts := atoms_spec (ws := wzX1_or) B.pre
  have hown : s.vm.findClass RX1 = some m.cls := findClass_of_methodNamed B.named
  have hlocks := B.notSynchronized
  subst hsz
  have hD := hD0.self (sz := s.heap.size)
  generalize hAe : va_A (cM hs ka u) s.heap.size = A at hD ⊢
  have hA : ∀ q : Nat, s.heap.size ≤ q → A q := fun q h => by rw [← hAe]; exact Or.inr h
  have hS : va_S A s.heap s.heap [] := va_S.rf
  have hP : va_P (dC, dI) vwCl (cM hs ka u) s.heap := hP
  clear hD0 hAe
  have hin0 : ∀ w ∈ u_ws RX1 TX1 23, w ∈ wzX1_or := fun w h => List.mem_cons_of_mem _ (inTX1 w h)
  have hf_37 := hts (.fieldLink RX1 37 "ConflictSolveModel" "kind" "[I") (List.mem_cons_of_mem _ tz_252)
  have hf_40 := hts (.fieldLink RX1 40 "ConflictSolveModel" "many" "[I") (List.mem_cons_of_mem _ tz_253)
  have hf_43 := hts (.fieldLink RX1 43 "ConflictSolveModel" "other" "[I") (List.mem_cons_of_mem _ tz_254)
  have hf_46 := hts (.fieldLink RX1 46 "ConflictSolveModel" "set" "[I") (List.mem_cons_of_mem _ tz_255)
  have hf_56 := hts (.fieldLink RX1 56 "ConflictSolveModel" "latest" "I") (List.mem_cons_of_mem _ tz_258)
  have hf_63 := hts (.fieldLink RX1 63 "ConflictSolveModel" "code" "I") (List.mem_cons_of_mem _ tz_238)
  have hl := lv_entry ([.ref (hs 0), .int p0, .int p1]) (n := 3) (Nat.le_of_ble_eq_true rfl)
  rw [lg_entry_eq]
  generalize (lg_sl ([.ref (hs 0), .int p0, .int p1]) ++ List.replicate (3 - (lg_sl ([.ref (hs 0), .int p0, .int p1])).length) Slot.unset).toArray = ls at hl ⊢
  have hl : lv_has ls 3 [(0, .ref (hs 0)), (1, .int p0), (2, .int p1)] := hl
  rw [pf_X1_or] at h
  refine lv_aload_n hx hb dX1_or_0 rfl (lv_at hl 0 rfl) ?_
  refine lv_iconst (v := (0 : Int32)) hx hb dX1_or_1 (by decide) ?_
  refine pt_M_code hx hb hts hin0 hown hK hP hD hS hf_63 dX1_or_2 (fun H locs hP hD hS => ?_)
  refine lv_aload_n hx hb dX1_or_5 rfl (lv_at hl 0 rfl) ?_
  refine gt_M_latest (V := (m_latest u)) hx hb hts hin0 hown hK hP hf_56 (rq_m_latest_code u (0 : Int32)) dX1_or_6 ?_
  refine lv_iconst (v := (-1 : Int32)) hx hb dX1_or_9 (by decide) ?_
  refine lv_icmp_eq (tgt := 46) hx hb dX1_or_10 (by decide) (fun c_1 => ?_) (fun c_1 => ?_)
  · rw [if_pos c_1] at h
    refine lv_iconst (v := (0 : Int32)) hx hb dX1_or_46 (by decide) ?_
    have e9 := Option.some.inj h
    exact W.zret (v := (0 : Int32)) hx hb hr rfl (fun t ht hW => ⟨⟨(0 : Int32), (ms_code u (0 : Int32)), rfl, ⟨congrArg Prod.fst e9, congrArg Prod.snd e9⟩, by rw [ht]; exact hP, va_K.moved hW.alike hK, hD⟩, hS.F ht⟩) hS.2.2 dX1_or_47
  · rw [if_neg c_1] at h
    refine lv_aload_n hx hb dX1_or_13 rfl (lv_at hl 0 rfl) ?_
    refine gt_M_kind hx hb hts hin0 hown hK hP hf_37 dX1_or_14 ?_
    refine lv_aload_n hx hb dX1_or_17 rfl (lv_at hl 0 rfl) ?_
    refine gt_M_latest (V := (m_latest u)) hx hb hts hin0 hown hK hP hf_56 (rq_m_latest_code u (0 : Int32)) dX1_or_18 ?_
    obtain ⟨g_2, h⟩ := og_some h
    refine ld_M_kind (F := (m_kind u)) hx hb hK hP (rq_m_kind_code u (0 : Int32)) (inb_in g_2) dX1_or_21 ?_
    refine lv_if_ne (tgt := 46) hx hb dX1_or_22 (by decide) (fun c_3 => ?_) (fun c_3 => ?_)
    · rw [if_neg c_3] at h
      refine lv_iconst (v := (0 : Int32)) hx hb dX1_or_46 (by decide) ?_
      have e9 := Option.some.inj h
      exact W.zret (v := (0 : Int32)) hx hb hr rfl (fun t ht hW => ⟨⟨(0 : Int32), (ms_code u (0 : Int32)), rfl, ⟨congrArg Prod.fst e9, congrArg Prod.snd e9⟩, by rw [ht]; exact hP, va_K.moved hW.alike hK, hD⟩, hS.F ht⟩) hS.2.2 dX1_or_47
    · rw [if_pos c_3] at h
      refine lv_aload_n hx hb dX1_or_25 rfl (lv_at hl 0 rfl) ?_
      refine gt_M_many hx hb hts hin0 hown hK hP hf_40 dX1_or_26 ?_
      refine lv_aload_n hx hb dX1_or_29 rfl (lv_at hl 0 rfl) ?_
      refine gt_M_latest (V := (m_latest u)) hx hb hts hin0 hown hK hP hf_56 (rq_m_latest_code u (0 : Int32)) dX1_or_30 ?_
      obtain ⟨g_4, h⟩ := og_some h
      refine ld_M_many (F := (m_many u)) hx hb hK hP (rq_m_many_code u (0 : Int32)) (inb_in g_4) dX1_or_33 ?_
      refine lv_iconst (v := (3 : Int32)) hx hb dX1_or_34 (by decide) ?_
      refine lv_icmp_eq (tgt := 46) hx hb dX1_or_35 (by decide) (fun c_5 => ?_) (fun c_5 => ?_)
      · rw [if_pos c_5] at h
        refine lv_iconst (v := (0 : Int32)) hx hb dX1_or_46 (by decide) ?_
        have e9 := Option.some.inj h
        exact W.zret (v := (0 : Int32)) hx hb hr rfl (fun t ht hW => ⟨⟨(0 : Int32), (ms_code u (0 : Int32)), rfl, ⟨congrArg Prod.fst e9, congrArg Prod.snd e9⟩, by rw [ht]; exact hP, va_K.moved hW.alike hK, hD⟩, hS.F ht⟩) hS.2.2 dX1_or_47
      · rw [if_neg c_5] at h
        refine lv_aload_n hx hb dX1_or_38 rfl (lv_at hl 0 rfl) ?_
        refine lv_iload_n hx hb dX1_or_39 rfl (lv_at hl 1 rfl) ?_
        have hPc := hP
        have hDc := hD
        have hKc := hK
        have hFc := fr_M hD hS hA
        refine va_calli (va_runV (As := [.int p0]) (rest := []) ⟨hx, hb, hml, hown, hts⟩ (c_X1_isPackage l dC dI hs ka H.size (ms_code u (0 : Int32)) p0 _ rfl) (cwV 1 hts gX1_or_X1_isPackage rfl rfl rfl (by decide +kernel) ⟨Nat.le_of_ble_eq_true rfl, Nat.le_of_ble_eq_true rfl⟩) ⟨fun a U g mk q => by obtain ⟨q0, q1, qP, qK, qD⟩ := q; exact ⟨q0, q1, qP, va_K.moved (u := U) (U := U.calling g mk a) (Vm.Alike.refl U.vm) qK, qD⟩, rc_M hKc hPc, fun U hU hW => ⟨rfl, by rw [hU], by rw [hU]; exact hPc, va_K.moved hW.alike hKc, hDc.weaken (fun _ _ _ _ => trivial)⟩⟩ rfl rfl hl.1 rfl (lv_room (Nat.le_of_ble_eq_true rfl)) dX1_or_40 ⟨Nat.zero_le _, Nat.zero_le _⟩) hS (fun q _ h => hFc q h) hFc (fun r_6 u_c6 t H1 locs ht hvm hw hB hz1 hk1 hS => ?_)
        obtain ⟨hw1, hw2⟩ := hw
        subst r_6
        subst u_c6
        obtain ⟨hP1, hK1, hD1⟩ := hB
        rw [ht] at hP1
        obtain ⟨hP, hD⟩ := jw_M hP hD hk1 hFc hP1 hD1
        clear hPc hDc hKc hFc hz1 hk1 hP1 hK1 hD1
        generalize H1 = H at hP hS ⊢
        refine lv_if_ne (tgt := 48) hx hb dX1_or_43 (by decide) (fun c_7 => ?_) (fun c_7 => ?_)
        · rw [if_neg c_7] at h
          refine lv_aload_n hx hb dX1_or_48 rfl (lv_at hl 0 rfl) ?_
          refine gt_M_other hx hb hts hin0 hown hK hP hf_43 dX1_or_49 ?_
          refine lv_iconst (v := (3 : Int32)) hx hb dX1_or_52 (by decide) ?_
          refine lv_aload_n hx hb dX1_or_53 rfl (lv_at hl 0 rfl) ?_
          refine gt_M_latest (V := (m_latest u)) hx hb hts hin0 hown hK hP hf_56 (rq_m_latest_code u (0 : Int32)) dX1_or_54 ?_
          refine lv_imul hx hb dX1_or_57 ?_
          refine lv_aload_n hx hb dX1_or_58 rfl (lv_at hl 0 rfl) ?_
          refine gt_M_many hx hb hts hin0 hown hK hP hf_40 dX1_or_59 ?_
          refine lv_aload_n hx hb dX1_or_62 rfl (lv_at hl 0 rfl) ?_
          refine gt_M_latest (V := (m_latest u)) hx hb hts hin0 hown hK hP hf_56 (rq_m_latest_code u (0 : Int32)) dX1_or_63 ?_
          obtain ⟨g_8, h⟩ := og_some h
          refine ld_M_many (F := (m_many u)) hx hb hK hP (rq_m_many_code u (0 : Int32)) (inb_in g_8) dX1_or_66 ?_
          refine lv_iadd hx hb dX1_or_67 ?_
          refine lv_iload_n hx hb dX1_or_68 rfl (lv_at hl 1 rfl) ?_
          obtain ⟨g_9, h⟩ := og_some h
          refine sr_M_other (F := (m_other u)) hx hb hK hP hD hS (rq_m_other_code u (0 : Int32)) (inb_in g_9) dX1_or_69 (fun H locs hP hD hS => ?_)
          refine lv_aload_n hx hb dX1_or_70 rfl (lv_at hl 0 rfl) ?_
          refine gt_M_set hx hb hts hin0 hown hK hP hf_46 dX1_or_71 ?_
          refine lv_iconst (v := (3 : Int32)) hx hb dX1_or_74 (by decide) ?_
          refine lv_aload_n hx hb dX1_or_75 rfl (lv_at hl 0 rfl) ?_
          refine gt_M_latest (V := (m_latest u)) hx hb hts hin0 hown hK hP hf_56 ((rq_m_latest_other (ms_code u (0 : Int32)) (upd (m_other u) (((3 : Int32) * (m_latest u)) + ((m_many u) (m_latest u).toNatClampNeg)).toNatClampNeg p0)).trans (rq_m_latest_code u (0 : Int32))) dX1_or_76 ?_
          refine lv_imul hx hb dX1_or_79 ?_
          refine lv_aload_n hx hb dX1_or_80 rfl (lv_at hl 0 rfl) ?_
          refine gt_M_many hx hb hts hin0 hown hK hP hf_40 dX1_or_81 ?_
          refine lv_aload_n hx hb dX1_or_84 rfl (lv_at hl 0 rfl) ?_
          refine gt_M_latest (V := (m_latest u)) hx hb hts hin0 hown hK hP hf_56 ((rq_m_latest_other (ms_code u (0 : Int32)) (upd (m_other u) (((3 : Int32) * (m_latest u)) + ((m_many u) (m_latest u).toNatClampNeg)).toNatClampNeg p0)).trans (rq_m_latest_code u (0 : Int32))) dX1_or_85 ?_
          obtain ⟨g_10, h⟩ := og_some h
          refine ld_M_many (F := (m_many u)) hx hb hK hP ((rq_m_many_other (ms_code u (0 : Int32)) (upd (m_other u) (((3 : Int32) * (m_latest u)) + ((m_many u) (m_latest u).toNatClampNeg)).toNatClampNeg p0)).trans (rq_m_many_code u (0 : Int32))) (inb_in g_10) dX1_or_88 ?_
          refine lv_iadd hx hb dX1_or_89 ?_
          refine lv_iload_n hx hb dX1_or_90 rfl (lv_at hl 2 rfl) ?_
          obtain ⟨g_11, h⟩ := og_some h
          refine sr_M_set (F := (m_set u)) hx hb hK hP hD hS ((rq_m_set_other (ms_code u (0 : Int32)) (upd (m_other u) (((3 : Int32) * (m_latest u)) + ((m_many u) (m_latest u).toNatClampNeg)).toNatClampNeg p0)).trans (rq_m_set_code u (0 : Int32))) (inb_in g_11) dX1_or_91 (fun H locs hP hD hS => ?_)
          refine lv_aload_n hx hb dX1_or_92 rfl (lv_at hl 0 rfl) ?_
          refine gt_M_many hx hb hts hin0 hown hK hP hf_40 dX1_or_93 ?_
          refine lv_aload_n hx hb dX1_or_96 rfl (lv_at hl 0 rfl) ?_
          refine gt_M_latest (V := (m_latest u)) hx hb hts hin0 hown hK hP hf_56 ((rq_m_latest_set (ms_other (ms_code u (0 : Int32)) (upd (m_other u) (((3 : Int32) * (m_latest u)) + ((m_many u) (m_latest u).toNatClampNeg)).toNatClampNeg p0)) (upd (m_set u) (((3 : Int32) * (m_latest u)) + ((m_many u) (m_latest u).toNatClampNeg)).toNatClampNeg p1)).trans ((rq_m_latest_other (ms_code u (0 : Int32)) (upd (m_other u) (((3 : Int32) * (m_latest u)) + ((m_many u) (m_latest u).toNatClampNeg)).toNatClampNeg p0)).trans (rq_m_latest_code u (0 : Int32)))) dX1_or_97 ?_
          refine lv_dup2_11 hx hb dX1_or_100 rfl rfl ?_
          obtain ⟨g_12, h⟩ := og_some h
          refine ld_M_many (F := (m_many u)) hx hb hK hP ((rq_m_many_set (ms_other (ms_code u (0 : Int32)) (upd (m_other u) (((3 : Int32) * (m_latest u)) + ((m_many u) (m_latest u).toNatClampNeg)).toNatClampNeg p0)) (upd (m_set u) (((3 : Int32) * (m_latest u)) + ((m_many u) (m_latest u).toNatClampNeg)).toNatClampNeg p1)).trans ((rq_m_many_other (ms_code u (0 : Int32)) (upd (m_other u) (((3 : Int32) * (m_latest u)) + ((m_many u) (m_latest u).toNatClampNeg)).toNatClampNeg p0)).trans (rq_m_many_code u (0 : Int32)))) (inb_in g_12) dX1_or_101 ?_
          refine lv_iconst (v := (1 : Int32)) hx hb dX1_or_102 (by decide) ?_
          refine lv_iadd hx hb dX1_or_103 ?_
          obtain ⟨g_13, h⟩ := og_some h
          refine sr_M_many (F := (m_many u)) hx hb hK hP hD hS ((rq_m_many_set (ms_other (ms_code u (0 : Int32)) (upd (m_other u) (((3 : Int32) * (m_latest u)) + ((m_many u) (m_latest u).toNatClampNeg)).toNatClampNeg p0)) (upd (m_set u) (((3 : Int32) * (m_latest u)) + ((m_many u) (m_latest u).toNatClampNeg)).toNatClampNeg p1)).trans ((rq_m_many_other (ms_code u (0 : Int32)) (upd (m_other u) (((3 : Int32) * (m_latest u)) + ((m_many u) (m_latest u).toNatClampNeg)).toNatClampNeg p0)).trans (rq_m_many_code u (0 : Int32)))) (inb_in g_13) dX1_or_104 (fun H locs hP hD hS => ?_)
          refine lv_iconst (v := (1 : Int32)) hx hb dX1_or_105 (by decide) ?_
          have e9 := Option.some.inj h
          exact W.zret (v := (1 : Int32)) hx hb hr rfl (fun t ht hW => ⟨⟨(1 : Int32), (ms_many (ms_set (ms_other (ms_code u (0 : Int32)) (upd (m_other u) (((3 : Int32) * (m_latest u)) + ((m_many u) (m_latest u).toNatClampNeg)).toNatClampNeg p0)) (upd (m_set u) (((3 : Int32) * (m_latest u)) + ((m_many u) (m_latest u).toNatClampNeg)).toNatClampNeg p1)) (upd (m_many u) (m_latest u).toNatClampNeg (((m_many u) (m_latest u).toNatClampNeg) + (1 : Int32)))), rfl, ⟨congrArg Prod.fst e9, congrArg Prod.snd e9⟩, by rw [ht]; exact hP, va_K.moved hW.alike hK, hD⟩, hS.F ht⟩) hS.2.2 dX1_or_106
        · rw [if_pos c_7] at h
          refine lv_iconst (v := (0 : Int32)) hx hb dX1_or_46 (by decide) ?_
          have e9 := Option.some.inj h
          exact W.zret (v := (0 : Int32)) hx hb hr rfl (fun t ht hW => ⟨⟨(0 : Int32), (ms_code u (0 : Int32)), rfl, ⟨congrArg Prod.fst e9, congrArg Prod.snd e9⟩, by rw [ht]; exact hP, va_K.moved hW.alike hK, hD⟩, hS.F ht⟩) hS.2.2 dX1_or_47
