set_option maxHeartbeats 4000000 in
set_option maxRecDepth 100000 in
theorem c_X0_versionsOf (l : Launch) (dC : Nat → ClassId) (dI : Nat → Nat → Nat) (sz : Nat) (p0 : Int32) (p1 : Int32) (r : Int64) (h : pf_X0_versionsOf p0 p1 = r) : Met l yX0_versionsOf wzX0_versionsOf ({ frames := 0, cells := 0, slots := 0, locals := 0 }) (va_Pc [.int p0, .int p1] (fun U => U.heap.size = sz ∧ va_P (dC, dI) vwCl ([] : va_W) U.heap ∧ va_K (dC, dI) vwCl ([] : List (ClassId × FieldType)) U ∧ va_D (fun _ => True) ([] : va_W))) (va_Ql (fun (r1 : Int64) (u1 : Unit) => r1 = r) (aS dC dI (va_A ([] : va_W) sz)) (va_A ([] : va_W) sz)) 0 0 (va_A ([] : va_W) sz) := by
  refine Met.ofW (cc := cX0_versionsOf) (maxL := 2) (ret := (some .long)) (by decide) rfl ?_
  intro p e s m args below meth c s₁ B hml hv
  obtain ⟨rfl, hsz, hP, hK, hD0⟩ := hv
  have hx := B.exec
  have hb := B.bytes
  have hr := B.returns
  have hts := atoms_spec (ws := wzX0_versionsOf) B.pre
  have hown : s.vm.findClass RX0 = some m.cls := findClass_of_methodNamed B.named
  have hlocks := B.notSynchronized
  subst hsz
  have hD := hD0.self (sz := s.heap.size)
  generalize hAe : va_A ([] : va_W) s.heap.size = A at hD ⊢
  have hA : ∀ q : Nat, s.heap.size ≤ q → A q := fun q h => by rw [← hAe]; exact Or.inr h
  have hS : va_S A s.heap s.heap [] := va_S.rf
  have hP : va_P (dC, dI) vwCl ([] : va_W) s.heap := hP
  clear hD0 hAe
  have hl := lv_entry ([.int p0, .int p1]) (n := 2) (Nat.le_of_ble_eq_true rfl)
  rw [lg_entry_eq]
  generalize (lg_sl ([.int p0, .int p1]) ++ List.replicate (2 - (lg_sl ([.int p0, .int p1])).length) Slot.unset).toArray = ls at hl ⊢
  have hl : lv_has ls 2 [(0, .int p0), (1, .int p1)] := hl
  rw [pf_X0_versionsOf] at h
  refine lv_iload_n hx hb dX0_versionsOf_0 rfl (lv_at hl 1 rfl) ?_
  refine lv_i2l (v := p1.toInt64) hx hb dX0_versionsOf_1 rfl ?_
  refine lv_ldc2 (v := (63 : Int64)) hx hb hown (hts (.constantLong RX0 125 (63)) (List.mem_cons_of_mem _ tz_94)) dX0_versionsOf_2 ?_
  refine lv_land hx hb dX0_versionsOf_5 ?_
  refine lv_iload_n hx hb dX0_versionsOf_6 rfl (lv_at hl 0 rfl) ?_
  refine lv_bipush (v := (8 : Int32)) hx hb dX0_versionsOf_7 (by decide) ?_
  refine lv_imul hx hb dX0_versionsOf_9 ?_
  refine lv_lshl (v := ((p1.toInt64 &&& (63 : Int64)) <<< ((p0 * (8 : Int32)).toInt64 &&& 63))) hx hb dX0_versionsOf_10 rfl ?_
  have e9 := h
  exact W.lret (v := ((p1.toInt64 &&& (63 : Int64)) <<< ((p0 * (8 : Int32)).toInt64 &&& 63))) hx hb hr (fun t ht hW => ⟨⟨((p1.toInt64 &&& (63 : Int64)) <<< ((p0 * (8 : Int32)).toInt64 &&& 63)), (), rfl, e9, by rw [ht]; exact hP, va_K.moved hW.alike hK, hD⟩, hS.F ht⟩) hS.2.2 dX0_versionsOf_11
set_option maxHeartbeats 4000000 in
set_option maxRecDepth 100000 in
theorem c_X0_pack (l : Launch) (dC : Nat → ClassId) (dI : Nat → Nat → Nat) (hs : Nat → Nat) (ka : Nat → ClassId) (sz : Nat) (fu : Nat) (u : XS) (p0 : Int32) (r : Int32) (u' : XS) (h : pf_X0_pack fu p0 u = some (r, u')) : Met l yX0_pack wzX0_pack ({ frames := 1, cells := 0, slots := 0, locals := 21 }) (va_Pc [.ref (hs 0), .int p0] (fun U => U.heap.size = sz ∧ va_P (dC, dI) vwCl (cX hs ka u) U.heap ∧ va_K (dC, dI) vwCl (tX ka) U ∧ va_D (fun _ => True) (cX hs ka u))) (va_Qi (fun (r1 : Int32) (u1 : XS) => r1 = r ∧ u1 = u') (aX dC dI (va_A (cX hs ka u) sz) hs ka) (va_A (cX hs ka u) sz)) 0 0 (va_A (cX hs ka u) sz) := by
  refine Met.ofW (cc := cX0_pack) (maxL := 3) (ret := (some .int)) (by decide) rfl ?_
  intro p e s m args below meth c s₁ B hml hv
  obtain ⟨rfl, hsz, hP, hK, hD0⟩ := hv
  have hx := B.exec
  have hb := B.bytes
  have hr := B.returns
  have hts := atoms_spec (ws := wzX0_pack) B.pre
  have hown : s.vm.findClass RX0 = some m.cls := findClass_of_methodNamed B.named
  have hlocks := B.notSynchronized
  subst hsz
  have hD := hD0.self (sz := s.heap.size)
  generalize hAe : va_A (cX hs ka u) s.heap.size = A at hD ⊢
  have hA : ∀ q : Nat, s.heap.size ≤ q → A q := fun q h => by rw [← hAe]; exact Or.inr h
  have hS : va_S A s.heap s.heap [] := va_S.rf
  have hP : va_P (dC, dI) vwCl (cX hs ka u) s.heap := hP
  clear hD0 hAe
  have hin0 : ∀ w ∈ u_ws RX0 TX0 14, w ∈ wzX0_pack := fun w h => List.mem_cons_of_mem _ (inTX0 w h)
  have hf_22 := hts (.fieldLink RX0 22 "ConflictSolve" "places" "J") (List.mem_cons_of_mem _ tz_49)
  have hf_26 := hts (.fieldLink RX0 26 "ConflictSolve" "packs" "I") (List.mem_cons_of_mem _ tz_45)
  have hl := lv_entry ([.ref (hs 0), .int p0]) (n := 3) (Nat.le_of_ble_eq_true rfl)
  rw [lg_entry_eq]
  generalize (lg_sl ([.ref (hs 0), .int p0]) ++ List.replicate (3 - (lg_sl ([.ref (hs 0), .int p0])).length) Slot.unset).toArray = ls at hl ⊢
  have hl : lv_has ls 3 [(0, .ref (hs 0)), (1, .int p0)] := hl
  rw [pf_X0_pack] at h
  refine lv_aload_n hx hb dX0_pack_0 rfl (lv_at hl 0 rfl) ?_
  refine gt_X_packs (V := (x_packs u)) hx hb hts hin0 hown hK hP hf_26 rfl dX0_pack_1 ?_
  refine lv_bipush (v := (8 : Int32)) hx hb dX0_pack_4 (by decide) ?_
  refine lv_icmp_ge (tgt := 19) hx hb dX0_pack_6 (by decide) (fun c_1 => ?_) (fun c_1 => ?_)
  · rw [if_pos c_1] at h
    refine lv_iconst (v := (-1 : Int32)) hx hb dX0_pack_19 (by decide) ?_
    have e9 := Option.some.inj h
    exact W.iret (v := (-1 : Int32)) hx hb hr (fun t ht hW => ⟨⟨(-1 : Int32), u, rfl, ⟨congrArg Prod.fst e9, congrArg Prod.snd e9⟩, by rw [ht]; exact hP, va_K.moved hW.alike hK, hD⟩, hS.F ht⟩) hS.2.2 dX0_pack_20
  · rw [if_neg c_1] at h
    refine lv_iload_n hx hb dX0_pack_9 rfl (lv_at hl 1 rfl) ?_
    refine lv_if_lt (tgt := 19) hx hb dX0_pack_10 (by decide) (fun c_2 => ?_) (fun c_2 => ?_)
    · rw [if_pos c_2] at h
      refine lv_iconst (v := (-1 : Int32)) hx hb dX0_pack_19 (by decide) ?_
      have e9 := Option.some.inj h
      exact W.iret (v := (-1 : Int32)) hx hb hr (fun t ht hW => ⟨⟨(-1 : Int32), u, rfl, ⟨congrArg Prod.fst e9, congrArg Prod.snd e9⟩, by rw [ht]; exact hP, va_K.moved hW.alike hK, hD⟩, hS.F ht⟩) hS.2.2 dX0_pack_20
    · rw [if_neg c_2] at h
      refine lv_iload_n hx hb dX0_pack_13 rfl (lv_at hl 1 rfl) ?_
      refine lv_bipush (v := (6 : Int32)) hx hb dX0_pack_14 (by decide) ?_
      refine lv_icmp_le (tgt := 21) hx hb dX0_pack_16 (by decide) (fun c_3 => ?_) (fun c_3 => ?_)
      · rw [if_pos c_3] at h
        refine lv_aload_n hx hb dX0_pack_21 rfl (lv_at hl 0 rfl) ?_
        refine gt_X_packs (V := (x_packs u)) hx hb hts hin0 hown hK hP hf_26 rfl dX0_pack_22 ?_
        refine lv_istore_n (lv' := [(2, .int (x_packs u)), (0, .ref (hs 0)), (1, .int p0)]) hx hb dX0_pack_25 rfl hl (by decide) rfl (fun ls hl => ?_)
        refine lv_aload_n hx hb dX0_pack_26 rfl (lv_at hl 1 rfl) ?_
        refine lv_dup hx hb dX0_pack_27 rfl ?_
        refine gt_X_places (V := (x_places u)) hx hb hts hin0 hown hK hP hf_22 rfl dX0_pack_28 ?_
        refine lv_iload_n hx hb dX0_pack_31 rfl (lv_at hl 0 rfl) ?_
        refine lv_iconst (v := (1 : Int32)) hx hb dX0_pack_32 (by decide) ?_
        refine lv_iload_n hx hb dX0_pack_33 rfl (lv_at hl 2 rfl) ?_
        refine lv_ishl hx hb dX0_pack_34 ?_
        refine lv_iconst (v := (1 : Int32)) hx hb dX0_pack_35 (by decide) ?_
        refine lv_isub hx hb dX0_pack_36 ?_
        have hPc : va_P (dC, dI) vwCl ([] : va_W) s.heap := hP.sub [] rfl
        have hDc : va_D A ([] : va_W) := hD.sub [] (by decide) rfl
        have hKc := hK.sub (tys' := []) [] rfl
        have hFc := fn_X hD hS hA
        refine va_calll (va_runS (As := [.int (x_packs u), .int (((1 : Int32) <<< (p0 &&& 31)) - (1 : Int32))]) (rest := [.long (x_places u), .ref (hs 0)]) ⟨hx, hb, hml, hown, hts⟩ (c_X0_versionsOf l dC dI s.heap.size (x_packs u) (((1 : Int32) <<< (p0 &&& 31)) - (1 : Int32)) _ rfl) (va_cwS 2 hts gX0_pack_X0_versionsOf rfl rfl rfl (by decide +kernel) ⟨Nat.le_of_ble_eq_true rfl, Nat.le_of_ble_eq_true rfl⟩) ⟨fun a U g mk q => by obtain ⟨q0, q1, qP, qK, qD⟩ := q; exact ⟨q0, q1, qP, va_K.moved (u := U) (U := U.calling g mk a) (Vm.Alike.refl U.vm) qK, qD⟩, fun U hU hW => ⟨rfl, by rw [hU], by rw [hU]; exact hPc, va_K.moved hW.alike hKc, hDc.weaken (fun _ _ _ _ => trivial)⟩⟩ rfl rfl hl.1 rfl (lv_room (Nat.le_of_ble_eq_true rfl)) dX0_pack_37 ⟨Nat.zero_le _, Nat.zero_le _⟩) hS (fun q _ h => hFc q h) hFc (fun r_4 u_c4 t H1 locs ht hvm hw hB hz1 hk1 hS => ?_)
        subst r_4
        obtain ⟨hP1, hK1, hD1⟩ := hB
        rw [ht] at hP1
        obtain ⟨hP, hD⟩ := js_X hP hD hk1 hFc hP1 hD1
        clear hPc hDc hKc hFc hz1 hk1 hP1 hK1 hD1
        generalize H1 = H at hP hS ⊢
        refine lv_lor hx hb dX0_pack_40 ?_
        refine pt_X_places hx hb hts hin0 hown hK hP hD hS hf_22 dX0_pack_41 (fun H locs hP hD hS => ?_)
        refine lv_aload_n hx hb dX0_pack_44 rfl (lv_at hl 1 rfl) ?_
        refine lv_dup hx hb dX0_pack_45 rfl ?_
        refine gt_X_packs (V := (x_packs u)) hx hb hts hin0 hown hK hP hf_26 (rq_x_packs_places u ((x_places u) ||| (pf_X0_versionsOf (x_packs u) (((1 : Int32) <<< (p0 &&& 31)) - (1 : Int32))))) dX0_pack_46 ?_
        refine lv_iconst (v := (1 : Int32)) hx hb dX0_pack_49 (by decide) ?_
        refine lv_iadd hx hb dX0_pack_50 ?_
        refine pt_X_packs hx hb hts hin0 hown hK hP hD hS hf_26 dX0_pack_51 (fun H locs hP hD hS => ?_)
        refine lv_iload_n hx hb dX0_pack_54 rfl (lv_at hl 0 rfl) ?_
        have e9 := Option.some.inj h
        exact W.iret (v := (x_packs u)) hx hb hr (fun t ht hW => ⟨⟨(x_packs u), (xs_packs (xs_places u ((x_places u) ||| (pf_X0_versionsOf (x_packs u) (((1 : Int32) <<< (p0 &&& 31)) - (1 : Int32))))) ((x_packs u) + (1 : Int32))), rfl, ⟨congrArg Prod.fst e9, congrArg Prod.snd e9⟩, by rw [ht]; exact hP, va_K.moved hW.alike hK, hD⟩, hS.F ht⟩) hS.2.2 dX0_pack_55
      · rw [if_neg c_3] at h
        refine lv_iconst (v := (-1 : Int32)) hx hb dX0_pack_19 (by decide) ?_
        have e9 := Option.some.inj h
        exact W.iret (v := (-1 : Int32)) hx hb hr (fun t ht hW => ⟨⟨(-1 : Int32), u, rfl, ⟨congrArg Prod.fst e9, congrArg Prod.snd e9⟩, by rw [ht]; exact hP, va_K.moved hW.alike hK, hD⟩, hS.F ht⟩) hS.2.2 dX0_pack_20
set_option maxHeartbeats 4000000 in
set_option maxRecDepth 100000 in
theorem c_X0_hasPack (l : Launch) (dC : Nat → ClassId) (dI : Nat → Nat → Nat) (hs : Nat → Nat) (ka : Nat → ClassId) (sz : Nat) (u : XS) (p0 : Int32) (r : Int32) (h : pf_X0_hasPack p0 u = r) : Met l yX0_hasPack wzX0_hasPack ({ frames := 0, cells := 0, slots := 0, locals := 0 }) (va_Pc [.ref (hs 0), .int p0] (fun U => U.heap.size = sz ∧ va_P (dC, dI) vwCl (cX hs ka u) U.heap ∧ va_K (dC, dI) vwCl (tX ka) U ∧ va_D (fun _ => True) (cX hs ka u))) (va_Qi (fun (r1 : Int32) (u1 : XS) => r1 = r ∧ u1 = u) (aX dC dI (va_A (cX hs ka u) sz) hs ka) (va_A (cX hs ka u) sz)) 0 0 (va_A (cX hs ka u) sz) := by
  refine Met.ofW (cc := cX0_hasPack) (maxL := 2) (ret := (some .boolean)) (by decide) rfl ?_
  intro p e s m args below meth c s₁ B hml hv
  obtain ⟨rfl, hsz, hP, hK, hD0⟩ := hv
  have hx := B.exec
  have hb := B.bytes
  have hr := B.returns
  have hts := atoms_spec (ws := wzX0_hasPack) B.pre
  have hown : s.vm.findClass RX0 = some m.cls := findClass_of_methodNamed B.named
  have hlocks := B.notSynchronized
  subst hsz
  have hD := hD0.self (sz := s.heap.size)
  generalize hAe : va_A (cX hs ka u) s.heap.size = A at hD ⊢
  have hA : ∀ q : Nat, s.heap.size ≤ q → A q := fun q h => by rw [← hAe]; exact Or.inr h
  have hS : va_S A s.heap s.heap [] := va_S.rf
  have hP : va_P (dC, dI) vwCl (cX hs ka u) s.heap := hP
  clear hD0 hAe
  have hin0 : ∀ w ∈ u_ws RX0 TX0 14, w ∈ wzX0_hasPack := fun w h => List.mem_cons_of_mem _ (inTX0 w h)
  have hf_26 := hts (.fieldLink RX0 26 "ConflictSolve" "packs" "I") (List.mem_cons_of_mem _ tz_45)
  have hl := lv_entry ([.ref (hs 0), .int p0]) (n := 2) (Nat.le_of_ble_eq_true rfl)
  rw [lg_entry_eq]
  generalize (lg_sl ([.ref (hs 0), .int p0]) ++ List.replicate (2 - (lg_sl ([.ref (hs 0), .int p0])).length) Slot.unset).toArray = ls at hl ⊢
  have hl : lv_has ls 2 [(0, .ref (hs 0)), (1, .int p0)] := hl
  rw [pf_X0_hasPack] at h
  refine lv_iload_n hx hb dX0_hasPack_0 rfl (lv_at hl 1 rfl) ?_
  refine lv_if_lt (tgt := 16) hx hb dX0_hasPack_1 (by decide) (fun c_1 => ?_) (fun c_1 => ?_)
  · rw [if_pos c_1] at h
    refine lv_iconst (v := (0 : Int32)) hx hb dX0_hasPack_16 (by decide) ?_
    have e9 := h
    exact W.zret (v := (0 : Int32)) hx hb hr rfl (fun t ht hW => ⟨⟨(0 : Int32), u, rfl, ⟨e9, rfl⟩, by rw [ht]; exact hP, va_K.moved hW.alike hK, hD⟩, hS.F ht⟩) hS.2.2 dX0_hasPack_17
  · rw [if_neg c_1] at h
    refine lv_iload_n hx hb dX0_hasPack_4 rfl (lv_at hl 1 rfl) ?_
    refine lv_aload_n hx hb dX0_hasPack_5 rfl (lv_at hl 0 rfl) ?_
    refine gt_X_packs (V := (x_packs u)) hx hb hts hin0 hown hK hP hf_26 rfl dX0_hasPack_6 ?_
    refine lv_icmp_ge (tgt := 16) hx hb dX0_hasPack_9 (by decide) (fun c_2 => ?_) (fun c_2 => ?_)
    · rw [if_pos c_2] at h
      refine lv_iconst (v := (0 : Int32)) hx hb dX0_hasPack_16 (by decide) ?_
      have e9 := h
      exact W.zret (v := (0 : Int32)) hx hb hr rfl (fun t ht hW => ⟨⟨(0 : Int32), u, rfl, ⟨e9, rfl⟩, by rw [ht]; exact hP, va_K.moved hW.alike hK, hD⟩, hS.F ht⟩) hS.2.2 dX0_hasPack_17
    · rw [if_neg c_2] at h
      refine lv_iconst (v := (1 : Int32)) hx hb dX0_hasPack_12 (by decide) ?_
      refine lv_goto (tgt := 17) hx hb dX0_hasPack_13 (by decide) ?_
      have e9 := h
      exact W.zret (v := (1 : Int32)) hx hb hr rfl (fun t ht hW => ⟨⟨(1 : Int32), u, rfl, ⟨e9, rfl⟩, by rw [ht]; exact hP, va_K.moved hW.alike hK, hD⟩, hS.F ht⟩) hS.2.2 dX0_hasPack_17
set_option maxHeartbeats 4000000 in
set_option maxRecDepth 100000 in
theorem c_X0_noneOf (l : Launch) (dC : Nat → ClassId) (dI : Nat → Nat → Nat) (sz : Nat) (p0 : Int32) (r : Int64) (h : pf_X0_noneOf p0 = r) : Met l yX0_noneOf wzX0_noneOf ({ frames := 0, cells := 0, slots := 0, locals := 0 }) (va_Pc [.int p0] (fun U => U.heap.size = sz ∧ va_P (dC, dI) vwCl ([] : va_W) U.heap ∧ va_K (dC, dI) vwCl ([] : List (ClassId × FieldType)) U ∧ va_D (fun _ => True) ([] : va_W))) (va_Ql (fun (r1 : Int64) (u1 : Unit) => r1 = r) (aS dC dI (va_A ([] : va_W) sz)) (va_A ([] : va_W) sz)) 0 0 (va_A ([] : va_W) sz) := by
  refine Met.ofW (cc := cX0_noneOf) (maxL := 1) (ret := (some .long)) (by decide) rfl ?_
  intro p e s m args below meth c s₁ B hml hv
  obtain ⟨rfl, hsz, hP, hK, hD0⟩ := hv
  have hx := B.exec
  have hb := B.bytes
  have hr := B.returns
  have hts := atoms_spec (ws := wzX0_noneOf) B.pre
  have hown : s.vm.findClass RX0 = some m.cls := findClass_of_methodNamed B.named
  have hlocks := B.notSynchronized
  subst hsz
  have hD := hD0.self (sz := s.heap.size)
  generalize hAe : va_A ([] : va_W) s.heap.size = A at hD ⊢
  have hA : ∀ q : Nat, s.heap.size ≤ q → A q := fun q h => by rw [← hAe]; exact Or.inr h
  have hS : va_S A s.heap s.heap [] := va_S.rf
  have hP : va_P (dC, dI) vwCl ([] : va_W) s.heap := hP
  clear hD0 hAe
  have hl := lv_entry ([.int p0]) (n := 1) (Nat.le_of_ble_eq_true rfl)
  rw [lg_entry_eq]
  generalize (lg_sl ([.int p0]) ++ List.replicate (1 - (lg_sl ([.int p0])).length) Slot.unset).toArray = ls at hl ⊢
  have hl : lv_has ls 1 [(0, .int p0)] := hl
  rw [pf_X0_noneOf] at h
  refine lv_ldc2 (v := (64 : Int64)) hx hb hown (hts (.constantLong RX0 123 (64)) (List.mem_cons_of_mem _ tz_113)) dX0_noneOf_0 ?_
  refine lv_iload_n hx hb dX0_noneOf_3 rfl (lv_at hl 0 rfl) ?_
  refine lv_bipush (v := (8 : Int32)) hx hb dX0_noneOf_4 (by decide) ?_
  refine lv_imul hx hb dX0_noneOf_6 ?_
  refine lv_lshl (v := ((64 : Int64) <<< ((p0 * (8 : Int32)).toInt64 &&& 63))) hx hb dX0_noneOf_7 rfl ?_
  have e9 := h
  exact W.lret (v := ((64 : Int64) <<< ((p0 * (8 : Int32)).toInt64 &&& 63))) hx hb hr (fun t ht hW => ⟨⟨((64 : Int64) <<< ((p0 * (8 : Int32)).toInt64 &&& 63)), (), rfl, e9, by rw [ht]; exact hP, va_K.moved hW.alike hK, hD⟩, hS.F ht⟩) hS.2.2 dX0_noneOf_8
set_option maxHeartbeats 4000000 in
set_option maxRecDepth 100000 in
theorem c_X0_placeOf (l : Launch) (dC : Nat → ClassId) (dI : Nat → Nat → Nat) (sz : Nat) (p0 : Int32) (p1 : Int32) (r : Int64) (h : pf_X0_placeOf p0 p1 = r) : Met l yX0_placeOf wzX0_placeOf ({ frames := 1, cells := 0, slots := 0, locals := 21 }) (va_Pc [.int p0, .int p1] (fun U => U.heap.size = sz ∧ va_P (dC, dI) vwCl ([] : va_W) U.heap ∧ va_K (dC, dI) vwCl ([] : List (ClassId × FieldType)) U ∧ va_D (fun _ => True) ([] : va_W))) (va_Ql (fun (r1 : Int64) (u1 : Unit) => r1 = r) (aS dC dI (va_A ([] : va_W) sz)) (va_A ([] : va_W) sz)) 0 0 (va_A ([] : va_W) sz) := by
  refine Met.ofW (cc := cX0_placeOf) (maxL := 2) (ret := (some .long)) (by decide) rfl ?_
  intro p e s m args below meth c s₁ B hml hv
  obtain ⟨rfl, hsz, hP, hK, hD0⟩ := hv
  have hx := B.exec
  have hb := B.bytes
  have hr := B.returns
  have hts := atoms_spec (ws := wzX0_placeOf) B.pre
  have hown : s.vm.findClass RX0 = some m.cls := findClass_of_methodNamed B.named
  have hlocks := B.notSynchronized
  subst hsz
  have hD := hD0.self (sz := s.heap.size)
  generalize hAe : va_A ([] : va_W) s.heap.size = A at hD ⊢
  have hA : ∀ q : Nat, s.heap.size ≤ q → A q := fun q h => by rw [← hAe]; exact Or.inr h
  have hS : va_S A s.heap s.heap [] := va_S.rf
  have hP : va_P (dC, dI) vwCl ([] : va_W) s.heap := hP
  clear hD0 hAe
  have hl := lv_entry ([.int p0, .int p1]) (n := 2) (Nat.le_of_ble_eq_true rfl)
  rw [lg_entry_eq]
  generalize (lg_sl ([.int p0, .int p1]) ++ List.replicate (2 - (lg_sl ([.int p0, .int p1])).length) Slot.unset).toArray = ls at hl ⊢
  have hl : lv_has ls 2 [(0, .int p0), (1, .int p1)] := hl
  rw [pf_X0_placeOf] at h
  refine lv_iload_n hx hb dX0_placeOf_0 rfl (lv_at hl 1 rfl) ?_
  refine lv_iconst (v := (-1 : Int32)) hx hb dX0_placeOf_1 (by decide) ?_
  refine lv_icmp_ne (tgt := 12) hx hb dX0_placeOf_2 (by decide) (fun c_1 => ?_) (fun c_1 => ?_)
  · rw [if_neg c_1] at h
    refine lv_iload_n hx hb dX0_placeOf_12 rfl (lv_at hl 0 rfl) ?_
    refine lv_iconst (v := (1 : Int32)) hx hb dX0_placeOf_13 (by decide) ?_
    refine lv_iload_n hx hb dX0_placeOf_14 rfl (lv_at hl 1 rfl) ?_
    refine lv_ishl hx hb dX0_placeOf_15 ?_
    have hPc : va_P (dC, dI) vwCl ([] : va_W) s.heap := hP.sub [] rfl
    have hDc : va_D A ([] : va_W) := hD.sub [] (by decide) rfl
    have hKc := hK.sub (tys' := []) [] rfl
    have hFc := va_free (wc := ([] : va_W)) hD hS hA [] rfl
    refine va_calll (va_runS (As := [.int p0, .int ((1 : Int32) <<< (p1 &&& 31))]) (rest := []) ⟨hx, hb, hml, hown, hts⟩ (c_X0_versionsOf l dC dI s.heap.size p0 ((1 : Int32) <<< (p1 &&& 31)) _ rfl) (va_cwS 2 hts gX0_placeOf_X0_versionsOf rfl rfl rfl (by decide +kernel) ⟨Nat.le_of_ble_eq_true rfl, Nat.le_of_ble_eq_true rfl⟩) ⟨fun a U g mk q => by obtain ⟨q0, q1, qP, qK, qD⟩ := q; exact ⟨q0, q1, qP, va_K.moved (u := U) (U := U.calling g mk a) (Vm.Alike.refl U.vm) qK, qD⟩, fun U hU hW => ⟨rfl, by rw [hU], by rw [hU]; exact hPc, va_K.moved hW.alike hKc, hDc.weaken (fun _ _ _ _ => trivial)⟩⟩ rfl rfl hl.1 rfl (lv_room (Nat.le_of_ble_eq_true rfl)) dX0_placeOf_16 ⟨Nat.zero_le _, Nat.zero_le _⟩) hS (fun q _ h => hFc q h) hFc (fun r_2 u_c2 t H1 locs ht hvm hw hB hz1 hk1 hS => ?_)
    subst r_2
    obtain ⟨hP1, hK1, hD1⟩ := hB
    rw [ht] at hP1
    obtain ⟨hP, hD⟩ := va_join (wc := ([] : va_W)) (wr := ([] : va_W)) (w1 := ([] : va_W)) hP hD [] [] rfl rfl (by decide) (by decide) hk1 hFc hP1 hD1
    clear hPc hDc hKc hFc hz1 hk1 hP1 hK1 hD1
    generalize H1 = H at hP hS ⊢
    have e9 := h
    exact W.lret (v := (pf_X0_versionsOf p0 ((1 : Int32) <<< (p1 &&& 31)))) hx hb hr (fun t ht hW => ⟨⟨(pf_X0_versionsOf p0 ((1 : Int32) <<< (p1 &&& 31))), (), rfl, e9, by rw [ht]; exact hP, va_K.moved hW.alike hK, hD⟩, hS.F ht⟩) hS.2.2 dX0_placeOf_19
  · rw [if_pos c_1] at h
    refine lv_iload_n hx hb dX0_placeOf_5 rfl (lv_at hl 0 rfl) ?_
    have hPc : va_P (dC, dI) vwCl ([] : va_W) s.heap := hP.sub [] rfl
    have hDc : va_D A ([] : va_W) := hD.sub [] (by decide) rfl
    have hKc := hK.sub (tys' := []) [] rfl
    have hFc := va_free (wc := ([] : va_W)) hD hS hA [] rfl
    refine va_calll (va_runS (As := [.int p0]) (rest := []) ⟨hx, hb, hml, hown, hts⟩ (c_X0_noneOf l dC dI s.heap.size p0 _ rfl) (va_cwS 1 hts gX0_placeOf_X0_noneOf rfl rfl rfl (by decide +kernel) ⟨Nat.le_of_ble_eq_true rfl, Nat.le_of_ble_eq_true rfl⟩) ⟨fun a U g mk q => by obtain ⟨q0, q1, qP, qK, qD⟩ := q; exact ⟨q0, q1, qP, va_K.moved (u := U) (U := U.calling g mk a) (Vm.Alike.refl U.vm) qK, qD⟩, fun U hU hW => ⟨rfl, by rw [hU], by rw [hU]; exact hPc, va_K.moved hW.alike hKc, hDc.weaken (fun _ _ _ _ => trivial)⟩⟩ rfl rfl hl.1 rfl (lv_room (Nat.le_of_ble_eq_true rfl)) dX0_placeOf_6 ⟨Nat.zero_le _, Nat.zero_le _⟩) hS (fun q _ h => hFc q h) hFc (fun r_3 u_c3 t H1 locs ht hvm hw hB hz1 hk1 hS => ?_)
    subst r_3
    obtain ⟨hP1, hK1, hD1⟩ := hB
    rw [ht] at hP1
    obtain ⟨hP, hD⟩ := va_join (wc := ([] : va_W)) (wr := ([] : va_W)) (w1 := ([] : va_W)) hP hD [] [] rfl rfl (by decide) (by decide) hk1 hFc hP1 hD1
    clear hPc hDc hKc hFc hz1 hk1 hP1 hK1 hD1
    generalize H1 = H at hP hS ⊢
    refine lv_goto (tgt := 19) hx hb dX0_placeOf_9 (by decide) ?_
    have e9 := h
    exact W.lret (v := (pf_X0_noneOf p0)) hx hb hr (fun t ht hW => ⟨⟨(pf_X0_noneOf p0), (), rfl, e9, by rw [ht]; exact hP, va_K.moved hW.alike hK, hD⟩, hS.F ht⟩) hS.2.2 dX0_placeOf_19
set_option maxHeartbeats 4000000 in
set_option maxRecDepth 100000 in
theorem c_X0_hasVersion (l : Launch) (dC : Nat → ClassId) (dI : Nat → Nat → Nat) (hs : Nat → Nat) (ka : Nat → ClassId) (sz : Nat) (u : XS) (p0 : Int32) (p1 : Int32) (r : Int32) (h : pf_X0_hasVersion p0 p1 u = r) : Met l yX0_hasVersion wzX0_hasVersion ({ frames := 2, cells := 0, slots := 0, locals := 42 }) (va_Pc [.ref (hs 0), .int p0, .int p1] (fun U => U.heap.size = sz ∧ va_P (dC, dI) vwCl (cX hs ka u) U.heap ∧ va_K (dC, dI) vwCl (tX ka) U ∧ va_D (fun _ => True) (cX hs ka u))) (va_Qi (fun (r1 : Int32) (u1 : XS) => r1 = r ∧ u1 = u) (aX dC dI (va_A (cX hs ka u) sz) hs ka) (va_A (cX hs ka u) sz)) 0 0 (va_A (cX hs ka u) sz) := by
  refine Met.ofW (cc := cX0_hasVersion) (maxL := 3) (ret := (some .boolean)) (by decide) rfl ?_
  intro p e s m args below meth c s₁ B hml hv
  obtain ⟨rfl, hsz, hP, hK, hD0⟩ := hv
  have hx := B.exec
  have hb := B.bytes
  have hr := B.returns
  have hts := atoms_spec (ws := wzX0_hasVersion) B.pre
  have hown : s.vm.findClass RX0 = some m.cls := findClass_of_methodNamed B.named
  have hlocks := B.notSynchronized
  subst hsz
  have hD := hD0.self (sz := s.heap.size)
  generalize hAe : va_A (cX hs ka u) s.heap.size = A at hD ⊢
  have hA : ∀ q : Nat, s.heap.size ≤ q → A q := fun q h => by rw [← hAe]; exact Or.inr h
  have hS : va_S A s.heap s.heap [] := va_S.rf
  have hP : va_P (dC, dI) vwCl (cX hs ka u) s.heap := hP
  clear hD0 hAe
  have hin0 : ∀ w ∈ u_ws RX0 TX0 14, w ∈ wzX0_hasVersion := fun w h => List.mem_cons_of_mem _ (inTX0 w h)
  have hf_22 := hts (.fieldLink RX0 22 "ConflictSolve" "places" "J") (List.mem_cons_of_mem _ tz_49)
  have hl := lv_entry ([.ref (hs 0), .int p0, .int p1]) (n := 3) (Nat.le_of_ble_eq_true rfl)
  rw [lg_entry_eq]
  generalize (lg_sl ([.ref (hs 0), .int p0, .int p1]) ++ List.replicate (3 - (lg_sl ([.ref (hs 0), .int p0, .int p1])).length) Slot.unset).toArray = ls at hl ⊢
  have hl : lv_has ls 3 [(0, .ref (hs 0)), (1, .int p0), (2, .int p1)] := hl
  rw [pf_X0_hasVersion] at h
  refine lv_aload_n hx hb dX0_hasVersion_0 rfl (lv_at hl 0 rfl) ?_
  refine lv_iload_n hx hb dX0_hasVersion_1 rfl (lv_at hl 1 rfl) ?_
  have hPc := hP
  have hDc := hD
  have hKc := hK
  have hFc := fr_X hD hS hA
  refine va_calli (va_runV (As := [.int p0]) (rest := []) ⟨hx, hb, hml, hown, hts⟩ (c_X0_hasPack l dC dI hs ka s.heap.size u p0 _ rfl) (cwV 1 hts gX0_hasVersion_X0_hasPack rfl rfl rfl (by decide +kernel) ⟨Nat.le_of_ble_eq_true rfl, Nat.le_of_ble_eq_true rfl⟩) ⟨fun a U g mk q => by obtain ⟨q0, q1, qP, qK, qD⟩ := q; exact ⟨q0, q1, qP, va_K.moved (u := U) (U := U.calling g mk a) (Vm.Alike.refl U.vm) qK, qD⟩, rc_X hKc hPc, fun U hU hW => ⟨rfl, by rw [hU], by rw [hU]; exact hPc, va_K.moved hW.alike hKc, hDc.weaken (fun _ _ _ _ => trivial)⟩⟩ rfl rfl hl.1 rfl (lv_room (Nat.le_of_ble_eq_true rfl)) dX0_hasVersion_2 ⟨Nat.zero_le _, Nat.zero_le _⟩) hS (fun q _ h => hFc q h) hFc (fun r_1 u_c1 t H1 locs ht hvm hw hB hz1 hk1 hS => ?_)
  obtain ⟨hw1, hw2⟩ := hw
  subst r_1
  subst u_c1
  obtain ⟨hP1, hK1, hD1⟩ := hB
  rw [ht] at hP1
  obtain ⟨hP, hD⟩ := jw_X hP hD hk1 hFc hP1 hD1
  clear hPc hDc hKc hFc hz1 hk1 hP1 hK1 hD1
  generalize H1 = H at hP hS ⊢
  refine lv_if_eq (tgt := 37) hx hb dX0_hasVersion_5 (by decide) (fun c_2 => ?_) (fun c_2 => ?_)
  · rw [if_pos c_2] at h
    refine lv_iconst (v := (0 : Int32)) hx hb dX0_hasVersion_37 (by decide) ?_
    have e9 := h
    exact W.zret (v := (0 : Int32)) hx hb hr rfl (fun t ht hW => ⟨⟨(0 : Int32), u, rfl, ⟨e9, rfl⟩, by rw [ht]; exact hP, va_K.moved hW.alike hK, hD⟩, hS.F ht⟩) hS.2.2 dX0_hasVersion_38
  · rw [if_neg c_2] at h
    refine lv_iload_n hx hb dX0_hasVersion_8 rfl (lv_at hl 2 rfl) ?_
    refine lv_if_lt (tgt := 37) hx hb dX0_hasVersion_9 (by decide) (fun c_3 => ?_) (fun c_3 => ?_)
    · rw [if_pos c_3] at h
      refine lv_iconst (v := (0 : Int32)) hx hb dX0_hasVersion_37 (by decide) ?_
      have e9 := h
      exact W.zret (v := (0 : Int32)) hx hb hr rfl (fun t ht hW => ⟨⟨(0 : Int32), u, rfl, ⟨e9, rfl⟩, by rw [ht]; exact hP, va_K.moved hW.alike hK, hD⟩, hS.F ht⟩) hS.2.2 dX0_hasVersion_38
    · rw [if_neg c_3] at h
      refine lv_iload_n hx hb dX0_hasVersion_12 rfl (lv_at hl 2 rfl) ?_
      refine lv_bipush (v := (6 : Int32)) hx hb dX0_hasVersion_13 (by decide) ?_
      refine lv_icmp_ge (tgt := 37) hx hb dX0_hasVersion_15 (by decide) (fun c_4 => ?_) (fun c_4 => ?_)
      · rw [if_pos c_4] at h
        refine lv_iconst (v := (0 : Int32)) hx hb dX0_hasVersion_37 (by decide) ?_
        have e9 := h
        exact W.zret (v := (0 : Int32)) hx hb hr rfl (fun t ht hW => ⟨⟨(0 : Int32), u, rfl, ⟨e9, rfl⟩, by rw [ht]; exact hP, va_K.moved hW.alike hK, hD⟩, hS.F ht⟩) hS.2.2 dX0_hasVersion_38
      · rw [if_neg c_4] at h
        refine lv_aload_n hx hb dX0_hasVersion_18 rfl (lv_at hl 0 rfl) ?_
        refine gt_X_places (V := (x_places u)) hx hb hts hin0 hown hK hP hf_22 rfl dX0_hasVersion_19 ?_
        refine lv_iload_n hx hb dX0_hasVersion_22 rfl (lv_at hl 1 rfl) ?_
        refine lv_iload_n hx hb dX0_hasVersion_23 rfl (lv_at hl 2 rfl) ?_
        have hPc : va_P (dC, dI) vwCl ([] : va_W) H := hP.sub [] rfl
        have hDc : va_D A ([] : va_W) := hD.sub [] (by decide) rfl
        have hKc := hK.sub (tys' := []) [] rfl
        have hFc := fn_X hD hS hA
        refine va_calll (va_runS (As := [.int p0, .int p1]) (rest := [.long (x_places u)]) ⟨hx, hb, hml, hown, hts⟩ (c_X0_placeOf l dC dI H.size p0 p1 _ rfl) (va_cwS 2 hts gX0_hasVersion_X0_placeOf rfl rfl rfl (by decide +kernel) ⟨Nat.le_of_ble_eq_true rfl, Nat.le_of_ble_eq_true rfl⟩) ⟨fun a U g mk q => by obtain ⟨q0, q1, qP, qK, qD⟩ := q; exact ⟨q0, q1, qP, va_K.moved (u := U) (U := U.calling g mk a) (Vm.Alike.refl U.vm) qK, qD⟩, fun U hU hW => ⟨rfl, by rw [hU], by rw [hU]; exact hPc, va_K.moved hW.alike hKc, hDc.weaken (fun _ _ _ _ => trivial)⟩⟩ rfl rfl hl.1 rfl (lv_room (Nat.le_of_ble_eq_true rfl)) dX0_hasVersion_24 ⟨Nat.zero_le _, Nat.zero_le _⟩) hS (fun q _ h => hFc q h) hFc (fun r_5 u_c5 t H1 locs ht hvm hw hB hz1 hk1 hS => ?_)
        subst r_5
        obtain ⟨hP1, hK1, hD1⟩ := hB
        rw [ht] at hP1
        obtain ⟨hP, hD⟩ := js_X hP hD hk1 hFc hP1 hD1
        clear hPc hDc hKc hFc hz1 hk1 hP1 hK1 hD1
        generalize H1 = H at hP hS ⊢
        refine lv_land hx hb dX0_hasVersion_27 ?_
        refine lv_lconst (v := (0 : Int64)) hx hb dX0_hasVersion_28 (by decide) ?_
        refine W.lcmp hx hb dX0_hasVersion_29 ?_
        refine lv_if_eq (tgt := 37) hx hb dX0_hasVersion_30 (by decide) (fun c_6 => ?_) (fun c_6 => ?_)
        · have c_6 := (lg_cmp_eq _ _).mp c_6
          rw [if_pos c_6] at h
          refine lv_iconst (v := (0 : Int32)) hx hb dX0_hasVersion_37 (by decide) ?_
          have e9 := h
          exact W.zret (v := (0 : Int32)) hx hb hr rfl (fun t ht hW => ⟨⟨(0 : Int32), u, rfl, ⟨e9, rfl⟩, by rw [ht]; exact hP, va_K.moved hW.alike hK, hD⟩, hS.F ht⟩) hS.2.2 dX0_hasVersion_38
        · have c_6 := (fun q => c_6 ((lg_cmp_eq _ _).mpr q))
          rw [if_neg c_6] at h
          refine lv_iconst (v := (1 : Int32)) hx hb dX0_hasVersion_33 (by decide) ?_
          refine lv_goto (tgt := 38) hx hb dX0_hasVersion_34 (by decide) ?_
          have e9 := h
          exact W.zret (v := (1 : Int32)) hx hb hr rfl (fun t ht hW => ⟨⟨(1 : Int32), u, rfl, ⟨e9, rfl⟩, by rw [ht]; exact hP, va_K.moved hW.alike hK, hD⟩, hS.F ht⟩) hS.2.2 dX0_hasVersion_38
set_option maxHeartbeats 4000000 in
set_option maxRecDepth 100000 in
theorem c_X0_isKind (l : Launch) (dC : Nat → ClassId) (dI : Nat → Nat → Nat) (sz : Nat) (p0 : Int32) (r : Int32) (h : pf_X0_isKind p0 = r) : Met l yX0_isKind wzX0_isKind ({ frames := 0, cells := 0, slots := 0, locals := 0 }) (va_Pc [.int p0] (fun U => U.heap.size = sz ∧ va_P (dC, dI) vwCl ([] : va_W) U.heap ∧ va_K (dC, dI) vwCl ([] : List (ClassId × FieldType)) U ∧ va_D (fun _ => True) ([] : va_W))) (va_Qi (fun (r1 : Int32) (u1 : Unit) => r1 = r) (aS dC dI (va_A ([] : va_W) sz)) (va_A ([] : va_W) sz)) 0 0 (va_A ([] : va_W) sz) := by
  refine Met.ofW (cc := cX0_isKind) (maxL := 1) (ret := (some .boolean)) (by decide) rfl ?_
  intro p e s m args below meth c s₁ B hml hv
  obtain ⟨rfl, hsz, hP, hK, hD0⟩ := hv
  have hx := B.exec
  have hb := B.bytes
  have hr := B.returns
  have hts := atoms_spec (ws := wzX0_isKind) B.pre
  have hown : s.vm.findClass RX0 = some m.cls := findClass_of_methodNamed B.named
  have hlocks := B.notSynchronized
  subst hsz
  have hD := hD0.self (sz := s.heap.size)
  generalize hAe : va_A ([] : va_W) s.heap.size = A at hD ⊢
  have hA : ∀ q : Nat, s.heap.size ≤ q → A q := fun q h => by rw [← hAe]; exact Or.inr h
  have hS : va_S A s.heap s.heap [] := va_S.rf
  have hP : va_P (dC, dI) vwCl ([] : va_W) s.heap := hP
  clear hD0 hAe
  have hl := lv_entry ([.int p0]) (n := 1) (Nat.le_of_ble_eq_true rfl)
  rw [lg_entry_eq]
  generalize (lg_sl ([.int p0]) ++ List.replicate (1 - (lg_sl ([.int p0])).length) Slot.unset).toArray = ls at hl ⊢
  have hl : lv_has ls 1 [(0, .int p0)] := hl
  rw [pf_X0_isKind] at h
  refine lv_iload_n hx hb dX0_isKind_0 rfl (lv_at hl 0 rfl) ?_
  refine lv_if_eq (tgt := 14) hx hb dX0_isKind_1 (by decide) (fun c_1 => ?_) (fun c_1 => ?_)
  · rw [if_pos c_1] at h
    refine lv_iconst (v := (1 : Int32)) hx hb dX0_isKind_14 (by decide) ?_
    refine lv_goto (tgt := 19) hx hb dX0_isKind_15 (by decide) ?_
    have e9 := h
    exact W.zret (v := (1 : Int32)) hx hb hr rfl (fun t ht hW => ⟨⟨(1 : Int32), (), rfl, e9, by rw [ht]; exact hP, va_K.moved hW.alike hK, hD⟩, hS.F ht⟩) hS.2.2 dX0_isKind_19
  · rw [if_neg c_1] at h
    refine lv_iload_n hx hb dX0_isKind_4 rfl (lv_at hl 0 rfl) ?_
    refine lv_iconst (v := (1 : Int32)) hx hb dX0_isKind_5 (by decide) ?_
    refine lv_icmp_eq (tgt := 14) hx hb dX0_isKind_6 (by decide) (fun c_2 => ?_) (fun c_2 => ?_)
    · rw [if_pos c_2] at h
      refine lv_iconst (v := (1 : Int32)) hx hb dX0_isKind_14 (by decide) ?_
      refine lv_goto (tgt := 19) hx hb dX0_isKind_15 (by decide) ?_
      have e9 := h
      exact W.zret (v := (1 : Int32)) hx hb hr rfl (fun t ht hW => ⟨⟨(1 : Int32), (), rfl, e9, by rw [ht]; exact hP, va_K.moved hW.alike hK, hD⟩, hS.F ht⟩) hS.2.2 dX0_isKind_19
    · rw [if_neg c_2] at h
      refine lv_iload_n hx hb dX0_isKind_9 rfl (lv_at hl 0 rfl) ?_
      refine lv_iconst (v := (2 : Int32)) hx hb dX0_isKind_10 (by decide) ?_
      refine lv_icmp_ne (tgt := 18) hx hb dX0_isKind_11 (by decide) (fun c_3 => ?_) (fun c_3 => ?_)
      · rw [if_neg c_3] at h
        refine lv_iconst (v := (0 : Int32)) hx hb dX0_isKind_18 (by decide) ?_
        have e9 := h
        exact W.zret (v := (0 : Int32)) hx hb hr rfl (fun t ht hW => ⟨⟨(0 : Int32), (), rfl, e9, by rw [ht]; exact hP, va_K.moved hW.alike hK, hD⟩, hS.F ht⟩) hS.2.2 dX0_isKind_19
      · rw [if_pos c_3] at h
        refine lv_iconst (v := (1 : Int32)) hx hb dX0_isKind_14 (by decide) ?_
        refine lv_goto (tgt := 19) hx hb dX0_isKind_15 (by decide) ?_
        have e9 := h
        exact W.zret (v := (1 : Int32)) hx hb hr rfl (fun t ht hW => ⟨⟨(1 : Int32), (), rfl, e9, by rw [ht]; exact hP, va_K.moved hW.alike hK, hD⟩, hS.F ht⟩) hS.2.2 dX0_isKind_19
set_option maxHeartbeats 4000000 in
set_option maxRecDepth 100000 in
theorem c_X0_allOf (l : Launch) (dC : Nat → ClassId) (dI : Nat → Nat → Nat) (sz : Nat) (p0 : Int32) (r : Int64) (h : pf_X0_allOf p0 = r) : Met l yX0_allOf wzX0_allOf ({ frames := 0, cells := 0, slots := 0, locals := 0 }) (va_Pc [.int p0] (fun U => U.heap.size = sz ∧ va_P (dC, dI) vwCl ([] : va_W) U.heap ∧ va_K (dC, dI) vwCl ([] : List (ClassId × FieldType)) U ∧ va_D (fun _ => True) ([] : va_W))) (va_Ql (fun (r1 : Int64) (u1 : Unit) => r1 = r) (aS dC dI (va_A ([] : va_W) sz)) (va_A ([] : va_W) sz)) 0 0 (va_A ([] : va_W) sz) := by
  refine Met.ofW (cc := cX0_allOf) (maxL := 1) (ret := (some .long)) (by decide) rfl ?_
  intro p e s m args below meth c s₁ B hml hv
  obtain ⟨rfl, hsz, hP, hK, hD0⟩ := hv
  have hx := B.exec
  have hb := B.bytes
  have hr := B.returns
  have hts := atoms_spec (ws := wzX0_allOf) B.pre
  have hown : s.vm.findClass RX0 = some m.cls := findClass_of_methodNamed B.named
  have hlocks := B.notSynchronized
  subst hsz
  have hD := hD0.self (sz := s.heap.size)
  generalize hAe : va_A ([] : va_W) s.heap.size = A at hD ⊢
  have hA : ∀ q : Nat, s.heap.size ≤ q → A q := fun q h => by rw [← hAe]; exact Or.inr h
  have hS : va_S A s.heap s.heap [] := va_S.rf
  have hP : va_P (dC, dI) vwCl ([] : va_W) s.heap := hP
  clear hD0 hAe
  have hl := lv_entry ([.int p0]) (n := 1) (Nat.le_of_ble_eq_true rfl)
  rw [lg_entry_eq]
  generalize (lg_sl ([.int p0]) ++ List.replicate (1 - (lg_sl ([.int p0])).length) Slot.unset).toArray = ls at hl ⊢
  have hl : lv_has ls 1 [(0, .int p0)] := hl
  rw [pf_X0_allOf] at h
  refine lv_ldc2 (v := (127 : Int64)) hx hb hown (hts (.constantLong RX0 121 (127)) (List.mem_cons_of_mem _ tz_120)) dX0_allOf_0 ?_
  refine lv_iload_n hx hb dX0_allOf_3 rfl (lv_at hl 0 rfl) ?_
  refine lv_bipush (v := (8 : Int32)) hx hb dX0_allOf_4 (by decide) ?_
  refine lv_imul hx hb dX0_allOf_6 ?_
  refine lv_lshl (v := ((127 : Int64) <<< ((p0 * (8 : Int32)).toInt64 &&& 63))) hx hb dX0_allOf_7 rfl ?_
  have e9 := h
  exact W.lret (v := ((127 : Int64) <<< ((p0 * (8 : Int32)).toInt64 &&& 63))) hx hb hr (fun t ht hW => ⟨⟨((127 : Int64) <<< ((p0 * (8 : Int32)).toInt64 &&& 63)), (), rfl, e9, by rw [ht]; exact hP, va_K.moved hW.alike hK, hD⟩, hS.F ht⟩) hS.2.2 dX0_allOf_8
set_option maxHeartbeats 4000000 in
set_option maxRecDepth 100000 in
theorem c_X0_keeping (l : Launch) (dC : Nat → ClassId) (dI : Nat → Nat → Nat) (sz : Nat) (p0 : Int32) (p1 : Int32) (p2 : Int32) (r : Int64) (h : pf_X0_keeping p0 p1 p2 = r) : Met l yX0_keeping wzX0_keeping ({ frames := 1, cells := 0, slots := 0, locals := 21 }) (va_Pc [.int p0, .int p1, .int p2] (fun U => U.heap.size = sz ∧ va_P (dC, dI) vwCl ([] : va_W) U.heap ∧ va_K (dC, dI) vwCl ([] : List (ClassId × FieldType)) U ∧ va_D (fun _ => True) ([] : va_W))) (va_Ql (fun (r1 : Int64) (u1 : Unit) => r1 = r) (aS dC dI (va_A ([] : va_W) sz)) (va_A ([] : va_W) sz)) 0 0 (va_A ([] : va_W) sz) := by
  refine Met.ofW (cc := cX0_keeping) (maxL := 5) (ret := (some .long)) (by decide) rfl ?_
  intro p e s m args below meth c s₁ B hml hv
  obtain ⟨rfl, hsz, hP, hK, hD0⟩ := hv
  have hx := B.exec
  have hb := B.bytes
  have hr := B.returns
  have hts := atoms_spec (ws := wzX0_keeping) B.pre
  have hown : s.vm.findClass RX0 = some m.cls := findClass_of_methodNamed B.named
  have hlocks := B.notSynchronized
  subst hsz
  have hD := hD0.self (sz := s.heap.size)
  generalize hAe : va_A ([] : va_W) s.heap.size = A at hD ⊢
  have hA : ∀ q : Nat, s.heap.size ≤ q → A q := fun q h => by rw [← hAe]; exact Or.inr h
  have hS : va_S A s.heap s.heap [] := va_S.rf
  have hP : va_P (dC, dI) vwCl ([] : va_W) s.heap := hP
  clear hD0 hAe
  have hl := lv_entry ([.int p0, .int p1, .int p2]) (n := 5) (Nat.le_of_ble_eq_true rfl)
  rw [lg_entry_eq]
  generalize (lg_sl ([.int p0, .int p1, .int p2]) ++ List.replicate (5 - (lg_sl ([.int p0, .int p1, .int p2])).length) Slot.unset).toArray = ls at hl ⊢
  have hl : lv_has ls 5 [(0, .int p0), (1, .int p1), (2, .int p2)] := hl
  rw [pf_X0_keeping] at h
  refine lv_iload_n hx hb dX0_keeping_0 rfl (lv_at hl 1 rfl) ?_
  refine lv_iload_n hx hb dX0_keeping_1 rfl (lv_at hl 2 rfl) ?_
  have hPc : va_P (dC, dI) vwCl ([] : va_W) s.heap := hP.sub [] rfl
  have hDc : va_D A ([] : va_W) := hD.sub [] (by decide) rfl
  have hKc := hK.sub (tys' := []) [] rfl
  have hFc := va_free (wc := ([] : va_W)) hD hS hA [] rfl
  refine va_calll (va_runS (As := [.int p1, .int p2]) (rest := []) ⟨hx, hb, hml, hown, hts⟩ (c_X0_versionsOf l dC dI s.heap.size p1 p2 _ rfl) (va_cwS 2 hts gX0_keeping_X0_versionsOf rfl rfl rfl (by decide +kernel) ⟨Nat.le_of_ble_eq_true rfl, Nat.le_of_ble_eq_true rfl⟩) ⟨fun a U g mk q => by obtain ⟨q0, q1, qP, qK, qD⟩ := q; exact ⟨q0, q1, qP, va_K.moved (u := U) (U := U.calling g mk a) (Vm.Alike.refl U.vm) qK, qD⟩, fun U hU hW => ⟨rfl, by rw [hU], by rw [hU]; exact hPc, va_K.moved hW.alike hKc, hDc.weaken (fun _ _ _ _ => trivial)⟩⟩ rfl rfl hl.1 rfl (lv_room (Nat.le_of_ble_eq_true rfl)) dX0_keeping_2 ⟨Nat.zero_le _, Nat.zero_le _⟩) hS (fun q _ h => hFc q h) hFc (fun r_1 u_c1 t H1 locs ht hvm hw hB hz1 hk1 hS => ?_)
  subst r_1
  obtain ⟨hP1, hK1, hD1⟩ := hB
  rw [ht] at hP1
  obtain ⟨hP, hD⟩ := va_join (wc := ([] : va_W)) (wr := ([] : va_W)) (w1 := ([] : va_W)) hP hD [] [] rfl rfl (by decide) (by decide) hk1 hFc hP1 hD1
  clear hPc hDc hKc hFc hz1 hk1 hP1 hK1 hD1
  generalize H1 = H at hP hS ⊢
  refine lv_lstore_n (lv' := [(3, .long (pf_X0_versionsOf p1 p2)), (0, .int p0), (1, .int p1), (2, .int p2)]) hx hb dX0_keeping_5 rfl hl (by decide) rfl (fun ls hl => ?_)
  refine lv_iload_n hx hb dX0_keeping_6 rfl (lv_at hl 1 rfl) ?_
  refine lv_iconst (v := (1 : Int32)) hx hb dX0_keeping_7 (by decide) ?_
  refine lv_icmp_ne (tgt := 22) hx hb dX0_keeping_8 (by decide) (fun c_2 => ?_) (fun c_2 => ?_)
  · rw [if_neg c_2] at h
    refine lv_iload_n hx hb dX0_keeping_22 rfl (lv_at hl 1 rfl) ?_
    refine lv_iconst (v := (2 : Int32)) hx hb dX0_keeping_23 (by decide) ?_
    refine lv_icmp_ne (tgt := 36) hx hb dX0_keeping_24 (by decide) (fun c_3 => ?_) (fun c_3 => ?_)
    · rw [if_neg c_3] at h
      refine lv_lload_n hx hb dX0_keeping_36 rfl (lv_at hl 0 rfl) ?_
      have e9 := h
      exact W.lret (v := (pf_X0_versionsOf p1 p2)) hx hb hr (fun t ht hW => ⟨⟨(pf_X0_versionsOf p1 p2), (), rfl, e9, by rw [ht]; exact hP, va_K.moved hW.alike hK, hD⟩, hS.F ht⟩) hS.2.2 dX0_keeping_37
    · rw [if_pos c_3] at h
      refine lv_lload_n hx hb dX0_keeping_27 rfl (lv_at hl 0 rfl) ?_
      refine lv_iload_n hx hb dX0_keeping_28 rfl (lv_at hl 2 rfl) ?_
      have hPc : va_P (dC, dI) vwCl ([] : va_W) H := hP.sub [] rfl
      have hDc : va_D A ([] : va_W) := hD.sub [] (by decide) rfl
      have hKc := hK.sub (tys' := []) [] rfl
      have hFc := va_free (wc := ([] : va_W)) hD hS hA [] rfl
      refine va_calll (va_runS (As := [.int p1]) (rest := [.long (pf_X0_versionsOf p1 p2)]) ⟨hx, hb, hml, hown, hts⟩ (c_X0_noneOf l dC dI H.size p1 _ rfl) (va_cwS 1 hts gX0_keeping_X0_noneOf rfl rfl rfl (by decide +kernel) ⟨Nat.le_of_ble_eq_true rfl, Nat.le_of_ble_eq_true rfl⟩) ⟨fun a U g mk q => by obtain ⟨q0, q1, qP, qK, qD⟩ := q; exact ⟨q0, q1, qP, va_K.moved (u := U) (U := U.calling g mk a) (Vm.Alike.refl U.vm) qK, qD⟩, fun U hU hW => ⟨rfl, by rw [hU], by rw [hU]; exact hPc, va_K.moved hW.alike hKc, hDc.weaken (fun _ _ _ _ => trivial)⟩⟩ rfl rfl hl.1 rfl (lv_room (Nat.le_of_ble_eq_true rfl)) dX0_keeping_29 ⟨Nat.zero_le _, Nat.zero_le _⟩) hS (fun q _ h => hFc q h) hFc (fun r_4 u_c4 t H1 locs ht hvm hw hB hz1 hk1 hS => ?_)
      subst r_4
      obtain ⟨hP1, hK1, hD1⟩ := hB
      rw [ht] at hP1
      obtain ⟨hP, hD⟩ := va_join (wc := ([] : va_W)) (wr := ([] : va_W)) (w1 := ([] : va_W)) hP hD [] [] rfl rfl (by decide) (by decide) hk1 hFc hP1 hD1
      clear hPc hDc hKc hFc hz1 hk1 hP1 hK1 hD1
      generalize H1 = H at hP hS ⊢
      refine lv_lor hx hb dX0_keeping_32 ?_
      refine lv_goto (tgt := 37) hx hb dX0_keeping_33 (by decide) ?_
      have e9 := h
      exact W.lret (v := ((pf_X0_versionsOf p1 p2) ||| (pf_X0_noneOf p1))) hx hb hr (fun t ht hW => ⟨⟨((pf_X0_versionsOf p1 p2) ||| (pf_X0_noneOf p1)), (), rfl, e9, by rw [ht]; exact hP, va_K.moved hW.alike hK, hD⟩, hS.F ht⟩) hS.2.2 dX0_keeping_37
  · rw [if_pos c_2] at h
    refine lv_iload_n hx hb dX0_keeping_11 rfl (lv_at hl 2 rfl) ?_
    have hPc : va_P (dC, dI) vwCl ([] : va_W) H := hP.sub [] rfl
    have hDc : va_D A ([] : va_W) := hD.sub [] (by decide) rfl
    have hKc := hK.sub (tys' := []) [] rfl
    have hFc := va_free (wc := ([] : va_W)) hD hS hA [] rfl
    refine va_calll (va_runS (As := [.int p1]) (rest := []) ⟨hx, hb, hml, hown, hts⟩ (c_X0_allOf l dC dI H.size p1 _ rfl) (va_cwS 1 hts gX0_keeping_X0_allOf rfl rfl rfl (by decide +kernel) ⟨Nat.le_of_ble_eq_true rfl, Nat.le_of_ble_eq_true rfl⟩) ⟨fun a U g mk q => by obtain ⟨q0, q1, qP, qK, qD⟩ := q; exact ⟨q0, q1, qP, va_K.moved (u := U) (U := U.calling g mk a) (Vm.Alike.refl U.vm) qK, qD⟩, fun U hU hW => ⟨rfl, by rw [hU], by rw [hU]; exact hPc, va_K.moved hW.alike hKc, hDc.weaken (fun _ _ _ _ => trivial)⟩⟩ rfl rfl hl.1 rfl (lv_room (Nat.le_of_ble_eq_true rfl)) dX0_keeping_12 ⟨Nat.zero_le _, Nat.zero_le _⟩) hS (fun q _ h => hFc q h) hFc (fun r_5 u_c5 t H1 locs ht hvm hw hB hz1 hk1 hS => ?_)
    subst r_5
    obtain ⟨hP1, hK1, hD1⟩ := hB
    rw [ht] at hP1
    obtain ⟨hP, hD⟩ := va_join (wc := ([] : va_W)) (wr := ([] : va_W)) (w1 := ([] : va_W)) hP hD [] [] rfl rfl (by decide) (by decide) hk1 hFc hP1 hD1
    clear hPc hDc hKc hFc hz1 hk1 hP1 hK1 hD1
    generalize H1 = H at hP hS ⊢
    refine lv_lload_n hx hb dX0_keeping_15 rfl (lv_at hl 0 rfl) ?_
    refine lv_ldc2 (v := (-1 : Int64)) hx hb hown (hts (.constantLong RX0 55 (-1)) (List.mem_cons_of_mem _ tz_121)) dX0_keeping_16 ?_
    refine lv_lxor hx hb dX0_keeping_19 ?_
    refine lv_land hx hb dX0_keeping_20 ?_
    have e9 := h
    exact W.lret (v := ((pf_X0_allOf p1) &&& ((pf_X0_versionsOf p1 p2) ^^^ (-1 : Int64)))) hx hb hr (fun t ht hW => ⟨⟨((pf_X0_allOf p1) &&& ((pf_X0_versionsOf p1 p2) ^^^ (-1 : Int64))), (), rfl, e9, by rw [ht]; exact hP, va_K.moved hW.alike hK, hD⟩, hS.F ht⟩) hS.2.2 dX0_keeping_21
set_option maxHeartbeats 4000000 in
set_option maxRecDepth 100000 in
theorem c_X0_startAlternatives (l : Launch) (dC : Nat → ClassId) (dI : Nat → Nat → Nat) (hs : Nat → Nat) (ka : Nat → ClassId) (sz : Nat) (fu : Nat) (u : XS) (p0 : Int32) (p1 : Int32) (u' : XS) (h : pf_X0_startAlternatives fu p0 p1 u = some u') : Met l yX0_startAlternatives wzX0_startAlternatives ({ frames := 0, cells := 0, slots := 0, locals := 0 }) (va_Pc [.ref (hs 0), .int p0, .int p1] (fun U => U.heap.size = sz ∧ va_P (dC, dI) vwCl (cX hs ka u) U.heap ∧ va_K (dC, dI) vwCl (tX ka) U ∧ va_D (fun _ => True) (cX hs ka u))) (va_Qv (fun (u1 : XS) => u1 = u') (aX dC dI (va_A (cX hs ka u) sz) hs ka) (va_A (cX hs ka u) sz)) 0 0 (va_A (cX hs ka u) sz) := by
  refine Met.ofW (cc := cX0_startAlternatives) (maxL := 3) (ret := none) (by decide) rfl ?_
  intro p e s m args below meth c s₁ B hml hv
  obtain ⟨rfl, hsz, hP, hK, hD0⟩ := hv
  have hx := B.exec
  have hb := B.bytes
  have hr := B.returns
  have hts := atoms_spec (ws := wzX0_startAlternatives) B.pre
  have hown : s.vm.findClass RX0 = some m.cls := findClass_of_methodNamed B.named
  have hlocks := B.notSynchronized
  subst hsz
  have hD := hD0.self (sz := s.heap.size)
  generalize hAe : va_A (cX hs ka u) s.heap.size = A at hD ⊢
  have hA : ∀ q : Nat, s.heap.size ≤ q → A q := fun q h => by rw [← hAe]; exact Or.inr h
  have hS : va_S A s.heap s.heap [] := va_S.rf
  have hP : va_P (dC, dI) vwCl (cX hs ka u) s.heap := hP
  clear hD0 hAe
  have hin0 : ∀ w ∈ u_ws RX0 TX0 14, w ∈ wzX0_startAlternatives := fun w h => List.mem_cons_of_mem _ (inTX0 w h)
  have hf_72 := hts (.fieldLink RX0 72 "ConflictSolve" "alternativesFree" "I") (List.mem_cons_of_mem _ tz_52)
  have hf_75 := hts (.fieldLink RX0 75 "ConflictSolve" "latestIsDemand" "Z") (List.mem_cons_of_mem _ tz_53)
  have hl := lv_entry ([.ref (hs 0), .int p0, .int p1]) (n := 3) (Nat.le_of_ble_eq_true rfl)
  rw [lg_entry_eq]
  generalize (lg_sl ([.ref (hs 0), .int p0, .int p1]) ++ List.replicate (3 - (lg_sl ([.ref (hs 0), .int p0, .int p1])).length) Slot.unset).toArray = ls at hl ⊢
  have hl : lv_has ls 3 [(0, .ref (hs 0)), (1, .int p0), (2, .int p1)] := hl
  rw [pf_X0_startAlternatives] at h
  refine lv_aload_n hx hb dX0_startAlternatives_0 rfl (lv_at hl 0 rfl) ?_
  refine lv_iload_n hx hb dX0_startAlternatives_1 rfl (lv_at hl 1 rfl) ?_
  refine lv_if_ne (tgt := 9) hx hb dX0_startAlternatives_2 (by decide) (fun c_1 => ?_) (fun c_1 => ?_)
  · rw [if_neg c_1] at h
    refine lv_iconst (v := (0 : Int32)) hx hb dX0_startAlternatives_9 (by decide) ?_
    refine pt_X_alternativesFree hx hb hts hin0 hown hK hP hD hS hf_72 dX0_startAlternatives_10 (fun H locs hP hD hS => ?_)
    refine lv_aload_n hx hb dX0_startAlternatives_13 rfl (lv_at hl 0 rfl) ?_
    refine lv_iload_n hx hb dX0_startAlternatives_14 rfl (lv_at hl 2 rfl) ?_
    obtain ⟨g_2, h⟩ := og_some h
    refine pt_X_latestIsDemand hx hb hts hin0 hown hK hP hD hS hf_75 (bz_n g_2) (bz_f g_2) dX0_startAlternatives_15 (fun H locs hP hD hS => ?_)
    have e9 := Option.some.inj h
    exact W.vret hx hb hr (fun t ht hW => ⟨⟨(xs_latestIsDemand (xs_alternativesFree u (0 : Int32)) p1), rfl, e9, by rw [ht]; exact hP, va_K.moved hW.alike hK, hD⟩, hS.F ht⟩) hS.2.2 dX0_startAlternatives_18
  · rw [if_pos c_1] at h
    refine lv_iconst (v := (2 : Int32)) hx hb dX0_startAlternatives_5 (by decide) ?_
    refine lv_goto (tgt := 10) hx hb dX0_startAlternatives_6 (by decide) ?_
    refine pt_X_alternativesFree hx hb hts hin0 hown hK hP hD hS hf_72 dX0_startAlternatives_10 (fun H locs hP hD hS => ?_)
    refine lv_aload_n hx hb dX0_startAlternatives_13 rfl (lv_at hl 0 rfl) ?_
    refine lv_iload_n hx hb dX0_startAlternatives_14 rfl (lv_at hl 2 rfl) ?_
    obtain ⟨g_3, h⟩ := og_some h
    refine pt_X_latestIsDemand hx hb hts hin0 hown hK hP hD hS hf_75 (bz_n g_3) (bz_f g_3) dX0_startAlternatives_15 (fun H locs hP hD hS => ?_)
    have e9 := Option.some.inj h
    exact W.vret hx hb hr (fun t ht hW => ⟨⟨(xs_latestIsDemand (xs_alternativesFree u (2 : Int32)) p1), rfl, e9, by rw [ht]; exact hP, va_K.moved hW.alike hK, hD⟩, hS.F ht⟩) hS.2.2 dX0_startAlternatives_18
