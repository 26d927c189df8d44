set_option maxHeartbeats 4000000 in
set_option maxRecDepth 100000 in
theorem c_X0_row (l : Launch) (dC : Nat → ClassId) (dI : Nat → Nat → Nat) (hs : Nat → Nat) (ka : Nat → ClassId) (sz : Nat) (fu : Nat) (u : XS) (p0 : Int32) (p1 : Int32) (p2 : Int32) (p3 : Int32) (p4 : Int32) (r : Int32) (u' : XS) (h : pf_X0_row fu p0 p1 p2 p3 p4 u = some (r, u')) : Met l yX0_row wzX0_row ({ frames := 3, cells := 0, slots := 0, locals := 64 }) (va_Pc [.ref (hs 0), .int p0, .int p1, .int p2, .int p3, .int p4] (fun U => U.heap.size = sz ∧ va_P (dC, dI) vwCl (cX hs ka u) U.heap ∧ va_K (dC, dI) vwCl (tX ka) U ∧ va_D (fun _ => True) (cX hs ka u))) (va_Qi (fun (r1 : Int32) (u1 : XS) => r1 = r ∧ u1 = u') (aX dC dI (va_A (cX hs ka u) sz) hs ka) (va_A (cX hs ka u) sz)) 0 0 (va_A (cX hs ka u) sz) := by
  refine Met.ofW (cc := cX0_row) (maxL := 8) (ret := (some .boolean)) (by decide) rfl ?_
  intro p e s m args below meth c s₁ B hml hv
  obtain ⟨rfl, hsz, hP, hK, hD0⟩ := hv
  have hx := B.exec
  have hb := B.bytes
  have hr := B.returns
  have hts := atoms_spec (ws := wzX0_row) B.pre
  have hown : s.vm.findClass RX0 = some m.cls := findClass_of_methodNamed B.named
  have hlocks := B.notSynchronized
  subst hsz
  have hD := hD0.self (sz := s.heap.size)
  generalize hAe : va_A (cX hs ka u) s.heap.size = A at hD ⊢
  have hA : ∀ q : Nat, s.heap.size ≤ q → A q := fun q h => by rw [← hAe]; exact Or.inr h
  have hS : va_S A s.heap s.heap [] := va_S.rf
  have hP : va_P (dC, dI) vwCl (cX hs ka u) s.heap := hP
  clear hD0 hAe
  have hin0 : ∀ w ∈ u_ws RX0 TX0 14, w ∈ wzX0_row := fun w h => List.mem_cons_of_mem _ (inTX0 w h)
  have hf_34 := hts (.fieldLink RX0 34 "ConflictSolve" "rows" "I") (List.mem_cons_of_mem _ tz_46)
  have hf_9 := hts (.fieldLink RX0 9 "ConflictSolve" "rowRules" "[J") (List.mem_cons_of_mem _ tz_42)
  have hl := lv_entry ([.ref (hs 0), .int p0, .int p1, .int p2, .int p3, .int p4]) (n := 8) (Nat.le_of_ble_eq_true rfl)
  rw [lg_entry_eq]
  generalize (lg_sl ([.ref (hs 0), .int p0, .int p1, .int p2, .int p3, .int p4]) ++ List.replicate (8 - (lg_sl ([.ref (hs 0), .int p0, .int p1, .int p2, .int p3, .int p4])).length) Slot.unset).toArray = ls at hl ⊢
  have hl : lv_has ls 8 [(0, .ref (hs 0)), (1, .int p0), (2, .int p1), (3, .int p2), (4, .int p3), (5, .int p4)] := hl
  rw [pf_X0_row] at h
  refine lv_aload_n hx hb dX0_row_0 rfl (lv_at hl 0 rfl) ?_
  refine gt_X_rows (V := (x_rows u)) hx hb hts hin0 hown hK hP hf_34 rfl dX0_row_1 ?_
  refine lv_bipush (v := (120 : Int32)) hx hb dX0_row_4 (by decide) ?_
  refine lv_icmp_ge (tgt := 34) hx hb dX0_row_6 (by decide) (fun c_1 => ?_) (fun c_1 => ?_)
  · rw [if_pos c_1] at h
    refine lv_iconst (v := (0 : Int32)) hx hb dX0_row_34 (by decide) ?_
    have e9 := Option.some.inj h
    exact W.zret (v := (0 : Int32)) hx hb hr rfl (fun t ht hW => ⟨⟨(0 : Int32), u, rfl, ⟨congrArg Prod.fst e9, congrArg Prod.snd e9⟩, by rw [ht]; exact hP, va_K.moved hW.alike hK, hD⟩, hS.F ht⟩) hS.2.2 dX0_row_35
  · rw [if_neg c_1] at h
    refine lv_aload_n hx hb dX0_row_9 rfl (lv_at hl 0 rfl) ?_
    refine lv_iload_n hx hb dX0_row_10 rfl (lv_at hl 1 rfl) ?_
    refine lv_iload_n hx hb dX0_row_11 rfl (lv_at hl 2 rfl) ?_
    have hPc := hP
    have hDc := hD
    have hKc := hK
    have hFc := fr_X hD hS hA
    refine va_calli (va_runV (As := [.int p0, .int p1]) (rest := []) ⟨hx, hb, hml, hown, hts⟩ (c_X0_hasVersion l dC dI hs ka s.heap.size u p0 p1 _ rfl) (cwV 2 hts gX0_row_X0_hasVersion rfl rfl rfl (by decide +kernel) ⟨Nat.le_of_ble_eq_true rfl, Nat.le_of_ble_eq_true rfl⟩) ⟨fun a U g mk q => by obtain ⟨q0, q1, qP, qK, qD⟩ := q; exact ⟨q0, q1, qP, va_K.moved (u := U) (U := U.calling g mk a) (Vm.Alike.refl U.vm) qK, qD⟩, rc_X hKc hPc, fun U hU hW => ⟨rfl, by rw [hU], by rw [hU]; exact hPc, va_K.moved hW.alike hKc, hDc.weaken (fun _ _ _ _ => trivial)⟩⟩ rfl rfl hl.1 rfl (lv_room (Nat.le_of_ble_eq_true rfl)) dX0_row_12 ⟨Nat.zero_le _, Nat.zero_le _⟩) hS (fun q _ h => hFc q h) hFc (fun r_2 u_c2 t H1 locs ht hvm hw hB hz1 hk1 hS => ?_)
    obtain ⟨hw1, hw2⟩ := hw
    subst r_2
    subst u_c2
    obtain ⟨hP1, hK1, hD1⟩ := hB
    rw [ht] at hP1
    obtain ⟨hP, hD⟩ := jw_X hP hD hk1 hFc hP1 hD1
    clear hPc hDc hKc hFc hz1 hk1 hP1 hK1 hD1
    generalize H1 = H at hP hS ⊢
    refine lv_if_eq (tgt := 34) hx hb dX0_row_15 (by decide) (fun c_3 => ?_) (fun c_3 => ?_)
    · rw [if_pos c_3] at h
      refine lv_iconst (v := (0 : Int32)) hx hb dX0_row_34 (by decide) ?_
      have e9 := Option.some.inj h
      exact W.zret (v := (0 : Int32)) hx hb hr rfl (fun t ht hW => ⟨⟨(0 : Int32), u, rfl, ⟨congrArg Prod.fst e9, congrArg Prod.snd e9⟩, by rw [ht]; exact hP, va_K.moved hW.alike hK, hD⟩, hS.F ht⟩) hS.2.2 dX0_row_35
    · rw [if_neg c_3] at h
      refine lv_iload_n hx hb dX0_row_18 rfl (lv_at hl 3 rfl) ?_
      have hPc : va_P (dC, dI) vwCl ([] : va_W) H := hP.sub [] rfl
      have hDc : va_D A ([] : va_W) := hD.sub [] (by decide) rfl
      have hKc := hK.sub (tys' := []) [] rfl
      have hFc := fn_X hD hS hA
      refine va_calli (va_runS (As := [.int p2]) (rest := []) ⟨hx, hb, hml, hown, hts⟩ (c_X0_isKind l dC dI H.size p2 _ rfl) (va_cwS 1 hts gX0_row_X0_isKind rfl rfl rfl (by decide +kernel) ⟨Nat.le_of_ble_eq_true rfl, Nat.le_of_ble_eq_true rfl⟩) ⟨fun a U g mk q => by obtain ⟨q0, q1, qP, qK, qD⟩ := q; exact ⟨q0, q1, qP, va_K.moved (u := U) (U := U.calling g mk a) (Vm.Alike.refl U.vm) qK, qD⟩, fun U hU hW => ⟨rfl, by rw [hU], by rw [hU]; exact hPc, va_K.moved hW.alike hKc, hDc.weaken (fun _ _ _ _ => trivial)⟩⟩ rfl rfl hl.1 rfl (lv_room (Nat.le_of_ble_eq_true rfl)) dX0_row_19 ⟨Nat.zero_le _, Nat.zero_le _⟩) hS (fun q _ h => hFc q h) hFc (fun r_4 u_c4 t H1 locs ht hvm hw hB hz1 hk1 hS => ?_)
      subst r_4
      obtain ⟨hP1, hK1, hD1⟩ := hB
      rw [ht] at hP1
      obtain ⟨hP, hD⟩ := js_X hP hD hk1 hFc hP1 hD1
      clear hPc hDc hKc hFc hz1 hk1 hP1 hK1 hD1
      generalize H1 = H at hP hS ⊢
      refine lv_if_eq (tgt := 34) hx hb dX0_row_22 (by decide) (fun c_5 => ?_) (fun c_5 => ?_)
      · rw [if_pos c_5] at h
        refine lv_iconst (v := (0 : Int32)) hx hb dX0_row_34 (by decide) ?_
        have e9 := Option.some.inj h
        exact W.zret (v := (0 : Int32)) hx hb hr rfl (fun t ht hW => ⟨⟨(0 : Int32), u, rfl, ⟨congrArg Prod.fst e9, congrArg Prod.snd e9⟩, by rw [ht]; exact hP, va_K.moved hW.alike hK, hD⟩, hS.F ht⟩) hS.2.2 dX0_row_35
      · rw [if_neg c_5] at h
        refine lv_aload_n hx hb dX0_row_25 rfl (lv_at hl 0 rfl) ?_
        refine lv_iload hx hb dX0_row_26 (lv_at hl 4 rfl) ?_
        have hPc := hP
        have hDc := hD
        have hKc := hK
        have hFc := fr_X hD hS hA
        refine va_calli (va_runV (As := [.int p3]) (rest := []) ⟨hx, hb, hml, hown, hts⟩ (c_X0_hasPack l dC dI hs ka H.size u p3 _ rfl) (cwV 1 hts gX0_row_X0_hasPack rfl rfl rfl (by decide +kernel) ⟨Nat.le_of_ble_eq_true rfl, Nat.le_of_ble_eq_true rfl⟩) ⟨fun a U g mk q => by obtain ⟨q0, q1, qP, qK, qD⟩ := q; exact ⟨q0, q1, qP, va_K.moved (u := U) (U := U.calling g mk a) (Vm.Alike.refl U.vm) qK, qD⟩, rc_X hKc hPc, fun U hU hW => ⟨rfl, by rw [hU], by rw [hU]; exact hPc, va_K.moved hW.alike hKc, hDc.weaken (fun _ _ _ _ => trivial)⟩⟩ rfl rfl hl.1 rfl (lv_room (Nat.le_of_ble_eq_true rfl)) dX0_row_28 ⟨Nat.zero_le _, Nat.zero_le _⟩) hS (fun q _ h => hFc q h) hFc (fun r_6 u_c6 t H1 locs ht hvm hw hB hz1 hk1 hS => ?_)
        obtain ⟨hw1, hw2⟩ := hw
        subst r_6
        subst u_c6
        obtain ⟨hP1, hK1, hD1⟩ := hB
        rw [ht] at hP1
        obtain ⟨hP, hD⟩ := jw_X hP hD hk1 hFc hP1 hD1
        clear hPc hDc hKc hFc hz1 hk1 hP1 hK1 hD1
        generalize H1 = H at hP hS ⊢
        refine lv_if_ne (tgt := 36) hx hb dX0_row_31 (by decide) (fun c_7 => ?_) (fun c_7 => ?_)
        · rw [if_neg c_7] at h
          refine lv_iload_n hx hb dX0_row_36 rfl (lv_at hl 1 rfl) ?_
          have hPc : va_P (dC, dI) vwCl ([] : va_W) H := hP.sub [] rfl
          have hDc : va_D A ([] : va_W) := hD.sub [] (by decide) rfl
          have hKc := hK.sub (tys' := []) [] rfl
          have hFc := fn_X hD hS hA
          refine va_calll (va_runS (As := [.int p0]) (rest := []) ⟨hx, hb, hml, hown, hts⟩ (c_X0_allOf l dC dI H.size p0 _ rfl) (va_cwS 1 hts gX0_row_X0_allOf rfl rfl rfl (by decide +kernel) ⟨Nat.le_of_ble_eq_true rfl, Nat.le_of_ble_eq_true rfl⟩) ⟨fun a U g mk q => by obtain ⟨q0, q1, qP, qK, qD⟩ := q; exact ⟨q0, q1, qP, va_K.moved (u := U) (U := U.calling g mk a) (Vm.Alike.refl U.vm) qK, qD⟩, fun U hU hW => ⟨rfl, by rw [hU], by rw [hU]; exact hPc, va_K.moved hW.alike hKc, hDc.weaken (fun _ _ _ _ => trivial)⟩⟩ rfl rfl hl.1 rfl (lv_room (Nat.le_of_ble_eq_true rfl)) dX0_row_37 ⟨Nat.zero_le _, Nat.zero_le _⟩) hS (fun q _ h => hFc q h) hFc (fun r_8 u_c8 t H1 locs ht hvm hw hB hz1 hk1 hS => ?_)
          subst r_8
          obtain ⟨hP1, hK1, hD1⟩ := hB
          rw [ht] at hP1
          obtain ⟨hP, hD⟩ := js_X hP hD hk1 hFc hP1 hD1
          clear hPc hDc hKc hFc hz1 hk1 hP1 hK1 hD1
          generalize H1 = H at hP hS ⊢
          refine lv_iload_n hx hb dX0_row_40 rfl (lv_at hl 1 rfl) ?_
          refine lv_iload_n hx hb dX0_row_41 rfl (lv_at hl 2 rfl) ?_
          have hPc : va_P (dC, dI) vwCl ([] : va_W) H := hP.sub [] rfl
          have hDc : va_D A ([] : va_W) := hD.sub [] (by decide) rfl
          have hKc := hK.sub (tys' := []) [] rfl
          have hFc := fn_X hD hS hA
          refine va_calll (va_runS (As := [.int p0, .int p1]) (rest := [.long (pf_X0_allOf p0)]) ⟨hx, hb, hml, hown, hts⟩ (c_X0_placeOf l dC dI H.size p0 p1 _ rfl) (va_cwS 2 hts gX0_row_X0_placeOf rfl rfl rfl (by decide +kernel) ⟨Nat.le_of_ble_eq_true rfl, Nat.le_of_ble_eq_true rfl⟩) ⟨fun a U g mk q => by obtain ⟨q0, q1, qP, qK, qD⟩ := q; exact ⟨q0, q1, qP, va_K.moved (u := U) (U := U.calling g mk a) (Vm.Alike.refl U.vm) qK, qD⟩, fun U hU hW => ⟨rfl, by rw [hU], by rw [hU]; exact hPc, va_K.moved hW.alike hKc, hDc.weaken (fun _ _ _ _ => trivial)⟩⟩ rfl rfl hl.1 rfl (lv_room (Nat.le_of_ble_eq_true rfl)) dX0_row_42 ⟨Nat.zero_le _, Nat.zero_le _⟩) hS (fun q _ h => hFc q h) hFc (fun r_9 u_c9 t H1 locs ht hvm hw hB hz1 hk1 hS => ?_)
          subst r_9
          obtain ⟨hP1, hK1, hD1⟩ := hB
          rw [ht] at hP1
          obtain ⟨hP, hD⟩ := js_X hP hD hk1 hFc hP1 hD1
          clear hPc hDc hKc hFc hz1 hk1 hP1 hK1 hD1
          generalize H1 = H at hP hS ⊢
          refine lv_ldc2 (v := (-1 : Int64)) hx hb hown (hts (.constantLong RX0 55 (-1)) (List.mem_cons_of_mem _ tz_121)) dX0_row_45 ?_
          refine lv_lxor hx hb dX0_row_48 ?_
          refine lv_land hx hb dX0_row_49 ?_
          refine lv_lstore (lv' := [(6, .long ((pf_X0_allOf p0) &&& ((pf_X0_placeOf p0 p1) ^^^ (-1 : Int64)))), (0, .ref (hs 0)), (1, .int p0), (2, .int p1), (3, .int p2), (4, .int p3), (5, .int p4)]) hx hb dX0_row_50 hl (by decide) rfl (fun ls hl => ?_)
          refine lv_aload_n hx hb dX0_row_52 rfl (lv_at hl 1 rfl) ?_
          refine gt_X_rowRules hx hb hts hin0 hown hK hP hf_9 dX0_row_53 ?_
          refine lv_aload_n hx hb dX0_row_56 rfl (lv_at hl 1 rfl) ?_
          refine gt_X_rows (V := (x_rows u)) hx hb hts hin0 hown hK hP hf_34 rfl dX0_row_57 ?_
          refine lv_lload hx hb dX0_row_60 (lv_at hl 0 rfl) ?_
          refine lv_iload_n hx hb dX0_row_62 rfl (lv_at hl 4 rfl) ?_
          refine lv_iload hx hb dX0_row_63 (lv_at hl 5 rfl) ?_
          refine lv_iload hx hb dX0_row_65 (lv_at hl 6 rfl) ?_
          have hPc : va_P (dC, dI) vwCl ([] : va_W) H := hP.sub [] rfl
          have hDc : va_D A ([] : va_W) := hD.sub [] (by decide) rfl
          have hKc := hK.sub (tys' := []) [] rfl
          have hFc := fn_X hD hS hA
          refine va_calll (va_runS (As := [.int p2, .int p3, .int p4]) (rest := [.long ((pf_X0_allOf p0) &&& ((pf_X0_placeOf p0 p1) ^^^ (-1 : Int64))), .int (x_rows u), .ref (hs 1)]) ⟨hx, hb, hml, hown, hts⟩ (c_X0_keeping l dC dI H.size p2 p3 p4 _ rfl) (va_cwS 3 hts gX0_row_X0_keeping rfl rfl rfl (by decide +kernel) ⟨Nat.le_of_ble_eq_true rfl, Nat.le_of_ble_eq_true rfl⟩) ⟨fun a U g mk q => by obtain ⟨q0, q1, qP, qK, qD⟩ := q; exact ⟨q0, q1, qP, va_K.moved (u := U) (U := U.calling g mk a) (Vm.Alike.refl U.vm) qK, qD⟩, fun U hU hW => ⟨rfl, by rw [hU], by rw [hU]; exact hPc, va_K.moved hW.alike hKc, hDc.weaken (fun _ _ _ _ => trivial)⟩⟩ rfl rfl hl.1 rfl (lv_room (Nat.le_of_ble_eq_true rfl)) dX0_row_67 ⟨Nat.zero_le _, Nat.zero_le _⟩) hS (fun q _ h => hFc q h) hFc (fun r_10 u_c10 t H1 locs ht hvm hw hB hz1 hk1 hS => ?_)
          subst r_10
          obtain ⟨hP1, hK1, hD1⟩ := hB
          rw [ht] at hP1
          obtain ⟨hP, hD⟩ := js_X hP hD hk1 hFc hP1 hD1
          clear hPc hDc hKc hFc hz1 hk1 hP1 hK1 hD1
          generalize H1 = H at hP hS ⊢
          refine lv_lor hx hb dX0_row_70 ?_
          obtain ⟨g_11, h⟩ := og_some h
          refine sr_X_rowRules (F := (x_rowRules u)) hx hb hK hP hD hS rfl (inb_in g_11) dX0_row_71 (fun H locs hP hD hS => ?_)
          refine lv_aload_n hx hb dX0_row_72 rfl (lv_at hl 1 rfl) ?_
          refine lv_dup hx hb dX0_row_73 rfl ?_
          refine gt_X_rows (V := (x_rows u)) hx hb hts hin0 hown hK hP hf_34 (rq_x_rows_rowRules u (vp_updL (x_rowRules u) (x_rows u).toNatClampNeg (((pf_X0_allOf p0) &&& ((pf_X0_placeOf p0 p1) ^^^ (-1 : Int64))) ||| (pf_X0_keeping p2 p3 p4)))) dX0_row_74 ?_
          refine lv_iconst (v := (1 : Int32)) hx hb dX0_row_77 (by decide) ?_
          refine lv_iadd hx hb dX0_row_78 ?_
          refine pt_X_rows hx hb hts hin0 hown hK hP hD hS hf_34 dX0_row_79 (fun H locs hP hD hS => ?_)
          refine lv_aload_n hx hb dX0_row_82 rfl (lv_at hl 1 rfl) ?_
          refine lv_iload_n hx hb dX0_row_83 rfl (lv_at hl 4 rfl) ?_
          refine lv_iconst (v := (0 : Int32)) hx hb dX0_row_84 (by decide) ?_
          obtain ⟨q_12, hc_12, h⟩ := ob_some h
          have hPc := hP
          have hDc := hD
          have hKc := hK
          have hFc := fr_X hD hS hA
          refine va_callv (va_runV (As := [.int p2, .int (0 : Int32)]) (rest := []) ⟨hx, hb, hml, hown, hts⟩ (c_X0_startAlternatives l dC dI hs ka H.size fu (xs_rows (xs_rowRules u (vp_updL (x_rowRules u) (x_rows u).toNatClampNeg (((pf_X0_allOf p0) &&& ((pf_X0_placeOf p0 p1) ^^^ (-1 : Int64))) ||| (pf_X0_keeping p2 p3 p4)))) ((x_rows u) + (1 : Int32))) p2 (0 : Int32) q_12 hc_12) (cwV 2 hts gX0_row_X0_startAlternatives rfl rfl rfl (by decide +kernel) ⟨Nat.le_of_ble_eq_true rfl, Nat.le_of_ble_eq_true rfl⟩) ⟨fun a U g mk q => by obtain ⟨q0, q1, qP, qK, qD⟩ := q; exact ⟨q0, q1, qP, va_K.moved (u := U) (U := U.calling g mk a) (Vm.Alike.refl U.vm) qK, qD⟩, rc_X hKc hPc, fun U hU hW => ⟨rfl, by rw [hU], by rw [hU]; exact hPc, va_K.moved hW.alike hKc, hDc.weaken (fun _ _ _ _ => trivial)⟩⟩ rfl rfl hl.1 rfl (lv_room (Nat.le_of_ble_eq_true rfl)) dX0_row_85 ⟨Nat.zero_le _, Nat.zero_le _⟩) hS (fun q _ h => hFc q h) hFc (fun u_c12 t H1 locs ht hvm hw hB hz1 hk1 hS => ?_)
          subst u_c12
          obtain ⟨hP1, hK1, hD1⟩ := hB
          rw [ht] at hP1
          obtain ⟨hP, hD⟩ := jw_X hP hD hk1 hFc hP1 hD1
          clear hPc hDc hKc hFc hz1 hk1 hP1 hK1 hD1
          generalize H1 = H at hP hS ⊢
          refine lv_iconst (v := (1 : Int32)) hx hb dX0_row_88 (by decide) ?_
          have e9 := Option.some.inj h
          exact W.zret (v := (1 : Int32)) hx hb hr rfl (fun t ht hW => ⟨⟨(1 : Int32), q_12, rfl, ⟨congrArg Prod.fst e9, congrArg Prod.snd e9⟩, by rw [ht]; exact hP, va_K.moved hW.alike hK, hD⟩, hS.F ht⟩) hS.2.2 dX0_row_89
        · rw [if_pos c_7] at h
          refine lv_iconst (v := (0 : Int32)) hx hb dX0_row_34 (by decide) ?_
          have e9 := Option.some.inj h
          exact W.zret (v := (0 : Int32)) hx hb hr rfl (fun t ht hW => ⟨⟨(0 : Int32), u, rfl, ⟨congrArg Prod.fst e9, congrArg Prod.snd e9⟩, by rw [ht]; exact hP, va_K.moved hW.alike hK, hD⟩, hS.F ht⟩) hS.2.2 dX0_row_35
set_option maxHeartbeats 4000000 in
set_option maxRecDepth 100000 in
theorem c_X0_positionOf (l : Launch) (dC : Nat → ClassId) (dI : Nat → Nat → Nat) (hs : Nat → Nat) (ka : Nat → ClassId) (sz : Nat) (fu : Nat) (u : XS) (p0 : Int32) (r : Int32) (h : pf_X0_positionOf fu p0 u = some r) : Met l yX0_positionOf wzX0_positionOf ({ frames := 0, cells := 0, slots := 0, locals := 0 }) (va_Pc [.ref (hs 0), .int p0] (fun U => U.heap.size = sz ∧ va_P (dC, dI) vwCl (cX hs ka u) U.heap ∧ va_K (dC, dI) vwCl (tX ka) U ∧ va_D (fun _ => True) (cX hs ka u))) (va_Qi (fun (r1 : Int32) (u1 : XS) => r1 = r ∧ u1 = u) (aX dC dI (va_A (cX hs ka u) sz) hs ka) (va_A (cX hs ka u) sz)) 0 0 (va_A (cX hs ka u) sz) := by
  refine Met.ofW (cc := cX0_positionOf) (maxL := 3) (ret := (some .int)) (by decide) rfl ?_
  intro p e s m args below meth c s₁ B hml hv
  obtain ⟨rfl, hsz, hP, hK, hD0⟩ := hv
  have hx := B.exec
  have hb := B.bytes
  have hr := B.returns
  have hts := atoms_spec (ws := wzX0_positionOf) B.pre
  have hown : s.vm.findClass RX0 = some m.cls := findClass_of_methodNamed B.named
  have hlocks := B.notSynchronized
  subst hsz
  have hD := hD0.self (sz := s.heap.size)
  generalize hAe : va_A (cX hs ka u) s.heap.size = A at hD ⊢
  have hA : ∀ q : Nat, s.heap.size ≤ q → A q := fun q h => by rw [← hAe]; exact Or.inr h
  have hS : va_S A s.heap s.heap [] := va_S.rf
  have hP : va_P (dC, dI) vwCl (cX hs ka u) s.heap := hP
  clear hD0 hAe
  have hin0 : ∀ w ∈ u_ws RX0 TX0 14, w ∈ wzX0_positionOf := fun w h => List.mem_cons_of_mem _ (inTX0 w h)
  have hf_16 := hts (.fieldLink RX0 16 "ConflictSolve" "order" "[I") (List.mem_cons_of_mem _ tz_44)
  have hl := lv_entry ([.ref (hs 0), .int p0]) (n := 3) (Nat.le_of_ble_eq_true rfl)
  rw [lg_entry_eq]
  generalize (lg_sl ([.ref (hs 0), .int p0]) ++ List.replicate (3 - (lg_sl ([.ref (hs 0), .int p0])).length) Slot.unset).toArray = ls at hl ⊢
  have hl : lv_has ls 3 [(0, .ref (hs 0)), (1, .int p0)] := hl
  rw [pf_X0_positionOf] at h
  refine lv_iconst (v := (0 : Int32)) hx hb dX0_positionOf_0 (by decide) ?_
  refine lv_istore_n (lv' := [(2, .int (0 : Int32)), (0, .ref (hs 0)), (1, .int p0)]) hx hb dX0_positionOf_1 rfl hl (by decide) rfl (fun ls hl => ?_)
  have lp_2 : ∀ K_2 : Int32 → Option (Int32), (∀ (x2_2 : Int32) (H : Heap) (locs : List Loc) (ls : Array Slot), K_2 x2_2 = some r → va_P (dC, dI) vwCl (cX hs ka u) H → va_D A (cX hs ka u) → va_S A s.heap H locs → lv_has ls 3 [(2, .int x2_2), (0, .ref (hs 0)), (1, .int p0)] → W p l e (headSpec wzX0_positionOf ({ frames := 0, cells := 0, slots := 0, locals := 0 })).room s m ([.ref (hs 0), .int p0] : List Value).toArray below meth c H locs 0 0 (MQ below (va_Qi (fun (r1 : Int32) (u1 : XS) => r1 = r ∧ u1 = u) (aX dC dI A hs ka) A) ([.ref (hs 0), .int p0] : List Value).toArray s 0 0 A) (F0 m 26 ls [])) → ∀ n_2 : Nat, ∀ (x2_2 : Int32) (H : Heap) (locs : List Loc) (ls : Array Slot), pl_X0_positionOf_2 fu p0 u K_2 n_2 x2_2 = some r → va_P (dC, dI) vwCl (cX hs ka u) H → va_D A (cX hs ka u) → va_S A s.heap H locs → lv_has ls 3 [(2, .int x2_2), (0, .ref (hs 0)), (1, .int p0)] → W p l e (headSpec wzX0_positionOf ({ frames := 0, cells := 0, slots := 0, locals := 0 })).room s m ([.ref (hs 0), .int p0] : List Value).toArray below meth c H locs 0 0 (MQ below (va_Qi (fun (r1 : Int32) (u1 : XS) => r1 = r ∧ u1 = u) (aX dC dI A hs ka) A) ([.ref (hs 0), .int p0] : List Value).toArray s 0 0 A) (F0 m 2 ls []) := by
    intro K_2 hk_2 n_2
    induction n_2 with
    | zero =>
      intro x2_2 H locs ls h
      exact absurd (show (none : Option (Int32)) = some r from h) (fun q => by cases q)
    | succ n_2 ih_2 =>
      intro x2_2 H locs ls h hP hD hS hl
      rw [pl_X0_positionOf_2] at h
      refine lv_iload_n hx hb dX0_positionOf_2 rfl (lv_at hl 0 rfl) ?_
      refine lv_bipush (v := (8 : Int32)) hx hb dX0_positionOf_3 (by decide) ?_
      refine lv_icmp_ge (tgt := 26) hx hb dX0_positionOf_5 (by decide) (fun c_1 => ?_) (fun c_1 => ?_)
      · rw [if_pos c_1] at h
        exact hk_2 x2_2 _ _ _ h hP hD hS (lv_sub hl [0, 1, 2] rfl)
      · rw [if_neg c_1] at h
        refine lv_aload_n hx hb dX0_positionOf_8 rfl (lv_at hl 1 rfl) ?_
        refine gt_X_order hx hb hts hin0 hown hK hP hf_16 dX0_positionOf_9 ?_
        refine lv_iload_n hx hb dX0_positionOf_12 rfl (lv_at hl 0 rfl) ?_
        obtain ⟨g_2, h⟩ := og_some h
        refine ld_X_order (F := (x_order u)) hx hb hK hP rfl (inb_in g_2) dX0_positionOf_13 ?_
        refine lv_iload_n hx hb dX0_positionOf_14 rfl (lv_at hl 2 rfl) ?_
        refine lv_icmp_ne (tgt := 20) hx hb dX0_positionOf_15 (by decide) (fun c_3 => ?_) (fun c_3 => ?_)
        · rw [if_neg c_3] at h
          refine lv_iinc (v := (x2_2 + (1 : Int32))) (lv' := [(2, .int (x2_2 + (1 : Int32))), (0, .ref (hs 0)), (1, .int p0)]) hx hb dX0_positionOf_20 hl (k := 0) rfl (congrArg (fun z : Int32 => x2_2 + z) (by decide : Int32.ofInt (1) = (1 : Int32))) (by decide) rfl (fun ls hl => ?_)
          refine lv_goto (tgt := 2) hx hb dX0_positionOf_23 (by decide) ?_
          exact ih_2 (x2_2 + (1 : Int32)) _ _ _ h hP hD hS (lv_sub hl [0, 1, 2] rfl)
        · rw [if_pos c_3] at h
          refine lv_iload_n hx hb dX0_positionOf_18 rfl (lv_at hl 0 rfl) ?_
          have e9 := Option.some.inj h
          exact W.iret (v := x2_2) hx hb hr (fun t ht hW => ⟨⟨x2_2, u, rfl, ⟨e9, rfl⟩, by rw [ht]; exact hP, va_K.moved hW.alike hK, hD⟩, hS.F ht⟩) hS.2.2 dX0_positionOf_19
  refine lp_2 _ (fun x2_2 H locs ls h hP hD hS hl => ?_) fu (0 : Int32) _ _ _ h hP hD hS hl
  refine lv_bipush (v := (8 : Int32)) hx hb dX0_positionOf_26 (by decide) ?_
  have e9 := Option.some.inj h
  exact W.iret (v := (8 : Int32)) hx hb hr (fun t ht hW => ⟨⟨(8 : Int32), u, rfl, ⟨e9, rfl⟩, by rw [ht]; exact hP, va_K.moved hW.alike hK, hD⟩, hS.F ht⟩) hS.2.2 dX0_positionOf_28
set_option maxHeartbeats 4000000 in
set_option maxRecDepth 100000 in
theorem c_X0_moveToNeeded (l : Launch) (dC : Nat → ClassId) (dI : Nat → Nat → Nat) (hs : Nat → Nat) (ka : Nat → ClassId) (sz : Nat) (fu : Nat) (u : XS) (p0 : Int32) (u' : XS) (h : pf_X0_moveToNeeded fu p0 u = some u') : Met l yX0_moveToNeeded wzX0_moveToNeeded ({ frames := 1, cells := 0, slots := 0, locals := 22 }) (va_Pc [.ref (hs 0), .int p0] (fun U => U.heap.size = sz ∧ va_P (dC, dI) vwCl (cX hs ka u) U.heap ∧ va_K (dC, dI) vwCl (tX ka) U ∧ va_D (fun _ => True) (cX hs ka u))) (va_Qv (fun (u1 : XS) => u1 = u') (aX dC dI (va_A (cX hs ka u) sz) hs ka) (va_A (cX hs ka u) sz)) 0 0 (va_A (cX hs ka u) sz) := by
  refine Met.ofW (cc := cX0_moveToNeeded) (maxL := 4) (ret := none) (by decide) rfl ?_
  intro p e s m args below meth c s₁ B hml hv
  obtain ⟨rfl, hsz, hP, hK, hD0⟩ := hv
  have hx := B.exec
  have hb := B.bytes
  have hr := B.returns
  have hts := atoms_spec (ws := wzX0_moveToNeeded) B.pre
  have hown : s.vm.findClass RX0 = some m.cls := findClass_of_methodNamed B.named
  have hlocks := B.notSynchronized
  subst hsz
  have hD := hD0.self (sz := s.heap.size)
  generalize hAe : va_A (cX hs ka u) s.heap.size = A at hD ⊢
  have hA : ∀ q : Nat, s.heap.size ≤ q → A q := fun q h => by rw [← hAe]; exact Or.inr h
  have hS : va_S A s.heap s.heap [] := va_S.rf
  have hP : va_P (dC, dI) vwCl (cX hs ka u) s.heap := hP
  clear hD0 hAe
  have hin0 : ∀ w ∈ u_ws RX0 TX0 14, w ∈ wzX0_moveToNeeded := fun w h => List.mem_cons_of_mem _ (inTX0 w h)
  have hf_133 := hts (.fieldLink RX0 133 "ConflictSolve" "neededPacks" "I") (List.mem_cons_of_mem _ tz_48)
  have hf_16 := hts (.fieldLink RX0 16 "ConflictSolve" "order" "[I") (List.mem_cons_of_mem _ tz_44)
  have hl := lv_entry ([.ref (hs 0), .int p0]) (n := 4) (Nat.le_of_ble_eq_true rfl)
  rw [lg_entry_eq]
  generalize (lg_sl ([.ref (hs 0), .int p0]) ++ List.replicate (4 - (lg_sl ([.ref (hs 0), .int p0])).length) Slot.unset).toArray = ls at hl ⊢
  have hl : lv_has ls 4 [(0, .ref (hs 0)), (1, .int p0)] := hl
  rw [pf_X0_moveToNeeded] at h
  refine lv_aload_n hx hb dX0_moveToNeeded_0 rfl (lv_at hl 0 rfl) ?_
  refine lv_iload_n hx hb dX0_moveToNeeded_1 rfl (lv_at hl 1 rfl) ?_
  obtain ⟨q_1, hc_1, h⟩ := ob_some h
  have hPc := hP
  have hDc := hD
  have hKc := hK
  have hFc := fr_X hD hS hA
  refine va_calli (va_runV (As := [.int p0]) (rest := []) ⟨hx, hb, hml, hown, hts⟩ (c_X0_positionOf l dC dI hs ka s.heap.size fu u p0 q_1 hc_1) (cwV 1 hts gX0_moveToNeeded_X0_positionOf rfl rfl rfl (by decide +kernel) ⟨Nat.le_of_ble_eq_true rfl, Nat.le_of_ble_eq_true rfl⟩) ⟨fun a U g mk q => by obtain ⟨q0, q1, qP, qK, qD⟩ := q; exact ⟨q0, q1, qP, va_K.moved (u := U) (U := U.calling g mk a) (Vm.Alike.refl U.vm) qK, qD⟩, rc_X hKc hPc, fun U hU hW => ⟨rfl, by rw [hU], by rw [hU]; exact hPc, va_K.moved hW.alike hKc, hDc.weaken (fun _ _ _ _ => trivial)⟩⟩ rfl rfl hl.1 rfl (lv_room (Nat.le_of_ble_eq_true rfl)) dX0_moveToNeeded_2 ⟨Nat.zero_le _, Nat.zero_le _⟩) hS (fun q _ h => hFc q h) hFc (fun r_1 u_c1 t H1 locs ht hvm hw hB hz1 hk1 hS => ?_)
  obtain ⟨hw1, hw2⟩ := hw
  subst r_1
  subst u_c1
  obtain ⟨hP1, hK1, hD1⟩ := hB
  rw [ht] at hP1
  obtain ⟨hP, hD⟩ := jw_X hP hD hk1 hFc hP1 hD1
  clear hPc hDc hKc hFc hz1 hk1 hP1 hK1 hD1
  generalize H1 = H at hP hS ⊢
  refine lv_istore_n (lv' := [(2, .int q_1), (0, .ref (hs 0)), (1, .int p0)]) hx hb dX0_moveToNeeded_5 rfl hl (by decide) rfl (fun ls hl => ?_)
  refine lv_iload_n hx hb dX0_moveToNeeded_6 rfl (lv_at hl 0 rfl) ?_
  refine lv_aload_n hx hb dX0_moveToNeeded_7 rfl (lv_at hl 1 rfl) ?_
  refine gt_X_neededPacks (V := (x_neededPacks u)) hx hb hts hin0 hown hK hP hf_133 rfl dX0_moveToNeeded_8 ?_
  refine lv_icmp_lt (tgt := 20) hx hb dX0_moveToNeeded_11 (by decide) (fun c_2 => ?_) (fun c_2 => ?_)
  · rw [if_pos c_2] at h
    have e9 := Option.some.inj h
    exact W.vret hx hb hr (fun t ht hW => ⟨⟨u, rfl, e9, by rw [ht]; exact hP, va_K.moved hW.alike hK, hD⟩, hS.F ht⟩) hS.2.2 dX0_moveToNeeded_20
  · rw [if_neg c_2] at h
    refine lv_iload_n hx hb dX0_moveToNeeded_14 rfl (lv_at hl 0 rfl) ?_
    refine lv_bipush (v := (8 : Int32)) hx hb dX0_moveToNeeded_15 (by decide) ?_
    refine lv_icmp_lt (tgt := 21) hx hb dX0_moveToNeeded_17 (by decide) (fun c_3 => ?_) (fun c_3 => ?_)
    · rw [if_pos c_3] at h
      refine lv_iload_n hx hb dX0_moveToNeeded_21 rfl (lv_at hl 0 rfl) ?_
      refine lv_istore_n (lv' := [(3, .int q_1), (2, .int q_1), (0, .ref (hs 0)), (1, .int p0)]) hx hb dX0_moveToNeeded_22 rfl hl (by decide) rfl (fun ls hl => ?_)
      have lp_23 : ∀ K_23 : Int32 → XS → Option (XS), (∀ (x3_23 : Int32) (u_23 : XS) (H : Heap) (locs : List Loc) (ls : Array Slot), K_23 x3_23 u_23 = some u' → va_P (dC, dI) vwCl (cX hs ka u_23) H → va_D A (cX hs ka u_23) → va_S A s.heap H locs → lv_has ls 4 [(3, .int x3_23), (2, .int q_1), (0, .ref (hs 0)), (1, .int p0)] → W p l e (headSpec wzX0_moveToNeeded ({ frames := 1, cells := 0, slots := 0, locals := 22 })).room s m ([.ref (hs 0), .int p0] : List Value).toArray below meth c H locs 0 0 (MQ below (va_Qv (fun (u1 : XS) => u1 = u') (aX dC dI A hs ka) A) ([.ref (hs 0), .int p0] : List Value).toArray s 0 0 A) (F0 m 51 ls [])) → ∀ n_23 : Nat, ∀ (x3_23 : Int32) (u_23 : XS) (H : Heap) (locs : List Loc) (ls : Array Slot), pl_X0_moveToNeeded_23 fu K_23 n_23 x3_23 u_23 = some u' → va_P (dC, dI) vwCl (cX hs ka u_23) H → va_D A (cX hs ka u_23) → va_S A s.heap H locs → lv_has ls 4 [(3, .int x3_23), (2, .int q_1), (0, .ref (hs 0)), (1, .int p0)] → W p l e (headSpec wzX0_moveToNeeded ({ frames := 1, cells := 0, slots := 0, locals := 22 })).room s m ([.ref (hs 0), .int p0] : List Value).toArray below meth c H locs 0 0 (MQ below (va_Qv (fun (u1 : XS) => u1 = u') (aX dC dI A hs ka) A) ([.ref (hs 0), .int p0] : List Value).toArray s 0 0 A) (F0 m 23 ls []) := by
        intro K_23 hk_23 n_23
        induction n_23 with
        | zero =>
          intro x3_23 u_23 H locs ls h
          exact absurd (show (none : Option (XS)) = some u' from h) (fun q => by cases q)
        | succ n_23 ih_23 =>
          intro x3_23 u_23 H locs ls h hP hD hS hl
          rw [pl_X0_moveToNeeded_23] at h
          refine lv_iload_n hx hb dX0_moveToNeeded_23 rfl (lv_at hl 0 rfl) ?_
          refine lv_aload_n hx hb dX0_moveToNeeded_24 rfl (lv_at hl 2 rfl) ?_
          refine gt_X_neededPacks (V := (x_neededPacks u_23)) hx hb hts hin0 hown hK hP hf_133 rfl dX0_moveToNeeded_25 ?_
          refine lv_icmp_le (tgt := 51) hx hb dX0_moveToNeeded_28 (by decide) (fun c_4 => ?_) (fun c_4 => ?_)
          · rw [if_pos c_4] at h
            exact hk_23 x3_23 u_23 _ _ _ h hP hD hS (lv_sub hl [0, 1, 2, 3] rfl)
          · rw [if_neg c_4] at h
            refine lv_aload_n hx hb dX0_moveToNeeded_31 rfl (lv_at hl 2 rfl) ?_
            refine gt_X_order hx hb hts hin0 hown hK hP hf_16 dX0_moveToNeeded_32 ?_
            refine lv_iload_n hx hb dX0_moveToNeeded_35 rfl (lv_at hl 0 rfl) ?_
            refine lv_aload_n hx hb dX0_moveToNeeded_36 rfl (lv_at hl 2 rfl) ?_
            refine gt_X_order hx hb hts hin0 hown hK hP hf_16 dX0_moveToNeeded_37 ?_
            refine lv_iload_n hx hb dX0_moveToNeeded_40 rfl (lv_at hl 0 rfl) ?_
            refine lv_iconst (v := (1 : Int32)) hx hb dX0_moveToNeeded_41 (by decide) ?_
            refine lv_isub hx hb dX0_moveToNeeded_42 ?_
            obtain ⟨g_5, h⟩ := og_some h
            refine ld_X_order (F := (x_order u_23)) hx hb hK hP rfl (inb_in g_5) dX0_moveToNeeded_43 ?_
            obtain ⟨g_6, h⟩ := og_some h
            refine sr_X_order (F := (x_order u_23)) hx hb hK hP hD hS rfl (inb_in g_6) dX0_moveToNeeded_44 (fun H locs hP hD hS => ?_)
            refine lv_iinc (v := (x3_23 + (-1 : Int32))) (lv' := [(3, .int (x3_23 + (-1 : Int32))), (2, .int q_1), (0, .ref (hs 0)), (1, .int p0)]) hx hb dX0_moveToNeeded_45 hl (k := 0) rfl (congrArg (fun z : Int32 => x3_23 + z) (by decide : Int32.ofInt (-1) = (-1 : Int32))) (by decide) rfl (fun ls hl => ?_)
            refine lv_goto (tgt := 23) hx hb dX0_moveToNeeded_48 (by decide) ?_
            exact ih_23 (x3_23 + (-1 : Int32)) (xs_order u_23 (upd (x_order u_23) x3_23.toNatClampNeg ((x_order u_23) (x3_23 - (1 : Int32)).toNatClampNeg))) _ _ _ h hP hD hS (lv_sub hl [0, 1, 2, 3] rfl)
      refine lp_23 _ (fun x3_23 u_23 H locs ls h hP hD hS hl => ?_) fu q_1 u _ _ _ h hP hD hS hl
      refine lv_aload_n hx hb dX0_moveToNeeded_51 rfl (lv_at hl 2 rfl) ?_
      refine gt_X_order hx hb hts hin0 hown hK hP hf_16 dX0_moveToNeeded_52 ?_
      refine lv_aload_n hx hb dX0_moveToNeeded_55 rfl (lv_at hl 2 rfl) ?_
      refine gt_X_neededPacks (V := (x_neededPacks u_23)) hx hb hts hin0 hown hK hP hf_133 rfl dX0_moveToNeeded_56 ?_
      refine lv_iload_n hx hb dX0_moveToNeeded_59 rfl (lv_at hl 3 rfl) ?_
      obtain ⟨g_7, h⟩ := og_some h
      refine sr_X_order (F := (x_order u_23)) hx hb hK hP hD hS rfl (inb_in g_7) dX0_moveToNeeded_60 (fun H locs hP hD hS => ?_)
      refine lv_aload_n hx hb dX0_moveToNeeded_61 rfl (lv_at hl 2 rfl) ?_
      refine lv_dup hx hb dX0_moveToNeeded_62 rfl ?_
      refine gt_X_neededPacks (V := (x_neededPacks u_23)) hx hb hts hin0 hown hK hP hf_133 (rq_x_neededPacks_order u_23 (upd (x_order u_23) (x_neededPacks u_23).toNatClampNeg p0)) dX0_moveToNeeded_63 ?_
      refine lv_iconst (v := (1 : Int32)) hx hb dX0_moveToNeeded_66 (by decide) ?_
      refine lv_iadd hx hb dX0_moveToNeeded_67 ?_
      refine pt_X_neededPacks hx hb hts hin0 hown hK hP hD hS hf_133 dX0_moveToNeeded_68 (fun H locs hP hD hS => ?_)
      have e9 := Option.some.inj h
      exact W.vret hx hb hr (fun t ht hW => ⟨⟨(xs_neededPacks (xs_order u_23 (upd (x_order u_23) (x_neededPacks u_23).toNatClampNeg p0)) ((x_neededPacks u_23) + (1 : Int32))), rfl, e9, by rw [ht]; exact hP, va_K.moved hW.alike hK, hD⟩, hS.F ht⟩) hS.2.2 dX0_moveToNeeded_71
    · rw [if_neg c_3] at h
      have e9 := Option.some.inj h
      exact W.vret hx hb hr (fun t ht hW => ⟨⟨u, rfl, e9, by rw [ht]; exact hP, va_K.moved hW.alike hK, hD⟩, hS.F ht⟩) hS.2.2 dX0_moveToNeeded_20
set_option maxHeartbeats 4000000 in
set_option maxRecDepth 100000 in
theorem c_X0_demand (l : Launch) (dC : Nat → ClassId) (dI : Nat → Nat → Nat) (hs : Nat → Nat) (ka : Nat → ClassId) (sz : Nat) (fu : Nat) (u : XS) (p0 : Int32) (p1 : Int32) (p2 : Int32) (r : Int32) (u' : XS) (h : pf_X0_demand fu p0 p1 p2 u = some (r, u')) : Met l yX0_demand wzX0_demand ({ frames := 2, cells := 0, slots := 0, locals := 45 }) (va_Pc [.ref (hs 0), .int p0, .int p1, .int p2] (fun U => U.heap.size = sz ∧ va_P (dC, dI) vwCl (cX hs ka u) U.heap ∧ va_K (dC, dI) vwCl (tX ka) U ∧ va_D (fun _ => True) (cX hs ka u))) (va_Qi (fun (r1 : Int32) (u1 : XS) => r1 = r ∧ u1 = u') (aX dC dI (va_A (cX hs ka u) sz) hs ka) (va_A (cX hs ka u) sz)) 0 0 (va_A (cX hs ka u) sz) := by
  refine Met.ofW (cc := cX0_demand) (maxL := 5) (ret := (some .int)) (by decide) rfl ?_
  intro p e s m args below meth c s₁ B hml hv
  obtain ⟨rfl, hsz, hP, hK, hD0⟩ := hv
  have hx := B.exec
  have hb := B.bytes
  have hr := B.returns
  have hts := atoms_spec (ws := wzX0_demand) B.pre
  have hown : s.vm.findClass RX0 = some m.cls := findClass_of_methodNamed B.named
  have hlocks := B.notSynchronized
  subst hsz
  have hD := hD0.self (sz := s.heap.size)
  generalize hAe : va_A (cX hs ka u) s.heap.size = A at hD ⊢
  have hA : ∀ q : Nat, s.heap.size ≤ q → A q := fun q h => by rw [← hAe]; exact Or.inr h
  have hS : va_S A s.heap s.heap [] := va_S.rf
  have hP : va_P (dC, dI) vwCl (cX hs ka u) s.heap := hP
  clear hD0 hAe
  have hin0 : ∀ w ∈ u_ws RX0 TX0 14, w ∈ wzX0_demand := fun w h => List.mem_cons_of_mem _ (inTX0 w h)
  have hf_13 := hts (.fieldLink RX0 13 "ConflictSolve" "demandRules" "[J") (List.mem_cons_of_mem _ tz_43)
  have hf_65 := hts (.fieldLink RX0 65 "ConflictSolve" "demands" "I") (List.mem_cons_of_mem _ tz_47)
  have hl := lv_entry ([.ref (hs 0), .int p0, .int p1, .int p2]) (n := 5) (Nat.le_of_ble_eq_true rfl)
  rw [lg_entry_eq]
  generalize (lg_sl ([.ref (hs 0), .int p0, .int p1, .int p2]) ++ List.replicate (5 - (lg_sl ([.ref (hs 0), .int p0, .int p1, .int p2])).length) Slot.unset).toArray = ls at hl ⊢
  have hl : lv_has ls 5 [(0, .ref (hs 0)), (1, .int p0), (2, .int p1), (3, .int p2)] := hl
  rw [pf_X0_demand] at h
  refine lv_aload_n hx hb dX0_demand_0 rfl (lv_at hl 0 rfl) ?_
  refine gt_X_demands (V := (x_demands u)) hx hb hts hin0 hown hK hP hf_65 rfl dX0_demand_1 ?_
  refine lv_bipush (v := (12 : Int32)) hx hb dX0_demand_4 (by decide) ?_
  refine lv_icmp_ge (tgt := 24) hx hb dX0_demand_6 (by decide) (fun c_1 => ?_) (fun c_1 => ?_)
  · rw [if_pos c_1] at h
    refine lv_iconst (v := (-1 : Int32)) hx hb dX0_demand_24 (by decide) ?_
    have e9 := Option.some.inj h
    exact W.iret (v := (-1 : Int32)) hx hb hr (fun t ht hW => ⟨⟨(-1 : Int32), u, rfl, ⟨congrArg Prod.fst e9, congrArg Prod.snd e9⟩, by rw [ht]; exact hP, va_K.moved hW.alike hK, hD⟩, hS.F ht⟩) hS.2.2 dX0_demand_25
  · rw [if_neg c_1] at h
    refine lv_iload_n hx hb dX0_demand_9 rfl (lv_at hl 1 rfl) ?_
    have hPc : va_P (dC, dI) vwCl ([] : va_W) s.heap := hP.sub [] rfl
    have hDc : va_D A ([] : va_W) := hD.sub [] (by decide) rfl
    have hKc := hK.sub (tys' := []) [] rfl
    have hFc := fn_X hD hS hA
    refine va_calli (va_runS (As := [.int p0]) (rest := []) ⟨hx, hb, hml, hown, hts⟩ (c_X0_isKind l dC dI s.heap.size p0 _ rfl) (va_cwS 1 hts gX0_demand_X0_isKind rfl rfl rfl (by decide +kernel) ⟨Nat.le_of_ble_eq_true rfl, Nat.le_of_ble_eq_true rfl⟩) ⟨fun a U g mk q => by obtain ⟨q0, q1, qP, qK, qD⟩ := q; exact ⟨q0, q1, qP, va_K.moved (u := U) (U := U.calling g mk a) (Vm.Alike.refl U.vm) qK, qD⟩, fun U hU hW => ⟨rfl, by rw [hU], by rw [hU]; exact hPc, va_K.moved hW.alike hKc, hDc.weaken (fun _ _ _ _ => trivial)⟩⟩ rfl rfl hl.1 rfl (lv_room (Nat.le_of_ble_eq_true rfl)) dX0_demand_10 ⟨Nat.zero_le _, Nat.zero_le _⟩) hS (fun q _ h => hFc q h) hFc (fun r_2 u_c2 t H1 locs ht hvm hw hB hz1 hk1 hS => ?_)
    subst r_2
    obtain ⟨hP1, hK1, hD1⟩ := hB
    rw [ht] at hP1
    obtain ⟨hP, hD⟩ := js_X hP hD hk1 hFc hP1 hD1
    clear hPc hDc hKc hFc hz1 hk1 hP1 hK1 hD1
    generalize H1 = H at hP hS ⊢
    refine lv_if_eq (tgt := 24) hx hb dX0_demand_13 (by decide) (fun c_3 => ?_) (fun c_3 => ?_)
    · rw [if_pos c_3] at h
      refine lv_iconst (v := (-1 : Int32)) hx hb dX0_demand_24 (by decide) ?_
      have e9 := Option.some.inj h
      exact W.iret (v := (-1 : Int32)) hx hb hr (fun t ht hW => ⟨⟨(-1 : Int32), u, rfl, ⟨congrArg Prod.fst e9, congrArg Prod.snd e9⟩, by rw [ht]; exact hP, va_K.moved hW.alike hK, hD⟩, hS.F ht⟩) hS.2.2 dX0_demand_25
    · rw [if_neg c_3] at h
      refine lv_aload_n hx hb dX0_demand_16 rfl (lv_at hl 0 rfl) ?_
      refine lv_iload_n hx hb dX0_demand_17 rfl (lv_at hl 2 rfl) ?_
      have hPc := hP
      have hDc := hD
      have hKc := hK
      have hFc := fr_X hD hS hA
      refine va_calli (va_runV (As := [.int p1]) (rest := []) ⟨hx, hb, hml, hown, hts⟩ (c_X0_hasPack l dC dI hs ka H.size u p1 _ rfl) (cwV 1 hts gX0_demand_X0_hasPack rfl rfl rfl (by decide +kernel) ⟨Nat.le_of_ble_eq_true rfl, Nat.le_of_ble_eq_true rfl⟩) ⟨fun a U g mk q => by obtain ⟨q0, q1, qP, qK, qD⟩ := q; exact ⟨q0, q1, qP, va_K.moved (u := U) (U := U.calling g mk a) (Vm.Alike.refl U.vm) qK, qD⟩, rc_X hKc hPc, fun U hU hW => ⟨rfl, by rw [hU], by rw [hU]; exact hPc, va_K.moved hW.alike hKc, hDc.weaken (fun _ _ _ _ => trivial)⟩⟩ rfl rfl hl.1 rfl (lv_room (Nat.le_of_ble_eq_true rfl)) dX0_demand_18 ⟨Nat.zero_le _, Nat.zero_le _⟩) hS (fun q _ h => hFc q h) hFc (fun r_4 u_c4 t H1 locs ht hvm hw hB hz1 hk1 hS => ?_)
      obtain ⟨hw1, hw2⟩ := hw
      subst r_4
      subst u_c4
      obtain ⟨hP1, hK1, hD1⟩ := hB
      rw [ht] at hP1
      obtain ⟨hP, hD⟩ := jw_X hP hD hk1 hFc hP1 hD1
      clear hPc hDc hKc hFc hz1 hk1 hP1 hK1 hD1
      generalize H1 = H at hP hS ⊢
      refine lv_if_ne (tgt := 26) hx hb dX0_demand_21 (by decide) (fun c_5 => ?_) (fun c_5 => ?_)
      · rw [if_neg c_5] at h
        refine lv_aload_n hx hb dX0_demand_26 rfl (lv_at hl 0 rfl) ?_
        refine gt_X_demands (V := (x_demands u)) hx hb hts hin0 hown hK hP hf_65 rfl dX0_demand_27 ?_
        refine lv_istore (lv' := [(4, .int (x_demands u)), (0, .ref (hs 0)), (1, .int p0), (2, .int p1), (3, .int p2)]) hx hb dX0_demand_30 hl (by decide) rfl (fun ls hl => ?_)
        refine lv_aload_n hx hb dX0_demand_32 rfl (lv_at hl 1 rfl) ?_
        refine gt_X_demandRules hx hb hts hin0 hown hK hP hf_13 dX0_demand_33 ?_
        refine lv_iload hx hb dX0_demand_36 (lv_at hl 0 rfl) ?_
        refine lv_iload_n hx hb dX0_demand_38 rfl (lv_at hl 2 rfl) ?_
        refine lv_iload_n hx hb dX0_demand_39 rfl (lv_at hl 3 rfl) ?_
        refine lv_iload_n hx hb dX0_demand_40 rfl (lv_at hl 4 rfl) ?_
        have hPc : va_P (dC, dI) vwCl ([] : va_W) H := hP.sub [] rfl
        have hDc : va_D A ([] : va_W) := hD.sub [] (by decide) rfl
        have hKc := hK.sub (tys' := []) [] rfl
        have hFc := fn_X hD hS hA
        refine va_calll (va_runS (As := [.int p0, .int p1, .int p2]) (rest := [.int (x_demands u), .ref (hs 2)]) ⟨hx, hb, hml, hown, hts⟩ (c_X0_keeping l dC dI H.size p0 p1 p2 _ rfl) (va_cwS 3 hts gX0_demand_X0_keeping rfl rfl rfl (by decide +kernel) ⟨Nat.le_of_ble_eq_true rfl, Nat.le_of_ble_eq_true rfl⟩) ⟨fun a U g mk q => by obtain ⟨q0, q1, qP, qK, qD⟩ := q; exact ⟨q0, q1, qP, va_K.moved (u := U) (U := U.calling g mk a) (Vm.Alike.refl U.vm) qK, qD⟩, fun U hU hW => ⟨rfl, by rw [hU], by rw [hU]; exact hPc, va_K.moved hW.alike hKc, hDc.weaken (fun _ _ _ _ => trivial)⟩⟩ rfl rfl hl.1 rfl (lv_room (Nat.le_of_ble_eq_true rfl)) dX0_demand_41 ⟨Nat.zero_le _, Nat.zero_le _⟩) hS (fun q _ h => hFc q h) hFc (fun r_6 u_c6 t H1 locs ht hvm hw hB hz1 hk1 hS => ?_)
        subst r_6
        obtain ⟨hP1, hK1, hD1⟩ := hB
        rw [ht] at hP1
        obtain ⟨hP, hD⟩ := js_X hP hD hk1 hFc hP1 hD1
        clear hPc hDc hKc hFc hz1 hk1 hP1 hK1 hD1
        generalize H1 = H at hP hS ⊢
        obtain ⟨g_7, h⟩ := og_some h
        refine sr_X_demandRules (F := (x_demandRules u)) hx hb hK hP hD hS rfl (inb_in g_7) dX0_demand_44 (fun H locs hP hD hS => ?_)
        refine lv_aload_n hx hb dX0_demand_45 rfl (lv_at hl 1 rfl) ?_
        refine lv_dup hx hb dX0_demand_46 rfl ?_
        refine gt_X_demands (V := (x_demands u)) hx hb hts hin0 hown hK hP hf_65 (rq_x_demands_demandRules u (vp_updL (x_demandRules u) (x_demands u).toNatClampNeg (pf_X0_keeping p0 p1 p2))) dX0_demand_47 ?_
        refine lv_iconst (v := (1 : Int32)) hx hb dX0_demand_50 (by decide) ?_
        refine lv_iadd hx hb dX0_demand_51 ?_
        refine pt_X_demands hx hb hts hin0 hown hK hP hD hS hf_65 dX0_demand_52 (fun H locs hP hD hS => ?_)
        refine lv_aload_n hx hb dX0_demand_55 rfl (lv_at hl 1 rfl) ?_
        refine lv_iload_n hx hb dX0_demand_56 rfl (lv_at hl 2 rfl) ?_
        refine lv_iconst (v := (1 : Int32)) hx hb dX0_demand_57 (by decide) ?_
        obtain ⟨q_8, hc_8, h⟩ := ob_some h
        have hPc := hP
        have hDc := hD
        have hKc := hK
        have hFc := fr_X hD hS hA
        refine va_callv (va_runV (As := [.int p0, .int (1 : Int32)]) (rest := []) ⟨hx, hb, hml, hown, hts⟩ (c_X0_startAlternatives l dC dI hs ka H.size fu (xs_demands (xs_demandRules u (vp_updL (x_demandRules u) (x_demands u).toNatClampNeg (pf_X0_keeping p0 p1 p2))) ((x_demands u) + (1 : Int32))) p0 (1 : Int32) q_8 hc_8) (cwV 2 hts gX0_demand_X0_startAlternatives rfl rfl rfl (by decide +kernel) ⟨Nat.le_of_ble_eq_true rfl, Nat.le_of_ble_eq_true rfl⟩) ⟨fun a U g mk q => by obtain ⟨q0, q1, qP, qK, qD⟩ := q; exact ⟨q0, q1, qP, va_K.moved (u := U) (U := U.calling g mk a) (Vm.Alike.refl U.vm) qK, qD⟩, rc_X hKc hPc, fun U hU hW => ⟨rfl, by rw [hU], by rw [hU]; exact hPc, va_K.moved hW.alike hKc, hDc.weaken (fun _ _ _ _ => trivial)⟩⟩ rfl rfl hl.1 rfl (lv_room (Nat.le_of_ble_eq_true rfl)) dX0_demand_58 ⟨Nat.zero_le _, Nat.zero_le _⟩) hS (fun q _ h => hFc q h) hFc (fun u_c8 t H1 locs ht hvm hw hB hz1 hk1 hS => ?_)
        subst u_c8
        obtain ⟨hP1, hK1, hD1⟩ := hB
        rw [ht] at hP1
        obtain ⟨hP, hD⟩ := jw_X hP hD hk1 hFc hP1 hD1
        clear hPc hDc hKc hFc hz1 hk1 hP1 hK1 hD1
        generalize H1 = H at hP hS ⊢
        refine lv_iload_n hx hb dX0_demand_61 rfl (lv_at hl 2 rfl) ?_
        refine lv_if_ne (tgt := 70) hx hb dX0_demand_62 (by decide) (fun c_9 => ?_) (fun c_9 => ?_)
        · rw [if_neg c_9] at h
          refine lv_iload hx hb dX0_demand_70 (lv_at hl 0 rfl) ?_
          have e9 := Option.some.inj h
          exact W.iret (v := (x_demands u)) hx hb hr (fun t ht hW => ⟨⟨(x_demands u), q_8, rfl, ⟨congrArg Prod.fst e9, congrArg Prod.snd e9⟩, by rw [ht]; exact hP, va_K.moved hW.alike hK, hD⟩, hS.F ht⟩) hS.2.2 dX0_demand_72
        · rw [if_pos c_9] at h
          refine lv_aload_n hx hb dX0_demand_65 rfl (lv_at hl 1 rfl) ?_
          refine lv_iload_n hx hb dX0_demand_66 rfl (lv_at hl 3 rfl) ?_
          obtain ⟨q_10, hc_10, h⟩ := ob_some h
          have hPc := hP
          have hDc := hD
          have hKc := hK
          have hFc := fr_X hD hS hA
          refine va_callv (va_runV (As := [.int p1]) (rest := []) ⟨hx, hb, hml, hown, hts⟩ (c_X0_moveToNeeded l dC dI hs ka H.size fu q_8 p1 q_10 hc_10) (cwV 1 hts gX0_demand_X0_moveToNeeded rfl rfl rfl (by decide +kernel) ⟨Nat.le_of_ble_eq_true rfl, Nat.le_of_ble_eq_true rfl⟩) ⟨fun a U g mk q => by obtain ⟨q0, q1, qP, qK, qD⟩ := q; exact ⟨q0, q1, qP, va_K.moved (u := U) (U := U.calling g mk a) (Vm.Alike.refl U.vm) qK, qD⟩, rc_X hKc hPc, fun U hU hW => ⟨rfl, by rw [hU], by rw [hU]; exact hPc, va_K.moved hW.alike hKc, hDc.weaken (fun _ _ _ _ => trivial)⟩⟩ rfl rfl hl.1 rfl (lv_room (Nat.le_of_ble_eq_true rfl)) dX0_demand_67 ⟨Nat.zero_le _, Nat.zero_le _⟩) hS (fun q _ h => hFc q h) hFc (fun u_c10 t H1 locs ht hvm hw hB hz1 hk1 hS => ?_)
          subst u_c10
          obtain ⟨hP1, hK1, hD1⟩ := hB
          rw [ht] at hP1
          obtain ⟨hP, hD⟩ := jw_X hP hD hk1 hFc hP1 hD1
          clear hPc hDc hKc hFc hz1 hk1 hP1 hK1 hD1
          generalize H1 = H at hP hS ⊢
          refine lv_iload hx hb dX0_demand_70 (lv_at hl 0 rfl) ?_
          have e9 := Option.some.inj h
          exact W.iret (v := (x_demands u)) hx hb hr (fun t ht hW => ⟨⟨(x_demands u), q_10, rfl, ⟨congrArg Prod.fst e9, congrArg Prod.snd e9⟩, by rw [ht]; exact hP, va_K.moved hW.alike hK, hD⟩, hS.F ht⟩) hS.2.2 dX0_demand_72
      · rw [if_pos c_5] at h
        refine lv_iconst (v := (-1 : Int32)) hx hb dX0_demand_24 (by decide) ?_
        have e9 := Option.some.inj h
        exact W.iret (v := (-1 : Int32)) hx hb hr (fun t ht hW => ⟨⟨(-1 : Int32), u, rfl, ⟨congrArg Prod.fst e9, congrArg Prod.snd e9⟩, by rw [ht]; exact hP, va_K.moved hW.alike hK, hD⟩, hS.F ht⟩) hS.2.2 dX0_demand_25
set_option maxHeartbeats 4000000 in
set_option maxRecDepth 100000 in
theorem c_X0_addToLatestDemand (l : Launch) (dC : Nat → ClassId) (dI : Nat → Nat → Nat) (hs : Nat → Nat) (ka : Nat → ClassId) (sz : Nat) (fu : Nat) (u : XS) (p0 : Int32) (p1 : Int32) (u' : XS) (h : pf_X0_addToLatestDemand fu p0 p1 u = some u') : Met l yX0_addToLatestDemand wzX0_addToLatestDemand ({ frames := 2, cells := 0, slots := 0, locals := 45 }) (va_Pc [.ref (hs 0), .int p0, .int p1] (fun U => U.heap.size = sz ∧ va_P (dC, dI) vwCl (cX hs ka u) U.heap ∧ va_K (dC, dI) vwCl (tX ka) U ∧ va_D (fun _ => True) (cX hs ka u))) (va_Qv (fun (u1 : XS) => u1 = u') (aX dC dI (va_A (cX hs ka u) sz) hs ka) (va_A (cX hs ka u) sz)) 0 0 (va_A (cX hs ka u) sz) := by
  refine Met.ofW (cc := cX0_addToLatestDemand) (maxL := 3) (ret := none) (by decide) rfl ?_
  intro p e s m args below meth c s₁ B hml hv
  obtain ⟨rfl, hsz, hP, hK, hD0⟩ := hv
  have hx := B.exec
  have hb := B.bytes
  have hr := B.returns
  have hts := atoms_spec (ws := wzX0_addToLatestDemand) B.pre
  have hown : s.vm.findClass RX0 = some m.cls := findClass_of_methodNamed B.named
  have hlocks := B.notSynchronized
  subst hsz
  have hD := hD0.self (sz := s.heap.size)
  generalize hAe : va_A (cX hs ka u) s.heap.size = A at hD ⊢
  have hA : ∀ q : Nat, s.heap.size ≤ q → A q := fun q h => by rw [← hAe]; exact Or.inr h
  have hS : va_S A s.heap s.heap [] := va_S.rf
  have hP : va_P (dC, dI) vwCl (cX hs ka u) s.heap := hP
  clear hD0 hAe
  have hin0 : ∀ w ∈ u_ws RX0 TX0 14, w ∈ wzX0_addToLatestDemand := fun w h => List.mem_cons_of_mem _ (inTX0 w h)
  have hf_13 := hts (.fieldLink RX0 13 "ConflictSolve" "demandRules" "[J") (List.mem_cons_of_mem _ tz_43)
  have hf_65 := hts (.fieldLink RX0 65 "ConflictSolve" "demands" "I") (List.mem_cons_of_mem _ tz_47)
  have hl := lv_entry ([.ref (hs 0), .int p0, .int p1]) (n := 3) (Nat.le_of_ble_eq_true rfl)
  rw [lg_entry_eq]
  generalize (lg_sl ([.ref (hs 0), .int p0, .int p1]) ++ List.replicate (3 - (lg_sl ([.ref (hs 0), .int p0, .int p1])).length) Slot.unset).toArray = ls at hl ⊢
  have hl : lv_has ls 3 [(0, .ref (hs 0)), (1, .int p0), (2, .int p1)] := hl
  rw [pf_X0_addToLatestDemand] at h
  refine lv_aload_n hx hb dX0_addToLatestDemand_0 rfl (lv_at hl 0 rfl) ?_
  refine gt_X_demands (V := (x_demands u)) hx hb hts hin0 hown hK hP hf_65 rfl dX0_addToLatestDemand_1 ?_
  refine lv_if_le (tgt := 31) hx hb dX0_addToLatestDemand_4 (by decide) (fun c_1 => ?_) (fun c_1 => ?_)
  · rw [if_pos c_1] at h
    have e9 := Option.some.inj h
    exact W.vret hx hb hr (fun t ht hW => ⟨⟨u, rfl, e9, by rw [ht]; exact hP, va_K.moved hW.alike hK, hD⟩, hS.F ht⟩) hS.2.2 dX0_addToLatestDemand_31
  · rw [if_neg c_1] at h
    refine lv_aload_n hx hb dX0_addToLatestDemand_7 rfl (lv_at hl 0 rfl) ?_
    refine gt_X_demandRules hx hb hts hin0 hown hK hP hf_13 dX0_addToLatestDemand_8 ?_
    refine lv_aload_n hx hb dX0_addToLatestDemand_11 rfl (lv_at hl 0 rfl) ?_
    refine gt_X_demands (V := (x_demands u)) hx hb hts hin0 hown hK hP hf_65 rfl dX0_addToLatestDemand_12 ?_
    refine lv_iconst (v := (1 : Int32)) hx hb dX0_addToLatestDemand_15 (by decide) ?_
    refine lv_isub hx hb dX0_addToLatestDemand_16 ?_
    refine lv_dup2_11 hx hb dX0_addToLatestDemand_17 rfl rfl ?_
    obtain ⟨g_2, h⟩ := og_some h
    refine ld_X_demandRules (F := (x_demandRules u)) hx hb hK hP rfl (inb_in g_2) dX0_addToLatestDemand_18 ?_
    refine lv_iload_n hx hb dX0_addToLatestDemand_19 rfl (lv_at hl 1 rfl) ?_
    refine lv_iload_n hx hb dX0_addToLatestDemand_20 rfl (lv_at hl 2 rfl) ?_
    have hPc : va_P (dC, dI) vwCl ([] : va_W) s.heap := hP.sub [] rfl
    have hDc : va_D A ([] : va_W) := hD.sub [] (by decide) rfl
    have hKc := hK.sub (tys' := []) [] rfl
    have hFc := fn_X hD hS hA
    refine va_calll (va_runS (As := [.int p0, .int p1]) (rest := [.long ((x_demandRules u) ((x_demands u) - (1 : Int32)).toNatClampNeg), .int ((x_demands u) - (1 : Int32)), .ref (hs 2)]) ⟨hx, hb, hml, hown, hts⟩ (c_X0_versionsOf l dC dI s.heap.size p0 p1 _ rfl) (va_cwS 2 hts gX0_addToLatestDemand_X0_versionsOf rfl rfl rfl (by decide +kernel) ⟨Nat.le_of_ble_eq_true rfl, Nat.le_of_ble_eq_true rfl⟩) ⟨fun a U g mk q => by obtain ⟨q0, q1, qP, qK, qD⟩ := q; exact ⟨q0, q1, qP, va_K.moved (u := U) (U := U.calling g mk a) (Vm.Alike.refl U.vm) qK, qD⟩, fun U hU hW => ⟨rfl, by rw [hU], by rw [hU]; exact hPc, va_K.moved hW.alike hKc, hDc.weaken (fun _ _ _ _ => trivial)⟩⟩ rfl rfl hl.1 rfl (lv_room (Nat.le_of_ble_eq_true rfl)) dX0_addToLatestDemand_21 ⟨Nat.zero_le _, Nat.zero_le _⟩) hS (fun q _ h => hFc q h) hFc (fun r_3 u_c3 t H1 locs ht hvm hw hB hz1 hk1 hS => ?_)
    subst r_3
    obtain ⟨hP1, hK1, hD1⟩ := hB
    rw [ht] at hP1
    obtain ⟨hP, hD⟩ := js_X hP hD hk1 hFc hP1 hD1
    clear hPc hDc hKc hFc hz1 hk1 hP1 hK1 hD1
    generalize H1 = H at hP hS ⊢
    refine lv_lor hx hb dX0_addToLatestDemand_24 ?_
    obtain ⟨g_4, h⟩ := og_some h
    refine sr_X_demandRules (F := (x_demandRules u)) hx hb hK hP hD hS rfl (inb_in g_4) dX0_addToLatestDemand_25 (fun H locs hP hD hS => ?_)
    refine lv_aload_n hx hb dX0_addToLatestDemand_26 rfl (lv_at hl 0 rfl) ?_
    refine lv_iload_n hx hb dX0_addToLatestDemand_27 rfl (lv_at hl 1 rfl) ?_
    obtain ⟨q_5, hc_5, h⟩ := ob_some h
    have hPc := hP
    have hDc := hD
    have hKc := hK
    have hFc := fr_X hD hS hA
    refine va_callv (va_runV (As := [.int p0]) (rest := []) ⟨hx, hb, hml, hown, hts⟩ (c_X0_moveToNeeded l dC dI hs ka H.size fu (xs_demandRules u (vp_updL (x_demandRules u) ((x_demands u) - (1 : Int32)).toNatClampNeg (((x_demandRules u) ((x_demands u) - (1 : Int32)).toNatClampNeg) ||| (pf_X0_versionsOf p0 p1)))) p0 q_5 hc_5) (cwV 1 hts gX0_addToLatestDemand_X0_moveToNeeded rfl rfl rfl (by decide +kernel) ⟨Nat.le_of_ble_eq_true rfl, Nat.le_of_ble_eq_true rfl⟩) ⟨fun a U g mk q => by obtain ⟨q0, q1, qP, qK, qD⟩ := q; exact ⟨q0, q1, qP, va_K.moved (u := U) (U := U.calling g mk a) (Vm.Alike.refl U.vm) qK, qD⟩, rc_X hKc hPc, fun U hU hW => ⟨rfl, by rw [hU], by rw [hU]; exact hPc, va_K.moved hW.alike hKc, hDc.weaken (fun _ _ _ _ => trivial)⟩⟩ rfl rfl hl.1 rfl (lv_room (Nat.le_of_ble_eq_true rfl)) dX0_addToLatestDemand_28 ⟨Nat.zero_le _, Nat.zero_le _⟩) hS (fun q _ h => hFc q h) hFc (fun u_c5 t H1 locs ht hvm hw hB hz1 hk1 hS => ?_)
    subst u_c5
    obtain ⟨hP1, hK1, hD1⟩ := hB
    rw [ht] at hP1
    obtain ⟨hP, hD⟩ := jw_X hP hD hk1 hFc hP1 hD1
    clear hPc hDc hKc hFc hz1 hk1 hP1 hK1 hD1
    generalize H1 = H at hP hS ⊢
    have e9 := Option.some.inj h
    exact W.vret hx hb hr (fun t ht hW => ⟨⟨q_5, rfl, e9, by rw [ht]; exact hP, va_K.moved hW.alike hK, hD⟩, hS.F ht⟩) hS.2.2 dX0_addToLatestDemand_31
set_option maxHeartbeats 4000000 in
set_option maxRecDepth 100000 in
theorem c_X0_addToLatestRow (l : Launch) (dC : Nat → ClassId) (dI : Nat → Nat → Nat) (hs : Nat → Nat) (ka : Nat → ClassId) (sz : Nat) (fu : Nat) (u : XS) (p0 : Int32) (p1 : Int32) (u' : XS) (h : pf_X0_addToLatestRow fu p0 p1 u = some u') : Met l yX0_addToLatestRow wzX0_addToLatestRow ({ frames := 1, cells := 0, slots := 0, locals := 21 }) (va_Pc [.ref (hs 0), .int p0, .int p1] (fun U => U.heap.size = sz ∧ va_P (dC, dI) vwCl (cX hs ka u) U.heap ∧ va_K (dC, dI) vwCl (tX ka) U ∧ va_D (fun _ => True) (cX hs ka u))) (va_Qv (fun (u1 : XS) => u1 = u') (aX dC dI (va_A (cX hs ka u) sz) hs ka) (va_A (cX hs ka u) sz)) 0 0 (va_A (cX hs ka u) sz) := by
  refine Met.ofW (cc := cX0_addToLatestRow) (maxL := 3) (ret := none) (by decide) rfl ?_
  intro p e s m args below meth c s₁ B hml hv
  obtain ⟨rfl, hsz, hP, hK, hD0⟩ := hv
  have hx := B.exec
  have hb := B.bytes
  have hr := B.returns
  have hts := atoms_spec (ws := wzX0_addToLatestRow) B.pre
  have hown : s.vm.findClass RX0 = some m.cls := findClass_of_methodNamed B.named
  have hlocks := B.notSynchronized
  subst hsz
  have hD := hD0.self (sz := s.heap.size)
  generalize hAe : va_A (cX hs ka u) s.heap.size = A at hD ⊢
  have hA : ∀ q : Nat, s.heap.size ≤ q → A q := fun q h => by rw [← hAe]; exact Or.inr h
  have hS : va_S A s.heap s.heap [] := va_S.rf
  have hP : va_P (dC, dI) vwCl (cX hs ka u) s.heap := hP
  clear hD0 hAe
  have hin0 : ∀ w ∈ u_ws RX0 TX0 14, w ∈ wzX0_addToLatestRow := fun w h => List.mem_cons_of_mem _ (inTX0 w h)
  have hf_34 := hts (.fieldLink RX0 34 "ConflictSolve" "rows" "I") (List.mem_cons_of_mem _ tz_46)
  have hf_9 := hts (.fieldLink RX0 9 "ConflictSolve" "rowRules" "[J") (List.mem_cons_of_mem _ tz_42)
  have hl := lv_entry ([.ref (hs 0), .int p0, .int p1]) (n := 3) (Nat.le_of_ble_eq_true rfl)
  rw [lg_entry_eq]
  generalize (lg_sl ([.ref (hs 0), .int p0, .int p1]) ++ List.replicate (3 - (lg_sl ([.ref (hs 0), .int p0, .int p1])).length) Slot.unset).toArray = ls at hl ⊢
  have hl : lv_has ls 3 [(0, .ref (hs 0)), (1, .int p0), (2, .int p1)] := hl
  rw [pf_X0_addToLatestRow] at h
  refine lv_aload_n hx hb dX0_addToLatestRow_0 rfl (lv_at hl 0 rfl) ?_
  refine gt_X_rows (V := (x_rows u)) hx hb hts hin0 hown hK hP hf_34 rfl dX0_addToLatestRow_1 ?_
  refine lv_if_le (tgt := 26) hx hb dX0_addToLatestRow_4 (by decide) (fun c_1 => ?_) (fun c_1 => ?_)
  · rw [if_pos c_1] at h
    have e9 := Option.some.inj h
    exact W.vret hx hb hr (fun t ht hW => ⟨⟨u, rfl, e9, by rw [ht]; exact hP, va_K.moved hW.alike hK, hD⟩, hS.F ht⟩) hS.2.2 dX0_addToLatestRow_26
  · rw [if_neg c_1] at h
    refine lv_aload_n hx hb dX0_addToLatestRow_7 rfl (lv_at hl 0 rfl) ?_
    refine gt_X_rowRules hx hb hts hin0 hown hK hP hf_9 dX0_addToLatestRow_8 ?_
    refine lv_aload_n hx hb dX0_addToLatestRow_11 rfl (lv_at hl 0 rfl) ?_
    refine gt_X_rows (V := (x_rows u)) hx hb hts hin0 hown hK hP hf_34 rfl dX0_addToLatestRow_12 ?_
    refine lv_iconst (v := (1 : Int32)) hx hb dX0_addToLatestRow_15 (by decide) ?_
    refine lv_isub hx hb dX0_addToLatestRow_16 ?_
    refine lv_dup2_11 hx hb dX0_addToLatestRow_17 rfl rfl ?_
    obtain ⟨g_2, h⟩ := og_some h
    refine ld_X_rowRules (F := (x_rowRules u)) hx hb hK hP rfl (inb_in g_2) dX0_addToLatestRow_18 ?_
    refine lv_iload_n hx hb dX0_addToLatestRow_19 rfl (lv_at hl 1 rfl) ?_
    refine lv_iload_n hx hb dX0_addToLatestRow_20 rfl (lv_at hl 2 rfl) ?_
    have hPc : va_P (dC, dI) vwCl ([] : va_W) s.heap := hP.sub [] rfl
    have hDc : va_D A ([] : va_W) := hD.sub [] (by decide) rfl
    have hKc := hK.sub (tys' := []) [] rfl
    have hFc := fn_X hD hS hA
    refine va_calll (va_runS (As := [.int p0, .int p1]) (rest := [.long ((x_rowRules u) ((x_rows u) - (1 : Int32)).toNatClampNeg), .int ((x_rows u) - (1 : Int32)), .ref (hs 1)]) ⟨hx, hb, hml, hown, hts⟩ (c_X0_versionsOf l dC dI s.heap.size p0 p1 _ rfl) (va_cwS 2 hts gX0_addToLatestRow_X0_versionsOf rfl rfl rfl (by decide +kernel) ⟨Nat.le_of_ble_eq_true rfl, Nat.le_of_ble_eq_true rfl⟩) ⟨fun a U g mk q => by obtain ⟨q0, q1, qP, qK, qD⟩ := q; exact ⟨q0, q1, qP, va_K.moved (u := U) (U := U.calling g mk a) (Vm.Alike.refl U.vm) qK, qD⟩, fun U hU hW => ⟨rfl, by rw [hU], by rw [hU]; exact hPc, va_K.moved hW.alike hKc, hDc.weaken (fun _ _ _ _ => trivial)⟩⟩ rfl rfl hl.1 rfl (lv_room (Nat.le_of_ble_eq_true rfl)) dX0_addToLatestRow_21 ⟨Nat.zero_le _, Nat.zero_le _⟩) hS (fun q _ h => hFc q h) hFc (fun r_3 u_c3 t H1 locs ht hvm hw hB hz1 hk1 hS => ?_)
    subst r_3
    obtain ⟨hP1, hK1, hD1⟩ := hB
    rw [ht] at hP1
    obtain ⟨hP, hD⟩ := js_X hP hD hk1 hFc hP1 hD1
    clear hPc hDc hKc hFc hz1 hk1 hP1 hK1 hD1
    generalize H1 = H at hP hS ⊢
    refine lv_lor hx hb dX0_addToLatestRow_24 ?_
    obtain ⟨g_4, h⟩ := og_some h
    refine sr_X_rowRules (F := (x_rowRules u)) hx hb hK hP hD hS rfl (inb_in g_4) dX0_addToLatestRow_25 (fun H locs hP hD hS => ?_)
    have e9 := Option.some.inj h
    exact W.vret hx hb hr (fun t ht hW => ⟨⟨(xs_rowRules u (vp_updL (x_rowRules u) ((x_rows u) - (1 : Int32)).toNatClampNeg (((x_rowRules u) ((x_rows u) - (1 : Int32)).toNatClampNeg) ||| (pf_X0_versionsOf p0 p1)))), rfl, e9, by rw [ht]; exact hP, va_K.moved hW.alike hK, hD⟩, hS.F ht⟩) hS.2.2 dX0_addToLatestRow_26
