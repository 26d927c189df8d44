set_option maxHeartbeats 4000000 in
set_option maxRecDepth 100000 in
theorem c_X1_can (l : Launch) (dC : Nat → ClassId) (dI : Nat → Nat → Nat) (hs : Nat → Nat) (ka : Nat → ClassId) (sz : Nat) (fu : Nat) (u : MS) (p0 : Int32) (p1 : Int32) (r : Int32) (u' : MS) (h : pf_X1_can fu p0 p1 u = some (r, u')) : Met l yX1_can wzX1_can ({ frames := 4, cells := 0, slots := 0, locals := 97 }) (va_Pc [.ref (hs 0), .int p0, .int p1] (fun U => U.heap.size = sz ∧ va_P (dC, dI) vwCl (cM hs ka u) U.heap ∧ va_K (dC, dI) vwCl (tM ka) U ∧ va_D (fun _ => True) (cM hs ka u))) (va_Qi (fun (r1 : Int32) (u1 : MS) => r1 = r ∧ u1 = u') (aM dC dI (va_A (cM hs ka u) sz) hs ka) (va_A (cM hs ka u) sz)) 0 0 (va_A (cM hs ka u) sz) := by
  refine Met.ofW (cc := cX1_can) (maxL := 3) (ret := (some .boolean)) (by decide) rfl ?_
  intro p e s m args below meth c s₁ B hml hv
  obtain ⟨rfl, hsz, hP, hK, hD0⟩ := hv
  have hx := B.exec
  have hb := B.bytes
  have hr := B.returns
  have hts := atoms_spec (ws := wzX1_can) B.pre
  have hown : s.vm.findClass RX1 = some m.cls := findClass_of_methodNamed B.named
  have hlocks := B.notSynchronized
  subst hsz
  have hD := hD0.self (sz := s.heap.size)
  generalize hAe : va_A (cM hs ka u) s.heap.size = A at hD ⊢
  have hA : ∀ q : Nat, s.heap.size ≤ q → A q := fun q h => by rw [← hAe]; exact Or.inr h
  have hS : va_S A s.heap s.heap [] := va_S.rf
  have hP : va_P (dC, dI) vwCl (cM hs ka u) s.heap := hP
  clear hD0 hAe
  have hin0 : ∀ w ∈ u_ws RX1 TX1 23, w ∈ wzX1_can := fun w h => List.mem_cons_of_mem _ (inTX1 w h)
  have hf_63 := hts (.fieldLink RX1 63 "ConflictSolveModel" "code" "I") (List.mem_cons_of_mem _ tz_238)
  have hl := lv_entry ([.ref (hs 0), .int p0, .int p1]) (n := 3) (Nat.le_of_ble_eq_true rfl)
  rw [lg_entry_eq]
  generalize (lg_sl ([.ref (hs 0), .int p0, .int p1]) ++ List.replicate (3 - (lg_sl ([.ref (hs 0), .int p0, .int p1])).length) Slot.unset).toArray = ls at hl ⊢
  have hl : lv_has ls 3 [(0, .ref (hs 0)), (1, .int p0), (2, .int p1)] := hl
  rw [pf_X1_can] at h
  refine lv_aload_n hx hb dX1_can_0 rfl (lv_at hl 0 rfl) ?_
  refine lv_iconst (v := (0 : Int32)) hx hb dX1_can_1 (by decide) ?_
  refine va_put (D := (dC, dI)) (ci := 1) (v := .int (0 : Int32)) (ty := .int) (C := RX1) (T := TX1) (N := 23) hx hb hts hin0 tyX1 tyX1_ok nmX1 hown hK hP hD hS 0 rfl rfl 0 (by decide) hf_63 (fun _ h9 => h9) rfl (by decide +kernel) rfl rfl (Nat.le_of_ble_eq_true rfl) dX1_can_2 (fun H locs hP hD hS => ?_)
  have hP : va_P (dC, dI) vwCl (cM hs ka (ms_code u (0 : Int32))) H := hP
  have hD : va_D A (cM hs ka (ms_code u (0 : Int32))) := hD
  refine lv_aload_n hx hb dX1_can_5 rfl (lv_at hl 0 rfl) ?_
  refine lv_iload_n hx hb dX1_can_6 rfl (lv_at hl 1 rfl) ?_
  have hPc : va_P (dC, dI) vwCl (cM hs ka (ms_code u (0 : Int32))) H := hP.sub [0, 1, 2, 3, 4, 5, 6, 7, 8, 9, 10, 11, 12, 13, 14, 15, 16] rfl
  have hDc : va_D A (cM hs ka (ms_code u (0 : Int32))) := hD.sub [0, 1, 2, 3, 4, 5, 6, 7, 8, 9, 10, 11, 12, 13, 14, 15, 16] (by decide) rfl
  have hKc := hK.sub (tys' := (tM ka)) [0, 1, 2, 3, 4, 5, 6, 7, 8, 9, 10, 11, 12, 13, 14, 15] rfl
  have hFc := va_free (wc := (cM hs ka (ms_code u (0 : Int32)))) hD hS hA [0, 1, 2, 3, 4, 5, 6, 7, 8, 9, 10, 11, 12, 13, 14, 15, 16] rfl
  refine va_calli (va_runV (As := [.int p0]) (rest := []) ⟨hx, hb, hml, hown, hts⟩ (c_X1_isPackage l dC dI hs ka H.size (ms_code u (0 : Int32)) p0 _ rfl) (cwV 1 hts gX1_can_X1_isPackage rfl rfl rfl (by decide +kernel) ⟨Nat.le_of_ble_eq_true rfl, Nat.le_of_ble_eq_true rfl⟩) ⟨fun a U g mk q => by obtain ⟨q0, q1, qP, qK, qD⟩ := q; exact ⟨q0, q1, qP, va_K.moved (u := U) (U := U.calling g mk a) (Vm.Alike.refl U.vm) qK, qD⟩, va_recv hKc hPc (ci := 1) (q0 := 0) rfl rfl, fun U hU hW => ⟨rfl, by rw [hU], by rw [hU]; exact hPc, va_K.moved hW.alike hKc, hDc.weaken (fun _ _ _ _ => trivial)⟩⟩ rfl rfl hl.1 rfl (lv_room (Nat.le_of_ble_eq_true rfl)) dX1_can_7 ⟨Nat.zero_le _, Nat.zero_le _⟩) hS (fun q _ h => hFc q h) hFc (fun r_1 u_c1 t H1 locs ht hvm hw hB hz1 hk1 hS => ?_)
  obtain ⟨hw1, hw2⟩ := hw
  subst r_1
  subst u_c1
  obtain ⟨hP1, hK1, hD1⟩ := hB
  rw [ht] at hP1
  obtain ⟨hP, hD⟩ := va_join (wc := (cM hs ka (ms_code u (0 : Int32)))) (wr := []) (w1 := (cM hs ka (ms_code u (0 : Int32)))) hP hD [0, 1, 2, 3, 4, 5, 6, 7, 8, 9, 10, 11, 12, 13, 14, 15, 16] [] rfl rfl (by decide) (by decide) hk1 hFc hP1 hD1
  clear hPc hDc hKc hFc hz1 hk1 hP1 hK1 hD1
  generalize H1 = H at hP hS ⊢
  have hP : va_P (dC, dI) vwCl (cM hs ka (ms_code u (0 : Int32))) H := hP
  have hD : va_D A (cM hs ka (ms_code u (0 : Int32))) := hD
  refine lv_if_eq (tgt := 27) hx hb dX1_can_10 (by decide) (fun c_2 => ?_) (fun c_2 => ?_)
  · rw [if_pos c_2] at h
    refine lv_iconst (v := (0 : Int32)) hx hb dX1_can_27 (by decide) ?_
    have e9 := Option.some.inj h
    exact W.zret (v := (0 : Int32)) hx hb hr rfl (fun t ht hW => ⟨⟨(0 : Int32), (ms_code u (0 : Int32)), rfl, ⟨congrArg Prod.fst e9, congrArg Prod.snd e9⟩, by rw [ht]; exact hP, va_K.moved hW.alike hK, hD⟩, hS.F ht⟩) hS.2.2 dX1_can_28
  · rw [if_neg c_2] at h
    refine lv_iload_n hx hb dX1_can_13 rfl (lv_at hl 2 rfl) ?_
    refine lv_iconst (v := (-1 : Int32)) hx hb dX1_can_14 (by decide) ?_
    refine lv_icmp_eq (tgt := 29) hx hb dX1_can_15 (by decide) (fun c_3 => ?_) (fun c_3 => ?_)
    · rw [if_pos c_3] at h
      refine lv_aload_n hx hb dX1_can_29 rfl (lv_at hl 0 rfl) ?_
      obtain ⟨q_4, hc_4, h⟩ := ob_some h
      have hPc : va_P (dC, dI) vwCl (cM hs ka (ms_code u (0 : Int32))) H := hP.sub [0, 1, 2, 3, 4, 5, 6, 7, 8, 9, 10, 11, 12, 13, 14, 15, 16] rfl
      have hDc : va_D A (cM hs ka (ms_code u (0 : Int32))) := hD.sub [0, 1, 2, 3, 4, 5, 6, 7, 8, 9, 10, 11, 12, 13, 14, 15, 16] (by decide) rfl
      have hKc := hK.sub (tys' := (tM ka)) [0, 1, 2, 3, 4, 5, 6, 7, 8, 9, 10, 11, 12, 13, 14, 15] rfl
      have hFc := va_free (wc := (cM hs ka (ms_code u (0 : Int32)))) hD hS hA [0, 1, 2, 3, 4, 5, 6, 7, 8, 9, 10, 11, 12, 13, 14, 15, 16] rfl
      refine va_callv (va_runV (As := []) (rest := []) ⟨hx, hb, hml, hown, hts⟩ (c_X1_none l dC dI hs ka H.size fu (ms_code u (0 : Int32)) q_4 hc_4) (cwV 0 hts gX1_can_X1_none rfl rfl rfl (by decide +kernel) ⟨Nat.le_of_ble_eq_true rfl, Nat.le_of_ble_eq_true rfl⟩) ⟨fun a U g mk q => by obtain ⟨q0, q1, qP, qK, qD⟩ := q; exact ⟨q0, q1, qP, va_K.moved (u := U) (U := U.calling g mk a) (Vm.Alike.refl U.vm) qK, qD⟩, va_recv hKc hPc (ci := 1) (q0 := 0) rfl rfl, fun U hU hW => ⟨rfl, by rw [hU], by rw [hU]; exact hPc, va_K.moved hW.alike hKc, hDc.weaken (fun _ _ _ _ => trivial)⟩⟩ rfl rfl hl.1 rfl (lv_room (Nat.le_of_ble_eq_true rfl)) dX1_can_30 ⟨Nat.zero_le _, Nat.zero_le _⟩) hS (fun q _ h => hFc q h) hFc (fun u_c4 t H1 locs ht hvm hw hB hz1 hk1 hS => ?_)
      subst u_c4
      obtain ⟨hP1, hK1, hD1⟩ := hB
      rw [ht] at hP1
      obtain ⟨hP, hD⟩ := va_join (wc := (cM hs ka (ms_code u (0 : Int32)))) (wr := []) (w1 := (cM hs ka q_4)) hP hD [0, 1, 2, 3, 4, 5, 6, 7, 8, 9, 10, 11, 12, 13, 14, 15, 16] [] rfl rfl (by decide) (by decide) hk1 hFc hP1 hD1
      clear hPc hDc hKc hFc hz1 hk1 hP1 hK1 hD1
      generalize H1 = H at hP hS ⊢
      have hP : va_P (dC, dI) vwCl (cM hs ka q_4) H := hP
      have hD : va_D A (cM hs ka q_4) := hD
      refine lv_aload_n hx hb dX1_can_33 rfl (lv_at hl 0 rfl) ?_
      refine lv_iload_n hx hb dX1_can_34 rfl (lv_at hl 1 rfl) ?_
      refine lv_iload_n hx hb dX1_can_35 rfl (lv_at hl 2 rfl) ?_
      obtain ⟨q_5, hc_5, h⟩ := ob_some h
      have hPc : va_P (dC, dI) vwCl (cM hs ka q_4) H := hP.sub [0, 1, 2, 3, 4, 5, 6, 7, 8, 9, 10, 11, 12, 13, 14, 15, 16] rfl
      have hDc : va_D A (cM hs ka q_4) := hD.sub [0, 1, 2, 3, 4, 5, 6, 7, 8, 9, 10, 11, 12, 13, 14, 15, 16] (by decide) rfl
      have hKc := hK.sub (tys' := (tM ka)) [0, 1, 2, 3, 4, 5, 6, 7, 8, 9, 10, 11, 12, 13, 14, 15] rfl
      have hFc := va_free (wc := (cM hs ka q_4)) hD hS hA [0, 1, 2, 3, 4, 5, 6, 7, 8, 9, 10, 11, 12, 13, 14, 15, 16] rfl
      refine va_calli (va_runV (As := [.int p0, .int p1]) (rest := []) ⟨hx, hb, hml, hown, hts⟩ (c_X1_search l dC dI hs ka H.size fu q_4 p0 p1 q_5.1 q_5.2 hc_5) (cwV 2 hts gX1_can_X1_search rfl rfl rfl (by decide +kernel) ⟨Nat.le_of_ble_eq_true rfl, Nat.le_of_ble_eq_true rfl⟩) ⟨fun a U g mk q => by obtain ⟨q0, q1, qP, qK, qD⟩ := q; exact ⟨q0, q1, qP, va_K.moved (u := U) (U := U.calling g mk a) (Vm.Alike.refl U.vm) qK, qD⟩, va_recv hKc hPc (ci := 1) (q0 := 0) rfl rfl, fun U hU hW => ⟨rfl, by rw [hU], by rw [hU]; exact hPc, va_K.moved hW.alike hKc, hDc.weaken (fun _ _ _ _ => trivial)⟩⟩ rfl rfl hl.1 rfl (lv_room (Nat.le_of_ble_eq_true rfl)) dX1_can_36 ⟨Nat.zero_le _, Nat.zero_le _⟩) hS (fun q _ h => hFc q h) hFc (fun r_5 u_c5 t H1 locs ht hvm hw hB hz1 hk1 hS => ?_)
      obtain ⟨hw1, hw2⟩ := hw
      subst r_5
      subst u_c5
      obtain ⟨hP1, hK1, hD1⟩ := hB
      rw [ht] at hP1
      obtain ⟨hP, hD⟩ := va_join (wc := (cM hs ka q_4)) (wr := []) (w1 := (cM hs ka q_5.2)) hP hD [0, 1, 2, 3, 4, 5, 6, 7, 8, 9, 10, 11, 12, 13, 14, 15, 16] [] rfl rfl (by decide) (by decide) hk1 hFc hP1 hD1
      clear hPc hDc hKc hFc hz1 hk1 hP1 hK1 hD1
      generalize H1 = H at hP hS ⊢
      have hP : va_P (dC, dI) vwCl (cM hs ka q_5.2) H := hP
      have hD : va_D A (cM hs ka q_5.2) := hD
      obtain ⟨g_6, h⟩ := og_some h
      have e9 := Option.some.inj h
      exact W.zret (v := q_5.1) hx hb hr (bz_n g_6) (fun t ht hW => ⟨⟨q_5.1, q_5.2, rfl, ⟨congrArg Prod.fst e9, congrArg Prod.snd e9⟩, by rw [ht]; exact hP, va_K.moved hW.alike hK, hD⟩, hS.F ht⟩) hS.2.2 dX1_can_39
    · rw [if_neg c_3] at h
      refine lv_aload_n hx hb dX1_can_18 rfl (lv_at hl 0 rfl) ?_
      refine lv_iload_n hx hb dX1_can_19 rfl (lv_at hl 1 rfl) ?_
      refine lv_iload_n hx hb dX1_can_20 rfl (lv_at hl 2 rfl) ?_
      obtain ⟨q_7, hc_7, h⟩ := ob_some h
      have hPc : va_P (dC, dI) vwCl (cM hs ka (ms_code u (0 : Int32))) H := hP.sub [0, 1, 2, 3, 4, 5, 6, 7, 8, 9, 10, 11, 12, 13, 14, 15, 16] rfl
      have hDc : va_D A (cM hs ka (ms_code u (0 : Int32))) := hD.sub [0, 1, 2, 3, 4, 5, 6, 7, 8, 9, 10, 11, 12, 13, 14, 15, 16] (by decide) rfl
      have hKc := hK.sub (tys' := (tM ka)) [0, 1, 2, 3, 4, 5, 6, 7, 8, 9, 10, 11, 12, 13, 14, 15] rfl
      have hFc := va_free (wc := (cM hs ka (ms_code u (0 : Int32)))) hD hS hA [0, 1, 2, 3, 4, 5, 6, 7, 8, 9, 10, 11, 12, 13, 14, 15, 16] rfl
      refine va_calli (va_runV (As := [.int p0, .int p1]) (rest := []) ⟨hx, hb, hml, hown, hts⟩ (c_X1_isVersion l dC dI hs ka H.size fu (ms_code u (0 : Int32)) p0 p1 q_7 hc_7) (cwV 2 hts gX1_can_X1_isVersion rfl rfl rfl (by decide +kernel) ⟨Nat.le_of_ble_eq_true rfl, Nat.le_of_ble_eq_true rfl⟩) ⟨fun a U g mk q => by obtain ⟨q0, q1, qP, qK, qD⟩ := q; exact ⟨q0, q1, qP, va_K.moved (u := U) (U := U.calling g mk a) (Vm.Alike.refl U.vm) qK, qD⟩, va_recv hKc hPc (ci := 1) (q0 := 0) rfl rfl, fun U hU hW => ⟨rfl, by rw [hU], by rw [hU]; exact hPc, va_K.moved hW.alike hKc, hDc.weaken (fun _ _ _ _ => trivial)⟩⟩ rfl rfl hl.1 rfl (lv_room (Nat.le_of_ble_eq_true rfl)) dX1_can_21 ⟨Nat.zero_le _, Nat.zero_le _⟩) hS (fun q _ h => hFc q h) hFc (fun r_7 u_c7 t H1 locs ht hvm hw hB hz1 hk1 hS => ?_)
      obtain ⟨hw1, hw2⟩ := hw
      subst r_7
      subst u_c7
      obtain ⟨hP1, hK1, hD1⟩ := hB
      rw [ht] at hP1
      obtain ⟨hP, hD⟩ := va_join (wc := (cM hs ka (ms_code u (0 : Int32)))) (wr := []) (w1 := (cM hs ka (ms_code u (0 : Int32)))) hP hD [0, 1, 2, 3, 4, 5, 6, 7, 8, 9, 10, 11, 12, 13, 14, 15, 16] [] rfl rfl (by decide) (by decide) hk1 hFc hP1 hD1
      clear hPc hDc hKc hFc hz1 hk1 hP1 hK1 hD1
      generalize H1 = H at hP hS ⊢
      have hP : va_P (dC, dI) vwCl (cM hs ka (ms_code u (0 : Int32))) H := hP
      have hD : va_D A (cM hs ka (ms_code u (0 : Int32))) := hD
      refine lv_if_ne (tgt := 29) hx hb dX1_can_24 (by decide) (fun c_8 => ?_) (fun c_8 => ?_)
      · rw [if_neg c_8] at h
        refine lv_aload_n hx hb dX1_can_29 rfl (lv_at hl 0 rfl) ?_
        obtain ⟨q_9, hc_9, h⟩ := ob_some h
        have hPc : va_P (dC, dI) vwCl (cM hs ka (ms_code u (0 : Int32))) H := hP.sub [0, 1, 2, 3, 4, 5, 6, 7, 8, 9, 10, 11, 12, 13, 14, 15, 16] rfl
        have hDc : va_D A (cM hs ka (ms_code u (0 : Int32))) := hD.sub [0, 1, 2, 3, 4, 5, 6, 7, 8, 9, 10, 11, 12, 13, 14, 15, 16] (by decide) rfl
        have hKc := hK.sub (tys' := (tM ka)) [0, 1, 2, 3, 4, 5, 6, 7, 8, 9, 10, 11, 12, 13, 14, 15] rfl
        have hFc := va_free (wc := (cM hs ka (ms_code u (0 : Int32)))) hD hS hA [0, 1, 2, 3, 4, 5, 6, 7, 8, 9, 10, 11, 12, 13, 14, 15, 16] rfl
        refine va_callv (va_runV (As := []) (rest := []) ⟨hx, hb, hml, hown, hts⟩ (c_X1_none l dC dI hs ka H.size fu (ms_code u (0 : Int32)) q_9 hc_9) (cwV 0 hts gX1_can_X1_none rfl rfl rfl (by decide +kernel) ⟨Nat.le_of_ble_eq_true rfl, Nat.le_of_ble_eq_true rfl⟩) ⟨fun a U g mk q => by obtain ⟨q0, q1, qP, qK, qD⟩ := q; exact ⟨q0, q1, qP, va_K.moved (u := U) (U := U.calling g mk a) (Vm.Alike.refl U.vm) qK, qD⟩, va_recv hKc hPc (ci := 1) (q0 := 0) rfl rfl, fun U hU hW => ⟨rfl, by rw [hU], by rw [hU]; exact hPc, va_K.moved hW.alike hKc, hDc.weaken (fun _ _ _ _ => trivial)⟩⟩ rfl rfl hl.1 rfl (lv_room (Nat.le_of_ble_eq_true rfl)) dX1_can_30 ⟨Nat.zero_le _, Nat.zero_le _⟩) hS (fun q _ h => hFc q h) hFc (fun u_c9 t H1 locs ht hvm hw hB hz1 hk1 hS => ?_)
        subst u_c9
        obtain ⟨hP1, hK1, hD1⟩ := hB
        rw [ht] at hP1
        obtain ⟨hP, hD⟩ := va_join (wc := (cM hs ka (ms_code u (0 : Int32)))) (wr := []) (w1 := (cM hs ka q_9)) hP hD [0, 1, 2, 3, 4, 5, 6, 7, 8, 9, 10, 11, 12, 13, 14, 15, 16] [] rfl rfl (by decide) (by decide) hk1 hFc hP1 hD1
        clear hPc hDc hKc hFc hz1 hk1 hP1 hK1 hD1
        generalize H1 = H at hP hS ⊢
        have hP : va_P (dC, dI) vwCl (cM hs ka q_9) H := hP
        have hD : va_D A (cM hs ka q_9) := hD
        refine lv_aload_n hx hb dX1_can_33 rfl (lv_at hl 0 rfl) ?_
        refine lv_iload_n hx hb dX1_can_34 rfl (lv_at hl 1 rfl) ?_
        refine lv_iload_n hx hb dX1_can_35 rfl (lv_at hl 2 rfl) ?_
        obtain ⟨q_10, hc_10, h⟩ := ob_some h
        have hPc : va_P (dC, dI) vwCl (cM hs ka q_9) H := hP.sub [0, 1, 2, 3, 4, 5, 6, 7, 8, 9, 10, 11, 12, 13, 14, 15, 16] rfl
        have hDc : va_D A (cM hs ka q_9) := hD.sub [0, 1, 2, 3, 4, 5, 6, 7, 8, 9, 10, 11, 12, 13, 14, 15, 16] (by decide) rfl
        have hKc := hK.sub (tys' := (tM ka)) [0, 1, 2, 3, 4, 5, 6, 7, 8, 9, 10, 11, 12, 13, 14, 15] rfl
        have hFc := va_free (wc := (cM hs ka q_9)) hD hS hA [0, 1, 2, 3, 4, 5, 6, 7, 8, 9, 10, 11, 12, 13, 14, 15, 16] rfl
        refine va_calli (va_runV (As := [.int p0, .int p1]) (rest := []) ⟨hx, hb, hml, hown, hts⟩ (c_X1_search l dC dI hs ka H.size fu q_9 p0 p1 q_10.1 q_10.2 hc_10) (cwV 2 hts gX1_can_X1_search rfl rfl rfl (by decide +kernel) ⟨Nat.le_of_ble_eq_true rfl, Nat.le_of_ble_eq_true rfl⟩) ⟨fun a U g mk q => by obtain ⟨q0, q1, qP, qK, qD⟩ := q; exact ⟨q0, q1, qP, va_K.moved (u := U) (U := U.calling g mk a) (Vm.Alike.refl U.vm) qK, qD⟩, va_recv hKc hPc (ci := 1) (q0 := 0) rfl rfl, fun U hU hW => ⟨rfl, by rw [hU], by rw [hU]; exact hPc, va_K.moved hW.alike hKc, hDc.weaken (fun _ _ _ _ => trivial)⟩⟩ rfl rfl hl.1 rfl (lv_room (Nat.le_of_ble_eq_true rfl)) dX1_can_36 ⟨Nat.zero_le _, Nat.zero_le _⟩) hS (fun q _ h => hFc q h) hFc (fun r_10 u_c10 t H1 locs ht hvm hw hB hz1 hk1 hS => ?_)
        obtain ⟨hw1, hw2⟩ := hw
        subst r_10
        subst u_c10
        obtain ⟨hP1, hK1, hD1⟩ := hB
        rw [ht] at hP1
        obtain ⟨hP, hD⟩ := va_join (wc := (cM hs ka q_9)) (wr := []) (w1 := (cM hs ka q_10.2)) hP hD [0, 1, 2, 3, 4, 5, 6, 7, 8, 9, 10, 11, 12, 13, 14, 15, 16] [] rfl rfl (by decide) (by decide) hk1 hFc hP1 hD1
        clear hPc hDc hKc hFc hz1 hk1 hP1 hK1 hD1
        generalize H1 = H at hP hS ⊢
        have hP : va_P (dC, dI) vwCl (cM hs ka q_10.2) H := hP
        have hD : va_D A (cM hs ka q_10.2) := hD
        obtain ⟨g_11, h⟩ := og_some h
        have e9 := Option.some.inj h
        exact W.zret (v := q_10.1) hx hb hr (bz_n g_11) (fun t ht hW => ⟨⟨q_10.1, q_10.2, rfl, ⟨congrArg Prod.fst e9, congrArg Prod.snd e9⟩, by rw [ht]; exact hP, va_K.moved hW.alike hK, hD⟩, hS.F ht⟩) hS.2.2 dX1_can_39
      · rw [if_pos c_8] at h
        refine lv_iconst (v := (0 : Int32)) hx hb dX1_can_27 (by decide) ?_
        have e9 := Option.some.inj h
        exact W.zret (v := (0 : Int32)) hx hb hr rfl (fun t ht hW => ⟨⟨(0 : Int32), (ms_code u (0 : Int32)), rfl, ⟨congrArg Prod.fst e9, congrArg Prod.snd e9⟩, by rw [ht]; exact hP, va_K.moved hW.alike hK, hD⟩, hS.F ht⟩) hS.2.2 dX1_can_28
set_option maxHeartbeats 4000000 in
set_option maxRecDepth 100000 in
theorem c_X1_must (l : Launch) (dC : Nat → ClassId) (dI : Nat → Nat → Nat) (hs : Nat → Nat) (ka : Nat → ClassId) (sz : Nat) (fu : Nat) (u : MS) (p0 : Int32) (r : Int32) (u' : MS) (h : pf_X1_must fu p0 u = some (r, u')) : Met l yX1_must wzX1_must ({ frames := 4, cells := 0, slots := 0, locals := 97 }) (va_Pc [.ref (hs 0), .int p0] (fun U => U.heap.size = sz ∧ va_P (dC, dI) vwCl (cM hs ka u) U.heap ∧ va_K (dC, dI) vwCl (tM ka) U ∧ va_D (fun _ => True) (cM hs ka u))) (va_Qi (fun (r1 : Int32) (u1 : MS) => r1 = r ∧ u1 = u') (aM dC dI (va_A (cM hs ka u) sz) hs ka) (va_A (cM hs ka u) sz)) 0 0 (va_A (cM hs ka u) sz) := by
  refine Met.ofW (cc := cX1_must) (maxL := 2) (ret := (some .boolean)) (by decide) rfl ?_
  intro p e s m args below meth c s₁ B hml hv
  obtain ⟨rfl, hsz, hP, hK, hD0⟩ := hv
  have hx := B.exec
  have hb := B.bytes
  have hr := B.returns
  have hts := atoms_spec (ws := wzX1_must) B.pre
  have hown : s.vm.findClass RX1 = some m.cls := findClass_of_methodNamed B.named
  have hlocks := B.notSynchronized
  subst hsz
  have hD := hD0.self (sz := s.heap.size)
  generalize hAe : va_A (cM hs ka u) s.heap.size = A at hD ⊢
  have hA : ∀ q : Nat, s.heap.size ≤ q → A q := fun q h => by rw [← hAe]; exact Or.inr h
  have hS : va_S A s.heap s.heap [] := va_S.rf
  have hP : va_P (dC, dI) vwCl (cM hs ka u) s.heap := hP
  clear hD0 hAe
  have hin0 : ∀ w ∈ u_ws RX1 TX1 23, w ∈ wzX1_must := fun w h => List.mem_cons_of_mem _ (inTX1 w h)
  have hf_63 := hts (.fieldLink RX1 63 "ConflictSolveModel" "code" "I") (List.mem_cons_of_mem _ tz_238)
  have hl := lv_entry ([.ref (hs 0), .int p0]) (n := 2) (Nat.le_of_ble_eq_true rfl)
  rw [lg_entry_eq]
  generalize (lg_sl ([.ref (hs 0), .int p0]) ++ List.replicate (2 - (lg_sl ([.ref (hs 0), .int p0])).length) Slot.unset).toArray = ls at hl ⊢
  have hl : lv_has ls 2 [(0, .ref (hs 0)), (1, .int p0)] := hl
  rw [pf_X1_must] at h
  refine lv_aload_n hx hb dX1_must_0 rfl (lv_at hl 0 rfl) ?_
  refine lv_iconst (v := (0 : Int32)) hx hb dX1_must_1 (by decide) ?_
  refine va_put (D := (dC, dI)) (ci := 1) (v := .int (0 : Int32)) (ty := .int) (C := RX1) (T := TX1) (N := 23) hx hb hts hin0 tyX1 tyX1_ok nmX1 hown hK hP hD hS 0 rfl rfl 0 (by decide) hf_63 (fun _ h9 => h9) rfl (by decide +kernel) rfl rfl (Nat.le_of_ble_eq_true rfl) dX1_must_2 (fun H locs hP hD hS => ?_)
  have hP : va_P (dC, dI) vwCl (cM hs ka (ms_code u (0 : Int32))) H := hP
  have hD : va_D A (cM hs ka (ms_code u (0 : Int32))) := hD
  refine lv_aload_n hx hb dX1_must_5 rfl (lv_at hl 0 rfl) ?_
  refine lv_iload_n hx hb dX1_must_6 rfl (lv_at hl 1 rfl) ?_
  have hPc : va_P (dC, dI) vwCl (cM hs ka (ms_code u (0 : Int32))) H := hP.sub [0, 1, 2, 3, 4, 5, 6, 7, 8, 9, 10, 11, 12, 13, 14, 15, 16] rfl
  have hDc : va_D A (cM hs ka (ms_code u (0 : Int32))) := hD.sub [0, 1, 2, 3, 4, 5, 6, 7, 8, 9, 10, 11, 12, 13, 14, 15, 16] (by decide) rfl
  have hKc := hK.sub (tys' := (tM ka)) [0, 1, 2, 3, 4, 5, 6, 7, 8, 9, 10, 11, 12, 13, 14, 15] rfl
  have hFc := va_free (wc := (cM hs ka (ms_code u (0 : Int32)))) hD hS hA [0, 1, 2, 3, 4, 5, 6, 7, 8, 9, 10, 11, 12, 13, 14, 15, 16] rfl
  refine va_calli (va_runV (As := [.int p0]) (rest := []) ⟨hx, hb, hml, hown, hts⟩ (c_X1_isPackage l dC dI hs ka H.size (ms_code u (0 : Int32)) p0 _ rfl) (cwV 1 hts gX1_must_X1_isPackage rfl rfl rfl (by decide +kernel) ⟨Nat.le_of_ble_eq_true rfl, Nat.le_of_ble_eq_true rfl⟩) ⟨fun a U g mk q => by obtain ⟨q0, q1, qP, qK, qD⟩ := q; exact ⟨q0, q1, qP, va_K.moved (u := U) (U := U.calling g mk a) (Vm.Alike.refl U.vm) qK, qD⟩, va_recv hKc hPc (ci := 1) (q0 := 0) rfl rfl, fun U hU hW => ⟨rfl, by rw [hU], by rw [hU]; exact hPc, va_K.moved hW.alike hKc, hDc.weaken (fun _ _ _ _ => trivial)⟩⟩ rfl rfl hl.1 rfl (lv_room (Nat.le_of_ble_eq_true rfl)) dX1_must_7 ⟨Nat.zero_le _, Nat.zero_le _⟩) hS (fun q _ h => hFc q h) hFc (fun r_1 u_c1 t H1 locs ht hvm hw hB hz1 hk1 hS => ?_)
  obtain ⟨hw1, hw2⟩ := hw
  subst r_1
  subst u_c1
  obtain ⟨hP1, hK1, hD1⟩ := hB
  rw [ht] at hP1
  obtain ⟨hP, hD⟩ := va_join (wc := (cM hs ka (ms_code u (0 : Int32)))) (wr := []) (w1 := (cM hs ka (ms_code u (0 : Int32)))) hP hD [0, 1, 2, 3, 4, 5, 6, 7, 8, 9, 10, 11, 12, 13, 14, 15, 16] [] rfl rfl (by decide) (by decide) hk1 hFc hP1 hD1
  clear hPc hDc hKc hFc hz1 hk1 hP1 hK1 hD1
  generalize H1 = H at hP hS ⊢
  have hP : va_P (dC, dI) vwCl (cM hs ka (ms_code u (0 : Int32))) H := hP
  have hD : va_D A (cM hs ka (ms_code u (0 : Int32))) := hD
  refine lv_if_ne (tgt := 15) hx hb dX1_must_10 (by decide) (fun c_2 => ?_) (fun c_2 => ?_)
  · rw [if_neg c_2] at h
    refine lv_aload_n hx hb dX1_must_15 rfl (lv_at hl 0 rfl) ?_
    obtain ⟨q_3, hc_3, h⟩ := ob_some h
    have hPc : va_P (dC, dI) vwCl (cM hs ka (ms_code u (0 : Int32))) H := hP.sub [0, 1, 2, 3, 4, 5, 6, 7, 8, 9, 10, 11, 12, 13, 14, 15, 16] rfl
    have hDc : va_D A (cM hs ka (ms_code u (0 : Int32))) := hD.sub [0, 1, 2, 3, 4, 5, 6, 7, 8, 9, 10, 11, 12, 13, 14, 15, 16] (by decide) rfl
    have hKc := hK.sub (tys' := (tM ka)) [0, 1, 2, 3, 4, 5, 6, 7, 8, 9, 10, 11, 12, 13, 14, 15] rfl
    have hFc := va_free (wc := (cM hs ka (ms_code u (0 : Int32)))) hD hS hA [0, 1, 2, 3, 4, 5, 6, 7, 8, 9, 10, 11, 12, 13, 14, 15, 16] rfl
    refine va_callv (va_runV (As := []) (rest := []) ⟨hx, hb, hml, hown, hts⟩ (c_X1_none l dC dI hs ka H.size fu (ms_code u (0 : Int32)) q_3 hc_3) (cwV 0 hts gX1_must_X1_none rfl rfl rfl (by decide +kernel) ⟨Nat.le_of_ble_eq_true rfl, Nat.le_of_ble_eq_true rfl⟩) ⟨fun a U g mk q => by obtain ⟨q0, q1, qP, qK, qD⟩ := q; exact ⟨q0, q1, qP, va_K.moved (u := U) (U := U.calling g mk a) (Vm.Alike.refl U.vm) qK, qD⟩, va_recv hKc hPc (ci := 1) (q0 := 0) rfl rfl, fun U hU hW => ⟨rfl, by rw [hU], by rw [hU]; exact hPc, va_K.moved hW.alike hKc, hDc.weaken (fun _ _ _ _ => trivial)⟩⟩ rfl rfl hl.1 rfl (lv_room (Nat.le_of_ble_eq_true rfl)) dX1_must_16 ⟨Nat.zero_le _, Nat.zero_le _⟩) hS (fun q _ h => hFc q h) hFc (fun u_c3 t H1 locs ht hvm hw hB hz1 hk1 hS => ?_)
    subst u_c3
    obtain ⟨hP1, hK1, hD1⟩ := hB
    rw [ht] at hP1
    obtain ⟨hP, hD⟩ := va_join (wc := (cM hs ka (ms_code u (0 : Int32)))) (wr := []) (w1 := (cM hs ka q_3)) hP hD [0, 1, 2, 3, 4, 5, 6, 7, 8, 9, 10, 11, 12, 13, 14, 15, 16] [] rfl rfl (by decide) (by decide) hk1 hFc hP1 hD1
    clear hPc hDc hKc hFc hz1 hk1 hP1 hK1 hD1
    generalize H1 = H at hP hS ⊢
    have hP : va_P (dC, dI) vwCl (cM hs ka q_3) H := hP
    have hD : va_D A (cM hs ka q_3) := hD
    refine lv_aload_n hx hb dX1_must_19 rfl (lv_at hl 0 rfl) ?_
    refine lv_iload_n hx hb dX1_must_20 rfl (lv_at hl 1 rfl) ?_
    refine lv_iconst (v := (-1 : Int32)) hx hb dX1_must_21 (by decide) ?_
    obtain ⟨q_4, hc_4, h⟩ := ob_some h
    have hPc : va_P (dC, dI) vwCl (cM hs ka q_3) H := hP.sub [0, 1, 2, 3, 4, 5, 6, 7, 8, 9, 10, 11, 12, 13, 14, 15, 16] rfl
    have hDc : va_D A (cM hs ka q_3) := hD.sub [0, 1, 2, 3, 4, 5, 6, 7, 8, 9, 10, 11, 12, 13, 14, 15, 16] (by decide) rfl
    have hKc := hK.sub (tys' := (tM ka)) [0, 1, 2, 3, 4, 5, 6, 7, 8, 9, 10, 11, 12, 13, 14, 15] rfl
    have hFc := va_free (wc := (cM hs ka q_3)) hD hS hA [0, 1, 2, 3, 4, 5, 6, 7, 8, 9, 10, 11, 12, 13, 14, 15, 16] rfl
    refine va_calli (va_runV (As := [.int p0, .int (-1 : Int32)]) (rest := []) ⟨hx, hb, hml, hown, hts⟩ (c_X1_search l dC dI hs ka H.size fu q_3 p0 (-1 : Int32) q_4.1 q_4.2 hc_4) (cwV 2 hts gX1_must_X1_search rfl rfl rfl (by decide +kernel) ⟨Nat.le_of_ble_eq_true rfl, Nat.le_of_ble_eq_true rfl⟩) ⟨fun a U g mk q => by obtain ⟨q0, q1, qP, qK, qD⟩ := q; exact ⟨q0, q1, qP, va_K.moved (u := U) (U := U.calling g mk a) (Vm.Alike.refl U.vm) qK, qD⟩, va_recv hKc hPc (ci := 1) (q0 := 0) rfl rfl, fun U hU hW => ⟨rfl, by rw [hU], by rw [hU]; exact hPc, va_K.moved hW.alike hKc, hDc.weaken (fun _ _ _ _ => trivial)⟩⟩ rfl rfl hl.1 rfl (lv_room (Nat.le_of_ble_eq_true rfl)) dX1_must_22 ⟨Nat.zero_le _, Nat.zero_le _⟩) hS (fun q _ h => hFc q h) hFc (fun r_4 u_c4 t H1 locs ht hvm hw hB hz1 hk1 hS => ?_)
    obtain ⟨hw1, hw2⟩ := hw
    subst r_4
    subst u_c4
    obtain ⟨hP1, hK1, hD1⟩ := hB
    rw [ht] at hP1
    obtain ⟨hP, hD⟩ := va_join (wc := (cM hs ka q_3)) (wr := []) (w1 := (cM hs ka q_4.2)) hP hD [0, 1, 2, 3, 4, 5, 6, 7, 8, 9, 10, 11, 12, 13, 14, 15, 16] [] rfl rfl (by decide) (by decide) hk1 hFc hP1 hD1
    clear hPc hDc hKc hFc hz1 hk1 hP1 hK1 hD1
    generalize H1 = H at hP hS ⊢
    have hP : va_P (dC, dI) vwCl (cM hs ka q_4.2) H := hP
    have hD : va_D A (cM hs ka q_4.2) := hD
    refine lv_if_ne (tgt := 32) hx hb dX1_must_25 (by decide) (fun c_5 => ?_) (fun c_5 => ?_)
    · rw [if_neg c_5] at h
      refine lv_iconst (v := (0 : Int32)) hx hb dX1_must_32 (by decide) ?_
      have e9 := Option.some.inj h
      exact W.zret (v := (0 : Int32)) hx hb hr rfl (fun t ht hW => ⟨⟨(0 : Int32), q_4.2, rfl, ⟨congrArg Prod.fst e9, congrArg Prod.snd e9⟩, by rw [ht]; exact hP, va_K.moved hW.alike hK, hD⟩, hS.F ht⟩) hS.2.2 dX1_must_33
    · rw [if_pos c_5] at h
      refine lv_iconst (v := (1 : Int32)) hx hb dX1_must_28 (by decide) ?_
      refine lv_goto (tgt := 33) hx hb dX1_must_29 (by decide) ?_
      have e9 := Option.some.inj h
      exact W.zret (v := (1 : Int32)) hx hb hr rfl (fun t ht hW => ⟨⟨(1 : Int32), q_4.2, rfl, ⟨congrArg Prod.fst e9, congrArg Prod.snd e9⟩, by rw [ht]; exact hP, va_K.moved hW.alike hK, hD⟩, hS.F ht⟩) hS.2.2 dX1_must_33
  · rw [if_pos c_2] at h
    refine lv_iconst (v := (0 : Int32)) hx hb dX1_must_13 (by decide) ?_
    have e9 := Option.some.inj h
    exact W.zret (v := (0 : Int32)) hx hb hr rfl (fun t ht hW => ⟨⟨(0 : Int32), (ms_code u (0 : Int32)), rfl, ⟨congrArg Prod.fst e9, congrArg Prod.snd e9⟩, by rw [ht]; exact hP, va_K.moved hW.alike hK, hD⟩, hS.F ht⟩) hS.2.2 dX1_must_14
