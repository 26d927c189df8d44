set_option maxHeartbeats 4000000 in
set_option maxRecDepth 100000 in
theorem c_X1_or (l : Launch) (dC : Nat → ClassId) (dI : Nat → Nat → Nat) (hs : Nat → Nat) (ka : Nat → ClassId) (sz : Nat) (fu : Nat) (u : MS) (p0 : Int32) (p1 : Int32) (r : Int32) (u' : MS) (h : pf_X1_or fu p0 p1 u = some (r, u')) : Met l yX1_or wzX1_or ({ frames := 1, cells := 0, slots := 0, locals := 21 }) (va_Pc [.ref (hs 0), .int p0, .int p1] (fun U => U.heap.size = sz ∧ va_P (dC, dI) vwCl (cM hs ka u) U.heap ∧ va_K (dC, dI) vwCl (tM ka) U ∧ va_D (fun _ => True) (cM hs ka u))) (va_Qi (fun (r1 : Int32) (u1 : MS) => r1 = r ∧ u1 = u') (aM dC dI (va_A (cM hs ka u) sz) hs ka) (va_A (cM hs ka u) sz)) 0 0 (va_A (cM hs ka u) sz) := by
  refine Met.ofW (cc := cX1_or) (maxL := 3) (ret := (some .boolean)) (by decide) rfl ?_
  intro p e s m args below meth c s₁ B hml hv
  obtain ⟨rfl, hsz, hP, hK, hD0⟩ := hv
  have hx := B.exec
  have hb := B.bytes
  have hr := B.returns
  have hts := atoms_spec (ws := wzX1_or) B.pre
  have hown : s.vm.findClass RX1 = some m.cls := findClass_of_methodNamed B.named
  have hlocks := B.notSynchronized
  subst hsz
  have hD := hD0.self (sz := s.heap.size)
  generalize hAe : va_A (cM hs ka u) s.heap.size = A at hD ⊢
  have hA : ∀ q : Nat, s.heap.size ≤ q → A q := fun q h => by rw [← hAe]; exact Or.inr h
  have hS : va_S A s.heap s.heap [] := va_S.rf
  have hP : va_P (dC, dI) vwCl (cM hs ka u) s.heap := hP
  clear hD0 hAe
  have hin0 : ∀ w ∈ u_ws RX1 TX1 23, w ∈ wzX1_or := fun w h => List.mem_cons_of_mem _ (inTX1 w h)
  have hf_37 := hts (.fieldLink RX1 37 "ConflictSolveModel" "kind" "[I") (List.mem_cons_of_mem _ tz_252)
  have hf_40 := hts (.fieldLink RX1 40 "ConflictSolveModel" "many" "[I") (List.mem_cons_of_mem _ tz_253)
  have hf_43 := hts (.fieldLink RX1 43 "ConflictSolveModel" "other" "[I") (List.mem_cons_of_mem _ tz_254)
  have hf_46 := hts (.fieldLink RX1 46 "ConflictSolveModel" "set" "[I") (List.mem_cons_of_mem _ tz_255)
  have hf_56 := hts (.fieldLink RX1 56 "ConflictSolveModel" "latest" "I") (List.mem_cons_of_mem _ tz_258)
  have hf_63 := hts (.fieldLink RX1 63 "ConflictSolveModel" "code" "I") (List.mem_cons_of_mem _ tz_238)
  have hl := lv_entry ([.ref (hs 0), .int p0, .int p1]) (n := 3) (Nat.le_of_ble_eq_true rfl)
  rw [lg_entry_eq]
  generalize (lg_sl ([.ref (hs 0), .int p0, .int p1]) ++ List.replicate (3 - (lg_sl ([.ref (hs 0), .int p0, .int p1])).length) Slot.unset).toArray = ls at hl ⊢
  have hl : lv_has ls 3 [(0, .ref (hs 0)), (1, .int p0), (2, .int p1)] := hl
  rw [pf_X1_or] at h
  refine lv_aload_n hx hb dX1_or_0 rfl (lv_at hl 0 rfl) ?_
  refine lv_iconst (v := (0 : Int32)) hx hb dX1_or_1 (by decide) ?_
  refine va_put (D := (dC, dI)) (ci := 1) (v := .int (0 : Int32)) (ty := .int) (C := RX1) (T := TX1) (N := 23) hx hb hts hin0 tyX1 tyX1_ok nmX1 hown hK hP hD hS 0 rfl rfl 0 (by decide) hf_63 (fun _ h9 => h9) rfl (by decide +kernel) rfl rfl (Nat.le_of_ble_eq_true rfl) dX1_or_2 (fun H locs hP hD hS => ?_)
  have hP : va_P (dC, dI) vwCl (cM hs ka (ms_code u (0 : Int32))) H := hP
  have hD : va_D A (cM hs ka (ms_code u (0 : Int32))) := hD
  refine lv_aload_n hx hb dX1_or_5 rfl (lv_at hl 0 rfl) ?_
  refine va_get (D := (dC, dI)) (ci := 1) (v := .int (m_latest u)) (C := RX1) (T := TX1) (N := 23) hx hb hts hin0 hown hK hP 0 rfl rfl 20 (by decide) hf_56 (fun _ h9 => h9) rfl dX1_or_6 ?_
  refine lv_iconst (v := (-1 : Int32)) hx hb dX1_or_9 (by decide) ?_
  refine lv_icmp_eq (tgt := 46) hx hb dX1_or_10 (by decide) (fun c_1 => ?_) (fun c_1 => ?_)
  · rw [if_pos c_1] at h
    refine lv_iconst (v := (0 : Int32)) hx hb dX1_or_46 (by decide) ?_
    have e9 := Option.some.inj h
    exact W.zret (v := (0 : Int32)) hx hb hr rfl (fun t ht hW => ⟨⟨(0 : Int32), (ms_code u (0 : Int32)), rfl, ⟨congrArg Prod.fst e9, congrArg Prod.snd e9⟩, by rw [ht]; exact hP, va_K.moved hW.alike hK, hD⟩, hS.F ht⟩) hS.2.2 dX1_or_47
  · rw [if_neg c_1] at h
    refine lv_aload_n hx hb dX1_or_13 rfl (lv_at hl 0 rfl) ?_
    refine va_get (D := (dC, dI)) (ci := 1) (v := .ref (hs 10)) (C := RX1) (T := TX1) (N := 23) hx hb hts hin0 hown hK hP 0 rfl rfl 14 (by decide) hf_37 (fun _ h9 => h9) rfl dX1_or_14 ?_
    refine lv_aload_n hx hb dX1_or_17 rfl (lv_at hl 0 rfl) ?_
    refine va_get (D := (dC, dI)) (ci := 1) (v := .int (m_latest u)) (C := RX1) (T := TX1) (N := 23) hx hb hts hin0 hown hK hP 0 rfl rfl 20 (by decide) hf_56 (fun _ h9 => h9) rfl dX1_or_18 ?_
    obtain ⟨g_2, h⟩ := og_some h
    refine va_iald (f := (m_kind u)) hx hb hK hP 10 9 rfl rfl (inb_in g_2) dX1_or_21 ?_
    refine lv_if_ne (tgt := 46) hx hb dX1_or_22 (by decide) (fun c_3 => ?_) (fun c_3 => ?_)
    · rw [if_neg c_3] at h
      refine lv_iconst (v := (0 : Int32)) hx hb dX1_or_46 (by decide) ?_
      have e9 := Option.some.inj h
      exact W.zret (v := (0 : Int32)) hx hb hr rfl (fun t ht hW => ⟨⟨(0 : Int32), (ms_code u (0 : Int32)), rfl, ⟨congrArg Prod.fst e9, congrArg Prod.snd e9⟩, by rw [ht]; exact hP, va_K.moved hW.alike hK, hD⟩, hS.F ht⟩) hS.2.2 dX1_or_47
    · rw [if_pos c_3] at h
      refine lv_aload_n hx hb dX1_or_25 rfl (lv_at hl 0 rfl) ?_
      refine va_get (D := (dC, dI)) (ci := 1) (v := .ref (hs 11)) (C := RX1) (T := TX1) (N := 23) hx hb hts hin0 hown hK hP 0 rfl rfl 15 (by decide) hf_40 (fun _ h9 => h9) rfl dX1_or_26 ?_
      refine lv_aload_n hx hb dX1_or_29 rfl (lv_at hl 0 rfl) ?_
      refine va_get (D := (dC, dI)) (ci := 1) (v := .int (m_latest u)) (C := RX1) (T := TX1) (N := 23) hx hb hts hin0 hown hK hP 0 rfl rfl 20 (by decide) hf_56 (fun _ h9 => h9) rfl dX1_or_30 ?_
      obtain ⟨g_4, h⟩ := og_some h
      refine va_iald (f := (m_many u)) hx hb hK hP 11 10 rfl rfl (inb_in g_4) dX1_or_33 ?_
      refine lv_iconst (v := (3 : Int32)) hx hb dX1_or_34 (by decide) ?_
      refine lv_icmp_eq (tgt := 46) hx hb dX1_or_35 (by decide) (fun c_5 => ?_) (fun c_5 => ?_)
      · rw [if_pos c_5] at h
        refine lv_iconst (v := (0 : Int32)) hx hb dX1_or_46 (by decide) ?_
        have e9 := Option.some.inj h
        exact W.zret (v := (0 : Int32)) hx hb hr rfl (fun t ht hW => ⟨⟨(0 : Int32), (ms_code u (0 : Int32)), rfl, ⟨congrArg Prod.fst e9, congrArg Prod.snd e9⟩, by rw [ht]; exact hP, va_K.moved hW.alike hK, hD⟩, hS.F ht⟩) hS.2.2 dX1_or_47
      · rw [if_neg c_5] at h
        refine lv_aload_n hx hb dX1_or_38 rfl (lv_at hl 0 rfl) ?_
        refine lv_iload_n hx hb dX1_or_39 rfl (lv_at hl 1 rfl) ?_
        have hPc : va_P (dC, dI) vwCl (cM hs ka (ms_code u (0 : Int32))) H := hP.sub [0, 1, 2, 3, 4, 5, 6, 7, 8, 9, 10, 11, 12, 13, 14, 15, 16] rfl
        have hDc : va_D A (cM hs ka (ms_code u (0 : Int32))) := hD.sub [0, 1, 2, 3, 4, 5, 6, 7, 8, 9, 10, 11, 12, 13, 14, 15, 16] (by decide) rfl
        have hKc := hK.sub (tys' := (tM ka)) [0, 1, 2, 3, 4, 5, 6, 7, 8, 9, 10, 11, 12, 13, 14, 15] rfl
        have hFc := va_free (wc := (cM hs ka (ms_code u (0 : Int32)))) hD hS hA [0, 1, 2, 3, 4, 5, 6, 7, 8, 9, 10, 11, 12, 13, 14, 15, 16] rfl
        refine va_calli (va_runV (As := [.int p0]) (rest := []) ⟨hx, hb, hml, hown, hts⟩ (c_X1_isPackage l dC dI hs ka H.size (ms_code u (0 : Int32)) p0 _ rfl) (cwV 1 hts gX1_or_X1_isPackage rfl rfl rfl (by decide +kernel) ⟨Nat.le_of_ble_eq_true rfl, Nat.le_of_ble_eq_true rfl⟩) ⟨fun a U g mk q => by obtain ⟨q0, q1, qP, qK, qD⟩ := q; exact ⟨q0, q1, qP, va_K.moved (u := U) (U := U.calling g mk a) (Vm.Alike.refl U.vm) qK, qD⟩, va_recv hKc hPc (ci := 1) (q0 := 0) rfl rfl, fun U hU hW => ⟨rfl, by rw [hU], by rw [hU]; exact hPc, va_K.moved hW.alike hKc, hDc.weaken (fun _ _ _ _ => trivial)⟩⟩ rfl rfl hl.1 rfl (lv_room (Nat.le_of_ble_eq_true rfl)) dX1_or_40 ⟨Nat.zero_le _, Nat.zero_le _⟩) hS (fun q _ h => hFc q h) hFc (fun r_6 u_c6 t H1 locs ht hvm hw hB hz1 hk1 hS => ?_)
        obtain ⟨hw1, hw2⟩ := hw
        subst r_6
        subst u_c6
        obtain ⟨hP1, hK1, hD1⟩ := hB
        rw [ht] at hP1
        obtain ⟨hP, hD⟩ := va_join (wc := (cM hs ka (ms_code u (0 : Int32)))) (wr := []) (w1 := (cM hs ka (ms_code u (0 : Int32)))) hP hD [0, 1, 2, 3, 4, 5, 6, 7, 8, 9, 10, 11, 12, 13, 14, 15, 16] [] rfl rfl (by decide) (by decide) hk1 hFc hP1 hD1
        clear hPc hDc hKc hFc hz1 hk1 hP1 hK1 hD1
        generalize H1 = H at hP hS ⊢
        have hP : va_P (dC, dI) vwCl (cM hs ka (ms_code u (0 : Int32))) H := hP
        have hD : va_D A (cM hs ka (ms_code u (0 : Int32))) := hD
        refine lv_if_ne (tgt := 48) hx hb dX1_or_43 (by decide) (fun c_7 => ?_) (fun c_7 => ?_)
        · rw [if_neg c_7] at h
          refine lv_aload_n hx hb dX1_or_48 rfl (lv_at hl 0 rfl) ?_
          refine va_get (D := (dC, dI)) (ci := 1) (v := .ref (hs 12)) (C := RX1) (T := TX1) (N := 23) hx hb hts hin0 hown hK hP 0 rfl rfl 16 (by decide) hf_43 (fun _ h9 => h9) rfl dX1_or_49 ?_
          refine lv_iconst (v := (3 : Int32)) hx hb dX1_or_52 (by decide) ?_
          refine lv_aload_n hx hb dX1_or_53 rfl (lv_at hl 0 rfl) ?_
          refine va_get (D := (dC, dI)) (ci := 1) (v := .int (m_latest u)) (C := RX1) (T := TX1) (N := 23) hx hb hts hin0 hown hK hP 0 rfl rfl 20 (by decide) hf_56 (fun _ h9 => h9) rfl dX1_or_54 ?_
          refine lv_imul hx hb dX1_or_57 ?_
          refine lv_aload_n hx hb dX1_or_58 rfl (lv_at hl 0 rfl) ?_
          refine va_get (D := (dC, dI)) (ci := 1) (v := .ref (hs 11)) (C := RX1) (T := TX1) (N := 23) hx hb hts hin0 hown hK hP 0 rfl rfl 15 (by decide) hf_40 (fun _ h9 => h9) rfl dX1_or_59 ?_
          refine lv_aload_n hx hb dX1_or_62 rfl (lv_at hl 0 rfl) ?_
          refine va_get (D := (dC, dI)) (ci := 1) (v := .int (m_latest u)) (C := RX1) (T := TX1) (N := 23) hx hb hts hin0 hown hK hP 0 rfl rfl 20 (by decide) hf_56 (fun _ h9 => h9) rfl dX1_or_63 ?_
          obtain ⟨g_8, h⟩ := og_some h
          refine va_iald (f := (m_many u)) hx hb hK hP 11 10 rfl rfl (inb_in g_8) dX1_or_66 ?_
          refine lv_iadd hx hb dX1_or_67 ?_
          refine lv_iload_n hx hb dX1_or_68 rfl (lv_at hl 1 rfl) ?_
          obtain ⟨g_9, h⟩ := og_some h
          refine va_iast (f := (m_other u)) hx hb hK hP hD hS 12 11 rfl rfl (inb_in g_9) dX1_or_69 (fun H locs hP hD hS => ?_)
          have hP : va_P (dC, dI) vwCl (cM hs ka (ms_other (ms_code u (0 : Int32)) (upd (m_other u) (((3 : Int32) * (m_latest u)) + ((m_many u) (m_latest u).toNatClampNeg)).toNatClampNeg p0))) H := hP
          have hD : va_D A (cM hs ka (ms_other (ms_code u (0 : Int32)) (upd (m_other u) (((3 : Int32) * (m_latest u)) + ((m_many u) (m_latest u).toNatClampNeg)).toNatClampNeg p0))) := hD
          refine lv_aload_n hx hb dX1_or_70 rfl (lv_at hl 0 rfl) ?_
          refine va_get (D := (dC, dI)) (ci := 1) (v := .ref (hs 13)) (C := RX1) (T := TX1) (N := 23) hx hb hts hin0 hown hK hP 0 rfl rfl 17 (by decide) hf_46 (fun _ h9 => h9) rfl dX1_or_71 ?_
          refine lv_iconst (v := (3 : Int32)) hx hb dX1_or_74 (by decide) ?_
          refine lv_aload_n hx hb dX1_or_75 rfl (lv_at hl 0 rfl) ?_
          refine va_get (D := (dC, dI)) (ci := 1) (v := .int (m_latest u)) (C := RX1) (T := TX1) (N := 23) hx hb hts hin0 hown hK hP 0 rfl rfl 20 (by decide) hf_56 (fun _ h9 => h9) rfl dX1_or_76 ?_
          refine lv_imul hx hb dX1_or_79 ?_
          refine lv_aload_n hx hb dX1_or_80 rfl (lv_at hl 0 rfl) ?_
          refine va_get (D := (dC, dI)) (ci := 1) (v := .ref (hs 11)) (C := RX1) (T := TX1) (N := 23) hx hb hts hin0 hown hK hP 0 rfl rfl 15 (by decide) hf_40 (fun _ h9 => h9) rfl dX1_or_81 ?_
          refine lv_aload_n hx hb dX1_or_84 rfl (lv_at hl 0 rfl) ?_
          refine va_get (D := (dC, dI)) (ci := 1) (v := .int (m_latest u)) (C := RX1) (T := TX1) (N := 23) hx hb hts hin0 hown hK hP 0 rfl rfl 20 (by decide) hf_56 (fun _ h9 => h9) rfl dX1_or_85 ?_
          obtain ⟨g_10, h⟩ := og_some h
          refine va_iald (f := (m_many u)) hx hb hK hP 11 10 rfl rfl (inb_in g_10) dX1_or_88 ?_
          refine lv_iadd hx hb dX1_or_89 ?_
          refine lv_iload_n hx hb dX1_or_90 rfl (lv_at hl 2 rfl) ?_
          obtain ⟨g_11, h⟩ := og_some h
          refine va_iast (f := (m_set u)) hx hb hK hP hD hS 13 12 rfl rfl (inb_in g_11) dX1_or_91 (fun H locs hP hD hS => ?_)
          have hP : va_P (dC, dI) vwCl (cM hs ka (ms_set (ms_other (ms_code u (0 : Int32)) (upd (m_other u) (((3 : Int32) * (m_latest u)) + ((m_many u) (m_latest u).toNatClampNeg)).toNatClampNeg p0)) (upd (m_set u) (((3 : Int32) * (m_latest u)) + ((m_many u) (m_latest u).toNatClampNeg)).toNatClampNeg p1))) H := hP
          have hD : va_D A (cM hs ka (ms_set (ms_other (ms_code u (0 : Int32)) (upd (m_other u) (((3 : Int32) * (m_latest u)) + ((m_many u) (m_latest u).toNatClampNeg)).toNatClampNeg p0)) (upd (m_set u) (((3 : Int32) * (m_latest u)) + ((m_many u) (m_latest u).toNatClampNeg)).toNatClampNeg p1))) := hD
          refine lv_aload_n hx hb dX1_or_92 rfl (lv_at hl 0 rfl) ?_
          refine va_get (D := (dC, dI)) (ci := 1) (v := .ref (hs 11)) (C := RX1) (T := TX1) (N := 23) hx hb hts hin0 hown hK hP 0 rfl rfl 15 (by decide) hf_40 (fun _ h9 => h9) rfl dX1_or_93 ?_
          refine lv_aload_n hx hb dX1_or_96 rfl (lv_at hl 0 rfl) ?_
          refine va_get (D := (dC, dI)) (ci := 1) (v := .int (m_latest u)) (C := RX1) (T := TX1) (N := 23) hx hb hts hin0 hown hK hP 0 rfl rfl 20 (by decide) hf_56 (fun _ h9 => h9) rfl dX1_or_97 ?_
          refine lv_dup2_11 hx hb dX1_or_100 rfl rfl ?_
          obtain ⟨g_12, h⟩ := og_some h
          refine va_iald (f := (m_many u)) hx hb hK hP 11 10 rfl rfl (inb_in g_12) dX1_or_101 ?_
          refine lv_iconst (v := (1 : Int32)) hx hb dX1_or_102 (by decide) ?_
          refine lv_iadd hx hb dX1_or_103 ?_
          obtain ⟨g_13, h⟩ := og_some h
          refine va_iast (f := (m_many u)) hx hb hK hP hD hS 11 10 rfl rfl (inb_in g_13) dX1_or_104 (fun H locs hP hD hS => ?_)
          have hP : va_P (dC, dI) vwCl (cM hs ka (ms_many (ms_set (ms_other (ms_code u (0 : Int32)) (upd (m_other u) (((3 : Int32) * (m_latest u)) + ((m_many u) (m_latest u).toNatClampNeg)).toNatClampNeg p0)) (upd (m_set u) (((3 : Int32) * (m_latest u)) + ((m_many u) (m_latest u).toNatClampNeg)).toNatClampNeg p1)) (upd (m_many u) (m_latest u).toNatClampNeg (((m_many u) (m_latest u).toNatClampNeg) + (1 : Int32))))) H := hP
          have hD : va_D A (cM hs ka (ms_many (ms_set (ms_other (ms_code u (0 : Int32)) (upd (m_other u) (((3 : Int32) * (m_latest u)) + ((m_many u) (m_latest u).toNatClampNeg)).toNatClampNeg p0)) (upd (m_set u) (((3 : Int32) * (m_latest u)) + ((m_many u) (m_latest u).toNatClampNeg)).toNatClampNeg p1)) (upd (m_many u) (m_latest u).toNatClampNeg (((m_many u) (m_latest u).toNatClampNeg) + (1 : Int32))))) := hD
          refine lv_iconst (v := (1 : Int32)) hx hb dX1_or_105 (by decide) ?_
          have e9 := Option.some.inj h
          exact W.zret (v := (1 : Int32)) hx hb hr rfl (fun t ht hW => ⟨⟨(1 : Int32), (ms_many (ms_set (ms_other (ms_code u (0 : Int32)) (upd (m_other u) (((3 : Int32) * (m_latest u)) + ((m_many u) (m_latest u).toNatClampNeg)).toNatClampNeg p0)) (upd (m_set u) (((3 : Int32) * (m_latest u)) + ((m_many u) (m_latest u).toNatClampNeg)).toNatClampNeg p1)) (upd (m_many u) (m_latest u).toNatClampNeg (((m_many u) (m_latest u).toNatClampNeg) + (1 : Int32)))), rfl, ⟨congrArg Prod.fst e9, congrArg Prod.snd e9⟩, by rw [ht]; exact hP, va_K.moved hW.alike hK, hD⟩, hS.F ht⟩) hS.2.2 dX1_or_106
        · rw [if_pos c_7] at h
          refine lv_iconst (v := (0 : Int32)) hx hb dX1_or_46 (by decide) ?_
          have e9 := Option.some.inj h
          exact W.zret (v := (0 : Int32)) hx hb hr rfl (fun t ht hW => ⟨⟨(0 : Int32), (ms_code u (0 : Int32)), rfl, ⟨congrArg Prod.fst e9, congrArg Prod.snd e9⟩, by rw [ht]; exact hP, va_K.moved hW.alike hK, hD⟩, hS.F ht⟩) hS.2.2 dX1_or_47
set_option maxHeartbeats 4000000 in
set_option maxRecDepth 100000 in
theorem c_X1_leaveOut (l : Launch) (dC : Nat → ClassId) (dI : Nat → Nat → Nat) (hs : Nat → Nat) (ka : Nat → ClassId) (sz : Nat) (fu : Nat) (u : MS) (p0 : Int32) (p1 : Int32) (r : Int32) (u' : MS) (h : pf_X1_leaveOut fu p0 p1 u = some (r, u')) : Met l yX1_leaveOut wzX1_leaveOut ({ frames := 0, cells := 0, slots := 0, locals := 0 }) (va_Pc [.ref (hs 0), .int p0, .int p1] (fun U => U.heap.size = sz ∧ va_P (dC, dI) vwCl (cM hs ka u) U.heap ∧ va_K (dC, dI) vwCl (tM ka) U ∧ va_D (fun _ => True) (cM hs ka u))) (va_Qi (fun (r1 : Int32) (u1 : MS) => r1 = r ∧ u1 = u') (aM dC dI (va_A (cM hs ka u) sz) hs ka) (va_A (cM hs ka u) sz)) 0 0 (va_A (cM hs ka u) sz) := by
  refine Met.ofW (cc := cX1_leaveOut) (maxL := 3) (ret := (some .boolean)) (by decide) rfl ?_
  intro p e s m args below meth c s₁ B hml hv
  obtain ⟨rfl, hsz, hP, hK, hD0⟩ := hv
  have hx := B.exec
  have hb := B.bytes
  have hr := B.returns
  have hts := atoms_spec (ws := wzX1_leaveOut) B.pre
  have hown : s.vm.findClass RX1 = some m.cls := findClass_of_methodNamed B.named
  have hlocks := B.notSynchronized
  subst hsz
  have hD := hD0.self (sz := s.heap.size)
  generalize hAe : va_A (cM hs ka u) s.heap.size = A at hD ⊢
  have hA : ∀ q : Nat, s.heap.size ≤ q → A q := fun q h => by rw [← hAe]; exact Or.inr h
  have hS : va_S A s.heap s.heap [] := va_S.rf
  have hP : va_P (dC, dI) vwCl (cM hs ka u) s.heap := hP
  clear hD0 hAe
  have hin0 : ∀ w ∈ u_ws RX1 TX1 23, w ∈ wzX1_leaveOut := fun w h => List.mem_cons_of_mem _ (inTX1 w h)
  have hf_49 := hts (.fieldLink RX1 49 "ConflictSolveModel" "out" "[Z") (List.mem_cons_of_mem _ tz_256)
  have hf_63 := hts (.fieldLink RX1 63 "ConflictSolveModel" "code" "I") (List.mem_cons_of_mem _ tz_238)
  have hf_84 := hts (.fieldLink RX1 84 "ConflictSolveModel" "demands" "I") (List.mem_cons_of_mem _ tz_248)
  have hl := lv_entry ([.ref (hs 0), .int p0, .int p1]) (n := 3) (Nat.le_of_ble_eq_true rfl)
  rw [lg_entry_eq]
  generalize (lg_sl ([.ref (hs 0), .int p0, .int p1]) ++ List.replicate (3 - (lg_sl ([.ref (hs 0), .int p0, .int p1])).length) Slot.unset).toArray = ls at hl ⊢
  have hl : lv_has ls 3 [(0, .ref (hs 0)), (1, .int p0), (2, .int p1)] := hl
  rw [pf_X1_leaveOut] at h
  refine lv_aload_n hx hb dX1_leaveOut_0 rfl (lv_at hl 0 rfl) ?_
  refine lv_iconst (v := (0 : Int32)) hx hb dX1_leaveOut_1 (by decide) ?_
  refine va_put (D := (dC, dI)) (ci := 1) (v := .int (0 : Int32)) (ty := .int) (C := RX1) (T := TX1) (N := 23) hx hb hts hin0 tyX1 tyX1_ok nmX1 hown hK hP hD hS 0 rfl rfl 0 (by decide) hf_63 (fun _ h9 => h9) rfl (by decide +kernel) rfl rfl (Nat.le_of_ble_eq_true rfl) dX1_leaveOut_2 (fun H locs hP hD hS => ?_)
  have hP : va_P (dC, dI) vwCl (cM hs ka (ms_code u (0 : Int32))) H := hP
  have hD : va_D A (cM hs ka (ms_code u (0 : Int32))) := hD
  refine lv_iload_n hx hb dX1_leaveOut_5 rfl (lv_at hl 1 rfl) ?_
  refine lv_if_lt (tgt := 27) hx hb dX1_leaveOut_6 (by decide) (fun c_1 => ?_) (fun c_1 => ?_)
  · rw [if_pos c_1] at h
    refine lv_iconst (v := (0 : Int32)) hx hb dX1_leaveOut_27 (by decide) ?_
    have e9 := Option.some.inj h
    exact W.zret (v := (0 : Int32)) hx hb hr rfl (fun t ht hW => ⟨⟨(0 : Int32), (ms_code u (0 : Int32)), rfl, ⟨congrArg Prod.fst e9, congrArg Prod.snd e9⟩, by rw [ht]; exact hP, va_K.moved hW.alike hK, hD⟩, hS.F ht⟩) hS.2.2 dX1_leaveOut_28
  · rw [if_neg c_1] at h
    refine lv_iload_n hx hb dX1_leaveOut_9 rfl (lv_at hl 1 rfl) ?_
    refine lv_aload_n hx hb dX1_leaveOut_10 rfl (lv_at hl 0 rfl) ?_
    refine va_get (D := (dC, dI)) (ci := 1) (v := .int (m_demands u)) (C := RX1) (T := TX1) (N := 23) hx hb hts hin0 hown hK hP 0 rfl rfl 10 (by decide) hf_84 (fun _ h9 => h9) rfl dX1_leaveOut_11 ?_
    refine lv_icmp_ge (tgt := 27) hx hb dX1_leaveOut_14 (by decide) (fun c_2 => ?_) (fun c_2 => ?_)
    · rw [if_pos c_2] at h
      refine lv_iconst (v := (0 : Int32)) hx hb dX1_leaveOut_27 (by decide) ?_
      have e9 := Option.some.inj h
      exact W.zret (v := (0 : Int32)) hx hb hr rfl (fun t ht hW => ⟨⟨(0 : Int32), (ms_code u (0 : Int32)), rfl, ⟨congrArg Prod.fst e9, congrArg Prod.snd e9⟩, by rw [ht]; exact hP, va_K.moved hW.alike hK, hD⟩, hS.F ht⟩) hS.2.2 dX1_leaveOut_28
    · rw [if_neg c_2] at h
      refine lv_aload_n hx hb dX1_leaveOut_17 rfl (lv_at hl 0 rfl) ?_
      refine va_get (D := (dC, dI)) (ci := 1) (v := .ref (hs 14)) (C := RX1) (T := TX1) (N := 23) hx hb hts hin0 hown hK hP 0 rfl rfl 18 (by decide) hf_49 (fun _ h9 => h9) rfl dX1_leaveOut_18 ?_
      refine lv_iload_n hx hb dX1_leaveOut_21 rfl (lv_at hl 1 rfl) ?_
      obtain ⟨g_3, h⟩ := og_some h
      refine va_zald (f := (m_out u)) hx hb hK hP 14 13 rfl rfl (inb_in g_3) dX1_leaveOut_22 ?_
      refine lv_iload_n hx hb dX1_leaveOut_23 rfl (lv_at hl 2 rfl) ?_
      refine lv_icmp_ne (tgt := 29) hx hb dX1_leaveOut_24 (by decide) (fun c_4 => ?_) (fun c_4 => ?_)
      · rw [if_neg c_4] at h
        refine lv_aload_n hx hb dX1_leaveOut_29 rfl (lv_at hl 0 rfl) ?_
        refine va_get (D := (dC, dI)) (ci := 1) (v := .ref (hs 14)) (C := RX1) (T := TX1) (N := 23) hx hb hts hin0 hown hK hP 0 rfl rfl 18 (by decide) hf_49 (fun _ h9 => h9) rfl dX1_leaveOut_30 ?_
        refine lv_iload_n hx hb dX1_leaveOut_33 rfl (lv_at hl 1 rfl) ?_
        refine lv_iload_n hx hb dX1_leaveOut_34 rfl (lv_at hl 2 rfl) ?_
        obtain ⟨g_5, h⟩ := og_some h
        refine va_zast (f := (m_out u)) hx hb hK hP hD hS 14 13 rfl rfl (inb_in g_5) dX1_leaveOut_35 (fun H locs hP hD hS => ?_)
        have hP : va_P (dC, dI) vwCl (cM hs ka (ms_out (ms_code u (0 : Int32)) (upd (m_out u) p0.toNatClampNeg (vp_nar .boolean p1)))) H := hP
        have hD : va_D A (cM hs ka (ms_out (ms_code u (0 : Int32)) (upd (m_out u) p0.toNatClampNeg (vp_nar .boolean p1)))) := hD
        refine lv_iconst (v := (1 : Int32)) hx hb dX1_leaveOut_36 (by decide) ?_
        have e9 := Option.some.inj h
        exact W.zret (v := (1 : Int32)) hx hb hr rfl (fun t ht hW => ⟨⟨(1 : Int32), (ms_out (ms_code u (0 : Int32)) (upd (m_out u) p0.toNatClampNeg (vp_nar .boolean p1))), rfl, ⟨congrArg Prod.fst e9, congrArg Prod.snd e9⟩, by rw [ht]; exact hP, va_K.moved hW.alike hK, hD⟩, hS.F ht⟩) hS.2.2 dX1_leaveOut_37
      · rw [if_pos c_4] at h
        refine lv_iconst (v := (0 : Int32)) hx hb dX1_leaveOut_27 (by decide) ?_
        have e9 := Option.some.inj h
        exact W.zret (v := (0 : Int32)) hx hb hr rfl (fun t ht hW => ⟨⟨(0 : Int32), (ms_code u (0 : Int32)), rfl, ⟨congrArg Prod.fst e9, congrArg Prod.snd e9⟩, by rw [ht]; exact hP, va_K.moved hW.alike hK, hD⟩, hS.F ht⟩) hS.2.2 dX1_leaveOut_28
set_option maxHeartbeats 4000000 in
set_option maxRecDepth 100000 in
theorem c_X1_lock (l : Launch) (dC : Nat → ClassId) (dI : Nat → Nat → Nat) (hs : Nat → Nat) (ka : Nat → ClassId) (sz : Nat) (fu : Nat) (u : MS) (p0 : Int32) (p1 : Int32) (r : Int32) (u' : MS) (h : pf_X1_lock fu p0 p1 u = some (r, u')) : Met l yX1_lock wzX1_lock ({ frames := 2, cells := 0, slots := 0, locals := 43 }) (va_Pc [.ref (hs 0), .int p0, .int p1] (fun U => U.heap.size = sz ∧ va_P (dC, dI) vwCl (cM hs ka u) U.heap ∧ va_K (dC, dI) vwCl (tM ka) U ∧ va_D (fun _ => True) (cM hs ka u))) (va_Qi (fun (r1 : Int32) (u1 : MS) => r1 = r ∧ u1 = u') (aM dC dI (va_A (cM hs ka u) sz) hs ka) (va_A (cM hs ka u) sz)) 0 0 (va_A (cM hs ka u) sz) := by
  refine Met.ofW (cc := cX1_lock) (maxL := 3) (ret := (some .boolean)) (by decide) rfl ?_
  intro p e s m args below meth c s₁ B hml hv
  obtain ⟨rfl, hsz, hP, hK, hD0⟩ := hv
  have hx := B.exec
  have hb := B.bytes
  have hr := B.returns
  have hts := atoms_spec (ws := wzX1_lock) B.pre
  have hown : s.vm.findClass RX1 = some m.cls := findClass_of_methodNamed B.named
  have hlocks := B.notSynchronized
  subst hsz
  have hD := hD0.self (sz := s.heap.size)
  generalize hAe : va_A (cM hs ka u) s.heap.size = A at hD ⊢
  have hA : ∀ q : Nat, s.heap.size ≤ q → A q := fun q h => by rw [← hAe]; exact Or.inr h
  have hS : va_S A s.heap s.heap [] := va_S.rf
  have hP : va_P (dC, dI) vwCl (cM hs ka u) s.heap := hP
  clear hD0 hAe
  have hin0 : ∀ w ∈ u_ws RX1 TX1 23, w ∈ wzX1_lock := fun w h => List.mem_cons_of_mem _ (inTX1 w h)
  have hf_13 := hts (.fieldLink RX1 13 "ConflictSolveModel" "locks" "[I") (List.mem_cons_of_mem _ tz_240)
  have hf_63 := hts (.fieldLink RX1 63 "ConflictSolveModel" "code" "I") (List.mem_cons_of_mem _ tz_238)
  have hl := lv_entry ([.ref (hs 0), .int p0, .int p1]) (n := 3) (Nat.le_of_ble_eq_true rfl)
  rw [lg_entry_eq]
  generalize (lg_sl ([.ref (hs 0), .int p0, .int p1]) ++ List.replicate (3 - (lg_sl ([.ref (hs 0), .int p0, .int p1])).length) Slot.unset).toArray = ls at hl ⊢
  have hl : lv_has ls 3 [(0, .ref (hs 0)), (1, .int p0), (2, .int p1)] := hl
  rw [pf_X1_lock] at h
  refine lv_aload_n hx hb dX1_lock_0 rfl (lv_at hl 0 rfl) ?_
  refine lv_iconst (v := (0 : Int32)) hx hb dX1_lock_1 (by decide) ?_
  refine va_put (D := (dC, dI)) (ci := 1) (v := .int (0 : Int32)) (ty := .int) (C := RX1) (T := TX1) (N := 23) hx hb hts hin0 tyX1 tyX1_ok nmX1 hown hK hP hD hS 0 rfl rfl 0 (by decide) hf_63 (fun _ h9 => h9) rfl (by decide +kernel) rfl rfl (Nat.le_of_ble_eq_true rfl) dX1_lock_2 (fun H locs hP hD hS => ?_)
  have hP : va_P (dC, dI) vwCl (cM hs ka (ms_code u (0 : Int32))) H := hP
  have hD : va_D A (cM hs ka (ms_code u (0 : Int32))) := hD
  refine lv_aload_n hx hb dX1_lock_5 rfl (lv_at hl 0 rfl) ?_
  refine lv_iload_n hx hb dX1_lock_6 rfl (lv_at hl 1 rfl) ?_
  have hPc : va_P (dC, dI) vwCl (cM hs ka (ms_code u (0 : Int32))) H := hP.sub [0, 1, 2, 3, 4, 5, 6, 7, 8, 9, 10, 11, 12, 13, 14, 15, 16] rfl
  have hDc : va_D A (cM hs ka (ms_code u (0 : Int32))) := hD.sub [0, 1, 2, 3, 4, 5, 6, 7, 8, 9, 10, 11, 12, 13, 14, 15, 16] (by decide) rfl
  have hKc := hK.sub (tys' := (tM ka)) [0, 1, 2, 3, 4, 5, 6, 7, 8, 9, 10, 11, 12, 13, 14, 15] rfl
  have hFc := va_free (wc := (cM hs ka (ms_code u (0 : Int32)))) hD hS hA [0, 1, 2, 3, 4, 5, 6, 7, 8, 9, 10, 11, 12, 13, 14, 15, 16] rfl
  refine va_calli (va_runV (As := [.int p0]) (rest := []) ⟨hx, hb, hml, hown, hts⟩ (c_X1_isPackage l dC dI hs ka H.size (ms_code u (0 : Int32)) p0 _ rfl) (cwV 1 hts gX1_lock_X1_isPackage rfl rfl rfl (by decide +kernel) ⟨Nat.le_of_ble_eq_true rfl, Nat.le_of_ble_eq_true rfl⟩) ⟨fun a U g mk q => by obtain ⟨q0, q1, qP, qK, qD⟩ := q; exact ⟨q0, q1, qP, va_K.moved (u := U) (U := U.calling g mk a) (Vm.Alike.refl U.vm) qK, qD⟩, va_recv hKc hPc (ci := 1) (q0 := 0) rfl rfl, fun U hU hW => ⟨rfl, by rw [hU], by rw [hU]; exact hPc, va_K.moved hW.alike hKc, hDc.weaken (fun _ _ _ _ => trivial)⟩⟩ rfl rfl hl.1 rfl (lv_room (Nat.le_of_ble_eq_true rfl)) dX1_lock_7 ⟨Nat.zero_le _, Nat.zero_le _⟩) hS (fun q _ h => hFc q h) hFc (fun r_1 u_c1 t H1 locs ht hvm hw hB hz1 hk1 hS => ?_)
  obtain ⟨hw1, hw2⟩ := hw
  subst r_1
  subst u_c1
  obtain ⟨hP1, hK1, hD1⟩ := hB
  rw [ht] at hP1
  obtain ⟨hP, hD⟩ := va_join (wc := (cM hs ka (ms_code u (0 : Int32)))) (wr := []) (w1 := (cM hs ka (ms_code u (0 : Int32)))) hP hD [0, 1, 2, 3, 4, 5, 6, 7, 8, 9, 10, 11, 12, 13, 14, 15, 16] [] rfl rfl (by decide) (by decide) hk1 hFc hP1 hD1
  clear hPc hDc hKc hFc hz1 hk1 hP1 hK1 hD1
  generalize H1 = H at hP hS ⊢
  have hP : va_P (dC, dI) vwCl (cM hs ka (ms_code u (0 : Int32))) H := hP
  have hD : va_D A (cM hs ka (ms_code u (0 : Int32))) := hD
  refine lv_if_eq (tgt := 27) hx hb dX1_lock_10 (by decide) (fun c_2 => ?_) (fun c_2 => ?_)
  · rw [if_pos c_2] at h
    refine lv_iconst (v := (0 : Int32)) hx hb dX1_lock_27 (by decide) ?_
    have e9 := Option.some.inj h
    exact W.zret (v := (0 : Int32)) hx hb hr rfl (fun t ht hW => ⟨⟨(0 : Int32), (ms_code u (0 : Int32)), rfl, ⟨congrArg Prod.fst e9, congrArg Prod.snd e9⟩, by rw [ht]; exact hP, va_K.moved hW.alike hK, hD⟩, hS.F ht⟩) hS.2.2 dX1_lock_28
  · rw [if_neg c_2] at h
    refine lv_iload_n hx hb dX1_lock_13 rfl (lv_at hl 2 rfl) ?_
    refine lv_iconst (v := (-1 : Int32)) hx hb dX1_lock_14 (by decide) ?_
    refine lv_icmp_eq (tgt := 29) hx hb dX1_lock_15 (by decide) (fun c_3 => ?_) (fun c_3 => ?_)
    · rw [if_pos c_3] at h
      refine lv_aload_n hx hb dX1_lock_29 rfl (lv_at hl 0 rfl) ?_
      refine va_get (D := (dC, dI)) (ci := 1) (v := .ref (hs 2)) (C := RX1) (T := TX1) (N := 23) hx hb hts hin0 hown hK hP 0 rfl rfl 2 (by decide) hf_13 (fun _ h9 => h9) rfl dX1_lock_30 ?_
      refine lv_iload_n hx hb dX1_lock_33 rfl (lv_at hl 1 rfl) ?_
      refine lv_iload_n hx hb dX1_lock_34 rfl (lv_at hl 2 rfl) ?_
      obtain ⟨g_4, h⟩ := og_some h
      refine va_iast (f := (m_locks u)) hx hb hK hP hD hS 2 1 rfl rfl (inb_in g_4) dX1_lock_35 (fun H locs hP hD hS => ?_)
      have hP : va_P (dC, dI) vwCl (cM hs ka (ms_locks (ms_code u (0 : Int32)) (upd (m_locks u) p0.toNatClampNeg p1))) H := hP
      have hD : va_D A (cM hs ka (ms_locks (ms_code u (0 : Int32)) (upd (m_locks u) p0.toNatClampNeg p1))) := hD
      refine lv_iconst (v := (1 : Int32)) hx hb dX1_lock_36 (by decide) ?_
      have e9 := Option.some.inj h
      exact W.zret (v := (1 : Int32)) hx hb hr rfl (fun t ht hW => ⟨⟨(1 : Int32), (ms_locks (ms_code u (0 : Int32)) (upd (m_locks u) p0.toNatClampNeg p1)), rfl, ⟨congrArg Prod.fst e9, congrArg Prod.snd e9⟩, by rw [ht]; exact hP, va_K.moved hW.alike hK, hD⟩, hS.F ht⟩) hS.2.2 dX1_lock_37
    · rw [if_neg c_3] at h
      refine lv_aload_n hx hb dX1_lock_18 rfl (lv_at hl 0 rfl) ?_
      refine lv_iload_n hx hb dX1_lock_19 rfl (lv_at hl 1 rfl) ?_
      refine lv_iload_n hx hb dX1_lock_20 rfl (lv_at hl 2 rfl) ?_
      obtain ⟨q_5, hc_5, h⟩ := ob_some h
      have hPc : va_P (dC, dI) vwCl (cM hs ka (ms_code u (0 : Int32))) H := hP.sub [0, 1, 2, 3, 4, 5, 6, 7, 8, 9, 10, 11, 12, 13, 14, 15, 16] rfl
      have hDc : va_D A (cM hs ka (ms_code u (0 : Int32))) := hD.sub [0, 1, 2, 3, 4, 5, 6, 7, 8, 9, 10, 11, 12, 13, 14, 15, 16] (by decide) rfl
      have hKc := hK.sub (tys' := (tM ka)) [0, 1, 2, 3, 4, 5, 6, 7, 8, 9, 10, 11, 12, 13, 14, 15] rfl
      have hFc := va_free (wc := (cM hs ka (ms_code u (0 : Int32)))) hD hS hA [0, 1, 2, 3, 4, 5, 6, 7, 8, 9, 10, 11, 12, 13, 14, 15, 16] rfl
      refine va_calli (va_runV (As := [.int p0, .int p1]) (rest := []) ⟨hx, hb, hml, hown, hts⟩ (c_X1_isVersion l dC dI hs ka H.size fu (ms_code u (0 : Int32)) p0 p1 q_5 hc_5) (cwV 2 hts gX1_lock_X1_isVersion rfl rfl rfl (by decide +kernel) ⟨Nat.le_of_ble_eq_true rfl, Nat.le_of_ble_eq_true rfl⟩) ⟨fun a U g mk q => by obtain ⟨q0, q1, qP, qK, qD⟩ := q; exact ⟨q0, q1, qP, va_K.moved (u := U) (U := U.calling g mk a) (Vm.Alike.refl U.vm) qK, qD⟩, va_recv hKc hPc (ci := 1) (q0 := 0) rfl rfl, fun U hU hW => ⟨rfl, by rw [hU], by rw [hU]; exact hPc, va_K.moved hW.alike hKc, hDc.weaken (fun _ _ _ _ => trivial)⟩⟩ rfl rfl hl.1 rfl (lv_room (Nat.le_of_ble_eq_true rfl)) dX1_lock_21 ⟨Nat.zero_le _, Nat.zero_le _⟩) hS (fun q _ h => hFc q h) hFc (fun r_5 u_c5 t H1 locs ht hvm hw hB hz1 hk1 hS => ?_)
      obtain ⟨hw1, hw2⟩ := hw
      subst r_5
      subst u_c5
      obtain ⟨hP1, hK1, hD1⟩ := hB
      rw [ht] at hP1
      obtain ⟨hP, hD⟩ := va_join (wc := (cM hs ka (ms_code u (0 : Int32)))) (wr := []) (w1 := (cM hs ka (ms_code u (0 : Int32)))) hP hD [0, 1, 2, 3, 4, 5, 6, 7, 8, 9, 10, 11, 12, 13, 14, 15, 16] [] rfl rfl (by decide) (by decide) hk1 hFc hP1 hD1
      clear hPc hDc hKc hFc hz1 hk1 hP1 hK1 hD1
      generalize H1 = H at hP hS ⊢
      have hP : va_P (dC, dI) vwCl (cM hs ka (ms_code u (0 : Int32))) H := hP
      have hD : va_D A (cM hs ka (ms_code u (0 : Int32))) := hD
      refine lv_if_ne (tgt := 29) hx hb dX1_lock_24 (by decide) (fun c_6 => ?_) (fun c_6 => ?_)
      · rw [if_neg c_6] at h
        refine lv_aload_n hx hb dX1_lock_29 rfl (lv_at hl 0 rfl) ?_
        refine va_get (D := (dC, dI)) (ci := 1) (v := .ref (hs 2)) (C := RX1) (T := TX1) (N := 23) hx hb hts hin0 hown hK hP 0 rfl rfl 2 (by decide) hf_13 (fun _ h9 => h9) rfl dX1_lock_30 ?_
        refine lv_iload_n hx hb dX1_lock_33 rfl (lv_at hl 1 rfl) ?_
        refine lv_iload_n hx hb dX1_lock_34 rfl (lv_at hl 2 rfl) ?_
        obtain ⟨g_7, h⟩ := og_some h
        refine va_iast (f := (m_locks u)) hx hb hK hP hD hS 2 1 rfl rfl (inb_in g_7) dX1_lock_35 (fun H locs hP hD hS => ?_)
        have hP : va_P (dC, dI) vwCl (cM hs ka (ms_locks (ms_code u (0 : Int32)) (upd (m_locks u) p0.toNatClampNeg p1))) H := hP
        have hD : va_D A (cM hs ka (ms_locks (ms_code u (0 : Int32)) (upd (m_locks u) p0.toNatClampNeg p1))) := hD
        refine lv_iconst (v := (1 : Int32)) hx hb dX1_lock_36 (by decide) ?_
        have e9 := Option.some.inj h
        exact W.zret (v := (1 : Int32)) hx hb hr rfl (fun t ht hW => ⟨⟨(1 : Int32), (ms_locks (ms_code u (0 : Int32)) (upd (m_locks u) p0.toNatClampNeg p1)), rfl, ⟨congrArg Prod.fst e9, congrArg Prod.snd e9⟩, by rw [ht]; exact hP, va_K.moved hW.alike hK, hD⟩, hS.F ht⟩) hS.2.2 dX1_lock_37
      · rw [if_pos c_6] at h
        refine lv_iconst (v := (0 : Int32)) hx hb dX1_lock_27 (by decide) ?_
        have e9 := Option.some.inj h
        exact W.zret (v := (0 : Int32)) hx hb hr rfl (fun t ht hW => ⟨⟨(0 : Int32), (ms_code u (0 : Int32)), rfl, ⟨congrArg Prod.fst e9, congrArg Prod.snd e9⟩, by rw [ht]; exact hP, va_K.moved hW.alike hK, hD⟩, hS.F ht⟩) hS.2.2 dX1_lock_28
