set_option maxHeartbeats 4000000 in
set_option maxRecDepth 100000 in
theorem c_X0_narrowByRule (l : Launch) (dC : Nat → ClassId) (dI : Nat → Nat → Nat) (sz : Nat) (p0 : Int64) (p1 : Int64) (r : Int64) (h : pf_X0_narrowByRule p0 p1 = r) : Met l yX0_narrowByRule wzX0_narrowByRule ({ frames := 1, cells := 0, slots := 0, locals := 21 }) (va_Pc [.long p0, .long p1] (fun U => U.heap.size = sz ∧ va_P (dC, dI) vwCl ([] : va_W) U.heap ∧ va_K (dC, dI) vwCl ([] : List (ClassId × FieldType)) U ∧ va_D (fun _ => True) ([] : va_W))) (va_Ql (fun (r1 : Int64) (u1 : Unit) => r1 = r) (aS dC dI (va_A ([] : va_W) sz)) (va_A ([] : va_W) sz)) 0 0 (va_A ([] : va_W) sz) := by
  refine Met.ofW (cc := cX0_narrowByRule) (maxL := 10) (ret := (some .long)) (by decide) rfl ?_
  intro p e s m args below meth c s₁ B hml hv
  obtain ⟨rfl, hsz, hP, hK, hD0⟩ := hv
  have hx := B.exec
  have hb := B.bytes
  have hr := B.returns
  have hts := atoms_spec (ws := wzX0_narrowByRule) B.pre
  have hown : s.vm.findClass RX0 = some m.cls := findClass_of_methodNamed B.named
  have hlocks := B.notSynchronized
  subst hsz
  have hD := hD0.self (sz := s.heap.size)
  generalize hAe : va_A ([] : va_W) s.heap.size = A at hD ⊢
  have hA : ∀ q : Nat, s.heap.size ≤ q → A q := fun q h => by rw [← hAe]; exact Or.inr h
  have hS : va_S A s.heap s.heap [] := va_S.rf
  have hP : va_P (dC, dI) vwCl ([] : va_W) s.heap := hP
  clear hD0 hAe
  have hl := lv_entry ([.long p0, .long p1]) (n := 10) (Nat.le_of_ble_eq_true rfl)
  rw [lg_entry_eq]
  generalize (lg_sl ([.long p0, .long p1]) ++ List.replicate (10 - (lg_sl ([.long p0, .long p1])).length) Slot.unset).toArray = ls at hl ⊢
  have hl : lv_has ls 10 [(0, .long p0), (2, .long p1)] := hl
  rw [pf_X0_narrowByRule] at h
  refine lv_lload_n hx hb dX0_narrowByRule_0 rfl (lv_at hl 0 rfl) ?_
  refine lv_lload_n hx hb dX0_narrowByRule_1 rfl (lv_at hl 1 rfl) ?_
  refine lv_land hx hb dX0_narrowByRule_2 ?_
  refine lv_lstore (lv' := [(4, .long (p0 &&& p1)), (0, .long p0), (2, .long p1)]) hx hb dX0_narrowByRule_3 hl (by decide) rfl (fun ls hl => ?_)
  refine lv_lload hx hb dX0_narrowByRule_5 (lv_at hl 0 rfl) ?_
  refine lv_lconst (v := (0 : Int64)) hx hb dX0_narrowByRule_7 (by decide) ?_
  refine W.lcmp hx hb dX0_narrowByRule_8 ?_
  refine lv_if_ne (tgt := 14) hx hb dX0_narrowByRule_9 (by decide) (fun c_1 => ?_) (fun c_1 => ?_)
  · have c_1 := (fun q => c_1 ((lg_cmp_eq _ _).mpr q))
    rw [if_neg c_1] at h
    refine lv_lload hx hb dX0_narrowByRule_14 (lv_at hl 0 rfl) ?_
    refine lv_lload hx hb dX0_narrowByRule_16 (lv_at hl 0 rfl) ?_
    refine lv_lneg hx hb dX0_narrowByRule_18 ?_
    refine lv_land hx hb dX0_narrowByRule_19 ?_
    refine lv_lconst (v := (1 : Int64)) hx hb dX0_narrowByRule_20 (by decide) ?_
    refine lv_lsub hx hb dX0_narrowByRule_21 ?_
    have hPc : va_P (dC, dI) vwCl ([] : va_W) s.heap := hP.sub [] rfl
    have hDc : va_D A ([] : va_W) := hD.sub [] (by decide) rfl
    have hKc := hK.sub (tys' := []) [] rfl
    have hFc := va_free (wc := ([] : va_W)) hD hS hA [] rfl
    refine va_calli (va_runS (As := [.long (((p0 &&& p1) &&& (-(p0 &&& p1))) - (1 : Int64))]) (rest := []) ⟨hx, hb, hml, hown, hts⟩ (c_J13_bitCount l dC dI s.heap.size (((p0 &&& p1) &&& (-(p0 &&& p1))) - (1 : Int64)) _ rfl) (va_cwS 1 hts gX0_narrowByRule_J13_bitCount rfl rfl rfl (by decide +kernel) ⟨Nat.le_of_ble_eq_true rfl, Nat.le_of_ble_eq_true rfl⟩) ⟨fun a U g mk q => by obtain ⟨q0, q1, qP, qK, qD⟩ := q; exact ⟨q0, q1, qP, va_K.moved (u := U) (U := U.calling g mk a) (Vm.Alike.refl U.vm) qK, qD⟩, fun U hU hW => ⟨rfl, by rw [hU], by rw [hU]; exact hPc, va_K.moved hW.alike hKc, hDc.weaken (fun _ _ _ _ => trivial)⟩⟩ rfl rfl hl.1 rfl (lv_room (Nat.le_of_ble_eq_true rfl)) dX0_narrowByRule_22 ⟨Nat.zero_le _, Nat.zero_le _⟩) hS (fun q _ h => hFc q h) hFc (fun r_2 u_c2 t H1 locs ht hvm hw hB hz1 hk1 hS => ?_)
    subst r_2
    obtain ⟨hP1, hK1, hD1⟩ := hB
    rw [ht] at hP1
    obtain ⟨hP, hD⟩ := va_join (wc := ([] : va_W)) (wr := ([] : va_W)) (w1 := ([] : va_W)) hP hD [] [] rfl rfl (by decide) (by decide) hk1 hFc hP1 hD1
    clear hPc hDc hKc hFc hz1 hk1 hP1 hK1 hD1
    generalize H1 = H at hP hS ⊢
    refine lv_istore (lv' := [(6, .int (pf_J13_bitCount (((p0 &&& p1) &&& (-(p0 &&& p1))) - (1 : Int64)))), (4, .long (p0 &&& p1)), (0, .long p0), (2, .long p1)]) hx hb dX0_narrowByRule_25 hl (by decide) rfl (fun ls hl => ?_)
    refine lv_iload hx hb dX0_narrowByRule_27 (lv_at hl 0 rfl) ?_
    refine lv_bipush (v := (8 : Int32)) hx hb dX0_narrowByRule_29 (by decide) ?_
    refine lv_idiv hx hb dX0_narrowByRule_31 (by decide) ?_
    have hPc : va_P (dC, dI) vwCl ([] : va_W) H := hP.sub [] rfl
    have hDc : va_D A ([] : va_W) := hD.sub [] (by decide) rfl
    have hKc := hK.sub (tys' := []) [] rfl
    have hFc := va_free (wc := ([] : va_W)) hD hS hA [] rfl
    refine va_calll (va_runS (As := [.int ((pf_J13_bitCount (((p0 &&& p1) &&& (-(p0 &&& p1))) - (1 : Int64))) / (8 : Int32))]) (rest := []) ⟨hx, hb, hml, hown, hts⟩ (c_X0_allOf l dC dI H.size ((pf_J13_bitCount (((p0 &&& p1) &&& (-(p0 &&& p1))) - (1 : Int64))) / (8 : Int32)) _ rfl) (va_cwS 1 hts gX0_narrowByRule_X0_allOf rfl rfl rfl (by decide +kernel) ⟨Nat.le_of_ble_eq_true rfl, Nat.le_of_ble_eq_true rfl⟩) ⟨fun a U g mk q => by obtain ⟨q0, q1, qP, qK, qD⟩ := q; exact ⟨q0, q1, qP, va_K.moved (u := U) (U := U.calling g mk a) (Vm.Alike.refl U.vm) qK, qD⟩, fun U hU hW => ⟨rfl, by rw [hU], by rw [hU]; exact hPc, va_K.moved hW.alike hKc, hDc.weaken (fun _ _ _ _ => trivial)⟩⟩ rfl rfl hl.1 rfl (lv_room (Nat.le_of_ble_eq_true rfl)) dX0_narrowByRule_32 ⟨Nat.zero_le _, Nat.zero_le _⟩) hS (fun q _ h => hFc q h) hFc (fun r_3 u_c3 t H1 locs ht hvm hw hB hz1 hk1 hS => ?_)
    subst r_3
    obtain ⟨hP1, hK1, hD1⟩ := hB
    rw [ht] at hP1
    obtain ⟨hP, hD⟩ := va_join (wc := ([] : va_W)) (wr := ([] : va_W)) (w1 := ([] : va_W)) hP hD [] [] rfl rfl (by decide) (by decide) hk1 hFc hP1 hD1
    clear hPc hDc hKc hFc hz1 hk1 hP1 hK1 hD1
    generalize H1 = H at hP hS ⊢
    refine lv_lstore (lv' := [(7, .long (pf_X0_allOf ((pf_J13_bitCount (((p0 &&& p1) &&& (-(p0 &&& p1))) - (1 : Int64))) / (8 : Int32)))), (6, .int (pf_J13_bitCount (((p0 &&& p1) &&& (-(p0 &&& p1))) - (1 : Int64)))), (4, .long (p0 &&& p1)), (0, .long p0), (2, .long p1)]) hx hb dX0_narrowByRule_35 hl (by decide) rfl (fun ls hl => ?_)
    refine lv_lload hx hb dX0_narrowByRule_37 (lv_at hl 2 rfl) ?_
    refine lv_lload hx hb dX0_narrowByRule_39 (lv_at hl 0 rfl) ?_
    refine lv_ldc2 (v := (-1 : Int64)) hx hb hown (hts (.constantLong RX0 55 (-1)) (List.mem_cons_of_mem _ tz_121)) dX0_narrowByRule_41 ?_
    refine lv_lxor hx hb dX0_narrowByRule_44 ?_
    refine lv_land hx hb dX0_narrowByRule_45 ?_
    refine lv_lconst (v := (0 : Int64)) hx hb dX0_narrowByRule_46 (by decide) ?_
    refine W.lcmp hx hb dX0_narrowByRule_47 ?_
    refine lv_if_ne (tgt := 55) hx hb dX0_narrowByRule_48 (by decide) (fun c_4 => ?_) (fun c_4 => ?_)
    · have c_4 := (fun q => c_4 ((lg_cmp_eq _ _).mpr q))
      rw [if_neg c_4] at h
      refine lv_iconst (v := (0 : Int32)) hx hb dX0_narrowByRule_55 (by decide) ?_
      refine lv_istore (lv' := [(9, .int (0 : Int32)), (7, .long (pf_X0_allOf ((pf_J13_bitCount (((p0 &&& p1) &&& (-(p0 &&& p1))) - (1 : Int64))) / (8 : Int32)))), (6, .int (pf_J13_bitCount (((p0 &&& p1) &&& (-(p0 &&& p1))) - (1 : Int64)))), (4, .long (p0 &&& p1)), (0, .long p0), (2, .long p1)]) hx hb dX0_narrowByRule_56 hl (by decide) rfl (fun ls hl => ?_)
      refine lv_iload hx hb dX0_narrowByRule_58 (lv_at hl 0 rfl) ?_
      refine lv_if_eq (tgt := 77) hx hb dX0_narrowByRule_60 (by decide) (fun c_5 => ?_) (fun c_5 => ?_)
      · rw [if_pos c_5] at h
        refine lv_lload_n hx hb dX0_narrowByRule_77 rfl (lv_at hl 4 rfl) ?_
        have e9 := h
        exact W.lret (v := p0) hx hb hr (fun t ht hW => ⟨⟨p0, (), rfl, e9, by rw [ht]; exact hP, va_K.moved hW.alike hK, hD⟩, hS.F ht⟩) hS.2.2 dX0_narrowByRule_78
      · rw [if_neg c_5] at h
        refine lv_lload_n hx hb dX0_narrowByRule_63 rfl (lv_at hl 4 rfl) ?_
        refine lv_lload hx hb dX0_narrowByRule_64 (lv_at hl 1 rfl) ?_
        refine lv_ldc2 (v := (-1 : Int64)) hx hb hown (hts (.constantLong RX0 55 (-1)) (List.mem_cons_of_mem _ tz_121)) dX0_narrowByRule_66 ?_
        refine lv_lxor hx hb dX0_narrowByRule_69 ?_
        refine lv_land hx hb dX0_narrowByRule_70 ?_
        refine lv_lload hx hb dX0_narrowByRule_71 (lv_at hl 3 rfl) ?_
        refine lv_lor hx hb dX0_narrowByRule_73 ?_
        refine lv_goto (tgt := 78) hx hb dX0_narrowByRule_74 (by decide) ?_
        have e9 := h
        exact W.lret (v := ((p0 &&& ((pf_X0_allOf ((pf_J13_bitCount (((p0 &&& p1) &&& (-(p0 &&& p1))) - (1 : Int64))) / (8 : Int32))) ^^^ (-1 : Int64))) ||| (p0 &&& p1))) hx hb hr (fun t ht hW => ⟨⟨((p0 &&& ((pf_X0_allOf ((pf_J13_bitCount (((p0 &&& p1) &&& (-(p0 &&& p1))) - (1 : Int64))) / (8 : Int32))) ^^^ (-1 : Int64))) ||| (p0 &&& p1)), (), rfl, e9, by rw [ht]; exact hP, va_K.moved hW.alike hK, hD⟩, hS.F ht⟩) hS.2.2 dX0_narrowByRule_78
    · have c_4 := (lg_cmp_eq _ _).mp c_4
      rw [if_pos c_4] at h
      refine lv_iconst (v := (1 : Int32)) hx hb dX0_narrowByRule_51 (by decide) ?_
      refine lv_goto (tgt := 56) hx hb dX0_narrowByRule_52 (by decide) ?_
      refine lv_istore (lv' := [(9, .int (1 : Int32)), (7, .long (pf_X0_allOf ((pf_J13_bitCount (((p0 &&& p1) &&& (-(p0 &&& p1))) - (1 : Int64))) / (8 : Int32)))), (6, .int (pf_J13_bitCount (((p0 &&& p1) &&& (-(p0 &&& p1))) - (1 : Int64)))), (4, .long (p0 &&& p1)), (0, .long p0), (2, .long p1)]) hx hb dX0_narrowByRule_56 hl (by decide) rfl (fun ls hl => ?_)
      refine lv_iload hx hb dX0_narrowByRule_58 (lv_at hl 0 rfl) ?_
      refine lv_if_eq (tgt := 77) hx hb dX0_narrowByRule_60 (by decide) (fun c_6 => ?_) (fun c_6 => ?_)
      · rw [if_pos c_6] at h
        refine lv_lload_n hx hb dX0_narrowByRule_77 rfl (lv_at hl 4 rfl) ?_
        have e9 := h
        exact W.lret (v := p0) hx hb hr (fun t ht hW => ⟨⟨p0, (), rfl, e9, by rw [ht]; exact hP, va_K.moved hW.alike hK, hD⟩, hS.F ht⟩) hS.2.2 dX0_narrowByRule_78
      · rw [if_neg c_6] at h
        refine lv_lload_n hx hb dX0_narrowByRule_63 rfl (lv_at hl 4 rfl) ?_
        refine lv_lload hx hb dX0_narrowByRule_64 (lv_at hl 1 rfl) ?_
        refine lv_ldc2 (v := (-1 : Int64)) hx hb hown (hts (.constantLong RX0 55 (-1)) (List.mem_cons_of_mem _ tz_121)) dX0_narrowByRule_66 ?_
        refine lv_lxor hx hb dX0_narrowByRule_69 ?_
        refine lv_land hx hb dX0_narrowByRule_70 ?_
        refine lv_lload hx hb dX0_narrowByRule_71 (lv_at hl 3 rfl) ?_
        refine lv_lor hx hb dX0_narrowByRule_73 ?_
        refine lv_goto (tgt := 78) hx hb dX0_narrowByRule_74 (by decide) ?_
        have e9 := h
        exact W.lret (v := ((p0 &&& ((pf_X0_allOf ((pf_J13_bitCount (((p0 &&& p1) &&& (-(p0 &&& p1))) - (1 : Int64))) / (8 : Int32))) ^^^ (-1 : Int64))) ||| (p0 &&& p1))) hx hb hr (fun t ht hW => ⟨⟨((p0 &&& ((pf_X0_allOf ((pf_J13_bitCount (((p0 &&& p1) &&& (-(p0 &&& p1))) - (1 : Int64))) / (8 : Int32))) ^^^ (-1 : Int64))) ||| (p0 &&& p1)), (), rfl, e9, by rw [ht]; exact hP, va_K.moved hW.alike hK, hD⟩, hS.F ht⟩) hS.2.2 dX0_narrowByRule_78
  · have c_1 := (lg_cmp_eq _ _).mp c_1
    rw [if_pos c_1] at h
    refine lv_lconst (v := (0 : Int64)) hx hb dX0_narrowByRule_12 (by decide) ?_
    have e9 := h
    exact W.lret (v := (0 : Int64)) hx hb hr (fun t ht hW => ⟨⟨(0 : Int64), (), rfl, e9, by rw [ht]; exact hP, va_K.moved hW.alike hK, hD⟩, hS.F ht⟩) hS.2.2 dX0_narrowByRule_13
set_option maxHeartbeats 4000000 in
set_option maxRecDepth 100000 in
theorem c_X0_narrow (l : Launch) (dC : Nat → ClassId) (dI : Nat → Nat → Nat) (hs : Nat → Nat) (ka : Nat → ClassId) (sz : Nat) (fu : Nat) (u : XS) (p0 : Int64) (p1 : Int32) (r : Int64) (h : pf_X0_narrow fu p0 p1 u = some r) : Met l yX0_narrow wzX0_narrow ({ frames := 2, cells := 0, slots := 0, locals := 50 }) (va_Pc [.ref (hs 0), .long p0, .int p1] (fun U => U.heap.size = sz ∧ va_P (dC, dI) vwCl (cX hs ka u) U.heap ∧ va_K (dC, dI) vwCl (tX ka) U ∧ va_D (fun _ => True) (cX hs ka u))) (va_Ql (fun (r1 : Int64) (u1 : XS) => r1 = r ∧ u1 = u) (aX dC dI (va_A (cX hs ka u) sz) hs ka) (va_A (cX hs ka u) sz)) 0 0 (va_A (cX hs ka u) sz) := by
  refine Met.ofW (cc := cX0_narrow) (maxL := 10) (ret := (some .long)) (by decide) rfl ?_
  intro p e s m args below meth c s₁ B hml hv
  obtain ⟨rfl, hsz, hP, hK, hD0⟩ := hv
  have hx := B.exec
  have hb := B.bytes
  have hr := B.returns
  have hts := atoms_spec (ws := wzX0_narrow) B.pre
  have hown : s.vm.findClass RX0 = some m.cls := findClass_of_methodNamed B.named
  have hlocks := B.notSynchronized
  subst hsz
  have hD := hD0.self (sz := s.heap.size)
  generalize hAe : va_A (cX hs ka u) s.heap.size = A at hD ⊢
  have hA : ∀ q : Nat, s.heap.size ≤ q → A q := fun q h => by rw [← hAe]; exact Or.inr h
  have hS : va_S A s.heap s.heap [] := va_S.rf
  have hP : va_P (dC, dI) vwCl (cX hs ka u) s.heap := hP
  clear hD0 hAe
  have hin0 : ∀ w ∈ u_ws RX0 TX0 14, w ∈ wzX0_narrow := fun w h => List.mem_cons_of_mem _ (inTX0 w h)
  have hf_13 := hts (.fieldLink RX0 13 "ConflictSolve" "demandRules" "[J") (List.mem_cons_of_mem _ tz_43)
  have hf_34 := hts (.fieldLink RX0 34 "ConflictSolve" "rows" "I") (List.mem_cons_of_mem _ tz_46)
  have hf_65 := hts (.fieldLink RX0 65 "ConflictSolve" "demands" "I") (List.mem_cons_of_mem _ tz_47)
  have hf_9 := hts (.fieldLink RX0 9 "ConflictSolve" "rowRules" "[J") (List.mem_cons_of_mem _ tz_42)
  have hl := lv_entry ([.ref (hs 0), .long p0, .int p1]) (n := 10) (Nat.le_of_ble_eq_true rfl)
  rw [lg_entry_eq]
  generalize (lg_sl ([.ref (hs 0), .long p0, .int p1]) ++ List.replicate (10 - (lg_sl ([.ref (hs 0), .long p0, .int p1])).length) Slot.unset).toArray = ls at hl ⊢
  have hl : lv_has ls 10 [(0, .ref (hs 0)), (1, .long p0), (3, .int p1)] := hl
  rw [pf_X0_narrow] at h
  refine lv_lload_n hx hb dX0_narrow_0 rfl (lv_at hl 1 rfl) ?_
  refine lv_lstore (lv' := [(4, .long p0), (0, .ref (hs 0)), (1, .long p0), (3, .int p1)]) hx hb dX0_narrow_1 hl (by decide) rfl (fun ls hl => ?_)
  refine lv_iconst (v := (0 : Int32)) hx hb dX0_narrow_3 (by decide) ?_
  refine lv_istore (lv' := [(6, .int (0 : Int32)), (4, .long p0), (0, .ref (hs 0)), (1, .long p0), (3, .int p1)]) hx hb dX0_narrow_4 hl (by decide) rfl (fun ls hl => ?_)
  have lp_6 : ∀ K_6 : Int32 → Int64 → Option (Int64), (∀ (x6_6 : Int32) (x4_6 : Int64) (H : Heap) (locs : List Loc) (ls : Array Slot), K_6 x6_6 x4_6 = some r → va_P (dC, dI) vwCl (cX hs ka u) H → va_D A (cX hs ka u) → va_S A s.heap H locs → lv_has ls 10 [(6, .int x6_6), (4, .long x4_6), (0, .ref (hs 0)), (1, .long p0), (3, .int p1)] → W p l e (headSpec wzX0_narrow ({ frames := 2, cells := 0, slots := 0, locals := 50 })).room s m ([.ref (hs 0), .long p0, .int p1] : List Value).toArray below meth c H locs 0 0 (MQ below (va_Ql (fun (r1 : Int64) (u1 : XS) => r1 = r ∧ u1 = u) (aX dC dI A hs ka) A) ([.ref (hs 0), .long p0, .int p1] : List Value).toArray s 0 0 A) (F0 m 121 ls [])) → ∀ n_6 : Nat, ∀ (x6_6 : Int32) (x4_6 : Int64) (H : Heap) (locs : List Loc) (ls : Array Slot), pl_X0_narrow_6 fu p1 u K_6 n_6 x6_6 x4_6 = some r → va_P (dC, dI) vwCl (cX hs ka u) H → va_D A (cX hs ka u) → va_S A s.heap H locs → lv_has ls 10 [(6, .int x6_6), (4, .long x4_6), (0, .ref (hs 0)), (1, .long p0), (3, .int p1)] → W p l e (headSpec wzX0_narrow ({ frames := 2, cells := 0, slots := 0, locals := 50 })).room s m ([.ref (hs 0), .long p0, .int p1] : List Value).toArray below meth c H locs 0 0 (MQ below (va_Ql (fun (r1 : Int64) (u1 : XS) => r1 = r ∧ u1 = u) (aX dC dI A hs ka) A) ([.ref (hs 0), .long p0, .int p1] : List Value).toArray s 0 0 A) (F0 m 6 ls []) := by
    intro K_6 hk_6 n_6
    induction n_6 with
    | zero =>
      intro x6_6 x4_6 H locs ls h
      exact absurd (show (none : Option (Int64)) = some r from h) (fun q => by cases q)
    | succ n_6 ih_6 =>
      intro x6_6 x4_6 H locs ls h hP hD hS hl
      rw [pl_X0_narrow_6] at h
      refine lv_iload hx hb dX0_narrow_6 (lv_at hl 0 rfl) ?_
      refine lv_bipush (v := (64 : Int32)) hx hb dX0_narrow_8 (by decide) ?_
      refine lv_icmp_ge (tgt := 121) hx hb dX0_narrow_10 (by decide) (fun c_1 => ?_) (fun c_1 => ?_)
      · rw [if_pos c_1] at h
        exact hk_6 x6_6 x4_6 _ _ _ h hP hD hS (lv_sub hl [0, 1, 2, 3, 4] rfl)
      · rw [if_neg c_1] at h
        refine lv_lload hx hb dX0_narrow_13 (lv_at hl 1 rfl) ?_
        refine lv_lstore (lv' := [(7, .long x4_6), (6, .int x6_6), (4, .long x4_6), (0, .ref (hs 0)), (1, .long p0), (3, .int p1)]) hx hb dX0_narrow_15 hl (by decide) rfl (fun ls hl => ?_)
        refine lv_iconst (v := (0 : Int32)) hx hb dX0_narrow_17 (by decide) ?_
        refine lv_istore (lv' := [(9, .int (0 : Int32)), (7, .long x4_6), (6, .int x6_6), (4, .long x4_6), (0, .ref (hs 0)), (1, .long p0), (3, .int p1)]) hx hb dX0_narrow_18 hl (by decide) rfl (fun ls hl => ?_)
        have lp_20 : ∀ K_20 : Int32 → Int64 → Option (Int64), (∀ (x9_20 : Int32) (x4_20 : Int64) (H : Heap) (locs : List Loc) (ls : Array Slot), K_20 x9_20 x4_20 = some r → va_P (dC, dI) vwCl (cX hs ka u) H → va_D A (cX hs ka u) → va_S A s.heap H locs → lv_has ls 10 [(9, .int x9_20), (7, .long x4_6), (6, .int x6_6), (4, .long x4_20), (0, .ref (hs 0)), (1, .long p0), (3, .int p1)] → W p l e (headSpec wzX0_narrow ({ frames := 2, cells := 0, slots := 0, locals := 50 })).room s m ([.ref (hs 0), .long p0, .int p1] : List Value).toArray below meth c H locs 0 0 (MQ below (va_Ql (fun (r1 : Int64) (u1 : XS) => r1 = r ∧ u1 = u) (aX dC dI A hs ka) A) ([.ref (hs 0), .long p0, .int p1] : List Value).toArray s 0 0 A) (F0 m 56 ls [])) → ∀ n_20 : Nat, ∀ (x9_20 : Int32) (x4_20 : Int64) (H : Heap) (locs : List Loc) (ls : Array Slot), pl_X0_narrow_20 fu u K_20 n_20 x9_20 x4_20 = some r → va_P (dC, dI) vwCl (cX hs ka u) H → va_D A (cX hs ka u) → va_S A s.heap H locs → lv_has ls 10 [(9, .int x9_20), (7, .long x4_6), (6, .int x6_6), (4, .long x4_20), (0, .ref (hs 0)), (1, .long p0), (3, .int p1)] → W p l e (headSpec wzX0_narrow ({ frames := 2, cells := 0, slots := 0, locals := 50 })).room s m ([.ref (hs 0), .long p0, .int p1] : List Value).toArray below meth c H locs 0 0 (MQ below (va_Ql (fun (r1 : Int64) (u1 : XS) => r1 = r ∧ u1 = u) (aX dC dI A hs ka) A) ([.ref (hs 0), .long p0, .int p1] : List Value).toArray s 0 0 A) (F0 m 20 ls []) := by
          intro K_20 hk_20 n_20
          induction n_20 with
          | zero =>
            intro x9_20 x4_20 H locs ls h
            exact absurd (show (none : Option (Int64)) = some r from h) (fun q => by cases q)
          | succ n_20 ih_20 =>
            intro x9_20 x4_20 H locs ls h hP hD hS hl
            rw [pl_X0_narrow_20] at h
            refine lv_iload hx hb dX0_narrow_20 (lv_at hl 0 rfl) ?_
            refine lv_aload_n hx hb dX0_narrow_22 rfl (lv_at hl 4 rfl) ?_
            refine gt_X_rows (V := (x_rows u)) hx hb hts hin0 hown hK hP hf_34 rfl dX0_narrow_23 ?_
            refine lv_icmp_ge (tgt := 56) hx hb dX0_narrow_26 (by decide) (fun c_2 => ?_) (fun c_2 => ?_)
            · rw [if_pos c_2] at h
              exact hk_20 x9_20 x4_20 _ _ _ h hP hD hS (lv_sub hl [0, 1, 2, 3, 4, 5, 6] rfl)
            · rw [if_neg c_2] at h
              refine lv_lload hx hb dX0_narrow_29 (lv_at hl 3 rfl) ?_
              refine lv_lconst (v := (0 : Int64)) hx hb dX0_narrow_31 (by decide) ?_
              refine W.lcmp hx hb dX0_narrow_32 ?_
              refine lv_if_eq (tgt := 56) hx hb dX0_narrow_33 (by decide) (fun c_3 => ?_) (fun c_3 => ?_)
              · have c_3 := (lg_cmp_eq _ _).mp c_3
                rw [if_pos c_3] at h
                exact hk_20 x9_20 x4_20 _ _ _ h hP hD hS (lv_sub hl [0, 1, 2, 3, 4, 5, 6] rfl)
              · have c_3 := (fun q => c_3 ((lg_cmp_eq _ _).mpr q))
                rw [if_neg c_3] at h
                refine lv_lload hx hb dX0_narrow_36 (lv_at hl 3 rfl) ?_
                refine lv_aload_n hx hb dX0_narrow_38 rfl (lv_at hl 4 rfl) ?_
                refine gt_X_rowRules hx hb hts hin0 hown hK hP hf_9 dX0_narrow_39 ?_
                refine lv_iload hx hb dX0_narrow_42 (lv_at hl 0 rfl) ?_
                obtain ⟨g_4, h⟩ := og_some h
                refine ld_X_rowRules (F := (x_rowRules u)) hx hb hK hP rfl (inb_in g_4) dX0_narrow_44 ?_
                have hPc : va_P (dC, dI) vwCl ([] : va_W) H := hP.sub [] rfl
                have hDc : va_D A ([] : va_W) := hD.sub [] (by decide) rfl
                have hKc := hK.sub (tys' := []) [] rfl
                have hFc := fn_X hD hS hA
                refine va_calll (va_runS (As := [.long x4_20, .long ((x_rowRules u) x9_20.toNatClampNeg)]) (rest := []) ⟨hx, hb, hml, hown, hts⟩ (c_X0_narrowByRule l dC dI H.size x4_20 ((x_rowRules u) x9_20.toNatClampNeg) _ rfl) (va_cwS 2 hts gX0_narrow_X0_narrowByRule rfl rfl rfl (by decide +kernel) ⟨Nat.le_of_ble_eq_true rfl, Nat.le_of_ble_eq_true rfl⟩) ⟨fun a U g mk q => by obtain ⟨q0, q1, qP, qK, qD⟩ := q; exact ⟨q0, q1, qP, va_K.moved (u := U) (U := U.calling g mk a) (Vm.Alike.refl U.vm) qK, qD⟩, fun U hU hW => ⟨rfl, by rw [hU], by rw [hU]; exact hPc, va_K.moved hW.alike hKc, hDc.weaken (fun _ _ _ _ => trivial)⟩⟩ rfl rfl hl.1 rfl (lv_room (Nat.le_of_ble_eq_true rfl)) dX0_narrow_45 ⟨Nat.zero_le _, Nat.zero_le _⟩) hS (fun q _ h => hFc q h) hFc (fun r_5 u_c5 t H1 locs ht hvm hw hB hz1 hk1 hS => ?_)
                subst r_5
                obtain ⟨hP1, hK1, hD1⟩ := hB
                rw [ht] at hP1
                obtain ⟨hP, hD⟩ := js_X hP hD hk1 hFc hP1 hD1
                clear hPc hDc hKc hFc hz1 hk1 hP1 hK1 hD1
                generalize H1 = H at hP hS ⊢
                refine lv_lstore (lv' := [(4, .long (pf_X0_narrowByRule x4_20 ((x_rowRules u) x9_20.toNatClampNeg))), (9, .int x9_20), (7, .long x4_6), (6, .int x6_6), (0, .ref (hs 0)), (1, .long p0), (3, .int p1)]) hx hb dX0_narrow_48 hl (by decide) rfl (fun ls hl => ?_)
                refine lv_iinc (v := (x9_20 + (1 : Int32))) (lv' := [(9, .int (x9_20 + (1 : Int32))), (4, .long (pf_X0_narrowByRule x4_20 ((x_rowRules u) x9_20.toNatClampNeg))), (7, .long x4_6), (6, .int x6_6), (0, .ref (hs 0)), (1, .long p0), (3, .int p1)]) hx hb dX0_narrow_50 hl (k := 1) rfl (congrArg (fun z : Int32 => x9_20 + z) (by decide : Int32.ofInt (1) = (1 : Int32))) (by decide) rfl (fun ls hl => ?_)
                refine lv_goto (tgt := 20) hx hb dX0_narrow_53 (by decide) ?_
                exact ih_20 (x9_20 + (1 : Int32)) (pf_X0_narrowByRule x4_20 ((x_rowRules u) x9_20.toNatClampNeg)) _ _ _ h hP hD hS (lv_sub hl [0, 2, 3, 1, 4, 5, 6] rfl)
        refine lp_20 _ (fun x9_20 x4_20 H locs ls h hP hD hS hl => ?_) fu (0 : Int32) x4_6 _ _ _ h hP hD hS hl
        refine lv_iconst (v := (0 : Int32)) hx hb dX0_narrow_56 (by decide) ?_
        refine lv_istore (lv' := [(9, .int (0 : Int32)), (7, .long x4_6), (6, .int x6_6), (4, .long x4_20), (0, .ref (hs 0)), (1, .long p0), (3, .int p1)]) hx hb dX0_narrow_57 hl (by decide) rfl (fun ls hl => ?_)
        have lp_59 : ∀ K_59 : Int32 → Int64 → Option (Int64), (∀ (x9_59 : Int32) (x4_59 : Int64) (H : Heap) (locs : List Loc) (ls : Array Slot), K_59 x9_59 x4_59 = some r → va_P (dC, dI) vwCl (cX hs ka u) H → va_D A (cX hs ka u) → va_S A s.heap H locs → lv_has ls 10 [(9, .int x9_59), (7, .long x4_6), (6, .int x6_6), (4, .long x4_59), (0, .ref (hs 0)), (1, .long p0), (3, .int p1)] → W p l e (headSpec wzX0_narrow ({ frames := 2, cells := 0, slots := 0, locals := 50 })).room s m ([.ref (hs 0), .long p0, .int p1] : List Value).toArray below meth c H locs 0 0 (MQ below (va_Ql (fun (r1 : Int64) (u1 : XS) => r1 = r ∧ u1 = u) (aX dC dI A hs ka) A) ([.ref (hs 0), .long p0, .int p1] : List Value).toArray s 0 0 A) (F0 m 104 ls [])) → ∀ n_59 : Nat, ∀ (x9_59 : Int32) (x4_59 : Int64) (H : Heap) (locs : List Loc) (ls : Array Slot), pl_X0_narrow_59 fu p1 u K_59 n_59 x9_59 x4_59 = some r → va_P (dC, dI) vwCl (cX hs ka u) H → va_D A (cX hs ka u) → va_S A s.heap H locs → lv_has ls 10 [(9, .int x9_59), (7, .long x4_6), (6, .int x6_6), (4, .long x4_59), (0, .ref (hs 0)), (1, .long p0), (3, .int p1)] → W p l e (headSpec wzX0_narrow ({ frames := 2, cells := 0, slots := 0, locals := 50 })).room s m ([.ref (hs 0), .long p0, .int p1] : List Value).toArray below meth c H locs 0 0 (MQ below (va_Ql (fun (r1 : Int64) (u1 : XS) => r1 = r ∧ u1 = u) (aX dC dI A hs ka) A) ([.ref (hs 0), .long p0, .int p1] : List Value).toArray s 0 0 A) (F0 m 59 ls []) := by
          intro K_59 hk_59 n_59
          induction n_59 with
          | zero =>
            intro x9_59 x4_59 H locs ls h
            exact absurd (show (none : Option (Int64)) = some r from h) (fun q => by cases q)
          | succ n_59 ih_59 =>
            intro x9_59 x4_59 H locs ls h hP hD hS hl
            rw [pl_X0_narrow_59] at h
            refine lv_iload hx hb dX0_narrow_59 (lv_at hl 0 rfl) ?_
            refine lv_aload_n hx hb dX0_narrow_61 rfl (lv_at hl 4 rfl) ?_
            refine gt_X_demands (V := (x_demands u)) hx hb hts hin0 hown hK hP hf_65 rfl dX0_narrow_62 ?_
            refine lv_icmp_ge (tgt := 104) hx hb dX0_narrow_65 (by decide) (fun c_6 => ?_) (fun c_6 => ?_)
            · rw [if_pos c_6] at h
              exact hk_59 x9_59 x4_59 _ _ _ h hP hD hS (lv_sub hl [0, 1, 2, 3, 4, 5, 6] rfl)
            · rw [if_neg c_6] at h
              refine lv_lload hx hb dX0_narrow_68 (lv_at hl 3 rfl) ?_
              refine lv_lconst (v := (0 : Int64)) hx hb dX0_narrow_70 (by decide) ?_
              refine W.lcmp hx hb dX0_narrow_71 ?_
              refine lv_if_eq (tgt := 104) hx hb dX0_narrow_72 (by decide) (fun c_7 => ?_) (fun c_7 => ?_)
              · have c_7 := (lg_cmp_eq _ _).mp c_7
                rw [if_pos c_7] at h
                exact hk_59 x9_59 x4_59 _ _ _ h hP hD hS (lv_sub hl [0, 1, 2, 3, 4, 5, 6] rfl)
              · have c_7 := (fun q => c_7 ((lg_cmp_eq _ _).mpr q))
                rw [if_neg c_7] at h
                refine lv_iload_n hx hb dX0_narrow_75 rfl (lv_at hl 6 rfl) ?_
                refine lv_iconst (v := (1 : Int32)) hx hb dX0_narrow_76 (by decide) ?_
                refine lv_iload hx hb dX0_narrow_77 (lv_at hl 0 rfl) ?_
                refine lv_ishl hx hb dX0_narrow_79 ?_
                refine lv_iand hx hb dX0_narrow_80 ?_
                refine lv_if_eq (tgt := 98) hx hb dX0_narrow_81 (by decide) (fun c_8 => ?_) (fun c_8 => ?_)
                · rw [if_pos c_8] at h
                  refine lv_iinc (v := (x9_59 + (1 : Int32))) (lv' := [(9, .int (x9_59 + (1 : Int32))), (7, .long x4_6), (6, .int x6_6), (4, .long x4_59), (0, .ref (hs 0)), (1, .long p0), (3, .int p1)]) hx hb dX0_narrow_98 hl (k := 0) rfl (congrArg (fun z : Int32 => x9_59 + z) (by decide : Int32.ofInt (1) = (1 : Int32))) (by decide) rfl (fun ls hl => ?_)
                  refine lv_goto (tgt := 59) hx hb dX0_narrow_101 (by decide) ?_
                  exact ih_59 (x9_59 + (1 : Int32)) x4_59 _ _ _ h hP hD hS (lv_sub hl [0, 1, 2, 3, 4, 5, 6] rfl)
                · rw [if_neg c_8] at h
                  refine lv_lload hx hb dX0_narrow_84 (lv_at hl 3 rfl) ?_
                  refine lv_aload_n hx hb dX0_narrow_86 rfl (lv_at hl 4 rfl) ?_
                  refine gt_X_demandRules hx hb hts hin0 hown hK hP hf_13 dX0_narrow_87 ?_
                  refine lv_iload hx hb dX0_narrow_90 (lv_at hl 0 rfl) ?_
                  obtain ⟨g_9, h⟩ := og_some h
                  refine ld_X_demandRules (F := (x_demandRules u)) hx hb hK hP rfl (inb_in g_9) dX0_narrow_92 ?_
                  have hPc : va_P (dC, dI) vwCl ([] : va_W) H := hP.sub [] rfl
                  have hDc : va_D A ([] : va_W) := hD.sub [] (by decide) rfl
                  have hKc := hK.sub (tys' := []) [] rfl
                  have hFc := fn_X hD hS hA
                  refine va_calll (va_runS (As := [.long x4_59, .long ((x_demandRules u) x9_59.toNatClampNeg)]) (rest := []) ⟨hx, hb, hml, hown, hts⟩ (c_X0_narrowByRule l dC dI H.size x4_59 ((x_demandRules u) x9_59.toNatClampNeg) _ rfl) (va_cwS 2 hts gX0_narrow_X0_narrowByRule rfl rfl rfl (by decide +kernel) ⟨Nat.le_of_ble_eq_true rfl, Nat.le_of_ble_eq_true rfl⟩) ⟨fun a U g mk q => by obtain ⟨q0, q1, qP, qK, qD⟩ := q; exact ⟨q0, q1, qP, va_K.moved (u := U) (U := U.calling g mk a) (Vm.Alike.refl U.vm) qK, qD⟩, fun U hU hW => ⟨rfl, by rw [hU], by rw [hU]; exact hPc, va_K.moved hW.alike hKc, hDc.weaken (fun _ _ _ _ => trivial)⟩⟩ rfl rfl hl.1 rfl (lv_room (Nat.le_of_ble_eq_true rfl)) dX0_narrow_93 ⟨Nat.zero_le _, Nat.zero_le _⟩) hS (fun q _ h => hFc q h) hFc (fun r_10 u_c10 t H1 locs ht hvm hw hB hz1 hk1 hS => ?_)
                  subst r_10
                  obtain ⟨hP1, hK1, hD1⟩ := hB
                  rw [ht] at hP1
                  obtain ⟨hP, hD⟩ := js_X hP hD hk1 hFc hP1 hD1
                  clear hPc hDc hKc hFc hz1 hk1 hP1 hK1 hD1
                  generalize H1 = H at hP hS ⊢
                  refine lv_lstore (lv' := [(4, .long (pf_X0_narrowByRule x4_59 ((x_demandRules u) x9_59.toNatClampNeg))), (9, .int x9_59), (7, .long x4_6), (6, .int x6_6), (0, .ref (hs 0)), (1, .long p0), (3, .int p1)]) hx hb dX0_narrow_96 hl (by decide) rfl (fun ls hl => ?_)
                  refine lv_iinc (v := (x9_59 + (1 : Int32))) (lv' := [(9, .int (x9_59 + (1 : Int32))), (4, .long (pf_X0_narrowByRule x4_59 ((x_demandRules u) x9_59.toNatClampNeg))), (7, .long x4_6), (6, .int x6_6), (0, .ref (hs 0)), (1, .long p0), (3, .int p1)]) hx hb dX0_narrow_98 hl (k := 1) rfl (congrArg (fun z : Int32 => x9_59 + z) (by decide : Int32.ofInt (1) = (1 : Int32))) (by decide) rfl (fun ls hl => ?_)
                  refine lv_goto (tgt := 59) hx hb dX0_narrow_101 (by decide) ?_
                  exact ih_59 (x9_59 + (1 : Int32)) (pf_X0_narrowByRule x4_59 ((x_demandRules u) x9_59.toNatClampNeg)) _ _ _ h hP hD hS (lv_sub hl [0, 2, 3, 1, 4, 5, 6] rfl)
        refine lp_59 _ (fun x9_59 x4_59 H locs ls h hP hD hS hl => ?_) fu (0 : Int32) x4_20 _ _ _ h hP hD hS hl
        refine lv_lload hx hb dX0_narrow_104 (lv_at hl 3 rfl) ?_
        refine lv_lload hx hb dX0_narrow_106 (lv_at hl 1 rfl) ?_
        refine W.lcmp hx hb dX0_narrow_108 ?_
        refine lv_if_ne (tgt := 115) hx hb dX0_narrow_109 (by decide) (fun c_11 => ?_) (fun c_11 => ?_)
        · have c_11 := (fun q => c_11 ((lg_cmp_eq _ _).mpr q))
          rw [if_neg c_11] at h
          refine lv_iinc (v := (x6_6 + (1 : Int32))) (lv' := [(6, .int (x6_6 + (1 : Int32))), (9, .int x9_59), (7, .long x4_6), (4, .long x4_59), (0, .ref (hs 0)), (1, .long p0), (3, .int p1)]) hx hb dX0_narrow_115 hl (k := 2) rfl (congrArg (fun z : Int32 => x6_6 + z) (by decide : Int32.ofInt (1) = (1 : Int32))) (by decide) rfl (fun ls hl => ?_)
          refine lv_goto (tgt := 6) hx hb dX0_narrow_118 (by decide) ?_
          exact ih_6 (x6_6 + (1 : Int32)) x4_59 _ _ _ h hP hD hS (lv_sub hl [0, 3, 4, 5, 6] rfl)
        · have c_11 := (lg_cmp_eq _ _).mp c_11
          rw [if_pos c_11] at h
          refine lv_lload hx hb dX0_narrow_112 (lv_at hl 3 rfl) ?_
          have e9 := Option.some.inj h
          exact W.lret (v := x4_59) hx hb hr (fun t ht hW => ⟨⟨x4_59, u, rfl, ⟨e9, rfl⟩, by rw [ht]; exact hP, va_K.moved hW.alike hK, hD⟩, hS.F ht⟩) hS.2.2 dX0_narrow_114
  refine lp_6 _ (fun x6_6 x4_6 H locs ls h hP hD hS hl => ?_) fu (0 : Int32) p0 _ _ _ h hP hD hS hl
  refine lv_lload hx hb dX0_narrow_121 (lv_at hl 1 rfl) ?_
  have e9 := Option.some.inj h
  exact W.lret (v := x4_6) hx hb hr (fun t ht hW => ⟨⟨x4_6, u, rfl, ⟨e9, rfl⟩, by rw [ht]; exact hP, va_K.moved hW.alike hK, hD⟩, hS.F ht⟩) hS.2.2 dX0_narrow_123
set_option maxHeartbeats 4000000 in
set_option maxRecDepth 100000 in
theorem c_X0_placeAt (l : Launch) (dC : Nat → ClassId) (dI : Nat → Nat → Nat) (hs : Nat → Nat) (ka : Nat → ClassId) (sz : Nat) (u : XS) (p0 : Int32) (p1 : Int32) (p2 : Int32) (r : Int64) (h : pf_X0_placeAt p0 p1 p2 u = r) : Met l yX0_placeAt wzX0_placeAt ({ frames := 2, cells := 0, slots := 0, locals := 42 }) (va_Pc [.ref (hs 0), .int p0, .int p1, .int p2] (fun U => U.heap.size = sz ∧ va_P (dC, dI) vwCl (cX hs ka u) U.heap ∧ va_K (dC, dI) vwCl (tX ka) U ∧ va_D (fun _ => True) (cX hs ka u))) (va_Ql (fun (r1 : Int64) (u1 : XS) => r1 = r ∧ u1 = u) (aX dC dI (va_A (cX hs ka u) sz) hs ka) (va_A (cX hs ka u) sz)) 0 0 (va_A (cX hs ka u) sz) := by
  refine Met.ofW (cc := cX0_placeAt) (maxL := 4) (ret := (some .long)) (by decide) rfl ?_
  intro p e s m args below meth c s₁ B hml hv
  obtain ⟨rfl, hsz, hP, hK, hD0⟩ := hv
  have hx := B.exec
  have hb := B.bytes
  have hr := B.returns
  have hts := atoms_spec (ws := wzX0_placeAt) B.pre
  have hown : s.vm.findClass RX0 = some m.cls := findClass_of_methodNamed B.named
  have hlocks := B.notSynchronized
  subst hsz
  have hD := hD0.self (sz := s.heap.size)
  generalize hAe : va_A (cX hs ka u) s.heap.size = A at hD ⊢
  have hA : ∀ q : Nat, s.heap.size ≤ q → A q := fun q h => by rw [← hAe]; exact Or.inr h
  have hS : va_S A s.heap s.heap [] := va_S.rf
  have hP : va_P (dC, dI) vwCl (cX hs ka u) s.heap := hP
  clear hD0 hAe
  have hin0 : ∀ w ∈ u_ws RX0 TX0 14, w ∈ wzX0_placeAt := fun w h => List.mem_cons_of_mem _ (inTX0 w h)
  have hf_92 := hts (.fieldLink RX0 92 "ConflictSolve" "locked" "J") (List.mem_cons_of_mem _ tz_50)
  have hl := lv_entry ([.ref (hs 0), .int p0, .int p1, .int p2]) (n := 4) (Nat.le_of_ble_eq_true rfl)
  rw [lg_entry_eq]
  generalize (lg_sl ([.ref (hs 0), .int p0, .int p1, .int p2]) ++ List.replicate (4 - (lg_sl ([.ref (hs 0), .int p0, .int p1, .int p2])).length) Slot.unset).toArray = ls at hl ⊢
  have hl : lv_has ls 4 [(0, .ref (hs 0)), (1, .int p0), (2, .int p1), (3, .int p2)] := hl
  rw [pf_X0_placeAt] at h
  refine lv_iload_n hx hb dX0_placeAt_0 rfl (lv_at hl 1 rfl) ?_
  refine lv_if_ne (tgt := 14) hx hb dX0_placeAt_1 (by decide) (fun c_1 => ?_) (fun c_1 => ?_)
  · rw [if_neg c_1] at h
    refine lv_iload_n hx hb dX0_placeAt_14 rfl (lv_at hl 3 rfl) ?_
    refine lv_if_eq (tgt := 27) hx hb dX0_placeAt_15 (by decide) (fun c_2 => ?_) (fun c_2 => ?_)
    · rw [if_pos c_2] at h
      refine lv_iload_n hx hb dX0_placeAt_27 rfl (lv_at hl 1 rfl) ?_
      refine lv_iconst (v := (1 : Int32)) hx hb dX0_placeAt_28 (by decide) ?_
      refine lv_icmp_ne (tgt := 39) hx hb dX0_placeAt_29 (by decide) (fun c_3 => ?_) (fun c_3 => ?_)
      · rw [if_neg c_3] at h
        refine lv_iload_n hx hb dX0_placeAt_39 rfl (lv_at hl 2 rfl) ?_
        refine lv_bipush (v := (7 : Int32)) hx hb dX0_placeAt_40 (by decide) ?_
        refine lv_iload_n hx hb dX0_placeAt_42 rfl (lv_at hl 1 rfl) ?_
        refine lv_isub hx hb dX0_placeAt_43 ?_
        have hPc : va_P (dC, dI) vwCl ([] : va_W) s.heap := hP.sub [] rfl
        have hDc : va_D A ([] : va_W) := hD.sub [] (by decide) rfl
        have hKc := hK.sub (tys' := []) [] rfl
        have hFc := fn_X hD hS hA
        refine va_calll (va_runS (As := [.int p1, .int ((7 : Int32) - p0)]) (rest := []) ⟨hx, hb, hml, hown, hts⟩ (c_X0_placeOf l dC dI s.heap.size p1 ((7 : Int32) - p0) _ rfl) (va_cwS 2 hts gX0_placeAt_X0_placeOf rfl rfl rfl (by decide +kernel) ⟨Nat.le_of_ble_eq_true rfl, Nat.le_of_ble_eq_true rfl⟩) ⟨fun a U g mk q => by obtain ⟨q0, q1, qP, qK, qD⟩ := q; exact ⟨q0, q1, qP, va_K.moved (u := U) (U := U.calling g mk a) (Vm.Alike.refl U.vm) qK, qD⟩, fun U hU hW => ⟨rfl, by rw [hU], by rw [hU]; exact hPc, va_K.moved hW.alike hKc, hDc.weaken (fun _ _ _ _ => trivial)⟩⟩ rfl rfl hl.1 rfl (lv_room (Nat.le_of_ble_eq_true rfl)) dX0_placeAt_44 ⟨Nat.zero_le _, Nat.zero_le _⟩) hS (fun q _ h => hFc q h) hFc (fun r_4 u_c4 t H1 locs ht hvm hw hB hz1 hk1 hS => ?_)
        subst r_4
        obtain ⟨hP1, hK1, hD1⟩ := hB
        rw [ht] at hP1
        obtain ⟨hP, hD⟩ := js_X hP hD hk1 hFc hP1 hD1
        clear hPc hDc hKc hFc hz1 hk1 hP1 hK1 hD1
        generalize H1 = H at hP hS ⊢
        have e9 := h
        exact W.lret (v := (pf_X0_placeOf p1 ((7 : Int32) - p0))) hx hb hr (fun t ht hW => ⟨⟨(pf_X0_placeOf p1 ((7 : Int32) - p0)), u, rfl, ⟨e9, rfl⟩, by rw [ht]; exact hP, va_K.moved hW.alike hK, hD⟩, hS.F ht⟩) hS.2.2 dX0_placeAt_47
      · rw [if_pos c_3] at h
        refine lv_iload_n hx hb dX0_placeAt_32 rfl (lv_at hl 2 rfl) ?_
        have hPc : va_P (dC, dI) vwCl ([] : va_W) s.heap := hP.sub [] rfl
        have hDc : va_D A ([] : va_W) := hD.sub [] (by decide) rfl
        have hKc := hK.sub (tys' := []) [] rfl
        have hFc := fn_X hD hS hA
        refine va_calll (va_runS (As := [.int p1]) (rest := []) ⟨hx, hb, hml, hown, hts⟩ (c_X0_noneOf l dC dI s.heap.size p1 _ rfl) (va_cwS 1 hts gX0_placeAt_X0_noneOf rfl rfl rfl (by decide +kernel) ⟨Nat.le_of_ble_eq_true rfl, Nat.le_of_ble_eq_true rfl⟩) ⟨fun a U g mk q => by obtain ⟨q0, q1, qP, qK, qD⟩ := q; exact ⟨q0, q1, qP, va_K.moved (u := U) (U := U.calling g mk a) (Vm.Alike.refl U.vm) qK, qD⟩, fun U hU hW => ⟨rfl, by rw [hU], by rw [hU]; exact hPc, va_K.moved hW.alike hKc, hDc.weaken (fun _ _ _ _ => trivial)⟩⟩ rfl rfl hl.1 rfl (lv_room (Nat.le_of_ble_eq_true rfl)) dX0_placeAt_33 ⟨Nat.zero_le _, Nat.zero_le _⟩) hS (fun q _ h => hFc q h) hFc (fun r_5 u_c5 t H1 locs ht hvm hw hB hz1 hk1 hS => ?_)
        subst r_5
        obtain ⟨hP1, hK1, hD1⟩ := hB
        rw [ht] at hP1
        obtain ⟨hP, hD⟩ := js_X hP hD hk1 hFc hP1 hD1
        clear hPc hDc hKc hFc hz1 hk1 hP1 hK1 hD1
        generalize H1 = H at hP hS ⊢
        refine lv_goto (tgt := 47) hx hb dX0_placeAt_36 (by decide) ?_
        have e9 := h
        exact W.lret (v := (pf_X0_noneOf p1)) hx hb hr (fun t ht hW => ⟨⟨(pf_X0_noneOf p1), u, rfl, ⟨e9, rfl⟩, by rw [ht]; exact hP, va_K.moved hW.alike hK, hD⟩, hS.F ht⟩) hS.2.2 dX0_placeAt_47
    · rw [if_neg c_2] at h
      refine lv_iload_n hx hb dX0_placeAt_18 rfl (lv_at hl 2 rfl) ?_
      refine lv_bipush (v := (6 : Int32)) hx hb dX0_placeAt_19 (by decide) ?_
      refine lv_iload_n hx hb dX0_placeAt_21 rfl (lv_at hl 1 rfl) ?_
      refine lv_isub hx hb dX0_placeAt_22 ?_
      have hPc : va_P (dC, dI) vwCl ([] : va_W) s.heap := hP.sub [] rfl
      have hDc : va_D A ([] : va_W) := hD.sub [] (by decide) rfl
      have hKc := hK.sub (tys' := []) [] rfl
      have hFc := fn_X hD hS hA
      refine va_calll (va_runS (As := [.int p1, .int ((6 : Int32) - p0)]) (rest := []) ⟨hx, hb, hml, hown, hts⟩ (c_X0_placeOf l dC dI s.heap.size p1 ((6 : Int32) - p0) _ rfl) (va_cwS 2 hts gX0_placeAt_X0_placeOf rfl rfl rfl (by decide +kernel) ⟨Nat.le_of_ble_eq_true rfl, Nat.le_of_ble_eq_true rfl⟩) ⟨fun a U g mk q => by obtain ⟨q0, q1, qP, qK, qD⟩ := q; exact ⟨q0, q1, qP, va_K.moved (u := U) (U := U.calling g mk a) (Vm.Alike.refl U.vm) qK, qD⟩, fun U hU hW => ⟨rfl, by rw [hU], by rw [hU]; exact hPc, va_K.moved hW.alike hKc, hDc.weaken (fun _ _ _ _ => trivial)⟩⟩ rfl rfl hl.1 rfl (lv_room (Nat.le_of_ble_eq_true rfl)) dX0_placeAt_23 ⟨Nat.zero_le _, Nat.zero_le _⟩) hS (fun q _ h => hFc q h) hFc (fun r_6 u_c6 t H1 locs ht hvm hw hB hz1 hk1 hS => ?_)
      subst r_6
      obtain ⟨hP1, hK1, hD1⟩ := hB
      rw [ht] at hP1
      obtain ⟨hP, hD⟩ := js_X hP hD hk1 hFc hP1 hD1
      clear hPc hDc hKc hFc hz1 hk1 hP1 hK1 hD1
      generalize H1 = H at hP hS ⊢
      have e9 := h
      exact W.lret (v := (pf_X0_placeOf p1 ((6 : Int32) - p0))) hx hb hr (fun t ht hW => ⟨⟨(pf_X0_placeOf p1 ((6 : Int32) - p0)), u, rfl, ⟨e9, rfl⟩, by rw [ht]; exact hP, va_K.moved hW.alike hK, hD⟩, hS.F ht⟩) hS.2.2 dX0_placeAt_26
  · rw [if_pos c_1] at h
    refine lv_aload_n hx hb dX0_placeAt_4 rfl (lv_at hl 0 rfl) ?_
    refine gt_X_locked (V := (x_locked u)) hx hb hts hin0 hown hK hP hf_92 rfl dX0_placeAt_5 ?_
    refine lv_iload_n hx hb dX0_placeAt_8 rfl (lv_at hl 2 rfl) ?_
    have hPc : va_P (dC, dI) vwCl ([] : va_W) s.heap := hP.sub [] rfl
    have hDc : va_D A ([] : va_W) := hD.sub [] (by decide) rfl
    have hKc := hK.sub (tys' := []) [] rfl
    have hFc := fn_X hD hS hA
    refine va_calll (va_runS (As := [.int p1]) (rest := [.long (x_locked u)]) ⟨hx, hb, hml, hown, hts⟩ (c_X0_allOf l dC dI s.heap.size p1 _ rfl) (va_cwS 1 hts gX0_placeAt_X0_allOf rfl rfl rfl (by decide +kernel) ⟨Nat.le_of_ble_eq_true rfl, Nat.le_of_ble_eq_true rfl⟩) ⟨fun a U g mk q => by obtain ⟨q0, q1, qP, qK, qD⟩ := q; exact ⟨q0, q1, qP, va_K.moved (u := U) (U := U.calling g mk a) (Vm.Alike.refl U.vm) qK, qD⟩, fun U hU hW => ⟨rfl, by rw [hU], by rw [hU]; exact hPc, va_K.moved hW.alike hKc, hDc.weaken (fun _ _ _ _ => trivial)⟩⟩ rfl rfl hl.1 rfl (lv_room (Nat.le_of_ble_eq_true rfl)) dX0_placeAt_9 ⟨Nat.zero_le _, Nat.zero_le _⟩) hS (fun q _ h => hFc q h) hFc (fun r_7 u_c7 t H1 locs ht hvm hw hB hz1 hk1 hS => ?_)
    subst r_7
    obtain ⟨hP1, hK1, hD1⟩ := hB
    rw [ht] at hP1
    obtain ⟨hP, hD⟩ := js_X hP hD hk1 hFc hP1 hD1
    clear hPc hDc hKc hFc hz1 hk1 hP1 hK1 hD1
    generalize H1 = H at hP hS ⊢
    refine lv_land hx hb dX0_placeAt_12 ?_
    have e9 := h
    exact W.lret (v := ((x_locked u) &&& (pf_X0_allOf p1))) hx hb hr (fun t ht hW => ⟨⟨((x_locked u) &&& (pf_X0_allOf p1)), u, rfl, ⟨e9, rfl⟩, by rw [ht]; exact hP, va_K.moved hW.alike hK, hD⟩, hS.F ht⟩) hS.2.2 dX0_placeAt_13
