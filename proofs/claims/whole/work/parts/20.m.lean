set_option maxHeartbeats 4000000 in
set_option maxRecDepth 100000 in
theorem c_X1_broken (l : Launch) (dC : Nat → ClassId) (dI : Nat → Nat → Nat) (hs : Nat → Nat) (ka : Nat → ClassId) (sz : Nat) (fu : Nat) (u : MS) (r : Int32) (h : pf_X1_broken fu u = some r) : Met l yX1_broken wzX1_broken ({ frames := 1, cells := 0, slots := 0, locals := 25 }) (va_Pc [.ref (hs 0)] (fun U => U.heap.size = sz ∧ va_P (dC, dI) vwCl (cM hs ka u) U.heap ∧ va_K (dC, dI) vwCl (tM ka) U ∧ va_D (fun _ => True) (cM hs ka u))) (va_Qi (fun (r1 : Int32) (u1 : MS) => r1 = r ∧ u1 = u) (aM dC dI (va_A (cM hs ka u) sz) hs ka) (va_A (cM hs ka u) sz)) 0 0 (va_A (cM hs ka u) sz) := by
  refine Met.ofW (cc := cX1_broken) (maxL := 3) (ret := (some .int)) (by decide) rfl ?_
  intro p e s m args below meth c s₁ B hml hv
  obtain ⟨rfl, hsz, hP, hK, hD0⟩ := hv
  have hx := B.exec
  have hb := B.bytes
  have hr := B.returns
  have hts := atoms_spec (ws := wzX1_broken) B.pre
  have hown : s.vm.findClass RX1 = some m.cls := findClass_of_methodNamed B.named
  have hlocks := B.notSynchronized
  subst hsz
  have hD := hD0.self (sz := s.heap.size)
  generalize hAe : va_A (cM hs ka u) s.heap.size = A at hD ⊢
  have hA : ∀ q : Nat, s.heap.size ≤ q → A q := fun q h => by rw [← hAe]; exact Or.inr h
  have hS : va_S A s.heap s.heap [] := va_S.rf
  have hP : va_P (dC, dI) vwCl (cM hs ka u) s.heap := hP
  clear hD0 hAe
  have hin0 : ∀ w ∈ u_ws RX1 TX1 23, w ∈ wzX1_broken := fun w h => List.mem_cons_of_mem _ (inTX1 w h)
  have hf_31 := hts (.fieldLink RX1 31 "ConflictSolveModel" "pack" "[I") (List.mem_cons_of_mem _ tz_250)
  have hf_77 := hts (.fieldLink RX1 77 "ConflictSolveModel" "rows" "I") (List.mem_cons_of_mem _ tz_247)
  have hf_84 := hts (.fieldLink RX1 84 "ConflictSolveModel" "demands" "I") (List.mem_cons_of_mem _ tz_248)
  have hl := lv_entry ([.ref (hs 0)]) (n := 3) (Nat.le_of_ble_eq_true rfl)
  rw [lg_entry_eq]
  generalize (lg_sl ([.ref (hs 0)]) ++ List.replicate (3 - (lg_sl ([.ref (hs 0)])).length) Slot.unset).toArray = ls at hl ⊢
  have hl : lv_has ls 3 [(0, .ref (hs 0))] := hl
  rw [pf_X1_broken] at h
  refine lv_iconst (v := (0 : Int32)) hx hb dX1_broken_0 (by decide) ?_
  refine lv_istore_n (lv' := [(1, .int (0 : Int32)), (0, .ref (hs 0))]) hx hb dX1_broken_1 rfl hl (by decide) rfl (fun ls hl => ?_)
  have lp_2 : ∀ K_2 : Int32 → Option (Int32), (∀ (x1_2 : Int32) (H : Heap) (locs : List Loc) (ls : Array Slot), K_2 x1_2 = some r → va_P (dC, dI) vwCl (cM hs ka u) H → va_D A (cM hs ka u) → va_S A s.heap H locs → lv_has ls 3 [(1, .int x1_2), (0, .ref (hs 0))] → W p l e (headSpec wzX1_broken ({ frames := 1, cells := 0, slots := 0, locals := 25 })).room s m ([.ref (hs 0)] : List Value).toArray below meth c H locs 0 0 (MQ below (va_Qi (fun (r1 : Int32) (u1 : MS) => r1 = r ∧ u1 = u) (aM dC dI A hs ka) A) ([.ref (hs 0)] : List Value).toArray s 0 0 A) (F0 m 24 ls [])) → ∀ n_2 : Nat, ∀ (x1_2 : Int32) (H : Heap) (locs : List Loc) (ls : Array Slot), pl_X1_broken_2 fu u K_2 n_2 x1_2 = some r → va_P (dC, dI) vwCl (cM hs ka u) H → va_D A (cM hs ka u) → va_S A s.heap H locs → lv_has ls 3 [(1, .int x1_2), (0, .ref (hs 0))] → W p l e (headSpec wzX1_broken ({ frames := 1, cells := 0, slots := 0, locals := 25 })).room s m ([.ref (hs 0)] : List Value).toArray below meth c H locs 0 0 (MQ below (va_Qi (fun (r1 : Int32) (u1 : MS) => r1 = r ∧ u1 = u) (aM dC dI A hs ka) A) ([.ref (hs 0)] : List Value).toArray s 0 0 A) (F0 m 2 ls []) := by
    intro K_2 hk_2 n_2
    induction n_2 with
    | zero =>
      intro x1_2 H locs ls h
      exact absurd (show (none : Option (Int32)) = some r from h) (fun q => by cases q)
    | succ n_2 ih_2 =>
      intro x1_2 H locs ls h hP hD hS hl
      rw [pl_X1_broken_2] at h
      refine lv_iload_n hx hb dX1_broken_2 rfl (lv_at hl 0 rfl) ?_
      refine lv_aload_n hx hb dX1_broken_3 rfl (lv_at hl 1 rfl) ?_
      refine gt_M_rows (V := (m_rows u)) hx hb hts hin0 hown hK hP hf_77 rfl dX1_broken_4 ?_
      refine lv_icmp_ge (tgt := 24) hx hb dX1_broken_7 (by decide) (fun c_1 => ?_) (fun c_1 => ?_)
      · rw [if_pos c_1] at h
        exact hk_2 x1_2 _ _ _ h hP hD hS (lv_sub hl [0, 1] rfl)
      · rw [if_neg c_1] at h
        refine lv_aload_n hx hb dX1_broken_10 rfl (lv_at hl 1 rfl) ?_
        refine lv_iload_n hx hb dX1_broken_11 rfl (lv_at hl 0 rfl) ?_
        obtain ⟨q_2, hc_2, h⟩ := ob_some h
        have hPc := hP
        have hDc := hD
        have hKc := hK
        have hFc := fr_M hD hS hA
        refine va_calli (va_runV (As := [.int x1_2]) (rest := []) ⟨hx, hb, hml, hown, hts⟩ (c_X1_isBroken l dC dI hs ka H.size fu u x1_2 q_2 hc_2) (cwV 1 hts gX1_broken_X1_isBroken rfl rfl rfl (by decide +kernel) ⟨Nat.le_of_ble_eq_true rfl, Nat.le_of_ble_eq_true rfl⟩) ⟨fun a U g mk q => by obtain ⟨q0, q1, qP, qK, qD⟩ := q; exact ⟨q0, q1, qP, va_K.moved (u := U) (U := U.calling g mk a) (Vm.Alike.refl U.vm) qK, qD⟩, rc_M hKc hPc, fun U hU hW => ⟨rfl, by rw [hU], by rw [hU]; exact hPc, va_K.moved hW.alike hKc, hDc.weaken (fun _ _ _ _ => trivial)⟩⟩ rfl rfl hl.1 rfl (lv_room (Nat.le_of_ble_eq_true rfl)) dX1_broken_12 ⟨Nat.zero_le _, Nat.zero_le _⟩) hS (fun q _ h => hFc q h) hFc (fun r_2 u_c2 t H1 locs ht hvm hw hB hz1 hk1 hS => ?_)
        obtain ⟨hw1, hw2⟩ := hw
        subst r_2
        subst u_c2
        obtain ⟨hP1, hK1, hD1⟩ := hB
        rw [ht] at hP1
        obtain ⟨hP, hD⟩ := jw_M hP hD hk1 hFc hP1 hD1
        clear hPc hDc hKc hFc hz1 hk1 hP1 hK1 hD1
        generalize H1 = H at hP hS ⊢
        refine lv_if_ne (tgt := 24) hx hb dX1_broken_15 (by decide) (fun c_3 => ?_) (fun c_3 => ?_)
        · rw [if_neg c_3] at h
          exact hk_2 x1_2 _ _ _ h hP hD hS (lv_sub hl [0, 1] rfl)
        · rw [if_pos c_3] at h
          refine lv_iinc (v := (x1_2 + (1 : Int32))) (lv' := [(1, .int (x1_2 + (1 : Int32))), (0, .ref (hs 0))]) hx hb dX1_broken_18 hl (k := 0) rfl (congrArg (fun z : Int32 => x1_2 + z) (by decide : Int32.ofInt (1) = (1 : Int32))) (by decide) rfl (fun ls hl => ?_)
          refine lv_goto (tgt := 2) hx hb dX1_broken_21 (by decide) ?_
          exact ih_2 (x1_2 + (1 : Int32)) _ _ _ h hP hD hS (lv_sub hl [0, 1] rfl)
  refine lp_2 _ (fun x1_2 H locs ls h hP hD hS hl => ?_) fu (0 : Int32) _ _ _ h hP hD hS hl
  refine lv_iload_n hx hb dX1_broken_24 rfl (lv_at hl 0 rfl) ?_
  refine lv_aload_n hx hb dX1_broken_25 rfl (lv_at hl 1 rfl) ?_
  refine gt_M_rows (V := (m_rows u)) hx hb hts hin0 hown hK hP hf_77 rfl dX1_broken_26 ?_
  refine lv_icmp_ge (tgt := 47) hx hb dX1_broken_29 (by decide) (fun c_4 => ?_) (fun c_4 => ?_)
  · rw [if_pos c_4] at h
    refine lv_iconst (v := (0 : Int32)) hx hb dX1_broken_47 (by decide) ?_
    refine lv_istore_n (lv' := [(2, .int (0 : Int32)), (1, .int x1_2), (0, .ref (hs 0))]) hx hb dX1_broken_48 rfl hl (by decide) rfl (fun ls hl => ?_)
    have lp_49 : ∀ K_49 : Int32 → Option (Int32), (∀ (x2_49 : Int32) (H : Heap) (locs : List Loc) (ls : Array Slot), K_49 x2_49 = some r → va_P (dC, dI) vwCl (cM hs ka u) H → va_D A (cM hs ka u) → va_S A s.heap H locs → lv_has ls 3 [(2, .int x2_49), (1, .int x1_2), (0, .ref (hs 0))] → W p l e (headSpec wzX1_broken ({ frames := 1, cells := 0, slots := 0, locals := 25 })).room s m ([.ref (hs 0)] : List Value).toArray below meth c H locs 0 0 (MQ below (va_Qi (fun (r1 : Int32) (u1 : MS) => r1 = r ∧ u1 = u) (aM dC dI A hs ka) A) ([.ref (hs 0)] : List Value).toArray s 0 0 A) (F0 m 74 ls [])) → ∀ n_49 : Nat, ∀ (x2_49 : Int32) (H : Heap) (locs : List Loc) (ls : Array Slot), pl_X1_broken_49 fu u K_49 n_49 x2_49 = some r → va_P (dC, dI) vwCl (cM hs ka u) H → va_D A (cM hs ka u) → va_S A s.heap H locs → lv_has ls 3 [(2, .int x2_49), (1, .int x1_2), (0, .ref (hs 0))] → W p l e (headSpec wzX1_broken ({ frames := 1, cells := 0, slots := 0, locals := 25 })).room s m ([.ref (hs 0)] : List Value).toArray below meth c H locs 0 0 (MQ below (va_Qi (fun (r1 : Int32) (u1 : MS) => r1 = r ∧ u1 = u) (aM dC dI A hs ka) A) ([.ref (hs 0)] : List Value).toArray s 0 0 A) (F0 m 49 ls []) := by
      intro K_49 hk_49 n_49
      induction n_49 with
      | zero =>
        intro x2_49 H locs ls h
        exact absurd (show (none : Option (Int32)) = some r from h) (fun q => by cases q)
      | succ n_49 ih_49 =>
        intro x2_49 H locs ls h hP hD hS hl
        rw [pl_X1_broken_49] at h
        refine lv_iload_n hx hb dX1_broken_49 rfl (lv_at hl 0 rfl) ?_
        refine lv_aload_n hx hb dX1_broken_50 rfl (lv_at hl 2 rfl) ?_
        refine gt_M_demands (V := (m_demands u)) hx hb hts hin0 hown hK hP hf_84 rfl dX1_broken_51 ?_
        refine lv_icmp_ge (tgt := 74) hx hb dX1_broken_54 (by decide) (fun c_5 => ?_) (fun c_5 => ?_)
        · rw [if_pos c_5] at h
          exact hk_49 x2_49 _ _ _ h hP hD hS (lv_sub hl [0, 1, 2] rfl)
        · rw [if_neg c_5] at h
          refine lv_aload_n hx hb dX1_broken_57 rfl (lv_at hl 2 rfl) ?_
          refine lv_bipush (v := (120 : Int32)) hx hb dX1_broken_58 (by decide) ?_
          refine lv_iload_n hx hb dX1_broken_60 rfl (lv_at hl 0 rfl) ?_
          refine lv_iadd hx hb dX1_broken_61 ?_
          obtain ⟨q_6, hc_6, h⟩ := ob_some h
          have hPc := hP
          have hDc := hD
          have hKc := hK
          have hFc := fr_M hD hS hA
          refine va_calli (va_runV (As := [.int ((120 : Int32) + x2_49)]) (rest := []) ⟨hx, hb, hml, hown, hts⟩ (c_X1_isBroken l dC dI hs ka H.size fu u ((120 : Int32) + x2_49) q_6 hc_6) (cwV 1 hts gX1_broken_X1_isBroken rfl rfl rfl (by decide +kernel) ⟨Nat.le_of_ble_eq_true rfl, Nat.le_of_ble_eq_true rfl⟩) ⟨fun a U g mk q => by obtain ⟨q0, q1, qP, qK, qD⟩ := q; exact ⟨q0, q1, qP, va_K.moved (u := U) (U := U.calling g mk a) (Vm.Alike.refl U.vm) qK, qD⟩, rc_M hKc hPc, fun U hU hW => ⟨rfl, by rw [hU], by rw [hU]; exact hPc, va_K.moved hW.alike hKc, hDc.weaken (fun _ _ _ _ => trivial)⟩⟩ rfl rfl hl.1 rfl (lv_room (Nat.le_of_ble_eq_true rfl)) dX1_broken_62 ⟨Nat.zero_le _, Nat.zero_le _⟩) hS (fun q _ h => hFc q h) hFc (fun r_6 u_c6 t H1 locs ht hvm hw hB hz1 hk1 hS => ?_)
          obtain ⟨hw1, hw2⟩ := hw
          subst r_6
          subst u_c6
          obtain ⟨hP1, hK1, hD1⟩ := hB
          rw [ht] at hP1
          obtain ⟨hP, hD⟩ := jw_M hP hD hk1 hFc hP1 hD1
          clear hPc hDc hKc hFc hz1 hk1 hP1 hK1 hD1
          generalize H1 = H at hP hS ⊢
          refine lv_if_ne (tgt := 74) hx hb dX1_broken_65 (by decide) (fun c_7 => ?_) (fun c_7 => ?_)
          · rw [if_neg c_7] at h
            exact hk_49 x2_49 _ _ _ h hP hD hS (lv_sub hl [0, 1, 2] rfl)
          · rw [if_pos c_7] at h
            refine lv_iinc (v := (x2_49 + (1 : Int32))) (lv' := [(2, .int (x2_49 + (1 : Int32))), (1, .int x1_2), (0, .ref (hs 0))]) hx hb dX1_broken_68 hl (k := 0) rfl (congrArg (fun z : Int32 => x2_49 + z) (by decide : Int32.ofInt (1) = (1 : Int32))) (by decide) rfl (fun ls hl => ?_)
            refine lv_goto (tgt := 49) hx hb dX1_broken_71 (by decide) ?_
            exact ih_49 (x2_49 + (1 : Int32)) _ _ _ h hP hD hS (lv_sub hl [0, 1, 2] rfl)
    refine lp_49 _ (fun x2_49 H locs ls h hP hD hS hl => ?_) fu (0 : Int32) _ _ _ h hP hD hS hl
    refine lv_iload_n hx hb dX1_broken_74 rfl (lv_at hl 0 rfl) ?_
    refine lv_aload_n hx hb dX1_broken_75 rfl (lv_at hl 2 rfl) ?_
    refine gt_M_demands (V := (m_demands u)) hx hb hts hin0 hown hK hP hf_84 rfl dX1_broken_76 ?_
    refine lv_icmp_ge (tgt := 97) hx hb dX1_broken_79 (by decide) (fun c_8 => ?_) (fun c_8 => ?_)
    · rw [if_pos c_8] at h
      refine lv_iconst (v := (0 : Int32)) hx hb dX1_broken_97 (by decide) ?_
      have e9 := Option.some.inj h
      exact W.iret (v := (0 : Int32)) hx hb hr (fun t ht hW => ⟨⟨(0 : Int32), u, rfl, ⟨e9, rfl⟩, by rw [ht]; exact hP, va_K.moved hW.alike hK, hD⟩, hS.F ht⟩) hS.2.2 dX1_broken_98
    · rw [if_neg c_8] at h
      refine lv_sipush (v := (256 : Int32)) hx hb dX1_broken_82 (by decide) ?_
      refine lv_aload_n hx hb dX1_broken_85 rfl (lv_at hl 2 rfl) ?_
      refine lv_bipush (v := (120 : Int32)) hx hb dX1_broken_86 (by decide) ?_
      refine lv_iload_n hx hb dX1_broken_88 rfl (lv_at hl 0 rfl) ?_
      refine lv_iadd hx hb dX1_broken_89 ?_
      obtain ⟨q_9, hc_9, h⟩ := ob_some h
      have hPc := hP
      have hDc := hD
      have hKc := hK
      have hFc := fr_M hD hS hA
      refine va_calli (va_runV (As := [.int ((120 : Int32) + x2_49)]) (rest := [.int (256 : Int32)]) ⟨hx, hb, hml, hown, hts⟩ (c_X1_others l dC dI hs ka H.size fu u ((120 : Int32) + x2_49) q_9 hc_9) (cwV 1 hts gX1_broken_X1_others rfl rfl rfl (by decide +kernel) ⟨Nat.le_of_ble_eq_true rfl, Nat.le_of_ble_eq_true rfl⟩) ⟨fun a U g mk q => by obtain ⟨q0, q1, qP, qK, qD⟩ := q; exact ⟨q0, q1, qP, va_K.moved (u := U) (U := U.calling g mk a) (Vm.Alike.refl U.vm) qK, qD⟩, rc_M hKc hPc, fun U hU hW => ⟨rfl, by rw [hU], by rw [hU]; exact hPc, va_K.moved hW.alike hKc, hDc.weaken (fun _ _ _ _ => trivial)⟩⟩ rfl rfl hl.1 rfl (lv_room (Nat.le_of_ble_eq_true rfl)) dX1_broken_90 ⟨Nat.zero_le _, Nat.zero_le _⟩) hS (fun q _ h => hFc q h) hFc (fun r_9 u_c9 t H1 locs ht hvm hw hB hz1 hk1 hS => ?_)
      obtain ⟨hw1, hw2⟩ := hw
      subst r_9
      subst u_c9
      obtain ⟨hP1, hK1, hD1⟩ := hB
      rw [ht] at hP1
      obtain ⟨hP, hD⟩ := jw_M hP hD hk1 hFc hP1 hD1
      clear hPc hDc hKc hFc hz1 hk1 hP1 hK1 hD1
      generalize H1 = H at hP hS ⊢
      refine lv_ior hx hb dX1_broken_93 ?_
      refine lv_goto (tgt := 98) hx hb dX1_broken_94 (by decide) ?_
      have e9 := Option.some.inj h
      exact W.iret (v := ((256 : Int32) ||| q_9)) hx hb hr (fun t ht hW => ⟨⟨((256 : Int32) ||| q_9), u, rfl, ⟨e9, rfl⟩, by rw [ht]; exact hP, va_K.moved hW.alike hK, hD⟩, hS.F ht⟩) hS.2.2 dX1_broken_98
  · rw [if_neg c_4] at h
    refine lv_iconst (v := (1 : Int32)) hx hb dX1_broken_32 (by decide) ?_
    refine lv_aload_n hx hb dX1_broken_33 rfl (lv_at hl 1 rfl) ?_
    refine gt_M_pack hx hb hts hin0 hown hK hP hf_31 dX1_broken_34 ?_
    refine lv_iload_n hx hb dX1_broken_37 rfl (lv_at hl 0 rfl) ?_
    obtain ⟨g_10, h⟩ := og_some h
    refine ld_M_pack (F := (m_pack u)) hx hb hK hP rfl (inb_in g_10) dX1_broken_38 ?_
    refine lv_ishl hx hb dX1_broken_39 ?_
    refine lv_aload_n hx hb dX1_broken_40 rfl (lv_at hl 1 rfl) ?_
    refine lv_iload_n hx hb dX1_broken_41 rfl (lv_at hl 0 rfl) ?_
    obtain ⟨q_11, hc_11, h⟩ := ob_some h
    have hPc := hP
    have hDc := hD
    have hKc := hK
    have hFc := fr_M hD hS hA
    refine va_calli (va_runV (As := [.int x1_2]) (rest := [.int ((1 : Int32) <<< (((m_pack u) x1_2.toNatClampNeg) &&& 31))]) ⟨hx, hb, hml, hown, hts⟩ (c_X1_others l dC dI hs ka H.size fu u x1_2 q_11 hc_11) (cwV 1 hts gX1_broken_X1_others rfl rfl rfl (by decide +kernel) ⟨Nat.le_of_ble_eq_true rfl, Nat.le_of_ble_eq_true rfl⟩) ⟨fun a U g mk q => by obtain ⟨q0, q1, qP, qK, qD⟩ := q; exact ⟨q0, q1, qP, va_K.moved (u := U) (U := U.calling g mk a) (Vm.Alike.refl U.vm) qK, qD⟩, rc_M hKc hPc, fun U hU hW => ⟨rfl, by rw [hU], by rw [hU]; exact hPc, va_K.moved hW.alike hKc, hDc.weaken (fun _ _ _ _ => trivial)⟩⟩ rfl rfl hl.1 rfl (lv_room (Nat.le_of_ble_eq_true rfl)) dX1_broken_42 ⟨Nat.zero_le _, Nat.zero_le _⟩) hS (fun q _ h => hFc q h) hFc (fun r_11 u_c11 t H1 locs ht hvm hw hB hz1 hk1 hS => ?_)
    obtain ⟨hw1, hw2⟩ := hw
    subst r_11
    subst u_c11
    obtain ⟨hP1, hK1, hD1⟩ := hB
    rw [ht] at hP1
    obtain ⟨hP, hD⟩ := jw_M hP hD hk1 hFc hP1 hD1
    clear hPc hDc hKc hFc hz1 hk1 hP1 hK1 hD1
    generalize H1 = H at hP hS ⊢
    refine lv_ior hx hb dX1_broken_45 ?_
    have e9 := Option.some.inj h
    exact W.iret (v := (((1 : Int32) <<< (((m_pack u) x1_2.toNatClampNeg) &&& 31)) ||| q_11)) hx hb hr (fun t ht hW => ⟨⟨(((1 : Int32) <<< (((m_pack u) x1_2.toNatClampNeg) &&& 31)) ||| q_11), u, rfl, ⟨e9, rfl⟩, by rw [ht]; exact hP, va_K.moved hW.alike hK, hD⟩, hS.F ht⟩) hS.2.2 dX1_broken_46
set_option maxHeartbeats 4000000 in
set_option maxRecDepth 100000 in
theorem c_X1_place (l : Launch) (dC : Nat → ClassId) (dI : Nat → Nat → Nat) (hs : Nat → Nat) (ka : Nat → ClassId) (sz : Nat) (fu : Nat) (u : MS) (p0 : Int32) (u' : MS) (h : pf_X1_place fu p0 u = some u') : Met l yX1_place wzX1_place ({ frames := 0, cells := 0, slots := 0, locals := 0 }) (va_Pc [.ref (hs 0), .int p0] (fun U => U.heap.size = sz ∧ va_P (dC, dI) vwCl (cM hs ka u) U.heap ∧ va_K (dC, dI) vwCl (tM ka) U ∧ va_D (fun _ => True) (cM hs ka u))) (va_Qv (fun (u1 : MS) => u1 = u') (aM dC dI (va_A (cM hs ka u) sz) hs ka) (va_A (cM hs ka u) sz)) 0 0 (va_A (cM hs ka u) sz) := by
  refine Met.ofW (cc := cX1_place) (maxL := 4) (ret := none) (by decide) rfl ?_
  intro p e s m args below meth c s₁ B hml hv
  obtain ⟨rfl, hsz, hP, hK, hD0⟩ := hv
  have hx := B.exec
  have hb := B.bytes
  have hr := B.returns
  have hts := atoms_spec (ws := wzX1_place) B.pre
  have hown : s.vm.findClass RX1 = some m.cls := findClass_of_methodNamed B.named
  have hlocks := B.notSynchronized
  subst hsz
  have hD := hD0.self (sz := s.heap.size)
  generalize hAe : va_A (cM hs ka u) s.heap.size = A at hD ⊢
  have hA : ∀ q : Nat, s.heap.size ≤ q → A q := fun q h => by rw [← hAe]; exact Or.inr h
  have hS : va_S A s.heap s.heap [] := va_S.rf
  have hP : va_P (dC, dI) vwCl (cM hs ka u) s.heap := hP
  clear hD0 hAe
  have hin0 : ∀ w ∈ u_ws RX1 TX1 23, w ∈ wzX1_place := fun w h => List.mem_cons_of_mem _ (inTX1 w h)
  have hf_22 := hts (.fieldLink RX1 22 "ConflictSolveModel" "order" "[I") (List.mem_cons_of_mem _ tz_243)
  have hf_94 := hts (.fieldLink RX1 94 "ConflictSolveModel" "needed" "I") (List.mem_cons_of_mem _ tz_249)
  have hl := lv_entry ([.ref (hs 0), .int p0]) (n := 4) (Nat.le_of_ble_eq_true rfl)
  rw [lg_entry_eq]
  generalize (lg_sl ([.ref (hs 0), .int p0]) ++ List.replicate (4 - (lg_sl ([.ref (hs 0), .int p0])).length) Slot.unset).toArray = ls at hl ⊢
  have hl : lv_has ls 4 [(0, .ref (hs 0)), (1, .int p0)] := hl
  rw [pf_X1_place] at h
  refine lv_iconst (v := (0 : Int32)) hx hb dX1_place_0 (by decide) ?_
  refine lv_istore_n (lv' := [(2, .int (0 : Int32)), (0, .ref (hs 0)), (1, .int p0)]) hx hb dX1_place_1 rfl hl (by decide) rfl (fun ls hl => ?_)
  refine lv_iconst (v := (0 : Int32)) hx hb dX1_place_2 (by decide) ?_
  refine lv_istore_n (lv' := [(3, .int (0 : Int32)), (2, .int (0 : Int32)), (0, .ref (hs 0)), (1, .int p0)]) hx hb dX1_place_3 rfl hl (by decide) rfl (fun ls hl => ?_)
  have lp_4 : ∀ K_4 : Int32 → Int32 → Option (MS), (∀ (x3_4 : Int32) (x2_4 : Int32) (H : Heap) (locs : List Loc) (ls : Array Slot), K_4 x3_4 x2_4 = some u' → va_P (dC, dI) vwCl (cM hs ka u) H → va_D A (cM hs ka u) → va_S A s.heap H locs → lv_has ls 4 [(3, .int x3_4), (2, .int x2_4), (0, .ref (hs 0)), (1, .int p0)] → W p l e (headSpec wzX1_place ({ frames := 0, cells := 0, slots := 0, locals := 0 })).room s m ([.ref (hs 0), .int p0] : List Value).toArray below meth c H locs 0 0 (MQ below (va_Qv (fun (u1 : MS) => u1 = u') (aM dC dI A hs ka) A) ([.ref (hs 0), .int p0] : List Value).toArray s 0 0 A) (F0 m 38 ls [])) → ∀ n_4 : Nat, ∀ (x3_4 : Int32) (x2_4 : Int32) (H : Heap) (locs : List Loc) (ls : Array Slot), pl_X1_place_4 fu p0 u K_4 n_4 x3_4 x2_4 = some u' → va_P (dC, dI) vwCl (cM hs ka u) H → va_D A (cM hs ka u) → va_S A s.heap H locs → lv_has ls 4 [(3, .int x3_4), (2, .int x2_4), (0, .ref (hs 0)), (1, .int p0)] → W p l e (headSpec wzX1_place ({ frames := 0, cells := 0, slots := 0, locals := 0 })).room s m ([.ref (hs 0), .int p0] : List Value).toArray below meth c H locs 0 0 (MQ below (va_Qv (fun (u1 : MS) => u1 = u') (aM dC dI A hs ka) A) ([.ref (hs 0), .int p0] : List Value).toArray s 0 0 A) (F0 m 4 ls []) := by
    intro K_4 hk_4 n_4
    induction n_4 with
    | zero =>
      intro x3_4 x2_4 H locs ls h
      exact absurd (show (none : Option (MS)) = some u' from h) (fun q => by cases q)
    | succ n_4 ih_4 =>
      intro x3_4 x2_4 H locs ls h hP hD hS hl
      rw [pl_X1_place_4] at h
      refine lv_iload_n hx hb dX1_place_4 rfl (lv_at hl 0 rfl) ?_
      refine lv_aload_n hx hb dX1_place_5 rfl (lv_at hl 2 rfl) ?_
      refine gt_M_needed (V := (m_needed u)) hx hb hts hin0 hown hK hP hf_94 rfl dX1_place_6 ?_
      refine lv_icmp_ge (tgt := 38) hx hb dX1_place_9 (by decide) (fun c_1 => ?_) (fun c_1 => ?_)
      · rw [if_pos c_1] at h
        exact hk_4 x3_4 x2_4 _ _ _ h hP hD hS (lv_sub hl [0, 1, 2, 3] rfl)
      · rw [if_neg c_1] at h
        refine lv_iload_n hx hb dX1_place_12 rfl (lv_at hl 1 rfl) ?_
        refine lv_if_ne (tgt := 26) hx hb dX1_place_13 (by decide) (fun c_2 => ?_) (fun c_2 => ?_)
        · rw [if_neg c_2] at h
          refine lv_iconst (v := (1 : Int32)) hx hb dX1_place_26 (by decide) ?_
          refine lv_goto (tgt := 31) hx hb dX1_place_27 (by decide) ?_
          refine lv_istore_n (lv' := [(2, .int (1 : Int32)), (3, .int x3_4), (0, .ref (hs 0)), (1, .int p0)]) hx hb dX1_place_31 rfl hl (by decide) rfl (fun ls hl => ?_)
          refine lv_iinc (v := (x3_4 + (1 : Int32))) (lv' := [(3, .int (x3_4 + (1 : Int32))), (2, .int (1 : Int32)), (0, .ref (hs 0)), (1, .int p0)]) hx hb dX1_place_32 hl (k := 1) rfl (congrArg (fun z : Int32 => x3_4 + z) (by decide : Int32.ofInt (1) = (1 : Int32))) (by decide) rfl (fun ls hl => ?_)
          refine lv_goto (tgt := 4) hx hb dX1_place_35 (by decide) ?_
          exact ih_4 (x3_4 + (1 : Int32)) (1 : Int32) _ _ _ h hP hD hS (lv_sub hl [0, 1, 2, 3] rfl)
        · rw [if_pos c_2] at h
          refine lv_aload_n hx hb dX1_place_16 rfl (lv_at hl 2 rfl) ?_
          refine gt_M_order hx hb hts hin0 hown hK hP hf_22 dX1_place_17 ?_
          refine lv_iload_n hx hb dX1_place_20 rfl (lv_at hl 0 rfl) ?_
          obtain ⟨g_3, h⟩ := og_some h
          refine ld_M_order (F := (m_order u)) hx hb hK hP rfl (inb_in g_3) dX1_place_21 ?_
          refine lv_iload_n hx hb dX1_place_22 rfl (lv_at hl 3 rfl) ?_
          refine lv_icmp_ne (tgt := 30) hx hb dX1_place_23 (by decide) (fun c_4 => ?_) (fun c_4 => ?_)
          · rw [if_neg c_4] at h
            refine lv_iconst (v := (0 : Int32)) hx hb dX1_place_30 (by decide) ?_
            refine lv_istore_n (lv' := [(2, .int (0 : Int32)), (3, .int x3_4), (0, .ref (hs 0)), (1, .int p0)]) hx hb dX1_place_31 rfl hl (by decide) rfl (fun ls hl => ?_)
            refine lv_iinc (v := (x3_4 + (1 : Int32))) (lv' := [(3, .int (x3_4 + (1 : Int32))), (2, .int (0 : Int32)), (0, .ref (hs 0)), (1, .int p0)]) hx hb dX1_place_32 hl (k := 1) rfl (congrArg (fun z : Int32 => x3_4 + z) (by decide : Int32.ofInt (1) = (1 : Int32))) (by decide) rfl (fun ls hl => ?_)
            refine lv_goto (tgt := 4) hx hb dX1_place_35 (by decide) ?_
            exact ih_4 (x3_4 + (1 : Int32)) (0 : Int32) _ _ _ h hP hD hS (lv_sub hl [0, 1, 2, 3] rfl)
          · rw [if_pos c_4] at h
            refine lv_iconst (v := (1 : Int32)) hx hb dX1_place_26 (by decide) ?_
            refine lv_goto (tgt := 31) hx hb dX1_place_27 (by decide) ?_
            refine lv_istore_n (lv' := [(2, .int (1 : Int32)), (3, .int x3_4), (0, .ref (hs 0)), (1, .int p0)]) hx hb dX1_place_31 rfl hl (by decide) rfl (fun ls hl => ?_)
            refine lv_iinc (v := (x3_4 + (1 : Int32))) (lv' := [(3, .int (x3_4 + (1 : Int32))), (2, .int (1 : Int32)), (0, .ref (hs 0)), (1, .int p0)]) hx hb dX1_place_32 hl (k := 1) rfl (congrArg (fun z : Int32 => x3_4 + z) (by decide : Int32.ofInt (1) = (1 : Int32))) (by decide) rfl (fun ls hl => ?_)
            refine lv_goto (tgt := 4) hx hb dX1_place_35 (by decide) ?_
            exact ih_4 (x3_4 + (1 : Int32)) (1 : Int32) _ _ _ h hP hD hS (lv_sub hl [0, 1, 2, 3] rfl)
  refine lp_4 _ (fun x3_4 x2_4 H locs ls h hP hD hS hl => ?_) fu (0 : Int32) (0 : Int32) _ _ _ h hP hD hS hl
  refine lv_iload_n hx hb dX1_place_38 rfl (lv_at hl 1 rfl) ?_
  refine lv_if_eq (tgt := 43) hx hb dX1_place_39 (by decide) (fun c_5 => ?_) (fun c_5 => ?_)
  · rw [if_pos c_5] at h
    refine lv_aload_n hx hb dX1_place_43 rfl (lv_at hl 2 rfl) ?_
    refine gt_M_order hx hb hts hin0 hown hK hP hf_22 dX1_place_44 ?_
    refine lv_aload_n hx hb dX1_place_47 rfl (lv_at hl 2 rfl) ?_
    refine gt_M_needed (V := (m_needed u)) hx hb hts hin0 hown hK hP hf_94 rfl dX1_place_48 ?_
    refine lv_iload_n hx hb dX1_place_51 rfl (lv_at hl 3 rfl) ?_
    obtain ⟨g_6, h⟩ := og_some h
    refine sr_M_order (F := (m_order u)) hx hb hK hP hD hS rfl (inb_in g_6) dX1_place_52 (fun H locs hP hD hS => ?_)
    refine lv_aload_n hx hb dX1_place_53 rfl (lv_at hl 2 rfl) ?_
    refine lv_dup hx hb dX1_place_54 rfl ?_
    refine gt_M_needed (V := (m_needed u)) hx hb hts hin0 hown hK hP hf_94 (rq_m_needed_order u (upd (m_order u) (m_needed u).toNatClampNeg p0)) dX1_place_55 ?_
    refine lv_iconst (v := (1 : Int32)) hx hb dX1_place_58 (by decide) ?_
    refine lv_iadd hx hb dX1_place_59 ?_
    refine pt_M_needed hx hb hts hin0 hown hK hP hD hS hf_94 dX1_place_60 (fun H locs hP hD hS => ?_)
    have e9 := Option.some.inj h
    exact W.vret hx hb hr (fun t ht hW => ⟨⟨(ms_needed (ms_order u (upd (m_order u) (m_needed u).toNatClampNeg p0)) ((m_needed u) + (1 : Int32))), rfl, e9, by rw [ht]; exact hP, va_K.moved hW.alike hK, hD⟩, hS.F ht⟩) hS.2.2 dX1_place_63
  · rw [if_neg c_5] at h
    have e9 := Option.some.inj h
    exact W.vret hx hb hr (fun t ht hW => ⟨⟨u, rfl, e9, by rw [ht]; exact hP, va_K.moved hW.alike hK, hD⟩, hS.F ht⟩) hS.2.2 dX1_place_42
set_option maxHeartbeats 4000000 in
set_option maxRecDepth 100000 in
theorem c_X1_arrange (l : Launch) (dC : Nat → ClassId) (dI : Nat → Nat → Nat) (hs : Nat → Nat) (ka : Nat → ClassId) (sz : Nat) (fu : Nat) (u : MS) (u' : MS) (h : pf_X1_arrange fu u = some u') : Met l yX1_arrange wzX1_arrange ({ frames := 1, cells := 0, slots := 0, locals := 23 }) (va_Pc [.ref (hs 0)] (fun U => U.heap.size = sz ∧ va_P (dC, dI) vwCl (cM hs ka u) U.heap ∧ va_K (dC, dI) vwCl (tM ka) U ∧ va_D (fun _ => True) (cM hs ka u))) (va_Qv (fun (u1 : MS) => u1 = u') (aM dC dI (va_A (cM hs ka u) sz) hs ka) (va_A (cM hs ka u) sz)) 0 0 (va_A (cM hs ka u) sz) := by
  refine Met.ofW (cc := cX1_arrange) (maxL := 3) (ret := none) (by decide) rfl ?_
  intro p e s m args below meth c s₁ B hml hv
  obtain ⟨rfl, hsz, hP, hK, hD0⟩ := hv
  have hx := B.exec
  have hb := B.bytes
  have hr := B.returns
  have hts := atoms_spec (ws := wzX1_arrange) B.pre
  have hown : s.vm.findClass RX1 = some m.cls := findClass_of_methodNamed B.named
  have hlocks := B.notSynchronized
  subst hsz
  have hD := hD0.self (sz := s.heap.size)
  generalize hAe : va_A (cM hs ka u) s.heap.size = A at hD ⊢
  have hA : ∀ q : Nat, s.heap.size ≤ q → A q := fun q h => by rw [← hAe]; exact Or.inr h
  have hS : va_S A s.heap s.heap [] := va_S.rf
  have hP : va_P (dC, dI) vwCl (cM hs ka u) s.heap := hP
  clear hD0 hAe
  have hin0 : ∀ w ∈ u_ws RX1 TX1 23, w ∈ wzX1_arrange := fun w h => List.mem_cons_of_mem _ (inTX1 w h)
  have hf_37 := hts (.fieldLink RX1 37 "ConflictSolveModel" "kind" "[I") (List.mem_cons_of_mem _ tz_252)
  have hf_40 := hts (.fieldLink RX1 40 "ConflictSolveModel" "many" "[I") (List.mem_cons_of_mem _ tz_253)
  have hf_43 := hts (.fieldLink RX1 43 "ConflictSolveModel" "other" "[I") (List.mem_cons_of_mem _ tz_254)
  have hf_66 := hts (.fieldLink RX1 66 "ConflictSolveModel" "packages" "I") (List.mem_cons_of_mem _ tz_246)
  have hf_84 := hts (.fieldLink RX1 84 "ConflictSolveModel" "demands" "I") (List.mem_cons_of_mem _ tz_248)
  have hf_94 := hts (.fieldLink RX1 94 "ConflictSolveModel" "needed" "I") (List.mem_cons_of_mem _ tz_249)
  have hl := lv_entry ([.ref (hs 0)]) (n := 3) (Nat.le_of_ble_eq_true rfl)
  rw [lg_entry_eq]
  generalize (lg_sl ([.ref (hs 0)]) ++ List.replicate (3 - (lg_sl ([.ref (hs 0)])).length) Slot.unset).toArray = ls at hl ⊢
  have hl : lv_has ls 3 [(0, .ref (hs 0))] := hl
  rw [pf_X1_arrange] at h
  refine lv_aload_n hx hb dX1_arrange_0 rfl (lv_at hl 0 rfl) ?_
  refine lv_iconst (v := (0 : Int32)) hx hb dX1_arrange_1 (by decide) ?_
  refine pt_M_needed hx hb hts hin0 hown hK hP hD hS hf_94 dX1_arrange_2 (fun H locs hP hD hS => ?_)
  refine lv_bipush (v := (120 : Int32)) hx hb dX1_arrange_5 (by decide) ?_
  refine lv_istore_n (lv' := [(1, .int (120 : Int32)), (0, .ref (hs 0))]) hx hb dX1_arrange_7 rfl hl (by decide) rfl (fun ls hl => ?_)
  have lp_8 : ∀ K_8 : Int32 → MS → Option (MS), (∀ (x1_8 : Int32) (u_8 : MS) (H : Heap) (locs : List Loc) (ls : Array Slot), K_8 x1_8 u_8 = some u' → va_P (dC, dI) vwCl (cM hs ka u_8) H → va_D A (cM hs ka u_8) → va_S A s.heap H locs → lv_has ls 3 [(1, .int x1_8), (0, .ref (hs 0))] → W p l e (headSpec wzX1_arrange ({ frames := 1, cells := 0, slots := 0, locals := 23 })).room s m ([.ref (hs 0)] : List Value).toArray below meth c H locs 0 0 (MQ below (va_Qv (fun (u1 : MS) => u1 = u') (aM dC dI A hs ka) A) ([.ref (hs 0)] : List Value).toArray s 0 0 A) (F0 m 66 ls [])) → ∀ n_8 : Nat, ∀ (x1_8 : Int32) (u_8 : MS) (H : Heap) (locs : List Loc) (ls : Array Slot), pl_X1_arrange_8 fu K_8 n_8 x1_8 u_8 = some u' → va_P (dC, dI) vwCl (cM hs ka u_8) H → va_D A (cM hs ka u_8) → va_S A s.heap H locs → lv_has ls 3 [(1, .int x1_8), (0, .ref (hs 0))] → W p l e (headSpec wzX1_arrange ({ frames := 1, cells := 0, slots := 0, locals := 23 })).room s m ([.ref (hs 0)] : List Value).toArray below meth c H locs 0 0 (MQ below (va_Qv (fun (u1 : MS) => u1 = u') (aM dC dI A hs ka) A) ([.ref (hs 0)] : List Value).toArray s 0 0 A) (F0 m 8 ls []) := by
    intro K_8 hk_8 n_8
    induction n_8 with
    | zero =>
      intro x1_8 u_8 H locs ls h
      exact absurd (show (none : Option (MS)) = some u' from h) (fun q => by cases q)
    | succ n_8 ih_8 =>
      intro x1_8 u_8 H locs ls h hP hD hS hl
      rw [pl_X1_arrange_8] at h
      refine lv_iload_n hx hb dX1_arrange_8 rfl (lv_at hl 0 rfl) ?_
      refine lv_bipush (v := (120 : Int32)) hx hb dX1_arrange_9 (by decide) ?_
      refine lv_aload_n hx hb dX1_arrange_11 rfl (lv_at hl 1 rfl) ?_
      refine gt_M_demands (V := (m_demands u_8)) hx hb hts hin0 hown hK hP hf_84 rfl dX1_arrange_12 ?_
      refine lv_iadd hx hb dX1_arrange_15 ?_
      refine lv_icmp_ge (tgt := 66) hx hb dX1_arrange_16 (by decide) (fun c_1 => ?_) (fun c_1 => ?_)
      · rw [if_pos c_1] at h
        exact hk_8 x1_8 u_8 _ _ _ h hP hD hS (lv_sub hl [0, 1] rfl)
      · rw [if_neg c_1] at h
        refine lv_iconst (v := (0 : Int32)) hx hb dX1_arrange_19 (by decide) ?_
        refine lv_istore_n (lv' := [(2, .int (0 : Int32)), (1, .int x1_8), (0, .ref (hs 0))]) hx hb dX1_arrange_20 rfl hl (by decide) rfl (fun ls hl => ?_)
        have lp_21 : ∀ K_21 : Int32 → MS → Option (MS), (∀ (x2_21 : Int32) (u_21 : MS) (H : Heap) (locs : List Loc) (ls : Array Slot), K_21 x2_21 u_21 = some u' → va_P (dC, dI) vwCl (cM hs ka u_21) H → va_D A (cM hs ka u_21) → va_S A s.heap H locs → lv_has ls 3 [(2, .int x2_21), (1, .int x1_8), (0, .ref (hs 0))] → W p l e (headSpec wzX1_arrange ({ frames := 1, cells := 0, slots := 0, locals := 23 })).room s m ([.ref (hs 0)] : List Value).toArray below meth c H locs 0 0 (MQ below (va_Qv (fun (u1 : MS) => u1 = u') (aM dC dI A hs ka) A) ([.ref (hs 0)] : List Value).toArray s 0 0 A) (F0 m 60 ls [])) → ∀ n_21 : Nat, ∀ (x2_21 : Int32) (u_21 : MS) (H : Heap) (locs : List Loc) (ls : Array Slot), pl_X1_arrange_21 fu x1_8 K_21 n_21 x2_21 u_21 = some u' → va_P (dC, dI) vwCl (cM hs ka u_21) H → va_D A (cM hs ka u_21) → va_S A s.heap H locs → lv_has ls 3 [(2, .int x2_21), (1, .int x1_8), (0, .ref (hs 0))] → W p l e (headSpec wzX1_arrange ({ frames := 1, cells := 0, slots := 0, locals := 23 })).room s m ([.ref (hs 0)] : List Value).toArray below meth c H locs 0 0 (MQ below (va_Qv (fun (u1 : MS) => u1 = u') (aM dC dI A hs ka) A) ([.ref (hs 0)] : List Value).toArray s 0 0 A) (F0 m 21 ls []) := by
          intro K_21 hk_21 n_21
          induction n_21 with
          | zero =>
            intro x2_21 u_21 H locs ls h
            exact absurd (show (none : Option (MS)) = some u' from h) (fun q => by cases q)
          | succ n_21 ih_21 =>
            intro x2_21 u_21 H locs ls h hP hD hS hl
            rw [pl_X1_arrange_21] at h
            refine lv_iload_n hx hb dX1_arrange_21 rfl (lv_at hl 0 rfl) ?_
            refine lv_aload_n hx hb dX1_arrange_22 rfl (lv_at hl 2 rfl) ?_
            refine gt_M_many hx hb hts hin0 hown hK hP hf_40 dX1_arrange_23 ?_
            refine lv_iload_n hx hb dX1_arrange_26 rfl (lv_at hl 1 rfl) ?_
            obtain ⟨g_2, h⟩ := og_some h
            refine ld_M_many (F := (m_many u_21)) hx hb hK hP rfl (inb_in g_2) dX1_arrange_27 ?_
            refine lv_icmp_ge (tgt := 60) hx hb dX1_arrange_28 (by decide) (fun c_3 => ?_) (fun c_3 => ?_)
            · rw [if_pos c_3] at h
              exact hk_21 x2_21 u_21 _ _ _ h hP hD hS (lv_sub hl [0, 1, 2] rfl)
            · rw [if_neg c_3] at h
              refine lv_aload_n hx hb dX1_arrange_31 rfl (lv_at hl 2 rfl) ?_
              refine gt_M_kind hx hb hts hin0 hown hK hP hf_37 dX1_arrange_32 ?_
              refine lv_iload_n hx hb dX1_arrange_35 rfl (lv_at hl 1 rfl) ?_
              obtain ⟨g_4, h⟩ := og_some h
              refine ld_M_kind (F := (m_kind u_21)) hx hb hK hP rfl (inb_in g_4) dX1_arrange_36 ?_
              refine lv_if_ne (tgt := 60) hx hb dX1_arrange_37 (by decide) (fun c_5 => ?_) (fun c_5 => ?_)
              · rw [if_neg c_5] at h
                exact hk_21 x2_21 u_21 _ _ _ h hP hD hS (lv_sub hl [0, 1, 2] rfl)
              · rw [if_pos c_5] at h
                refine lv_aload_n hx hb dX1_arrange_40 rfl (lv_at hl 2 rfl) ?_
                refine lv_aload_n hx hb dX1_arrange_41 rfl (lv_at hl 2 rfl) ?_
                refine gt_M_other hx hb hts hin0 hown hK hP hf_43 dX1_arrange_42 ?_
                refine lv_iconst (v := (3 : Int32)) hx hb dX1_arrange_45 (by decide) ?_
                refine lv_iload_n hx hb dX1_arrange_46 rfl (lv_at hl 1 rfl) ?_
                refine lv_imul hx hb dX1_arrange_47 ?_
                refine lv_iload_n hx hb dX1_arrange_48 rfl (lv_at hl 0 rfl) ?_
                refine lv_iadd hx hb dX1_arrange_49 ?_
                obtain ⟨g_6, h⟩ := og_some h
                refine ld_M_other (F := (m_other u_21)) hx hb hK hP rfl (inb_in g_6) dX1_arrange_50 ?_
                obtain ⟨q_7, hc_7, h⟩ := ob_some h
                have hPc := hP
                have hDc := hD
                have hKc := hK
                have hFc := fr_M hD hS hA
                refine va_callv (va_runV (As := [.int ((m_other u_21) (((3 : Int32) * x1_8) + x2_21).toNatClampNeg)]) (rest := []) ⟨hx, hb, hml, hown, hts⟩ (c_X1_place l dC dI hs ka H.size fu u_21 ((m_other u_21) (((3 : Int32) * x1_8) + x2_21).toNatClampNeg) q_7 hc_7) (cwV 1 hts gX1_arrange_X1_place rfl rfl rfl (by decide +kernel) ⟨Nat.le_of_ble_eq_true rfl, Nat.le_of_ble_eq_true rfl⟩) ⟨fun a U g mk q => by obtain ⟨q0, q1, qP, qK, qD⟩ := q; exact ⟨q0, q1, qP, va_K.moved (u := U) (U := U.calling g mk a) (Vm.Alike.refl U.vm) qK, qD⟩, rc_M hKc hPc, fun U hU hW => ⟨rfl, by rw [hU], by rw [hU]; exact hPc, va_K.moved hW.alike hKc, hDc.weaken (fun _ _ _ _ => trivial)⟩⟩ rfl rfl hl.1 rfl (lv_room (Nat.le_of_ble_eq_true rfl)) dX1_arrange_51 ⟨Nat.zero_le _, Nat.zero_le _⟩) hS (fun q _ h => hFc q h) hFc (fun u_c7 t H1 locs ht hvm hw hB hz1 hk1 hS => ?_)
                subst u_c7
                obtain ⟨hP1, hK1, hD1⟩ := hB
                rw [ht] at hP1
                obtain ⟨hP, hD⟩ := jw_M hP hD hk1 hFc hP1 hD1
                clear hPc hDc hKc hFc hz1 hk1 hP1 hK1 hD1
                generalize H1 = H at hP hS ⊢
                refine lv_iinc (v := (x2_21 + (1 : Int32))) (lv' := [(2, .int (x2_21 + (1 : Int32))), (1, .int x1_8), (0, .ref (hs 0))]) hx hb dX1_arrange_54 hl (k := 0) rfl (congrArg (fun z : Int32 => x2_21 + z) (by decide : Int32.ofInt (1) = (1 : Int32))) (by decide) rfl (fun ls hl => ?_)
                refine lv_goto (tgt := 21) hx hb dX1_arrange_57 (by decide) ?_
                exact ih_21 (x2_21 + (1 : Int32)) q_7 _ _ _ h hP hD hS (lv_sub hl [0, 1, 2] rfl)
        refine lp_21 _ (fun x2_21 u_21 H locs ls h hP hD hS hl => ?_) fu (0 : Int32) u_8 _ _ _ h hP hD hS hl
        refine lv_iinc (v := (x1_8 + (1 : Int32))) (lv' := [(1, .int (x1_8 + (1 : Int32))), (2, .int x2_21), (0, .ref (hs 0))]) hx hb dX1_arrange_60 hl (k := 1) rfl (congrArg (fun z : Int32 => x1_8 + z) (by decide : Int32.ofInt (1) = (1 : Int32))) (by decide) rfl (fun ls hl => ?_)
        refine lv_goto (tgt := 8) hx hb dX1_arrange_63 (by decide) ?_
        exact ih_8 (x1_8 + (1 : Int32)) u_21 _ _ _ h hP hD hS (lv_sub hl [0, 2] rfl)
  refine lp_8 _ (fun x1_8 u_8 H locs ls h hP hD hS hl => ?_) fu (120 : Int32) (ms_needed u (0 : Int32)) _ _ _ h hP hD hS hl
  refine lv_aload_n hx hb dX1_arrange_66 rfl (lv_at hl 1 rfl) ?_
  refine gt_M_needed (V := (m_needed u_8)) hx hb hts hin0 hown hK hP hf_94 rfl dX1_arrange_67 ?_
  refine lv_istore_n (lv' := [(1, .int (m_needed u_8)), (0, .ref (hs 0))]) hx hb dX1_arrange_70 rfl hl (by decide) rfl (fun ls hl => ?_)
  refine lv_iconst (v := (0 : Int32)) hx hb dX1_arrange_71 (by decide) ?_
  refine lv_istore_n (lv' := [(2, .int (0 : Int32)), (1, .int (m_needed u_8)), (0, .ref (hs 0))]) hx hb dX1_arrange_72 rfl hl (by decide) rfl (fun ls hl => ?_)
  have lp_73 : ∀ K_73 : Int32 → MS → Option (MS), (∀ (x2_73 : Int32) (u_73 : MS) (H : Heap) (locs : List Loc) (ls : Array Slot), K_73 x2_73 u_73 = some u' → va_P (dC, dI) vwCl (cM hs ka u_73) H → va_D A (cM hs ka u_73) → va_S A s.heap H locs → lv_has ls 3 [(2, .int x2_73), (1, .int (m_needed u_8)), (0, .ref (hs 0))] → W p l e (headSpec wzX1_arrange ({ frames := 1, cells := 0, slots := 0, locals := 23 })).room s m ([.ref (hs 0)] : List Value).toArray below meth c H locs 0 0 (MQ below (va_Qv (fun (u1 : MS) => u1 = u') (aM dC dI A hs ka) A) ([.ref (hs 0)] : List Value).toArray s 0 0 A) (F0 m 92 ls [])) → ∀ n_73 : Nat, ∀ (x2_73 : Int32) (u_73 : MS) (H : Heap) (locs : List Loc) (ls : Array Slot), pl_X1_arrange_73 fu K_73 n_73 x2_73 u_73 = some u' → va_P (dC, dI) vwCl (cM hs ka u_73) H → va_D A (cM hs ka u_73) → va_S A s.heap H locs → lv_has ls 3 [(2, .int x2_73), (1, .int (m_needed u_8)), (0, .ref (hs 0))] → W p l e (headSpec wzX1_arrange ({ frames := 1, cells := 0, slots := 0, locals := 23 })).room s m ([.ref (hs 0)] : List Value).toArray below meth c H locs 0 0 (MQ below (va_Qv (fun (u1 : MS) => u1 = u') (aM dC dI A hs ka) A) ([.ref (hs 0)] : List Value).toArray s 0 0 A) (F0 m 73 ls []) := by
    intro K_73 hk_73 n_73
    induction n_73 with
    | zero =>
      intro x2_73 u_73 H locs ls h
      exact absurd (show (none : Option (MS)) = some u' from h) (fun q => by cases q)
    | succ n_73 ih_73 =>
      intro x2_73 u_73 H locs ls h hP hD hS hl
      rw [pl_X1_arrange_73] at h
      refine lv_iload_n hx hb dX1_arrange_73 rfl (lv_at hl 0 rfl) ?_
      refine lv_aload_n hx hb dX1_arrange_74 rfl (lv_at hl 2 rfl) ?_
      refine gt_M_packages (V := (m_packages u_73)) hx hb hts hin0 hown hK hP hf_66 rfl dX1_arrange_75 ?_
      refine lv_icmp_ge (tgt := 92) hx hb dX1_arrange_78 (by decide) (fun c_8 => ?_) (fun c_8 => ?_)
      · rw [if_pos c_8] at h
        exact hk_73 x2_73 u_73 _ _ _ h hP hD hS (lv_sub hl [0, 1, 2] rfl)
      · rw [if_neg c_8] at h
        refine lv_aload_n hx hb dX1_arrange_81 rfl (lv_at hl 2 rfl) ?_
        refine lv_iload_n hx hb dX1_arrange_82 rfl (lv_at hl 0 rfl) ?_
        obtain ⟨q_9, hc_9, h⟩ := ob_some h
        have hPc := hP
        have hDc := hD
        have hKc := hK
        have hFc := fr_M hD hS hA
        refine va_callv (va_runV (As := [.int x2_73]) (rest := []) ⟨hx, hb, hml, hown, hts⟩ (c_X1_place l dC dI hs ka H.size fu u_73 x2_73 q_9 hc_9) (cwV 1 hts gX1_arrange_X1_place rfl rfl rfl (by decide +kernel) ⟨Nat.le_of_ble_eq_true rfl, Nat.le_of_ble_eq_true rfl⟩) ⟨fun a U g mk q => by obtain ⟨q0, q1, qP, qK, qD⟩ := q; exact ⟨q0, q1, qP, va_K.moved (u := U) (U := U.calling g mk a) (Vm.Alike.refl U.vm) qK, qD⟩, rc_M hKc hPc, fun U hU hW => ⟨rfl, by rw [hU], by rw [hU]; exact hPc, va_K.moved hW.alike hKc, hDc.weaken (fun _ _ _ _ => trivial)⟩⟩ rfl rfl hl.1 rfl (lv_room (Nat.le_of_ble_eq_true rfl)) dX1_arrange_83 ⟨Nat.zero_le _, Nat.zero_le _⟩) hS (fun q _ h => hFc q h) hFc (fun u_c9 t H1 locs ht hvm hw hB hz1 hk1 hS => ?_)
        subst u_c9
        obtain ⟨hP1, hK1, hD1⟩ := hB
        rw [ht] at hP1
        obtain ⟨hP, hD⟩ := jw_M hP hD hk1 hFc hP1 hD1
        clear hPc hDc hKc hFc hz1 hk1 hP1 hK1 hD1
        generalize H1 = H at hP hS ⊢
        refine lv_iinc (v := (x2_73 + (1 : Int32))) (lv' := [(2, .int (x2_73 + (1 : Int32))), (1, .int (m_needed u_8)), (0, .ref (hs 0))]) hx hb dX1_arrange_86 hl (k := 0) rfl (congrArg (fun z : Int32 => x2_73 + z) (by decide : Int32.ofInt (1) = (1 : Int32))) (by decide) rfl (fun ls hl => ?_)
        refine lv_goto (tgt := 73) hx hb dX1_arrange_89 (by decide) ?_
        exact ih_73 (x2_73 + (1 : Int32)) q_9 _ _ _ h hP hD hS (lv_sub hl [0, 1, 2] rfl)
  refine lp_73 _ (fun x2_73 u_73 H locs ls h hP hD hS hl => ?_) fu (0 : Int32) u_8 _ _ _ h hP hD hS hl
  refine lv_aload_n hx hb dX1_arrange_92 rfl (lv_at hl 2 rfl) ?_
  refine lv_iload_n hx hb dX1_arrange_93 rfl (lv_at hl 1 rfl) ?_
  refine pt_M_needed hx hb hts hin0 hown hK hP hD hS hf_94 dX1_arrange_94 (fun H locs hP hD hS => ?_)
  have e9 := Option.some.inj h
  exact W.vret hx hb hr (fun t ht hW => ⟨⟨(ms_needed u_73 (m_needed u_8)), rfl, e9, by rw [ht]; exact hP, va_K.moved hW.alike hK, hD⟩, hS.F ht⟩) hS.2.2 dX1_arrange_97
