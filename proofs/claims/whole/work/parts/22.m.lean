set_option maxHeartbeats 4000000 in
set_option maxRecDepth 100000 in
theorem c_X1_goes (l : Launch) (dC : Nat → ClassId) (dI : Nat → Nat → Nat) (hs : Nat → Nat) (ka : Nat → ClassId) (sz : Nat) (fu : Nat) (u : MS) (p0 : Int32) (p1 : Int32) (p2 : Int32) (r : Int32) (u' : MS) (h : pf_X1_goes fu p0 p1 p2 u = some (r, u')) : Met l yX1_goes wzX1_goes ({ frames := 2, cells := 0, slots := 0, locals := 48 }) (va_Pc [.ref (hs 0), .int p0, .int p1, .int p2] (fun U => U.heap.size = sz ∧ va_P (dC, dI) vwCl (cM hs ka u) U.heap ∧ va_K (dC, dI) vwCl (tM ka) U ∧ va_D (fun _ => True) (cM hs ka u))) (va_Qi (fun (r1 : Int32) (u1 : MS) => r1 = r ∧ u1 = u') (aM dC dI (va_A (cM hs ka u) sz) hs ka) (va_A (cM hs ka u) sz)) 0 0 (va_A (cM hs ka u) sz) := by
  refine Met.ofW (cc := cX1_goes) (maxL := 6) (ret := (some .boolean)) (by decide) rfl ?_
  intro p e s m args below meth c s₁ B hml hv
  obtain ⟨rfl, hsz, hP, hK, hD0⟩ := hv
  have hx := B.exec
  have hb := B.bytes
  have hr := B.returns
  have hts := atoms_spec (ws := wzX1_goes) B.pre
  have hown : s.vm.findClass RX1 = some m.cls := findClass_of_methodNamed B.named
  have hlocks := B.notSynchronized
  subst hsz
  have hD := hD0.self (sz := s.heap.size)
  generalize hAe : va_A (cM hs ka u) s.heap.size = A at hD ⊢
  have hA : ∀ q : Nat, s.heap.size ≤ q → A q := fun q h => by rw [← hAe]; exact Or.inr h
  have hS : va_S A s.heap s.heap [] := va_S.rf
  have hP : va_P (dC, dI) vwCl (cM hs ka u) s.heap := hP
  clear hD0 hAe
  have hin0 : ∀ w ∈ u_ws RX1 TX1 23, w ∈ wzX1_goes := fun w h => List.mem_cons_of_mem _ (inTX1 w h)
  have hf_19 := hts (.fieldLink RX1 19 "ConflictSolveModel" "value" "[I") (List.mem_cons_of_mem _ tz_242)
  have hf_22 := hts (.fieldLink RX1 22 "ConflictSolveModel" "order" "[I") (List.mem_cons_of_mem _ tz_243)
  have hf_25 := hts (.fieldLink RX1 25 "ConflictSolveModel" "option" "[I") (List.mem_cons_of_mem _ tz_244)
  have hf_28 := hts (.fieldLink RX1 28 "ConflictSolveModel" "blames0" "[I") (List.mem_cons_of_mem _ tz_245)
  have hf_7 := hts (.fieldLink RX1 7 "ConflictSolveModel" "versions" "[I") (List.mem_cons_of_mem _ tz_239)
  have hl := lv_entry ([.ref (hs 0), .int p0, .int p1, .int p2]) (n := 6) (Nat.le_of_ble_eq_true rfl)
  rw [lg_entry_eq]
  generalize (lg_sl ([.ref (hs 0), .int p0, .int p1, .int p2]) ++ List.replicate (6 - (lg_sl ([.ref (hs 0), .int p0, .int p1, .int p2])).length) Slot.unset).toArray = ls at hl ⊢
  have hl : lv_has ls 6 [(0, .ref (hs 0)), (1, .int p0), (2, .int p1), (3, .int p2)] := hl
  rw [pf_X1_goes] at h
  refine lv_aload_n hx hb dX1_goes_0 rfl (lv_at hl 0 rfl) ?_
  refine gt_M_order hx hb hts hin0 hown hK hP hf_22 dX1_goes_1 ?_
  refine lv_iload_n hx hb dX1_goes_4 rfl (lv_at hl 1 rfl) ?_
  obtain ⟨g_1, h⟩ := og_some h
  refine ld_M_order (F := (m_order u)) hx hb hK hP rfl (inb_in g_1) dX1_goes_5 ?_
  refine lv_istore (lv' := [(4, .int ((m_order u) p0.toNatClampNeg)), (0, .ref (hs 0)), (1, .int p0), (2, .int p1), (3, .int p2)]) hx hb dX1_goes_6 hl (by decide) rfl (fun ls hl => ?_)
  refine lv_aload_n hx hb dX1_goes_8 rfl (lv_at hl 1 rfl) ?_
  refine gt_M_value hx hb hts hin0 hown hK hP hf_19 dX1_goes_9 ?_
  refine lv_iload hx hb dX1_goes_12 (lv_at hl 0 rfl) ?_
  refine lv_bipush (v := (-2 : Int32)) hx hb dX1_goes_14 (by decide) ?_
  obtain ⟨g_2, h⟩ := og_some h
  refine sr_M_value (F := (m_value u)) hx hb hK hP hD hS rfl (inb_in g_2) dX1_goes_16 (fun H locs hP hD hS => ?_)
  have lp_17 : ∀ K_17 : MS → Option (Int32 × MS), (∀ (u_17 : MS) (H : Heap) (locs : List Loc) (ls : Array Slot), K_17 u_17 = some (r, u') → va_P (dC, dI) vwCl (cM hs ka u_17) H → va_D A (cM hs ka u_17) → va_S A s.heap H locs → lv_has ls 6 [(4, .int ((m_order u) p0.toNatClampNeg)), (0, .ref (hs 0)), (1, .int p0), (2, .int p1), (3, .int p2)] → W p l e (headSpec wzX1_goes ({ frames := 2, cells := 0, slots := 0, locals := 48 })).room s m ([.ref (hs 0), .int p0, .int p1, .int p2] : List Value).toArray below meth c H locs 0 0 (MQ below (va_Qi (fun (r1 : Int32) (u1 : MS) => r1 = r ∧ u1 = u') (aM dC dI A hs ka) A) ([.ref (hs 0), .int p0, .int p1, .int p2] : List Value).toArray s 0 0 A) (F0 m 108 ls [])) → ∀ n_17 : Nat, ∀ (u_17 : MS) (H : Heap) (locs : List Loc) (ls : Array Slot), pl_X1_goes_17 fu p0 p1 p2 u K_17 n_17 u_17 = some (r, u') → va_P (dC, dI) vwCl (cM hs ka u_17) H → va_D A (cM hs ka u_17) → va_S A s.heap H locs → lv_has ls 6 [(4, .int ((m_order u) p0.toNatClampNeg)), (0, .ref (hs 0)), (1, .int p0), (2, .int p1), (3, .int p2)] → W p l e (headSpec wzX1_goes ({ frames := 2, cells := 0, slots := 0, locals := 48 })).room s m ([.ref (hs 0), .int p0, .int p1, .int p2] : List Value).toArray below meth c H locs 0 0 (MQ below (va_Qi (fun (r1 : Int32) (u1 : MS) => r1 = r ∧ u1 = u') (aM dC dI A hs ka) A) ([.ref (hs 0), .int p0, .int p1, .int p2] : List Value).toArray s 0 0 A) (F0 m 17 ls []) := by
    intro K_17 hk_17 n_17
    induction n_17 with
    | zero =>
      intro u_17 H locs ls h
      exact absurd (show (none : Option (Int32 × MS)) = some (r, u') from h) (fun q => by cases q)
    | succ n_17 ih_17 =>
      intro u_17 H locs ls h hP hD hS hl
      rw [pl_X1_goes_17] at h
      refine lv_aload_n hx hb dX1_goes_17 rfl (lv_at hl 1 rfl) ?_
      refine gt_M_option hx hb hts hin0 hown hK hP hf_25 dX1_goes_18 ?_
      refine lv_iload_n hx hb dX1_goes_21 rfl (lv_at hl 2 rfl) ?_
      obtain ⟨g_3, h⟩ := og_some h
      refine ld_M_option (F := (m_option u_17)) hx hb hK hP rfl (inb_in g_3) dX1_goes_22 ?_
      refine lv_aload_n hx hb dX1_goes_23 rfl (lv_at hl 1 rfl) ?_
      refine gt_M_versions hx hb hts hin0 hown hK hP hf_7 dX1_goes_24 ?_
      refine lv_iload hx hb dX1_goes_27 (lv_at hl 0 rfl) ?_
      obtain ⟨g_4, h⟩ := og_some h
      refine ld_M_versions (F := (m_versions u_17)) hx hb hK hP rfl (inb_in g_4) dX1_goes_29 ?_
      refine lv_icmp_gt (tgt := 108) hx hb dX1_goes_30 (by decide) (fun c_5 => ?_) (fun c_5 => ?_)
      · rw [if_pos c_5] at h
        exact hk_17 u_17 _ _ _ h hP hD hS (lv_sub hl [0, 1, 2, 3, 4] rfl)
      · rw [if_neg c_5] at h
        refine lv_aload_n hx hb dX1_goes_33 rfl (lv_at hl 1 rfl) ?_
        refine gt_M_value hx hb hts hin0 hown hK hP hf_19 dX1_goes_34 ?_
        refine lv_iload hx hb dX1_goes_37 (lv_at hl 0 rfl) ?_
        refine lv_aload_n hx hb dX1_goes_39 rfl (lv_at hl 1 rfl) ?_
        refine lv_iload_n hx hb dX1_goes_40 rfl (lv_at hl 2 rfl) ?_
        refine lv_aload_n hx hb dX1_goes_41 rfl (lv_at hl 1 rfl) ?_
        refine gt_M_option hx hb hts hin0 hown hK hP hf_25 dX1_goes_42 ?_
        refine lv_iload_n hx hb dX1_goes_45 rfl (lv_at hl 2 rfl) ?_
        obtain ⟨g_6, h⟩ := og_some h
        refine ld_M_option (F := (m_option u_17)) hx hb hK hP rfl (inb_in g_6) dX1_goes_46 ?_
        obtain ⟨q_7, hc_7, h⟩ := ob_some h
        have hPc := hP
        have hDc := hD
        have hKc := hK
        have hFc := fr_M hD hS hA
        refine va_calli (va_runV (As := [.int p0, .int ((m_option u_17) p0.toNatClampNeg)]) (rest := [.int ((m_order u) p0.toNatClampNeg), .ref (hs 4)]) ⟨hx, hb, hml, hown, hts⟩ (c_X1_ranked l dC dI hs ka H.size fu u_17 p0 ((m_option u_17) p0.toNatClampNeg) q_7 hc_7) (cwV 2 hts gX1_goes_X1_ranked rfl rfl rfl (by decide +kernel) ⟨Nat.le_of_ble_eq_true rfl, Nat.le_of_ble_eq_true rfl⟩) ⟨fun a U g mk q => by obtain ⟨q0, q1, qP, qK, qD⟩ := q; exact ⟨q0, q1, qP, va_K.moved (u := U) (U := U.calling g mk a) (Vm.Alike.refl U.vm) qK, qD⟩, rc_M hKc hPc, fun U hU hW => ⟨rfl, by rw [hU], by rw [hU]; exact hPc, va_K.moved hW.alike hKc, hDc.weaken (fun _ _ _ _ => trivial)⟩⟩ rfl rfl hl.1 rfl (lv_room (Nat.le_of_ble_eq_true rfl)) dX1_goes_47 ⟨Nat.zero_le _, Nat.zero_le _⟩) hS (fun q _ h => hFc q h) hFc (fun r_7 u_c7 t H1 locs ht hvm hw hB hz1 hk1 hS => ?_)
        obtain ⟨hw1, hw2⟩ := hw
        subst r_7
        subst u_c7
        obtain ⟨hP1, hK1, hD1⟩ := hB
        rw [ht] at hP1
        obtain ⟨hP, hD⟩ := jw_M hP hD hk1 hFc hP1 hD1
        clear hPc hDc hKc hFc hz1 hk1 hP1 hK1 hD1
        generalize H1 = H at hP hS ⊢
        obtain ⟨g_8, h⟩ := og_some h
        refine sr_M_value (F := (m_value u_17)) hx hb hK hP hD hS rfl (inb_in g_8) dX1_goes_50 (fun H locs hP hD hS => ?_)
        refine lv_aload_n hx hb dX1_goes_51 rfl (lv_at hl 1 rfl) ?_
        refine gt_M_option hx hb hts hin0 hown hK hP hf_25 dX1_goes_52 ?_
        refine lv_iload_n hx hb dX1_goes_55 rfl (lv_at hl 2 rfl) ?_
        refine lv_dup2_11 hx hb dX1_goes_56 rfl rfl ?_
        obtain ⟨g_9, h⟩ := og_some h
        refine ld_M_option (F := (m_option u_17)) hx hb hK hP (rq_m_option_value u_17 (upd (m_value u_17) ((m_order u) p0.toNatClampNeg).toNatClampNeg q_7)) (inb_in g_9) dX1_goes_57 ?_
        refine lv_iconst (v := (1 : Int32)) hx hb dX1_goes_58 (by decide) ?_
        refine lv_iadd hx hb dX1_goes_59 ?_
        obtain ⟨g_10, h⟩ := og_some h
        refine sr_M_option (F := (m_option u_17)) hx hb hK hP hD hS (rq_m_option_value u_17 (upd (m_value u_17) ((m_order u) p0.toNatClampNeg).toNatClampNeg q_7)) (inb_in g_10) dX1_goes_60 (fun H locs hP hD hS => ?_)
        refine lv_iload hx hb dX1_goes_61 (lv_at hl 0 rfl) ?_
        refine lv_iload_n hx hb dX1_goes_63 rfl (lv_at hl 3 rfl) ?_
        refine lv_icmp_ne (tgt := 81) hx hb dX1_goes_64 (by decide) (fun c_11 => ?_) (fun c_11 => ?_)
        · rw [if_neg c_11] at h
          refine lv_aload_n hx hb dX1_goes_81 rfl (lv_at hl 1 rfl) ?_
          obtain ⟨q_12, hc_12, h⟩ := ob_some h
          have hPc := hP
          have hDc := hD
          have hKc := hK
          have hFc := fr_M hD hS hA
          refine va_calli (va_runV (As := []) (rest := []) ⟨hx, hb, hml, hown, hts⟩ (c_X1_broken l dC dI hs ka H.size fu (ms_option (ms_value u_17 (upd (m_value u_17) ((m_order u) p0.toNatClampNeg).toNatClampNeg q_7)) (upd (m_option u_17) p0.toNatClampNeg (((m_option u_17) p0.toNatClampNeg) + (1 : Int32)))) q_12 hc_12) (cwV 0 hts gX1_goes_X1_broken rfl rfl rfl (by decide +kernel) ⟨Nat.le_of_ble_eq_true rfl, Nat.le_of_ble_eq_true rfl⟩) ⟨fun a U g mk q => by obtain ⟨q0, q1, qP, qK, qD⟩ := q; exact ⟨q0, q1, qP, va_K.moved (u := U) (U := U.calling g mk a) (Vm.Alike.refl U.vm) qK, qD⟩, rc_M hKc hPc, fun U hU hW => ⟨rfl, by rw [hU], by rw [hU]; exact hPc, va_K.moved hW.alike hKc, hDc.weaken (fun _ _ _ _ => trivial)⟩⟩ rfl rfl hl.1 rfl (lv_room (Nat.le_of_ble_eq_true rfl)) dX1_goes_82 ⟨Nat.zero_le _, Nat.zero_le _⟩) hS (fun q _ h => hFc q h) hFc (fun r_12 u_c12 t H1 locs ht hvm hw hB hz1 hk1 hS => ?_)
          obtain ⟨hw1, hw2⟩ := hw
          subst r_12
          subst u_c12
          obtain ⟨hP1, hK1, hD1⟩ := hB
          rw [ht] at hP1
          obtain ⟨hP, hD⟩ := jw_M hP hD hk1 hFc hP1 hD1
          clear hPc hDc hKc hFc hz1 hk1 hP1 hK1 hD1
          generalize H1 = H at hP hS ⊢
          refine lv_istore (lv' := [(5, .int q_12), (4, .int ((m_order u) p0.toNatClampNeg)), (0, .ref (hs 0)), (1, .int p0), (2, .int p1), (3, .int p2)]) hx hb dX1_goes_85 hl (by decide) rfl (fun ls hl => ?_)
          refine lv_iload hx hb dX1_goes_87 (lv_at hl 0 rfl) ?_
          refine lv_if_ne (tgt := 94) hx hb dX1_goes_89 (by decide) (fun c_13 => ?_) (fun c_13 => ?_)
          · rw [if_neg c_13] at h
            refine lv_aload_n hx hb dX1_goes_94 rfl (lv_at hl 2 rfl) ?_
            refine gt_M_blames0 hx hb hts hin0 hown hK hP hf_28 dX1_goes_95 ?_
            refine lv_iload_n hx hb dX1_goes_98 rfl (lv_at hl 3 rfl) ?_
            refine lv_dup2_11 hx hb dX1_goes_99 rfl rfl ?_
            obtain ⟨g_14, h⟩ := og_some h
            refine ld_M_blames0 (F := (m_blames0 u_17)) hx hb hK hP ((rq_m_blames0_option (ms_value u_17 (upd (m_value u_17) ((m_order u) p0.toNatClampNeg).toNatClampNeg q_7)) (upd (m_option u_17) p0.toNatClampNeg (((m_option u_17) p0.toNatClampNeg) + (1 : Int32)))).trans (rq_m_blames0_value u_17 (upd (m_value u_17) ((m_order u) p0.toNatClampNeg).toNatClampNeg q_7))) (inb_in g_14) dX1_goes_100 ?_
            refine lv_iload hx hb dX1_goes_101 (lv_at hl 0 rfl) ?_
            refine lv_ior hx hb dX1_goes_103 ?_
            obtain ⟨g_15, h⟩ := og_some h
            refine sr_M_blames0 (F := (m_blames0 u_17)) hx hb hK hP hD hS ((rq_m_blames0_option (ms_value u_17 (upd (m_value u_17) ((m_order u) p0.toNatClampNeg).toNatClampNeg q_7)) (upd (m_option u_17) p0.toNatClampNeg (((m_option u_17) p0.toNatClampNeg) + (1 : Int32)))).trans (rq_m_blames0_value u_17 (upd (m_value u_17) ((m_order u) p0.toNatClampNeg).toNatClampNeg q_7))) (inb_in g_15) dX1_goes_104 (fun H locs hP hD hS => ?_)
            refine lv_goto (tgt := 17) hx hb dX1_goes_105 (by decide) ?_
            exact ih_17 (ms_blames0 (ms_option (ms_value u_17 (upd (m_value u_17) ((m_order u) p0.toNatClampNeg).toNatClampNeg q_7)) (upd (m_option u_17) p0.toNatClampNeg (((m_option u_17) p0.toNatClampNeg) + (1 : Int32)))) (upd (m_blames0 u_17) p0.toNatClampNeg (((m_blames0 u_17) p0.toNatClampNeg) ||| q_12))) _ _ _ h hP hD hS (lv_sub hl [1, 2, 3, 4, 5] rfl)
          · rw [if_pos c_13] at h
            refine lv_iconst (v := (1 : Int32)) hx hb dX1_goes_92 (by decide) ?_
            have e9 := Option.some.inj h
            exact W.zret (v := (1 : Int32)) hx hb hr rfl (fun t ht hW => ⟨⟨(1 : Int32), (ms_option (ms_value u_17 (upd (m_value u_17) ((m_order u) p0.toNatClampNeg).toNatClampNeg q_7)) (upd (m_option u_17) p0.toNatClampNeg (((m_option u_17) p0.toNatClampNeg) + (1 : Int32)))), rfl, ⟨congrArg Prod.fst e9, congrArg Prod.snd e9⟩, by rw [ht]; exact hP, va_K.moved hW.alike hK, hD⟩, hS.F ht⟩) hS.2.2 dX1_goes_93
        · rw [if_pos c_11] at h
          refine lv_aload_n hx hb dX1_goes_67 rfl (lv_at hl 1 rfl) ?_
          refine gt_M_value hx hb hts hin0 hown hK hP hf_19 dX1_goes_68 ?_
          refine lv_iload hx hb dX1_goes_71 (lv_at hl 0 rfl) ?_
          obtain ⟨g_16, h⟩ := og_some h
          refine ld_M_value (F := (upd (m_value u_17) ((m_order u) p0.toNatClampNeg).toNatClampNeg q_7)) hx hb hK hP ((rq_m_value_option (ms_value u_17 (upd (m_value u_17) ((m_order u) p0.toNatClampNeg).toNatClampNeg q_7)) (upd (m_option u_17) p0.toNatClampNeg (((m_option u_17) p0.toNatClampNeg) + (1 : Int32)))).trans (rq_m_value_value u_17 (upd (m_value u_17) ((m_order u) p0.toNatClampNeg).toNatClampNeg q_7))) (inb_in g_16) dX1_goes_73 ?_
          refine lv_iload_n hx hb dX1_goes_74 rfl (lv_at hl 4 rfl) ?_
          refine lv_icmp_eq (tgt := 81) hx hb dX1_goes_75 (by decide) (fun c_17 => ?_) (fun c_17 => ?_)
          · rw [if_pos c_17] at h
            refine lv_aload_n hx hb dX1_goes_81 rfl (lv_at hl 1 rfl) ?_
            obtain ⟨q_18, hc_18, h⟩ := ob_some h
            have hPc := hP
            have hDc := hD
            have hKc := hK
            have hFc := fr_M hD hS hA
            refine va_calli (va_runV (As := []) (rest := []) ⟨hx, hb, hml, hown, hts⟩ (c_X1_broken l dC dI hs ka H.size fu (ms_option (ms_value u_17 (upd (m_value u_17) ((m_order u) p0.toNatClampNeg).toNatClampNeg q_7)) (upd (m_option u_17) p0.toNatClampNeg (((m_option u_17) p0.toNatClampNeg) + (1 : Int32)))) q_18 hc_18) (cwV 0 hts gX1_goes_X1_broken rfl rfl rfl (by decide +kernel) ⟨Nat.le_of_ble_eq_true rfl, Nat.le_of_ble_eq_true rfl⟩) ⟨fun a U g mk q => by obtain ⟨q0, q1, qP, qK, qD⟩ := q; exact ⟨q0, q1, qP, va_K.moved (u := U) (U := U.calling g mk a) (Vm.Alike.refl U.vm) qK, qD⟩, rc_M hKc hPc, fun U hU hW => ⟨rfl, by rw [hU], by rw [hU]; exact hPc, va_K.moved hW.alike hKc, hDc.weaken (fun _ _ _ _ => trivial)⟩⟩ rfl rfl hl.1 rfl (lv_room (Nat.le_of_ble_eq_true rfl)) dX1_goes_82 ⟨Nat.zero_le _, Nat.zero_le _⟩) hS (fun q _ h => hFc q h) hFc (fun r_18 u_c18 t H1 locs ht hvm hw hB hz1 hk1 hS => ?_)
            obtain ⟨hw1, hw2⟩ := hw
            subst r_18
            subst u_c18
            obtain ⟨hP1, hK1, hD1⟩ := hB
            rw [ht] at hP1
            obtain ⟨hP, hD⟩ := jw_M hP hD hk1 hFc hP1 hD1
            clear hPc hDc hKc hFc hz1 hk1 hP1 hK1 hD1
            generalize H1 = H at hP hS ⊢
            refine lv_istore (lv' := [(5, .int q_18), (4, .int ((m_order u) p0.toNatClampNeg)), (0, .ref (hs 0)), (1, .int p0), (2, .int p1), (3, .int p2)]) hx hb dX1_goes_85 hl (by decide) rfl (fun ls hl => ?_)
            refine lv_iload hx hb dX1_goes_87 (lv_at hl 0 rfl) ?_
            refine lv_if_ne (tgt := 94) hx hb dX1_goes_89 (by decide) (fun c_19 => ?_) (fun c_19 => ?_)
            · rw [if_neg c_19] at h
              refine lv_aload_n hx hb dX1_goes_94 rfl (lv_at hl 2 rfl) ?_
              refine gt_M_blames0 hx hb hts hin0 hown hK hP hf_28 dX1_goes_95 ?_
              refine lv_iload_n hx hb dX1_goes_98 rfl (lv_at hl 3 rfl) ?_
              refine lv_dup2_11 hx hb dX1_goes_99 rfl rfl ?_
              obtain ⟨g_20, h⟩ := og_some h
              refine ld_M_blames0 (F := (m_blames0 u_17)) hx hb hK hP ((rq_m_blames0_option (ms_value u_17 (upd (m_value u_17) ((m_order u) p0.toNatClampNeg).toNatClampNeg q_7)) (upd (m_option u_17) p0.toNatClampNeg (((m_option u_17) p0.toNatClampNeg) + (1 : Int32)))).trans (rq_m_blames0_value u_17 (upd (m_value u_17) ((m_order u) p0.toNatClampNeg).toNatClampNeg q_7))) (inb_in g_20) dX1_goes_100 ?_
              refine lv_iload hx hb dX1_goes_101 (lv_at hl 0 rfl) ?_
              refine lv_ior hx hb dX1_goes_103 ?_
              obtain ⟨g_21, h⟩ := og_some h
              refine sr_M_blames0 (F := (m_blames0 u_17)) hx hb hK hP hD hS ((rq_m_blames0_option (ms_value u_17 (upd (m_value u_17) ((m_order u) p0.toNatClampNeg).toNatClampNeg q_7)) (upd (m_option u_17) p0.toNatClampNeg (((m_option u_17) p0.toNatClampNeg) + (1 : Int32)))).trans (rq_m_blames0_value u_17 (upd (m_value u_17) ((m_order u) p0.toNatClampNeg).toNatClampNeg q_7))) (inb_in g_21) dX1_goes_104 (fun H locs hP hD hS => ?_)
              refine lv_goto (tgt := 17) hx hb dX1_goes_105 (by decide) ?_
              exact ih_17 (ms_blames0 (ms_option (ms_value u_17 (upd (m_value u_17) ((m_order u) p0.toNatClampNeg).toNatClampNeg q_7)) (upd (m_option u_17) p0.toNatClampNeg (((m_option u_17) p0.toNatClampNeg) + (1 : Int32)))) (upd (m_blames0 u_17) p0.toNatClampNeg (((m_blames0 u_17) p0.toNatClampNeg) ||| q_18))) _ _ _ h hP hD hS (lv_sub hl [1, 2, 3, 4, 5] rfl)
            · rw [if_pos c_19] at h
              refine lv_iconst (v := (1 : Int32)) hx hb dX1_goes_92 (by decide) ?_
              have e9 := Option.some.inj h
              exact W.zret (v := (1 : Int32)) hx hb hr rfl (fun t ht hW => ⟨⟨(1 : Int32), (ms_option (ms_value u_17 (upd (m_value u_17) ((m_order u) p0.toNatClampNeg).toNatClampNeg q_7)) (upd (m_option u_17) p0.toNatClampNeg (((m_option u_17) p0.toNatClampNeg) + (1 : Int32)))), rfl, ⟨congrArg Prod.fst e9, congrArg Prod.snd e9⟩, by rw [ht]; exact hP, va_K.moved hW.alike hK, hD⟩, hS.F ht⟩) hS.2.2 dX1_goes_93
          · rw [if_neg c_17] at h
            refine lv_goto (tgt := 17) hx hb dX1_goes_78 (by decide) ?_
            exact ih_17 (ms_option (ms_value u_17 (upd (m_value u_17) ((m_order u) p0.toNatClampNeg).toNatClampNeg q_7)) (upd (m_option u_17) p0.toNatClampNeg (((m_option u_17) p0.toNatClampNeg) + (1 : Int32)))) _ _ _ h hP hD hS (lv_sub hl [0, 1, 2, 3, 4] rfl)
  refine lp_17 _ (fun u_17 H locs ls h hP hD hS hl => ?_) fu (ms_value u (upd (m_value u) ((m_order u) p0.toNatClampNeg).toNatClampNeg (-2 : Int32))) _ _ _ h hP hD hS hl
  refine lv_iconst (v := (0 : Int32)) hx hb dX1_goes_108 (by decide) ?_
  have e9 := Option.some.inj h
  exact W.zret (v := (0 : Int32)) hx hb hr rfl (fun t ht hW => ⟨⟨(0 : Int32), u_17, rfl, ⟨congrArg Prod.fst e9, congrArg Prod.snd e9⟩, by rw [ht]; exact hP, va_K.moved hW.alike hK, hD⟩, hS.F ht⟩) hS.2.2 dX1_goes_109
set_option maxHeartbeats 4000000 in
set_option maxRecDepth 100000 in
theorem c_X1_search (l : Launch) (dC : Nat → ClassId) (dI : Nat → Nat → Nat) (hs : Nat → Nat) (ka : Nat → ClassId) (sz : Nat) (fu : Nat) (u : MS) (p0 : Int32) (p1 : Int32) (r : Int32) (u' : MS) (h : pf_X1_search fu p0 p1 u = some (r, u')) : Met l yX1_search wzX1_search ({ frames := 3, cells := 0, slots := 0, locals := 73 }) (va_Pc [.ref (hs 0), .int p0, .int p1] (fun U => U.heap.size = sz ∧ va_P (dC, dI) vwCl (cM hs ka u) U.heap ∧ va_K (dC, dI) vwCl (tM ka) U ∧ va_D (fun _ => True) (cM hs ka u))) (va_Qi (fun (r1 : Int32) (u1 : MS) => r1 = r ∧ u1 = u') (aM dC dI (va_A (cM hs ka u) sz) hs ka) (va_A (cM hs ka u) sz)) 0 0 (va_A (cM hs ka u) sz) := by
  refine Met.ofW (cc := cX1_search) (maxL := 5) (ret := (some .boolean)) (by decide) rfl ?_
  intro p e s m args below meth c s₁ B hml hv
  obtain ⟨rfl, hsz, hP, hK, hD0⟩ := hv
  have hx := B.exec
  have hb := B.bytes
  have hr := B.returns
  have hts := atoms_spec (ws := wzX1_search) B.pre
  have hown : s.vm.findClass RX1 = some m.cls := findClass_of_methodNamed B.named
  have hlocks := B.notSynchronized
  subst hsz
  have hD := hD0.self (sz := s.heap.size)
  generalize hAe : va_A (cM hs ka u) s.heap.size = A at hD ⊢
  have hA : ∀ q : Nat, s.heap.size ≤ q → A q := fun q h => by rw [← hAe]; exact Or.inr h
  have hS : va_S A s.heap s.heap [] := va_S.rf
  have hP : va_P (dC, dI) vwCl (cM hs ka u) s.heap := hP
  clear hD0 hAe
  have hin0 : ∀ w ∈ u_ws RX1 TX1 23, w ∈ wzX1_search := fun w h => List.mem_cons_of_mem _ (inTX1 w h)
  have hf_19 := hts (.fieldLink RX1 19 "ConflictSolveModel" "value" "[I") (List.mem_cons_of_mem _ tz_242)
  have hf_22 := hts (.fieldLink RX1 22 "ConflictSolveModel" "order" "[I") (List.mem_cons_of_mem _ tz_243)
  have hf_25 := hts (.fieldLink RX1 25 "ConflictSolveModel" "option" "[I") (List.mem_cons_of_mem _ tz_244)
  have hf_28 := hts (.fieldLink RX1 28 "ConflictSolveModel" "blames0" "[I") (List.mem_cons_of_mem _ tz_245)
  have hf_66 := hts (.fieldLink RX1 66 "ConflictSolveModel" "packages" "I") (List.mem_cons_of_mem _ tz_246)
  have hl := lv_entry ([.ref (hs 0), .int p0, .int p1]) (n := 5) (Nat.le_of_ble_eq_true rfl)
  rw [lg_entry_eq]
  generalize (lg_sl ([.ref (hs 0), .int p0, .int p1]) ++ List.replicate (5 - (lg_sl ([.ref (hs 0), .int p0, .int p1])).length) Slot.unset).toArray = ls at hl ⊢
  have hl : lv_has ls 5 [(0, .ref (hs 0)), (1, .int p0), (2, .int p1)] := hl
  rw [pf_X1_search] at h
  refine lv_aload_n hx hb dX1_search_0 rfl (lv_at hl 0 rfl) ?_
  obtain ⟨q_1, hc_1, h⟩ := ob_some h
  have hPc := hP
  have hDc := hD
  have hKc := hK
  have hFc := fr_M hD hS hA
  refine va_callv (va_runV (As := []) (rest := []) ⟨hx, hb, hml, hown, hts⟩ (c_X1_arrange l dC dI hs ka s.heap.size fu u q_1 hc_1) (cwV 0 hts gX1_search_X1_arrange rfl rfl rfl (by decide +kernel) ⟨Nat.le_of_ble_eq_true rfl, Nat.le_of_ble_eq_true rfl⟩) ⟨fun a U g mk q => by obtain ⟨q0, q1, qP, qK, qD⟩ := q; exact ⟨q0, q1, qP, va_K.moved (u := U) (U := U.calling g mk a) (Vm.Alike.refl U.vm) qK, qD⟩, rc_M hKc hPc, fun U hU hW => ⟨rfl, by rw [hU], by rw [hU]; exact hPc, va_K.moved hW.alike hKc, hDc.weaken (fun _ _ _ _ => trivial)⟩⟩ rfl rfl hl.1 rfl (lv_room (Nat.le_of_ble_eq_true rfl)) dX1_search_1 ⟨Nat.zero_le _, Nat.zero_le _⟩) hS (fun q _ h => hFc q h) hFc (fun u_c1 t H1 locs ht hvm hw hB hz1 hk1 hS => ?_)
  subst u_c1
  obtain ⟨hP1, hK1, hD1⟩ := hB
  rw [ht] at hP1
  obtain ⟨hP, hD⟩ := jw_M hP hD hk1 hFc hP1 hD1
  clear hPc hDc hKc hFc hz1 hk1 hP1 hK1 hD1
  generalize H1 = H at hP hS ⊢
  refine lv_iconst (v := (0 : Int32)) hx hb dX1_search_4 (by decide) ?_
  refine lv_istore_n (lv' := [(3, .int (0 : Int32)), (0, .ref (hs 0)), (1, .int p0), (2, .int p1)]) hx hb dX1_search_5 rfl hl (by decide) rfl (fun ls hl => ?_)
  have lp_6 : ∀ K_6 : Int32 → MS → Option (Int32 × MS), (∀ (x3_6 : Int32) (u_6 : MS) (H : Heap) (locs : List Loc) (ls : Array Slot), K_6 x3_6 u_6 = some (r, u') → va_P (dC, dI) vwCl (cM hs ka u_6) H → va_D A (cM hs ka u_6) → va_S A s.heap H locs → lv_has ls 5 [(3, .int x3_6), (0, .ref (hs 0)), (1, .int p0), (2, .int p1)] → W p l e (headSpec wzX1_search ({ frames := 3, cells := 0, slots := 0, locals := 73 })).room s m ([.ref (hs 0), .int p0, .int p1] : List Value).toArray below meth c H locs 0 0 (MQ below (va_Qi (fun (r1 : Int32) (u1 : MS) => r1 = r ∧ u1 = u') (aM dC dI A hs ka) A) ([.ref (hs 0), .int p0, .int p1] : List Value).toArray s 0 0 A) (F0 m 26 ls [])) → ∀ n_6 : Nat, ∀ (x3_6 : Int32) (u_6 : MS) (H : Heap) (locs : List Loc) (ls : Array Slot), pl_X1_search_6 fu K_6 n_6 x3_6 u_6 = some (r, u') → va_P (dC, dI) vwCl (cM hs ka u_6) H → va_D A (cM hs ka u_6) → va_S A s.heap H locs → lv_has ls 5 [(3, .int x3_6), (0, .ref (hs 0)), (1, .int p0), (2, .int p1)] → W p l e (headSpec wzX1_search ({ frames := 3, cells := 0, slots := 0, locals := 73 })).room s m ([.ref (hs 0), .int p0, .int p1] : List Value).toArray below meth c H locs 0 0 (MQ below (va_Qi (fun (r1 : Int32) (u1 : MS) => r1 = r ∧ u1 = u') (aM dC dI A hs ka) A) ([.ref (hs 0), .int p0, .int p1] : List Value).toArray s 0 0 A) (F0 m 6 ls []) := by
    intro K_6 hk_6 n_6
    induction n_6 with
    | zero =>
      intro x3_6 u_6 H locs ls h
      exact absurd (show (none : Option (Int32 × MS)) = some (r, u') from h) (fun q => by cases q)
    | succ n_6 ih_6 =>
      intro x3_6 u_6 H locs ls h hP hD hS hl
      rw [pl_X1_search_6] at h
      refine lv_iload_n hx hb dX1_search_6 rfl (lv_at hl 0 rfl) ?_
      refine lv_bipush (v := (8 : Int32)) hx hb dX1_search_7 (by decide) ?_
      refine lv_icmp_ge (tgt := 26) hx hb dX1_search_9 (by decide) (fun c_2 => ?_) (fun c_2 => ?_)
      · rw [if_pos c_2] at h
        exact hk_6 x3_6 u_6 _ _ _ h hP hD hS (lv_sub hl [0, 1, 2, 3] rfl)
      · rw [if_neg c_2] at h
        refine lv_aload_n hx hb dX1_search_12 rfl (lv_at hl 1 rfl) ?_
        refine gt_M_value hx hb hts hin0 hown hK hP hf_19 dX1_search_13 ?_
        refine lv_iload_n hx hb dX1_search_16 rfl (lv_at hl 0 rfl) ?_
        refine lv_bipush (v := (-2 : Int32)) hx hb dX1_search_17 (by decide) ?_
        obtain ⟨g_3, h⟩ := og_some h
        refine sr_M_value (F := (m_value u_6)) hx hb hK hP hD hS rfl (inb_in g_3) dX1_search_19 (fun H locs hP hD hS => ?_)
        refine lv_iinc (v := (x3_6 + (1 : Int32))) (lv' := [(3, .int (x3_6 + (1 : Int32))), (0, .ref (hs 0)), (1, .int p0), (2, .int p1)]) hx hb dX1_search_20 hl (k := 0) rfl (congrArg (fun z : Int32 => x3_6 + z) (by decide : Int32.ofInt (1) = (1 : Int32))) (by decide) rfl (fun ls hl => ?_)
        refine lv_goto (tgt := 6) hx hb dX1_search_23 (by decide) ?_
        exact ih_6 (x3_6 + (1 : Int32)) (ms_value u_6 (upd (m_value u_6) x3_6.toNatClampNeg (-2 : Int32))) _ _ _ h hP hD hS (lv_sub hl [0, 1, 2, 3] rfl)
  refine lp_6 _ (fun x3_6 u_6 H locs ls h hP hD hS hl => ?_) fu (0 : Int32) q_1 _ _ _ h hP hD hS hl
  refine lv_iconst (v := (0 : Int32)) hx hb dX1_search_26 (by decide) ?_
  refine lv_istore_n (lv' := [(3, .int (0 : Int32)), (0, .ref (hs 0)), (1, .int p0), (2, .int p1)]) hx hb dX1_search_27 rfl hl (by decide) rfl (fun ls hl => ?_)
  refine lv_aload_n hx hb dX1_search_28 rfl (lv_at hl 1 rfl) ?_
  refine gt_M_option hx hb hts hin0 hown hK hP hf_25 dX1_search_29 ?_
  refine lv_iconst (v := (0 : Int32)) hx hb dX1_search_32 (by decide) ?_
  refine lv_iconst (v := (0 : Int32)) hx hb dX1_search_33 (by decide) ?_
  obtain ⟨g_4, h⟩ := og_some h
  refine sr_M_option (F := (m_option u_6)) hx hb hK hP hD hS rfl (inb_in g_4) dX1_search_34 (fun H locs hP hD hS => ?_)
  refine lv_aload_n hx hb dX1_search_35 rfl (lv_at hl 1 rfl) ?_
  refine gt_M_blames0 hx hb hts hin0 hown hK hP hf_28 dX1_search_36 ?_
  refine lv_iconst (v := (0 : Int32)) hx hb dX1_search_39 (by decide) ?_
  refine lv_iconst (v := (0 : Int32)) hx hb dX1_search_40 (by decide) ?_
  obtain ⟨g_5, h⟩ := og_some h
  refine sr_M_blames0 (F := (m_blames0 u_6)) hx hb hK hP hD hS (rq_m_blames0_option u_6 (upd (m_option u_6) (0 : Int32).toNatClampNeg (0 : Int32))) (inb_in g_5) dX1_search_41 (fun H locs hP hD hS => ?_)
  have lp_42 : ∀ K_42 : Int32 → MS → Option (Int32 × MS), (∀ (x3_42 : Int32) (u_42 : MS) (H : Heap) (locs : List Loc) (ls : Array Slot), K_42 x3_42 u_42 = some (r, u') → va_P (dC, dI) vwCl (cM hs ka u_42) H → va_D A (cM hs ka u_42) → va_S A s.heap H locs → lv_has ls 5 [(3, .int x3_42), (0, .ref (hs 0)), (1, .int p0), (2, .int p1)] → W p l e (headSpec wzX1_search ({ frames := 3, cells := 0, slots := 0, locals := 73 })).room s m ([.ref (hs 0), .int p0, .int p1] : List Value).toArray below meth c H locs 0 0 (MQ below (va_Qi (fun (r1 : Int32) (u1 : MS) => r1 = r ∧ u1 = u') (aM dC dI A hs ka) A) ([.ref (hs 0), .int p0, .int p1] : List Value).toArray s 0 0 A) (F0 m 182 ls [])) → ∀ n_42 : Nat, ∀ (x3_42 : Int32) (u_42 : MS) (H : Heap) (locs : List Loc) (ls : Array Slot), pl_X1_search_42 fu p0 p1 K_42 n_42 x3_42 u_42 = some (r, u') → va_P (dC, dI) vwCl (cM hs ka u_42) H → va_D A (cM hs ka u_42) → va_S A s.heap H locs → lv_has ls 5 [(3, .int x3_42), (0, .ref (hs 0)), (1, .int p0), (2, .int p1)] → W p l e (headSpec wzX1_search ({ frames := 3, cells := 0, slots := 0, locals := 73 })).room s m ([.ref (hs 0), .int p0, .int p1] : List Value).toArray below meth c H locs 0 0 (MQ below (va_Qi (fun (r1 : Int32) (u1 : MS) => r1 = r ∧ u1 = u') (aM dC dI A hs ka) A) ([.ref (hs 0), .int p0, .int p1] : List Value).toArray s 0 0 A) (F0 m 42 ls []) := by
    intro K_42 hk_42 n_42
    induction n_42 with
    | zero =>
      intro x3_42 u_42 H locs ls h
      exact absurd (show (none : Option (Int32 × MS)) = some (r, u') from h) (fun q => by cases q)
    | succ n_42 ih_42 =>
      intro x3_42 u_42 H locs ls h hP hD hS hl
      rw [pl_X1_search_42] at h
      refine lv_iload_n hx hb dX1_search_42 rfl (lv_at hl 0 rfl) ?_
      refine lv_if_lt (tgt := 182) hx hb dX1_search_43 (by decide) (fun c_6 => ?_) (fun c_6 => ?_)
      · rw [if_pos c_6] at h
        exact hk_42 x3_42 u_42 _ _ _ h hP hD hS (lv_sub hl [0, 1, 2, 3] rfl)
      · rw [if_neg c_6] at h
        refine lv_iload_n hx hb dX1_search_46 rfl (lv_at hl 0 rfl) ?_
        refine lv_aload_n hx hb dX1_search_47 rfl (lv_at hl 1 rfl) ?_
        refine gt_M_packages (V := (m_packages u_42)) hx hb hts hin0 hown hK hP hf_66 rfl dX1_search_48 ?_
        refine lv_icmp_ge (tgt := 182) hx hb dX1_search_51 (by decide) (fun c_7 => ?_) (fun c_7 => ?_)
        · rw [if_pos c_7] at h
          exact hk_42 x3_42 u_42 _ _ _ h hP hD hS (lv_sub hl [0, 1, 2, 3] rfl)
        · rw [if_neg c_7] at h
          refine lv_aload_n hx hb dX1_search_54 rfl (lv_at hl 1 rfl) ?_
          refine lv_iload_n hx hb dX1_search_55 rfl (lv_at hl 0 rfl) ?_
          refine lv_iload_n hx hb dX1_search_56 rfl (lv_at hl 2 rfl) ?_
          refine lv_iload_n hx hb dX1_search_57 rfl (lv_at hl 3 rfl) ?_
          obtain ⟨q_8, hc_8, h⟩ := ob_some h
          have hPc := hP
          have hDc := hD
          have hKc := hK
          have hFc := fr_M hD hS hA
          refine va_calli (va_runV (As := [.int x3_42, .int p0, .int p1]) (rest := []) ⟨hx, hb, hml, hown, hts⟩ (c_X1_goes l dC dI hs ka H.size fu u_42 x3_42 p0 p1 q_8.1 q_8.2 hc_8) (cwV 3 hts gX1_search_X1_goes rfl rfl rfl (by decide +kernel) ⟨Nat.le_of_ble_eq_true rfl, Nat.le_of_ble_eq_true rfl⟩) ⟨fun a U g mk q => by obtain ⟨q0, q1, qP, qK, qD⟩ := q; exact ⟨q0, q1, qP, va_K.moved (u := U) (U := U.calling g mk a) (Vm.Alike.refl U.vm) qK, qD⟩, rc_M hKc hPc, fun U hU hW => ⟨rfl, by rw [hU], by rw [hU]; exact hPc, va_K.moved hW.alike hKc, hDc.weaken (fun _ _ _ _ => trivial)⟩⟩ rfl rfl hl.1 rfl (lv_room (Nat.le_of_ble_eq_true rfl)) dX1_search_58 ⟨Nat.zero_le _, Nat.zero_le _⟩) hS (fun q _ h => hFc q h) hFc (fun r_8 u_c8 t H1 locs ht hvm hw hB hz1 hk1 hS => ?_)
          obtain ⟨hw1, hw2⟩ := hw
          subst r_8
          subst u_c8
          obtain ⟨hP1, hK1, hD1⟩ := hB
          rw [ht] at hP1
          obtain ⟨hP, hD⟩ := jw_M hP hD hk1 hFc hP1 hD1
          clear hPc hDc hKc hFc hz1 hk1 hP1 hK1 hD1
          generalize H1 = H at hP hS ⊢
          refine lv_if_eq (tgt := 92) hx hb dX1_search_61 (by decide) (fun c_9 => ?_) (fun c_9 => ?_)
          · rw [if_pos c_9] at h
            refine lv_aload_n hx hb dX1_search_92 rfl (lv_at hl 1 rfl) ?_
            refine gt_M_blames0 hx hb hts hin0 hown hK hP hf_28 dX1_search_93 ?_
            refine lv_iload_n hx hb dX1_search_96 rfl (lv_at hl 0 rfl) ?_
            obtain ⟨g_10, h⟩ := og_some h
            refine ld_M_blames0 (F := (m_blames0 q_8.2)) hx hb hK hP rfl (inb_in g_10) dX1_search_97 ?_
            refine lv_iconst (v := (1 : Int32)) hx hb dX1_search_98 (by decide) ?_
            refine lv_aload_n hx hb dX1_search_99 rfl (lv_at hl 1 rfl) ?_
            refine gt_M_order hx hb hts hin0 hown hK hP hf_22 dX1_search_100 ?_
            refine lv_iload_n hx hb dX1_search_103 rfl (lv_at hl 0 rfl) ?_
            obtain ⟨g_11, h⟩ := og_some h
            refine ld_M_order (F := (m_order q_8.2)) hx hb hK hP rfl (inb_in g_11) dX1_search_104 ?_
            refine lv_ishl hx hb dX1_search_105 ?_
            refine lv_iconst (v := (-1 : Int32)) hx hb dX1_search_106 (by decide) ?_
            refine lv_ixor hx hb dX1_search_107 ?_
            refine lv_iand hx hb dX1_search_108 ?_
            refine lv_istore (lv' := [(4, .int (((m_blames0 q_8.2) x3_42.toNatClampNeg) &&& (((1 : Int32) <<< (((m_order q_8.2) x3_42.toNatClampNeg) &&& 31)) ^^^ (-1 : Int32)))), (3, .int x3_42), (0, .ref (hs 0)), (1, .int p0), (2, .int p1)]) hx hb dX1_search_109 hl (by decide) rfl (fun ls hl => ?_)
            refine lv_aload_n hx hb dX1_search_111 rfl (lv_at hl 2 rfl) ?_
            refine gt_M_value hx hb hts hin0 hown hK hP hf_19 dX1_search_112 ?_
            refine lv_aload_n hx hb dX1_search_115 rfl (lv_at hl 2 rfl) ?_
            refine gt_M_order hx hb hts hin0 hown hK hP hf_22 dX1_search_116 ?_
            refine lv_iload_n hx hb dX1_search_119 rfl (lv_at hl 1 rfl) ?_
            obtain ⟨g_12, h⟩ := og_some h
            refine ld_M_order (F := (m_order q_8.2)) hx hb hK hP rfl (inb_in g_12) dX1_search_120 ?_
            refine lv_bipush (v := (-2 : Int32)) hx hb dX1_search_121 (by decide) ?_
            obtain ⟨g_13, h⟩ := og_some h
            refine sr_M_value (F := (m_value q_8.2)) hx hb hK hP hD hS rfl (inb_in g_13) dX1_search_123 (fun H locs hP hD hS => ?_)
            refine lv_iinc (v := (x3_42 + (-1 : Int32))) (lv' := [(3, .int (x3_42 + (-1 : Int32))), (4, .int (((m_blames0 q_8.2) x3_42.toNatClampNeg) &&& (((1 : Int32) <<< (((m_order q_8.2) x3_42.toNatClampNeg) &&& 31)) ^^^ (-1 : Int32)))), (0, .ref (hs 0)), (1, .int p0), (2, .int p1)]) hx hb dX1_search_124 hl (k := 1) rfl (congrArg (fun z : Int32 => x3_42 + z) (by decide : Int32.ofInt (-1) = (-1 : Int32))) (by decide) rfl (fun ls hl => ?_)
            have lp_127 : ∀ K_127 : Int32 → MS → Option (Int32 × MS), (∀ (x3_127 : Int32) (u_127 : MS) (H : Heap) (locs : List Loc) (ls : Array Slot), K_127 x3_127 u_127 = some (r, u') → va_P (dC, dI) vwCl (cM hs ka u_127) H → va_D A (cM hs ka u_127) → va_S A s.heap H locs → lv_has ls 5 [(3, .int x3_127), (4, .int (((m_blames0 q_8.2) x3_42.toNatClampNeg) &&& (((1 : Int32) <<< (((m_order q_8.2) x3_42.toNatClampNeg) &&& 31)) ^^^ (-1 : Int32)))), (0, .ref (hs 0)), (1, .int p0), (2, .int p1)] → W p l e (headSpec wzX1_search ({ frames := 3, cells := 0, slots := 0, locals := 73 })).room s m ([.ref (hs 0), .int p0, .int p1] : List Value).toArray below meth c H locs 0 0 (MQ below (va_Qi (fun (r1 : Int32) (u1 : MS) => r1 = r ∧ u1 = u') (aM dC dI A hs ka) A) ([.ref (hs 0), .int p0, .int p1] : List Value).toArray s 0 0 A) (F0 m 164 ls [])) → ∀ n_127 : Nat, ∀ (x3_127 : Int32) (u_127 : MS) (H : Heap) (locs : List Loc) (ls : Array Slot), pl_X1_search_127 fu x3_42 q_8 K_127 n_127 x3_127 u_127 = some (r, u') → va_P (dC, dI) vwCl (cM hs ka u_127) H → va_D A (cM hs ka u_127) → va_S A s.heap H locs → lv_has ls 5 [(3, .int x3_127), (4, .int (((m_blames0 q_8.2) x3_42.toNatClampNeg) &&& (((1 : Int32) <<< (((m_order q_8.2) x3_42.toNatClampNeg) &&& 31)) ^^^ (-1 : Int32)))), (0, .ref (hs 0)), (1, .int p0), (2, .int p1)] → W p l e (headSpec wzX1_search ({ frames := 3, cells := 0, slots := 0, locals := 73 })).room s m ([.ref (hs 0), .int p0, .int p1] : List Value).toArray below meth c H locs 0 0 (MQ below (va_Qi (fun (r1 : Int32) (u1 : MS) => r1 = r ∧ u1 = u') (aM dC dI A hs ka) A) ([.ref (hs 0), .int p0, .int p1] : List Value).toArray s 0 0 A) (F0 m 127 ls []) := by
              intro K_127 hk_127 n_127
              induction n_127 with
              | zero =>
                intro x3_127 u_127 H locs ls h
                exact absurd (show (none : Option (Int32 × MS)) = some (r, u') from h) (fun q => by cases q)
              | succ n_127 ih_127 =>
                intro x3_127 u_127 H locs ls h hP hD hS hl
                rw [pl_X1_search_127] at h
                refine lv_iload_n hx hb dX1_search_127 rfl (lv_at hl 0 rfl) ?_
                refine lv_if_lt (tgt := 164) hx hb dX1_search_128 (by decide) (fun c_14 => ?_) (fun c_14 => ?_)
                · rw [if_pos c_14] at h
                  exact hk_127 x3_127 u_127 _ _ _ h hP hD hS (lv_sub hl [0, 1, 2, 3, 4] rfl)
                · rw [if_neg c_14] at h
                  refine lv_iload hx hb dX1_search_131 (lv_at hl 1 rfl) ?_
                  refine lv_aload_n hx hb dX1_search_133 rfl (lv_at hl 2 rfl) ?_
                  refine gt_M_order hx hb hts hin0 hown hK hP hf_22 dX1_search_134 ?_
                  refine lv_iload_n hx hb dX1_search_137 rfl (lv_at hl 0 rfl) ?_
                  obtain ⟨g_15, h⟩ := og_some h
                  refine ld_M_order (F := (m_order u_127)) hx hb hK hP rfl (inb_in g_15) dX1_search_138 ?_
                  refine lv_ishr hx hb dX1_search_139 ?_
                  refine lv_iconst (v := (1 : Int32)) hx hb dX1_search_140 (by decide) ?_
                  refine lv_iand hx hb dX1_search_141 ?_
                  refine lv_if_ne (tgt := 164) hx hb dX1_search_142 (by decide) (fun c_16 => ?_) (fun c_16 => ?_)
                  · rw [if_neg c_16] at h
                    exact hk_127 x3_127 u_127 _ _ _ h hP hD hS (lv_sub hl [0, 1, 2, 3, 4] rfl)
                  · rw [if_pos c_16] at h
                    refine lv_aload_n hx hb dX1_search_145 rfl (lv_at hl 2 rfl) ?_
                    refine gt_M_value hx hb hts hin0 hown hK hP hf_19 dX1_search_146 ?_
                    refine lv_aload_n hx hb dX1_search_149 rfl (lv_at hl 2 rfl) ?_
                    refine gt_M_order hx hb hts hin0 hown hK hP hf_22 dX1_search_150 ?_
                    refine lv_iload_n hx hb dX1_search_153 rfl (lv_at hl 0 rfl) ?_
                    obtain ⟨g_17, h⟩ := og_some h
                    refine ld_M_order (F := (m_order u_127)) hx hb hK hP rfl (inb_in g_17) dX1_search_154 ?_
                    refine lv_bipush (v := (-2 : Int32)) hx hb dX1_search_155 (by decide) ?_
                    obtain ⟨g_18, h⟩ := og_some h
                    refine sr_M_value (F := (m_value u_127)) hx hb hK hP hD hS rfl (inb_in g_18) dX1_search_157 (fun H locs hP hD hS => ?_)
                    refine lv_iinc (v := (x3_127 + (-1 : Int32))) (lv' := [(3, .int (x3_127 + (-1 : Int32))), (4, .int (((m_blames0 q_8.2) x3_42.toNatClampNeg) &&& (((1 : Int32) <<< (((m_order q_8.2) x3_42.toNatClampNeg) &&& 31)) ^^^ (-1 : Int32)))), (0, .ref (hs 0)), (1, .int p0), (2, .int p1)]) hx hb dX1_search_158 hl (k := 0) rfl (congrArg (fun z : Int32 => x3_127 + z) (by decide : Int32.ofInt (-1) = (-1 : Int32))) (by decide) rfl (fun ls hl => ?_)
                    refine lv_goto (tgt := 127) hx hb dX1_search_161 (by decide) ?_
                    exact ih_127 (x3_127 + (-1 : Int32)) (ms_value u_127 (upd (m_value u_127) ((m_order u_127) x3_127.toNatClampNeg).toNatClampNeg (-2 : Int32))) _ _ _ h hP hD hS (lv_sub hl [0, 1, 2, 3, 4] rfl)
            refine lp_127 _ (fun x3_127 u_127 H locs ls h hP hD hS hl => ?_) fu (x3_42 + (-1 : Int32)) (ms_value q_8.2 (upd (m_value q_8.2) ((m_order q_8.2) x3_42.toNatClampNeg).toNatClampNeg (-2 : Int32))) _ _ _ h hP hD hS hl
            refine lv_iload_n hx hb dX1_search_164 rfl (lv_at hl 0 rfl) ?_
            refine lv_if_lt (tgt := 179) hx hb dX1_search_165 (by decide) (fun c_19 => ?_) (fun c_19 => ?_)
            · rw [if_pos c_19] at h
              refine lv_goto (tgt := 42) hx hb dX1_search_179 (by decide) ?_
              exact ih_42 x3_127 u_127 _ _ _ h hP hD hS (lv_sub hl [0, 2, 3, 4] rfl)
            · rw [if_neg c_19] at h
              refine lv_aload_n hx hb dX1_search_168 rfl (lv_at hl 2 rfl) ?_
              refine gt_M_blames0 hx hb hts hin0 hown hK hP hf_28 dX1_search_169 ?_
              refine lv_iload_n hx hb dX1_search_172 rfl (lv_at hl 0 rfl) ?_
              refine lv_dup2_11 hx hb dX1_search_173 rfl rfl ?_
              obtain ⟨g_20, h⟩ := og_some h
              refine ld_M_blames0 (F := (m_blames0 u_127)) hx hb hK hP rfl (inb_in g_20) dX1_search_174 ?_
              refine lv_iload hx hb dX1_search_175 (lv_at hl 1 rfl) ?_
              refine lv_ior hx hb dX1_search_177 ?_
              obtain ⟨g_21, h⟩ := og_some h
              refine sr_M_blames0 (F := (m_blames0 u_127)) hx hb hK hP hD hS rfl (inb_in g_21) dX1_search_178 (fun H locs hP hD hS => ?_)
              refine lv_goto (tgt := 42) hx hb dX1_search_179 (by decide) ?_
              exact ih_42 x3_127 (ms_blames0 u_127 (upd (m_blames0 u_127) x3_127.toNatClampNeg (((m_blames0 u_127) x3_127.toNatClampNeg) ||| (((m_blames0 q_8.2) x3_42.toNatClampNeg) &&& (((1 : Int32) <<< (((m_order q_8.2) x3_42.toNatClampNeg) &&& 31)) ^^^ (-1 : Int32)))))) _ _ _ h hP hD hS (lv_sub hl [0, 2, 3, 4] rfl)
          · rw [if_neg c_9] at h
            refine lv_iinc (v := (x3_42 + (1 : Int32))) (lv' := [(3, .int (x3_42 + (1 : Int32))), (0, .ref (hs 0)), (1, .int p0), (2, .int p1)]) hx hb dX1_search_64 hl (k := 0) rfl (congrArg (fun z : Int32 => x3_42 + z) (by decide : Int32.ofInt (1) = (1 : Int32))) (by decide) rfl (fun ls hl => ?_)
            refine lv_iload_n hx hb dX1_search_67 rfl (lv_at hl 0 rfl) ?_
            refine lv_aload_n hx hb dX1_search_68 rfl (lv_at hl 1 rfl) ?_
            refine gt_M_packages (V := (m_packages q_8.2)) hx hb hts hin0 hown hK hP hf_66 rfl dX1_search_69 ?_
            refine lv_icmp_ge (tgt := 42) hx hb dX1_search_72 (by decide) (fun c_22 => ?_) (fun c_22 => ?_)
            · rw [if_pos c_22] at h
              exact ih_42 (x3_42 + (1 : Int32)) q_8.2 _ _ _ h hP hD hS (lv_sub hl [0, 1, 2, 3] rfl)
            · rw [if_neg c_22] at h
              refine lv_aload_n hx hb dX1_search_75 rfl (lv_at hl 1 rfl) ?_
              refine gt_M_option hx hb hts hin0 hown hK hP hf_25 dX1_search_76 ?_
              refine lv_iload_n hx hb dX1_search_79 rfl (lv_at hl 0 rfl) ?_
              refine lv_iconst (v := (0 : Int32)) hx hb dX1_search_80 (by decide) ?_
              obtain ⟨g_23, h⟩ := og_some h
              refine sr_M_option (F := (m_option q_8.2)) hx hb hK hP hD hS rfl (inb_in g_23) dX1_search_81 (fun H locs hP hD hS => ?_)
              refine lv_aload_n hx hb dX1_search_82 rfl (lv_at hl 1 rfl) ?_
              refine gt_M_blames0 hx hb hts hin0 hown hK hP hf_28 dX1_search_83 ?_
              refine lv_iload_n hx hb dX1_search_86 rfl (lv_at hl 0 rfl) ?_
              refine lv_iconst (v := (0 : Int32)) hx hb dX1_search_87 (by decide) ?_
              obtain ⟨g_24, h⟩ := og_some h
              refine sr_M_blames0 (F := (m_blames0 q_8.2)) hx hb hK hP hD hS (rq_m_blames0_option q_8.2 (upd (m_option q_8.2) (x3_42 + (1 : Int32)).toNatClampNeg (0 : Int32))) (inb_in g_24) dX1_search_88 (fun H locs hP hD hS => ?_)
              refine lv_goto (tgt := 42) hx hb dX1_search_89 (by decide) ?_
              exact ih_42 (x3_42 + (1 : Int32)) (ms_blames0 (ms_option q_8.2 (upd (m_option q_8.2) (x3_42 + (1 : Int32)).toNatClampNeg (0 : Int32))) (upd (m_blames0 q_8.2) (x3_42 + (1 : Int32)).toNatClampNeg (0 : Int32))) _ _ _ h hP hD hS (lv_sub hl [0, 1, 2, 3] rfl)
  refine lp_42 _ (fun x3_42 u_42 H locs ls h hP hD hS hl => ?_) fu (0 : Int32) (ms_blames0 (ms_option u_6 (upd (m_option u_6) (0 : Int32).toNatClampNeg (0 : Int32))) (upd (m_blames0 u_6) (0 : Int32).toNatClampNeg (0 : Int32))) _ _ _ h hP hD hS hl
  refine lv_iload_n hx hb dX1_search_182 rfl (lv_at hl 0 rfl) ?_
  refine lv_if_lt (tgt := 204) hx hb dX1_search_183 (by decide) (fun c_25 => ?_) (fun c_25 => ?_)
  · rw [if_pos c_25] at h
    refine lv_iconst (v := (0 : Int32)) hx hb dX1_search_204 (by decide) ?_
    have e9 := Option.some.inj h
    exact W.zret (v := (0 : Int32)) hx hb hr rfl (fun t ht hW => ⟨⟨(0 : Int32), u_42, rfl, ⟨congrArg Prod.fst e9, congrArg Prod.snd e9⟩, by rw [ht]; exact hP, va_K.moved hW.alike hK, hD⟩, hS.F ht⟩) hS.2.2 dX1_search_205
  · rw [if_neg c_25] at h
    refine lv_aload_n hx hb dX1_search_186 rfl (lv_at hl 1 rfl) ?_
    refine gt_M_packages (V := (m_packages u_42)) hx hb hts hin0 hown hK hP hf_66 rfl dX1_search_187 ?_
    refine lv_if_gt (tgt := 200) hx hb dX1_search_190 (by decide) (fun c_26 => ?_) (fun c_26 => ?_)
    · rw [if_pos c_26] at h
      refine lv_iconst (v := (1 : Int32)) hx hb dX1_search_200 (by decide) ?_
      refine lv_goto (tgt := 205) hx hb dX1_search_201 (by decide) ?_
      have e9 := Option.some.inj h
      exact W.zret (v := (1 : Int32)) hx hb hr rfl (fun t ht hW => ⟨⟨(1 : Int32), u_42, rfl, ⟨congrArg Prod.fst e9, congrArg Prod.snd e9⟩, by rw [ht]; exact hP, va_K.moved hW.alike hK, hD⟩, hS.F ht⟩) hS.2.2 dX1_search_205
    · rw [if_neg c_26] at h
      refine lv_aload_n hx hb dX1_search_193 rfl (lv_at hl 1 rfl) ?_
      obtain ⟨q_27, hc_27, h⟩ := ob_some h
      have hPc := hP
      have hDc := hD
      have hKc := hK
      have hFc := fr_M hD hS hA
      refine va_calli (va_runV (As := []) (rest := []) ⟨hx, hb, hml, hown, hts⟩ (c_X1_broken l dC dI hs ka H.size fu u_42 q_27 hc_27) (cwV 0 hts gX1_search_X1_broken rfl rfl rfl (by decide +kernel) ⟨Nat.le_of_ble_eq_true rfl, Nat.le_of_ble_eq_true rfl⟩) ⟨fun a U g mk q => by obtain ⟨q0, q1, qP, qK, qD⟩ := q; exact ⟨q0, q1, qP, va_K.moved (u := U) (U := U.calling g mk a) (Vm.Alike.refl U.vm) qK, qD⟩, rc_M hKc hPc, fun U hU hW => ⟨rfl, by rw [hU], by rw [hU]; exact hPc, va_K.moved hW.alike hKc, hDc.weaken (fun _ _ _ _ => trivial)⟩⟩ rfl rfl hl.1 rfl (lv_room (Nat.le_of_ble_eq_true rfl)) dX1_search_194 ⟨Nat.zero_le _, Nat.zero_le _⟩) hS (fun q _ h => hFc q h) hFc (fun r_27 u_c27 t H1 locs ht hvm hw hB hz1 hk1 hS => ?_)
      obtain ⟨hw1, hw2⟩ := hw
      subst r_27
      subst u_c27
      obtain ⟨hP1, hK1, hD1⟩ := hB
      rw [ht] at hP1
      obtain ⟨hP, hD⟩ := jw_M hP hD hk1 hFc hP1 hD1
      clear hPc hDc hKc hFc hz1 hk1 hP1 hK1 hD1
      generalize H1 = H at hP hS ⊢
      refine lv_if_ne (tgt := 204) hx hb dX1_search_197 (by decide) (fun c_28 => ?_) (fun c_28 => ?_)
      · rw [if_neg c_28] at h
        refine lv_iconst (v := (0 : Int32)) hx hb dX1_search_204 (by decide) ?_
        have e9 := Option.some.inj h
        exact W.zret (v := (0 : Int32)) hx hb hr rfl (fun t ht hW => ⟨⟨(0 : Int32), u_42, rfl, ⟨congrArg Prod.fst e9, congrArg Prod.snd e9⟩, by rw [ht]; exact hP, va_K.moved hW.alike hK, hD⟩, hS.F ht⟩) hS.2.2 dX1_search_205
      · rw [if_pos c_28] at h
        refine lv_iconst (v := (1 : Int32)) hx hb dX1_search_200 (by decide) ?_
        refine lv_goto (tgt := 205) hx hb dX1_search_201 (by decide) ?_
        have e9 := Option.some.inj h
        exact W.zret (v := (1 : Int32)) hx hb hr rfl (fun t ht hW => ⟨⟨(1 : Int32), u_42, rfl, ⟨congrArg Prod.fst e9, congrArg Prod.snd e9⟩, by rw [ht]; exact hP, va_K.moved hW.alike hK, hD⟩, hS.F ht⟩) hS.2.2 dX1_search_205
set_option maxHeartbeats 4000000 in
set_option maxRecDepth 100000 in
theorem c_X1_none (l : Launch) (dC : Nat → ClassId) (dI : Nat → Nat → Nat) (hs : Nat → Nat) (ka : Nat → ClassId) (sz : Nat) (fu : Nat) (u : MS) (u' : MS) (h : pf_X1_none fu u = some u') : Met l yX1_none wzX1_none ({ frames := 0, cells := 0, slots := 0, locals := 0 }) (va_Pc [.ref (hs 0)] (fun U => U.heap.size = sz ∧ va_P (dC, dI) vwCl (cM hs ka u) U.heap ∧ va_K (dC, dI) vwCl (tM ka) U ∧ va_D (fun _ => True) (cM hs ka u))) (va_Qv (fun (u1 : MS) => u1 = u') (aM dC dI (va_A (cM hs ka u) sz) hs ka) (va_A (cM hs ka u) sz)) 0 0 (va_A (cM hs ka u) sz) := by
  refine Met.ofW (cc := cX1_none) (maxL := 2) (ret := none) (by decide) rfl ?_
  intro p e s m args below meth c s₁ B hml hv
  obtain ⟨rfl, hsz, hP, hK, hD0⟩ := hv
  have hx := B.exec
  have hb := B.bytes
  have hr := B.returns
  have hts := atoms_spec (ws := wzX1_none) B.pre
  have hown : s.vm.findClass RX1 = some m.cls := findClass_of_methodNamed B.named
  have hlocks := B.notSynchronized
  subst hsz
  have hD := hD0.self (sz := s.heap.size)
  generalize hAe : va_A (cM hs ka u) s.heap.size = A at hD ⊢
  have hA : ∀ q : Nat, s.heap.size ≤ q → A q := fun q h => by rw [← hAe]; exact Or.inr h
  have hS : va_S A s.heap s.heap [] := va_S.rf
  have hP : va_P (dC, dI) vwCl (cM hs ka u) s.heap := hP
  clear hD0 hAe
  have hin0 : ∀ w ∈ u_ws RX1 TX1 23, w ∈ wzX1_none := fun w h => List.mem_cons_of_mem _ (inTX1 w h)
  have hf_53 := hts (.fieldLink RX1 53 "ConflictSolveModel" "away" "[Z") (List.mem_cons_of_mem _ tz_257)
  have hl := lv_entry ([.ref (hs 0)]) (n := 2) (Nat.le_of_ble_eq_true rfl)
  rw [lg_entry_eq]
  generalize (lg_sl ([.ref (hs 0)]) ++ List.replicate (2 - (lg_sl ([.ref (hs 0)])).length) Slot.unset).toArray = ls at hl ⊢
  have hl : lv_has ls 2 [(0, .ref (hs 0))] := hl
  rw [pf_X1_none] at h
  refine lv_iconst (v := (0 : Int32)) hx hb dX1_none_0 (by decide) ?_
  refine lv_istore_n (lv' := [(1, .int (0 : Int32)), (0, .ref (hs 0))]) hx hb dX1_none_1 rfl hl (by decide) rfl (fun ls hl => ?_)
  have lp_2 : ∀ K_2 : Int32 → MS → Option (MS), (∀ (x1_2 : Int32) (u_2 : MS) (H : Heap) (locs : List Loc) (ls : Array Slot), K_2 x1_2 u_2 = some u' → va_P (dC, dI) vwCl (cM hs ka u_2) H → va_D A (cM hs ka u_2) → va_S A s.heap H locs → lv_has ls 2 [(1, .int x1_2), (0, .ref (hs 0))] → W p l e (headSpec wzX1_none ({ frames := 0, cells := 0, slots := 0, locals := 0 })).room s m ([.ref (hs 0)] : List Value).toArray below meth c H locs 0 0 (MQ below (va_Qv (fun (u1 : MS) => u1 = u') (aM dC dI A hs ka) A) ([.ref (hs 0)] : List Value).toArray s 0 0 A) (F0 m 21 ls [])) → ∀ n_2 : Nat, ∀ (x1_2 : Int32) (u_2 : MS) (H : Heap) (locs : List Loc) (ls : Array Slot), pl_X1_none_2 fu K_2 n_2 x1_2 u_2 = some u' → va_P (dC, dI) vwCl (cM hs ka u_2) H → va_D A (cM hs ka u_2) → va_S A s.heap H locs → lv_has ls 2 [(1, .int x1_2), (0, .ref (hs 0))] → W p l e (headSpec wzX1_none ({ frames := 0, cells := 0, slots := 0, locals := 0 })).room s m ([.ref (hs 0)] : List Value).toArray below meth c H locs 0 0 (MQ below (va_Qv (fun (u1 : MS) => u1 = u') (aM dC dI A hs ka) A) ([.ref (hs 0)] : List Value).toArray s 0 0 A) (F0 m 2 ls []) := by
    intro K_2 hk_2 n_2
    induction n_2 with
    | zero =>
      intro x1_2 u_2 H locs ls h
      exact absurd (show (none : Option (MS)) = some u' from h) (fun q => by cases q)
    | succ n_2 ih_2 =>
      intro x1_2 u_2 H locs ls h hP hD hS hl
      rw [pl_X1_none_2] at h
      refine lv_iload_n hx hb dX1_none_2 rfl (lv_at hl 0 rfl) ?_
      refine lv_bipush (v := (12 : Int32)) hx hb dX1_none_3 (by decide) ?_
      refine lv_icmp_ge (tgt := 21) hx hb dX1_none_5 (by decide) (fun c_1 => ?_) (fun c_1 => ?_)
      · rw [if_pos c_1] at h
        exact hk_2 x1_2 u_2 _ _ _ h hP hD hS (lv_sub hl [0, 1] rfl)
      · rw [if_neg c_1] at h
        refine lv_aload_n hx hb dX1_none_8 rfl (lv_at hl 1 rfl) ?_
        refine gt_M_away hx hb hts hin0 hown hK hP hf_53 dX1_none_9 ?_
        refine lv_iload_n hx hb dX1_none_12 rfl (lv_at hl 0 rfl) ?_
        refine lv_iconst (v := (0 : Int32)) hx hb dX1_none_13 (by decide) ?_
        obtain ⟨g_2, h⟩ := og_some h
        refine sr_M_away (F := (m_away u_2)) hx hb hK hP hD hS rfl (inb_in g_2) dX1_none_14 (fun H locs hP hD hS => ?_)
        refine lv_iinc (v := (x1_2 + (1 : Int32))) (lv' := [(1, .int (x1_2 + (1 : Int32))), (0, .ref (hs 0))]) hx hb dX1_none_15 hl (k := 0) rfl (congrArg (fun z : Int32 => x1_2 + z) (by decide : Int32.ofInt (1) = (1 : Int32))) (by decide) rfl (fun ls hl => ?_)
        refine lv_goto (tgt := 2) hx hb dX1_none_18 (by decide) ?_
        exact ih_2 (x1_2 + (1 : Int32)) (ms_away u_2 (upd (m_away u_2) x1_2.toNatClampNeg (vp_nar .boolean (0 : Int32)))) _ _ _ h hP hD hS (lv_sub hl [0, 1] rfl)
  refine lp_2 _ (fun x1_2 u_2 H locs ls h hP hD hS hl => ?_) fu (0 : Int32) u _ _ _ h hP hD hS hl
  have e9 := Option.some.inj h
  exact W.vret hx hb hr (fun t ht hW => ⟨⟨u_2, rfl, e9, by rw [ht]; exact hP, va_K.moved hW.alike hK, hD⟩, hS.F ht⟩) hS.2.2 dX1_none_21
