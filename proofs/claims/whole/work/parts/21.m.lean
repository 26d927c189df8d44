set_option maxHeartbeats 4000000 in
set_option maxRecDepth 100000 in
theorem c_X1_rank (l : Launch) (dC : Nat → ClassId) (dI : Nat → Nat → Nat) (hs : Nat → Nat) (ka : Nat → ClassId) (sz : Nat) (fu : Nat) (u : MS) (p0 : Int32) (p1 : Int32) (r : Int32) (h : pf_X1_rank fu p0 p1 u = some r) : Met l yX1_rank wzX1_rank ({ frames := 0, cells := 0, slots := 0, locals := 0 }) (va_Pc [.ref (hs 0), .int p0, .int p1] (fun U => U.heap.size = sz ∧ va_P (dC, dI) vwCl (cM hs ka u) U.heap ∧ va_K (dC, dI) vwCl (tM ka) U ∧ va_D (fun _ => True) (cM hs ka u))) (va_Qi (fun (r1 : Int32) (u1 : MS) => r1 = r ∧ u1 = u) (aM dC dI (va_A (cM hs ka u) sz) hs ka) (va_A (cM hs ka u) sz)) 0 0 (va_A (cM hs ka u) sz) := by
  refine Met.ofW (cc := cX1_rank) (maxL := 6) (ret := (some .int)) (by decide) rfl ?_
  intro p e s m args below meth c s₁ B hml hv
  obtain ⟨rfl, hsz, hP, hK, hD0⟩ := hv
  have hx := B.exec
  have hb := B.bytes
  have hr := B.returns
  have hts := atoms_spec (ws := wzX1_rank) B.pre
  have hown : s.vm.findClass RX1 = some m.cls := findClass_of_methodNamed B.named
  have hlocks := B.notSynchronized
  subst hsz
  have hD := hD0.self (sz := s.heap.size)
  generalize hAe : va_A (cM hs ka u) s.heap.size = A at hD ⊢
  have hA : ∀ q : Nat, s.heap.size ≤ q → A q := fun q h => by rw [← hAe]; exact Or.inr h
  have hS : va_S A s.heap s.heap [] := va_S.rf
  have hP : va_P (dC, dI) vwCl (cM hs ka u) s.heap := hP
  clear hD0 hAe
  have hin0 : ∀ w ∈ u_ws RX1 TX1 23, w ∈ wzX1_rank := fun w h => List.mem_cons_of_mem _ (inTX1 w h)
  have hf_13 := hts (.fieldLink RX1 13 "ConflictSolveModel" "locks" "[I") (List.mem_cons_of_mem _ tz_240)
  have hf_22 := hts (.fieldLink RX1 22 "ConflictSolveModel" "order" "[I") (List.mem_cons_of_mem _ tz_243)
  have hf_7 := hts (.fieldLink RX1 7 "ConflictSolveModel" "versions" "[I") (List.mem_cons_of_mem _ tz_239)
  have hf_94 := hts (.fieldLink RX1 94 "ConflictSolveModel" "needed" "I") (List.mem_cons_of_mem _ tz_249)
  have hl := lv_entry ([.ref (hs 0), .int p0, .int p1]) (n := 6) (Nat.le_of_ble_eq_true rfl)
  rw [lg_entry_eq]
  generalize (lg_sl ([.ref (hs 0), .int p0, .int p1]) ++ List.replicate (6 - (lg_sl ([.ref (hs 0), .int p0, .int p1])).length) Slot.unset).toArray = ls at hl ⊢
  have hl : lv_has ls 6 [(0, .ref (hs 0)), (1, .int p0), (2, .int p1)] := hl
  rw [pf_X1_rank] at h
  refine lv_aload_n hx hb dX1_rank_0 rfl (lv_at hl 0 rfl) ?_
  refine gt_M_order hx hb hts hin0 hown hK hP hf_22 dX1_rank_1 ?_
  refine lv_iload_n hx hb dX1_rank_4 rfl (lv_at hl 1 rfl) ?_
  obtain ⟨g_1, h⟩ := og_some h
  refine ld_M_order (F := (m_order u)) hx hb hK hP rfl (inb_in g_1) dX1_rank_5 ?_
  refine lv_istore_n (lv' := [(3, .int ((m_order u) p0.toNatClampNeg)), (0, .ref (hs 0)), (1, .int p0), (2, .int p1)]) hx hb dX1_rank_6 rfl hl (by decide) rfl (fun ls hl => ?_)
  refine lv_iload_n hx hb dX1_rank_7 rfl (lv_at hl 3 rfl) ?_
  refine lv_aload_n hx hb dX1_rank_8 rfl (lv_at hl 1 rfl) ?_
  refine gt_M_locks hx hb hts hin0 hown hK hP hf_13 dX1_rank_9 ?_
  refine lv_iload_n hx hb dX1_rank_12 rfl (lv_at hl 0 rfl) ?_
  obtain ⟨g_2, h⟩ := og_some h
  refine ld_M_locks (F := (m_locks u)) hx hb hK hP rfl (inb_in g_2) dX1_rank_13 ?_
  refine lv_icmp_ne (tgt := 24) hx hb dX1_rank_14 (by decide) (fun c_3 => ?_) (fun c_3 => ?_)
  · rw [if_neg c_3] at h
    have jp_48 : ∀ (t_48 : Int32) (H : Heap) (locs : List Loc) (ls : Array Slot), ((og (inb ((m_order u) p0.toNatClampNeg) 8) (if ((m_locks u) ((m_order u) p0.toNatClampNeg).toNatClampNeg) = (-1 : Int32) then (jn (fun (t_88 : Int32) => (if (m_needed u) ≤ p0 then (if p1 = (-1 : Int32) then (some t_88) else (some ((t_88 + (1 : Int32)) + t_48))) else (some (t_88 + t_48)))) (fun j_88 => (og (inb ((m_order u) p0.toNatClampNeg) 8) (if ((m_locks u) ((m_order u) p0.toNatClampNeg).toNatClampNeg) = (-1 : Int32) then (j_88 (0 : Int32)) else (j_88 (1 : Int32)))))) else (og (inb ((m_order u) p0.toNatClampNeg) 8) (if ((m_locks u) ((m_order u) p0.toNatClampNeg).toNatClampNeg) ≤ p1 then (jn (fun (t_88 : Int32) => (if (m_needed u) ≤ p0 then (if p1 = (-1 : Int32) then (some t_88) else (some ((t_88 + (1 : Int32)) + t_48))) else (some (t_88 + t_48)))) (fun j_88 => (og (inb ((m_order u) p0.toNatClampNeg) 8) (if ((m_locks u) ((m_order u) p0.toNatClampNeg).toNatClampNeg) = (-1 : Int32) then (j_88 (0 : Int32)) else (j_88 (1 : Int32)))))) else (jn (fun (t_88 : Int32) => (if (m_needed u) ≤ p0 then (if p1 = (-1 : Int32) then (some t_88) else (some ((t_88 + (1 : Int32)) + (t_48 + (-1 : Int32))))) else (some (t_88 + (t_48 + (-1 : Int32)))))) (fun j_88 => (og (inb ((m_order u) p0.toNatClampNeg) 8) (if ((m_locks u) ((m_order u) p0.toNatClampNeg).toNatClampNeg) = (-1 : Int32) then (j_88 (0 : Int32)) else (j_88 (1 : Int32)))))))))) : Option (Int32)) = some r → va_P (dC, dI) vwCl (cM hs ka u) H → va_D A (cM hs ka u) → va_S A s.heap H locs → lv_has ls 6 [(3, .int ((m_order u) p0.toNatClampNeg)), (0, .ref (hs 0)), (1, .int p0), (2, .int p1)] → W p l e (headSpec wzX1_rank ({ frames := 0, cells := 0, slots := 0, locals := 0 })).room s m ([.ref (hs 0), .int p0, .int p1] : List Value).toArray below meth c H locs 0 0 (MQ below (va_Qi (fun (r1 : Int32) (u1 : MS) => r1 = r ∧ u1 = u) (aM dC dI A hs ka) A) ([.ref (hs 0), .int p0, .int p1] : List Value).toArray s 0 0 A) (F0 m 48 ls [.int t_48]) := by
      intro t_48 H locs ls h hP hD hS hl
      refine lv_istore (lv' := [(4, .int t_48), (3, .int ((m_order u) p0.toNatClampNeg)), (0, .ref (hs 0)), (1, .int p0), (2, .int p1)]) hx hb dX1_rank_48 hl (by decide) rfl (fun ls hl => ?_)
      refine lv_aload_n hx hb dX1_rank_50 rfl (lv_at hl 2 rfl) ?_
      refine gt_M_locks hx hb hts hin0 hown hK hP hf_13 dX1_rank_51 ?_
      refine lv_iload_n hx hb dX1_rank_54 rfl (lv_at hl 1 rfl) ?_
      obtain ⟨g_4, h⟩ := og_some h
      refine ld_M_locks (F := (m_locks u)) hx hb hK hP rfl (inb_in g_4) dX1_rank_55 ?_
      refine lv_iconst (v := (-1 : Int32)) hx hb dX1_rank_56 (by decide) ?_
      refine lv_icmp_eq (tgt := 73) hx hb dX1_rank_57 (by decide) (fun c_5 => ?_) (fun c_5 => ?_)
      · rw [if_pos c_5] at h
        have jp_88 : ∀ (t_88 : Int32) (H : Heap) (locs : List Loc) (ls : Array Slot), ((if (m_needed u) ≤ p0 then (if p1 = (-1 : Int32) then (some t_88) else (some ((t_88 + (1 : Int32)) + t_48))) else (some (t_88 + t_48))) : Option (Int32)) = some r → va_P (dC, dI) vwCl (cM hs ka u) H → va_D A (cM hs ka u) → va_S A s.heap H locs → lv_has ls 6 [(4, .int t_48), (3, .int ((m_order u) p0.toNatClampNeg)), (0, .ref (hs 0)), (1, .int p0), (2, .int p1)] → W p l e (headSpec wzX1_rank ({ frames := 0, cells := 0, slots := 0, locals := 0 })).room s m ([.ref (hs 0), .int p0, .int p1] : List Value).toArray below meth c H locs 0 0 (MQ below (va_Qi (fun (r1 : Int32) (u1 : MS) => r1 = r ∧ u1 = u) (aM dC dI A hs ka) A) ([.ref (hs 0), .int p0, .int p1] : List Value).toArray s 0 0 A) (F0 m 88 ls [.int t_88]) := by
          intro t_88 H locs ls h hP hD hS hl
          refine lv_istore (lv' := [(5, .int t_88), (4, .int t_48), (3, .int ((m_order u) p0.toNatClampNeg)), (0, .ref (hs 0)), (1, .int p0), (2, .int p1)]) hx hb dX1_rank_88 hl (by decide) rfl (fun ls hl => ?_)
          refine lv_iload_n hx hb dX1_rank_90 rfl (lv_at hl 4 rfl) ?_
          refine lv_aload_n hx hb dX1_rank_91 rfl (lv_at hl 3 rfl) ?_
          refine gt_M_needed (V := (m_needed u)) hx hb hts hin0 hown hK hP hf_94 rfl dX1_rank_92 ?_
          refine lv_icmp_ge (tgt := 106) hx hb dX1_rank_95 (by decide) (fun c_6 => ?_) (fun c_6 => ?_)
          · rw [if_pos c_6] at h
            refine lv_iload_n hx hb dX1_rank_106 rfl (lv_at hl 5 rfl) ?_
            refine lv_iconst (v := (-1 : Int32)) hx hb dX1_rank_107 (by decide) ?_
            refine lv_icmp_ne (tgt := 116) hx hb dX1_rank_108 (by decide) (fun c_7 => ?_) (fun c_7 => ?_)
            · rw [if_neg c_7] at h
              refine lv_iload hx hb dX1_rank_116 (lv_at hl 0 rfl) ?_
              refine lv_iconst (v := (1 : Int32)) hx hb dX1_rank_118 (by decide) ?_
              refine lv_iadd hx hb dX1_rank_119 ?_
              refine lv_iload hx hb dX1_rank_120 (lv_at hl 1 rfl) ?_
              refine lv_iadd hx hb dX1_rank_122 ?_
              have e9 := Option.some.inj h
              exact W.iret (v := ((t_88 + (1 : Int32)) + t_48)) hx hb hr (fun t ht hW => ⟨⟨((t_88 + (1 : Int32)) + t_48), u, rfl, ⟨e9, rfl⟩, by rw [ht]; exact hP, va_K.moved hW.alike hK, hD⟩, hS.F ht⟩) hS.2.2 dX1_rank_123
            · rw [if_pos c_7] at h
              refine lv_iload hx hb dX1_rank_111 (lv_at hl 0 rfl) ?_
              refine lv_goto (tgt := 123) hx hb dX1_rank_113 (by decide) ?_
              have e9 := Option.some.inj h
              exact W.iret (v := t_88) hx hb hr (fun t ht hW => ⟨⟨t_88, u, rfl, ⟨e9, rfl⟩, by rw [ht]; exact hP, va_K.moved hW.alike hK, hD⟩, hS.F ht⟩) hS.2.2 dX1_rank_123
          · rw [if_neg c_6] at h
            refine lv_iload hx hb dX1_rank_98 (lv_at hl 0 rfl) ?_
            refine lv_iload hx hb dX1_rank_100 (lv_at hl 1 rfl) ?_
            refine lv_iadd hx hb dX1_rank_102 ?_
            refine lv_goto (tgt := 123) hx hb dX1_rank_103 (by decide) ?_
            have e9 := Option.some.inj h
            exact W.iret (v := (t_88 + t_48)) hx hb hr (fun t ht hW => ⟨⟨(t_88 + t_48), u, rfl, ⟨e9, rfl⟩, by rw [ht]; exact hP, va_K.moved hW.alike hK, hD⟩, hS.F ht⟩) hS.2.2 dX1_rank_123
        have h := jn_e h
        refine lv_aload_n hx hb dX1_rank_73 rfl (lv_at hl 2 rfl) ?_
        refine gt_M_locks hx hb hts hin0 hown hK hP hf_13 dX1_rank_74 ?_
        refine lv_iload_n hx hb dX1_rank_77 rfl (lv_at hl 1 rfl) ?_
        obtain ⟨g_8, h⟩ := og_some h
        refine ld_M_locks (F := (m_locks u)) hx hb hK hP rfl (inb_in g_8) dX1_rank_78 ?_
        refine lv_iconst (v := (-1 : Int32)) hx hb dX1_rank_79 (by decide) ?_
        refine lv_icmp_eq (tgt := 87) hx hb dX1_rank_80 (by decide) (fun c_9 => ?_) (fun c_9 => ?_)
        · rw [if_pos c_9] at h
          refine lv_iconst (v := (0 : Int32)) hx hb dX1_rank_87 (by decide) ?_
          exact jp_88 (0 : Int32) _ _ _ h hP hD hS (lv_sub hl [0, 1, 2, 3, 4] rfl)
        · rw [if_neg c_9] at h
          refine lv_iconst (v := (1 : Int32)) hx hb dX1_rank_83 (by decide) ?_
          refine lv_goto (tgt := 88) hx hb dX1_rank_84 (by decide) ?_
          exact jp_88 (1 : Int32) _ _ _ h hP hD hS (lv_sub hl [0, 1, 2, 3, 4] rfl)
      · rw [if_neg c_5] at h
        refine lv_iload_n hx hb dX1_rank_60 rfl (lv_at hl 4 rfl) ?_
        refine lv_aload_n hx hb dX1_rank_61 rfl (lv_at hl 2 rfl) ?_
        refine gt_M_locks hx hb hts hin0 hown hK hP hf_13 dX1_rank_62 ?_
        refine lv_iload_n hx hb dX1_rank_65 rfl (lv_at hl 1 rfl) ?_
        obtain ⟨g_10, h⟩ := og_some h
        refine ld_M_locks (F := (m_locks u)) hx hb hK hP rfl (inb_in g_10) dX1_rank_66 ?_
        refine lv_icmp_ge (tgt := 73) hx hb dX1_rank_67 (by decide) (fun c_11 => ?_) (fun c_11 => ?_)
        · rw [if_pos c_11] at h
          have jp_88 : ∀ (t_88 : Int32) (H : Heap) (locs : List Loc) (ls : Array Slot), ((if (m_needed u) ≤ p0 then (if p1 = (-1 : Int32) then (some t_88) else (some ((t_88 + (1 : Int32)) + t_48))) else (some (t_88 + t_48))) : Option (Int32)) = some r → va_P (dC, dI) vwCl (cM hs ka u) H → va_D A (cM hs ka u) → va_S A s.heap H locs → lv_has ls 6 [(4, .int t_48), (3, .int ((m_order u) p0.toNatClampNeg)), (0, .ref (hs 0)), (1, .int p0), (2, .int p1)] → W p l e (headSpec wzX1_rank ({ frames := 0, cells := 0, slots := 0, locals := 0 })).room s m ([.ref (hs 0), .int p0, .int p1] : List Value).toArray below meth c H locs 0 0 (MQ below (va_Qi (fun (r1 : Int32) (u1 : MS) => r1 = r ∧ u1 = u) (aM dC dI A hs ka) A) ([.ref (hs 0), .int p0, .int p1] : List Value).toArray s 0 0 A) (F0 m 88 ls [.int t_88]) := by
            intro t_88 H locs ls h hP hD hS hl
            refine lv_istore (lv' := [(5, .int t_88), (4, .int t_48), (3, .int ((m_order u) p0.toNatClampNeg)), (0, .ref (hs 0)), (1, .int p0), (2, .int p1)]) hx hb dX1_rank_88 hl (by decide) rfl (fun ls hl => ?_)
            refine lv_iload_n hx hb dX1_rank_90 rfl (lv_at hl 4 rfl) ?_
            refine lv_aload_n hx hb dX1_rank_91 rfl (lv_at hl 3 rfl) ?_
            refine gt_M_needed (V := (m_needed u)) hx hb hts hin0 hown hK hP hf_94 rfl dX1_rank_92 ?_
            refine lv_icmp_ge (tgt := 106) hx hb dX1_rank_95 (by decide) (fun c_12 => ?_) (fun c_12 => ?_)
            · rw [if_pos c_12] at h
              refine lv_iload_n hx hb dX1_rank_106 rfl (lv_at hl 5 rfl) ?_
              refine lv_iconst (v := (-1 : Int32)) hx hb dX1_rank_107 (by decide) ?_
              refine lv_icmp_ne (tgt := 116) hx hb dX1_rank_108 (by decide) (fun c_13 => ?_) (fun c_13 => ?_)
              · rw [if_neg c_13] at h
                refine lv_iload hx hb dX1_rank_116 (lv_at hl 0 rfl) ?_
                refine lv_iconst (v := (1 : Int32)) hx hb dX1_rank_118 (by decide) ?_
                refine lv_iadd hx hb dX1_rank_119 ?_
                refine lv_iload hx hb dX1_rank_120 (lv_at hl 1 rfl) ?_
                refine lv_iadd hx hb dX1_rank_122 ?_
                have e9 := Option.some.inj h
                exact W.iret (v := ((t_88 + (1 : Int32)) + t_48)) hx hb hr (fun t ht hW => ⟨⟨((t_88 + (1 : Int32)) + t_48), u, rfl, ⟨e9, rfl⟩, by rw [ht]; exact hP, va_K.moved hW.alike hK, hD⟩, hS.F ht⟩) hS.2.2 dX1_rank_123
              · rw [if_pos c_13] at h
                refine lv_iload hx hb dX1_rank_111 (lv_at hl 0 rfl) ?_
                refine lv_goto (tgt := 123) hx hb dX1_rank_113 (by decide) ?_
                have e9 := Option.some.inj h
                exact W.iret (v := t_88) hx hb hr (fun t ht hW => ⟨⟨t_88, u, rfl, ⟨e9, rfl⟩, by rw [ht]; exact hP, va_K.moved hW.alike hK, hD⟩, hS.F ht⟩) hS.2.2 dX1_rank_123
            · rw [if_neg c_12] at h
              refine lv_iload hx hb dX1_rank_98 (lv_at hl 0 rfl) ?_
              refine lv_iload hx hb dX1_rank_100 (lv_at hl 1 rfl) ?_
              refine lv_iadd hx hb dX1_rank_102 ?_
              refine lv_goto (tgt := 123) hx hb dX1_rank_103 (by decide) ?_
              have e9 := Option.some.inj h
              exact W.iret (v := (t_88 + t_48)) hx hb hr (fun t ht hW => ⟨⟨(t_88 + t_48), u, rfl, ⟨e9, rfl⟩, by rw [ht]; exact hP, va_K.moved hW.alike hK, hD⟩, hS.F ht⟩) hS.2.2 dX1_rank_123
          have h := jn_e h
          refine lv_aload_n hx hb dX1_rank_73 rfl (lv_at hl 2 rfl) ?_
          refine gt_M_locks hx hb hts hin0 hown hK hP hf_13 dX1_rank_74 ?_
          refine lv_iload_n hx hb dX1_rank_77 rfl (lv_at hl 1 rfl) ?_
          obtain ⟨g_14, h⟩ := og_some h
          refine ld_M_locks (F := (m_locks u)) hx hb hK hP rfl (inb_in g_14) dX1_rank_78 ?_
          refine lv_iconst (v := (-1 : Int32)) hx hb dX1_rank_79 (by decide) ?_
          refine lv_icmp_eq (tgt := 87) hx hb dX1_rank_80 (by decide) (fun c_15 => ?_) (fun c_15 => ?_)
          · rw [if_pos c_15] at h
            refine lv_iconst (v := (0 : Int32)) hx hb dX1_rank_87 (by decide) ?_
            exact jp_88 (0 : Int32) _ _ _ h hP hD hS (lv_sub hl [0, 1, 2, 3, 4] rfl)
          · rw [if_neg c_15] at h
            refine lv_iconst (v := (1 : Int32)) hx hb dX1_rank_83 (by decide) ?_
            refine lv_goto (tgt := 88) hx hb dX1_rank_84 (by decide) ?_
            exact jp_88 (1 : Int32) _ _ _ h hP hD hS (lv_sub hl [0, 1, 2, 3, 4] rfl)
        · rw [if_neg c_11] at h
          refine lv_iinc (v := (t_48 + (-1 : Int32))) (lv' := [(4, .int (t_48 + (-1 : Int32))), (3, .int ((m_order u) p0.toNatClampNeg)), (0, .ref (hs 0)), (1, .int p0), (2, .int p1)]) hx hb dX1_rank_70 hl (k := 0) rfl (congrArg (fun z : Int32 => t_48 + z) (by decide : Int32.ofInt (-1) = (-1 : Int32))) (by decide) rfl (fun ls hl => ?_)
          have jp_88 : ∀ (t_88 : Int32) (H : Heap) (locs : List Loc) (ls : Array Slot), ((if (m_needed u) ≤ p0 then (if p1 = (-1 : Int32) then (some t_88) else (some ((t_88 + (1 : Int32)) + (t_48 + (-1 : Int32))))) else (some (t_88 + (t_48 + (-1 : Int32))))) : Option (Int32)) = some r → va_P (dC, dI) vwCl (cM hs ka u) H → va_D A (cM hs ka u) → va_S A s.heap H locs → lv_has ls 6 [(4, .int (t_48 + (-1 : Int32))), (3, .int ((m_order u) p0.toNatClampNeg)), (0, .ref (hs 0)), (1, .int p0), (2, .int p1)] → W p l e (headSpec wzX1_rank ({ frames := 0, cells := 0, slots := 0, locals := 0 })).room s m ([.ref (hs 0), .int p0, .int p1] : List Value).toArray below meth c H locs 0 0 (MQ below (va_Qi (fun (r1 : Int32) (u1 : MS) => r1 = r ∧ u1 = u) (aM dC dI A hs ka) A) ([.ref (hs 0), .int p0, .int p1] : List Value).toArray s 0 0 A) (F0 m 88 ls [.int t_88]) := by
            intro t_88 H locs ls h hP hD hS hl
            refine lv_istore (lv' := [(5, .int t_88), (4, .int (t_48 + (-1 : Int32))), (3, .int ((m_order u) p0.toNatClampNeg)), (0, .ref (hs 0)), (1, .int p0), (2, .int p1)]) hx hb dX1_rank_88 hl (by decide) rfl (fun ls hl => ?_)
            refine lv_iload_n hx hb dX1_rank_90 rfl (lv_at hl 4 rfl) ?_
            refine lv_aload_n hx hb dX1_rank_91 rfl (lv_at hl 3 rfl) ?_
            refine gt_M_needed (V := (m_needed u)) hx hb hts hin0 hown hK hP hf_94 rfl dX1_rank_92 ?_
            refine lv_icmp_ge (tgt := 106) hx hb dX1_rank_95 (by decide) (fun c_16 => ?_) (fun c_16 => ?_)
            · rw [if_pos c_16] at h
              refine lv_iload_n hx hb dX1_rank_106 rfl (lv_at hl 5 rfl) ?_
              refine lv_iconst (v := (-1 : Int32)) hx hb dX1_rank_107 (by decide) ?_
              refine lv_icmp_ne (tgt := 116) hx hb dX1_rank_108 (by decide) (fun c_17 => ?_) (fun c_17 => ?_)
              · rw [if_neg c_17] at h
                refine lv_iload hx hb dX1_rank_116 (lv_at hl 0 rfl) ?_
                refine lv_iconst (v := (1 : Int32)) hx hb dX1_rank_118 (by decide) ?_
                refine lv_iadd hx hb dX1_rank_119 ?_
                refine lv_iload hx hb dX1_rank_120 (lv_at hl 1 rfl) ?_
                refine lv_iadd hx hb dX1_rank_122 ?_
                have e9 := Option.some.inj h
                exact W.iret (v := ((t_88 + (1 : Int32)) + (t_48 + (-1 : Int32)))) hx hb hr (fun t ht hW => ⟨⟨((t_88 + (1 : Int32)) + (t_48 + (-1 : Int32))), u, rfl, ⟨e9, rfl⟩, by rw [ht]; exact hP, va_K.moved hW.alike hK, hD⟩, hS.F ht⟩) hS.2.2 dX1_rank_123
              · rw [if_pos c_17] at h
                refine lv_iload hx hb dX1_rank_111 (lv_at hl 0 rfl) ?_
                refine lv_goto (tgt := 123) hx hb dX1_rank_113 (by decide) ?_
                have e9 := Option.some.inj h
                exact W.iret (v := t_88) hx hb hr (fun t ht hW => ⟨⟨t_88, u, rfl, ⟨e9, rfl⟩, by rw [ht]; exact hP, va_K.moved hW.alike hK, hD⟩, hS.F ht⟩) hS.2.2 dX1_rank_123
            · rw [if_neg c_16] at h
              refine lv_iload hx hb dX1_rank_98 (lv_at hl 0 rfl) ?_
              refine lv_iload hx hb dX1_rank_100 (lv_at hl 1 rfl) ?_
              refine lv_iadd hx hb dX1_rank_102 ?_
              refine lv_goto (tgt := 123) hx hb dX1_rank_103 (by decide) ?_
              have e9 := Option.some.inj h
              exact W.iret (v := (t_88 + (t_48 + (-1 : Int32)))) hx hb hr (fun t ht hW => ⟨⟨(t_88 + (t_48 + (-1 : Int32))), u, rfl, ⟨e9, rfl⟩, by rw [ht]; exact hP, va_K.moved hW.alike hK, hD⟩, hS.F ht⟩) hS.2.2 dX1_rank_123
          have h := jn_e h
          refine lv_aload_n hx hb dX1_rank_73 rfl (lv_at hl 2 rfl) ?_
          refine gt_M_locks hx hb hts hin0 hown hK hP hf_13 dX1_rank_74 ?_
          refine lv_iload_n hx hb dX1_rank_77 rfl (lv_at hl 1 rfl) ?_
          obtain ⟨g_18, h⟩ := og_some h
          refine ld_M_locks (F := (m_locks u)) hx hb hK hP rfl (inb_in g_18) dX1_rank_78 ?_
          refine lv_iconst (v := (-1 : Int32)) hx hb dX1_rank_79 (by decide) ?_
          refine lv_icmp_eq (tgt := 87) hx hb dX1_rank_80 (by decide) (fun c_19 => ?_) (fun c_19 => ?_)
          · rw [if_pos c_19] at h
            refine lv_iconst (v := (0 : Int32)) hx hb dX1_rank_87 (by decide) ?_
            exact jp_88 (0 : Int32) _ _ _ h hP hD hS (lv_sub hl [0, 1, 2, 3, 4] rfl)
          · rw [if_neg c_19] at h
            refine lv_iconst (v := (1 : Int32)) hx hb dX1_rank_83 (by decide) ?_
            refine lv_goto (tgt := 88) hx hb dX1_rank_84 (by decide) ?_
            exact jp_88 (1 : Int32) _ _ _ h hP hD hS (lv_sub hl [0, 1, 2, 3, 4] rfl)
    have h := jn_e h
    refine lv_iload_n hx hb dX1_rank_24 rfl (lv_at hl 3 rfl) ?_
    refine lv_iconst (v := (-1 : Int32)) hx hb dX1_rank_25 (by decide) ?_
    refine lv_icmp_ne (tgt := 38) hx hb dX1_rank_26 (by decide) (fun c_20 => ?_) (fun c_20 => ?_)
    · rw [if_neg c_20] at h
      refine lv_aload_n hx hb dX1_rank_38 rfl (lv_at hl 1 rfl) ?_
      refine gt_M_versions hx hb hts hin0 hown hK hP hf_7 dX1_rank_39 ?_
      refine lv_iload_n hx hb dX1_rank_42 rfl (lv_at hl 0 rfl) ?_
      obtain ⟨g_21, h⟩ := og_some h
      refine ld_M_versions (F := (m_versions u)) hx hb hK hP rfl (inb_in g_21) dX1_rank_43 ?_
      refine lv_iconst (v := (1 : Int32)) hx hb dX1_rank_44 (by decide) ?_
      refine lv_isub hx hb dX1_rank_45 ?_
      refine lv_iload_n hx hb dX1_rank_46 rfl (lv_at hl 3 rfl) ?_
      refine lv_isub hx hb dX1_rank_47 ?_
      exact jp_48 ((((m_versions u) ((m_order u) p0.toNatClampNeg).toNatClampNeg) - (1 : Int32)) - p1) _ _ _ h hP hD hS (lv_sub hl [0, 1, 2, 3] rfl)
    · rw [if_pos c_20] at h
      refine lv_aload_n hx hb dX1_rank_29 rfl (lv_at hl 1 rfl) ?_
      refine gt_M_versions hx hb hts hin0 hown hK hP hf_7 dX1_rank_30 ?_
      refine lv_iload_n hx hb dX1_rank_33 rfl (lv_at hl 0 rfl) ?_
      obtain ⟨g_22, h⟩ := og_some h
      refine ld_M_versions (F := (m_versions u)) hx hb hK hP rfl (inb_in g_22) dX1_rank_34 ?_
      refine lv_goto (tgt := 48) hx hb dX1_rank_35 (by decide) ?_
      exact jp_48 ((m_versions u) ((m_order u) p0.toNatClampNeg).toNatClampNeg) _ _ _ h hP hD hS (lv_sub hl [0, 1, 2, 3] rfl)
  · rw [if_pos c_3] at h
    refine lv_iload_n hx hb dX1_rank_17 rfl (lv_at hl 3 rfl) ?_
    refine lv_iconst (v := (-1 : Int32)) hx hb dX1_rank_18 (by decide) ?_
    refine lv_icmp_eq (tgt := 24) hx hb dX1_rank_19 (by decide) (fun c_23 => ?_) (fun c_23 => ?_)
    · rw [if_pos c_23] at h
      have jp_48 : ∀ (t_48 : Int32) (H : Heap) (locs : List Loc) (ls : Array Slot), ((og (inb ((m_order u) p0.toNatClampNeg) 8) (if ((m_locks u) ((m_order u) p0.toNatClampNeg).toNatClampNeg) = (-1 : Int32) then (jn (fun (t_88 : Int32) => (if (m_needed u) ≤ p0 then (if p1 = (-1 : Int32) then (some t_88) else (some ((t_88 + (1 : Int32)) + t_48))) else (some (t_88 + t_48)))) (fun j_88 => (og (inb ((m_order u) p0.toNatClampNeg) 8) (if ((m_locks u) ((m_order u) p0.toNatClampNeg).toNatClampNeg) = (-1 : Int32) then (j_88 (0 : Int32)) else (j_88 (1 : Int32)))))) else (og (inb ((m_order u) p0.toNatClampNeg) 8) (if ((m_locks u) ((m_order u) p0.toNatClampNeg).toNatClampNeg) ≤ p1 then (jn (fun (t_88 : Int32) => (if (m_needed u) ≤ p0 then (if p1 = (-1 : Int32) then (some t_88) else (some ((t_88 + (1 : Int32)) + t_48))) else (some (t_88 + t_48)))) (fun j_88 => (og (inb ((m_order u) p0.toNatClampNeg) 8) (if ((m_locks u) ((m_order u) p0.toNatClampNeg).toNatClampNeg) = (-1 : Int32) then (j_88 (0 : Int32)) else (j_88 (1 : Int32)))))) else (jn (fun (t_88 : Int32) => (if (m_needed u) ≤ p0 then (if p1 = (-1 : Int32) then (some t_88) else (some ((t_88 + (1 : Int32)) + (t_48 + (-1 : Int32))))) else (some (t_88 + (t_48 + (-1 : Int32)))))) (fun j_88 => (og (inb ((m_order u) p0.toNatClampNeg) 8) (if ((m_locks u) ((m_order u) p0.toNatClampNeg).toNatClampNeg) = (-1 : Int32) then (j_88 (0 : Int32)) else (j_88 (1 : Int32)))))))))) : Option (Int32)) = some r → va_P (dC, dI) vwCl (cM hs ka u) H → va_D A (cM hs ka u) → va_S A s.heap H locs → lv_has ls 6 [(3, .int ((m_order u) p0.toNatClampNeg)), (0, .ref (hs 0)), (1, .int p0), (2, .int p1)] → W p l e (headSpec wzX1_rank ({ frames := 0, cells := 0, slots := 0, locals := 0 })).room s m ([.ref (hs 0), .int p0, .int p1] : List Value).toArray below meth c H locs 0 0 (MQ below (va_Qi (fun (r1 : Int32) (u1 : MS) => r1 = r ∧ u1 = u) (aM dC dI A hs ka) A) ([.ref (hs 0), .int p0, .int p1] : List Value).toArray s 0 0 A) (F0 m 48 ls [.int t_48]) := by
        intro t_48 H locs ls h hP hD hS hl
        refine lv_istore (lv' := [(4, .int t_48), (3, .int ((m_order u) p0.toNatClampNeg)), (0, .ref (hs 0)), (1, .int p0), (2, .int p1)]) hx hb dX1_rank_48 hl (by decide) rfl (fun ls hl => ?_)
        refine lv_aload_n hx hb dX1_rank_50 rfl (lv_at hl 2 rfl) ?_
        refine gt_M_locks hx hb hts hin0 hown hK hP hf_13 dX1_rank_51 ?_
        refine lv_iload_n hx hb dX1_rank_54 rfl (lv_at hl 1 rfl) ?_
        obtain ⟨g_24, h⟩ := og_some h
        refine ld_M_locks (F := (m_locks u)) hx hb hK hP rfl (inb_in g_24) dX1_rank_55 ?_
        refine lv_iconst (v := (-1 : Int32)) hx hb dX1_rank_56 (by decide) ?_
        refine lv_icmp_eq (tgt := 73) hx hb dX1_rank_57 (by decide) (fun c_25 => ?_) (fun c_25 => ?_)
        · rw [if_pos c_25] at h
          have jp_88 : ∀ (t_88 : Int32) (H : Heap) (locs : List Loc) (ls : Array Slot), ((if (m_needed u) ≤ p0 then (if p1 = (-1 : Int32) then (some t_88) else (some ((t_88 + (1 : Int32)) + t_48))) else (some (t_88 + t_48))) : Option (Int32)) = some r → va_P (dC, dI) vwCl (cM hs ka u) H → va_D A (cM hs ka u) → va_S A s.heap H locs → lv_has ls 6 [(4, .int t_48), (3, .int ((m_order u) p0.toNatClampNeg)), (0, .ref (hs 0)), (1, .int p0), (2, .int p1)] → W p l e (headSpec wzX1_rank ({ frames := 0, cells := 0, slots := 0, locals := 0 })).room s m ([.ref (hs 0), .int p0, .int p1] : List Value).toArray below meth c H locs 0 0 (MQ below (va_Qi (fun (r1 : Int32) (u1 : MS) => r1 = r ∧ u1 = u) (aM dC dI A hs ka) A) ([.ref (hs 0), .int p0, .int p1] : List Value).toArray s 0 0 A) (F0 m 88 ls [.int t_88]) := by
            intro t_88 H locs ls h hP hD hS hl
            refine lv_istore (lv' := [(5, .int t_88), (4, .int t_48), (3, .int ((m_order u) p0.toNatClampNeg)), (0, .ref (hs 0)), (1, .int p0), (2, .int p1)]) hx hb dX1_rank_88 hl (by decide) rfl (fun ls hl => ?_)
            refine lv_iload_n hx hb dX1_rank_90 rfl (lv_at hl 4 rfl) ?_
            refine lv_aload_n hx hb dX1_rank_91 rfl (lv_at hl 3 rfl) ?_
            refine gt_M_needed (V := (m_needed u)) hx hb hts hin0 hown hK hP hf_94 rfl dX1_rank_92 ?_
            refine lv_icmp_ge (tgt := 106) hx hb dX1_rank_95 (by decide) (fun c_26 => ?_) (fun c_26 => ?_)
            · rw [if_pos c_26] at h
              refine lv_iload_n hx hb dX1_rank_106 rfl (lv_at hl 5 rfl) ?_
              refine lv_iconst (v := (-1 : Int32)) hx hb dX1_rank_107 (by decide) ?_
              refine lv_icmp_ne (tgt := 116) hx hb dX1_rank_108 (by decide) (fun c_27 => ?_) (fun c_27 => ?_)
              · rw [if_neg c_27] at h
                refine lv_iload hx hb dX1_rank_116 (lv_at hl 0 rfl) ?_
                refine lv_iconst (v := (1 : Int32)) hx hb dX1_rank_118 (by decide) ?_
                refine lv_iadd hx hb dX1_rank_119 ?_
                refine lv_iload hx hb dX1_rank_120 (lv_at hl 1 rfl) ?_
                refine lv_iadd hx hb dX1_rank_122 ?_
                have e9 := Option.some.inj h
                exact W.iret (v := ((t_88 + (1 : Int32)) + t_48)) hx hb hr (fun t ht hW => ⟨⟨((t_88 + (1 : Int32)) + t_48), u, rfl, ⟨e9, rfl⟩, by rw [ht]; exact hP, va_K.moved hW.alike hK, hD⟩, hS.F ht⟩) hS.2.2 dX1_rank_123
              · rw [if_pos c_27] at h
                refine lv_iload hx hb dX1_rank_111 (lv_at hl 0 rfl) ?_
                refine lv_goto (tgt := 123) hx hb dX1_rank_113 (by decide) ?_
                have e9 := Option.some.inj h
                exact W.iret (v := t_88) hx hb hr (fun t ht hW => ⟨⟨t_88, u, rfl, ⟨e9, rfl⟩, by rw [ht]; exact hP, va_K.moved hW.alike hK, hD⟩, hS.F ht⟩) hS.2.2 dX1_rank_123
            · rw [if_neg c_26] at h
              refine lv_iload hx hb dX1_rank_98 (lv_at hl 0 rfl) ?_
              refine lv_iload hx hb dX1_rank_100 (lv_at hl 1 rfl) ?_
              refine lv_iadd hx hb dX1_rank_102 ?_
              refine lv_goto (tgt := 123) hx hb dX1_rank_103 (by decide) ?_
              have e9 := Option.some.inj h
              exact W.iret (v := (t_88 + t_48)) hx hb hr (fun t ht hW => ⟨⟨(t_88 + t_48), u, rfl, ⟨e9, rfl⟩, by rw [ht]; exact hP, va_K.moved hW.alike hK, hD⟩, hS.F ht⟩) hS.2.2 dX1_rank_123
          have h := jn_e h
          refine lv_aload_n hx hb dX1_rank_73 rfl (lv_at hl 2 rfl) ?_
          refine gt_M_locks hx hb hts hin0 hown hK hP hf_13 dX1_rank_74 ?_
          refine lv_iload_n hx hb dX1_rank_77 rfl (lv_at hl 1 rfl) ?_
          obtain ⟨g_28, h⟩ := og_some h
          refine ld_M_locks (F := (m_locks u)) hx hb hK hP rfl (inb_in g_28) dX1_rank_78 ?_
          refine lv_iconst (v := (-1 : Int32)) hx hb dX1_rank_79 (by decide) ?_
          refine lv_icmp_eq (tgt := 87) hx hb dX1_rank_80 (by decide) (fun c_29 => ?_) (fun c_29 => ?_)
          · rw [if_pos c_29] at h
            refine lv_iconst (v := (0 : Int32)) hx hb dX1_rank_87 (by decide) ?_
            exact jp_88 (0 : Int32) _ _ _ h hP hD hS (lv_sub hl [0, 1, 2, 3, 4] rfl)
          · rw [if_neg c_29] at h
            refine lv_iconst (v := (1 : Int32)) hx hb dX1_rank_83 (by decide) ?_
            refine lv_goto (tgt := 88) hx hb dX1_rank_84 (by decide) ?_
            exact jp_88 (1 : Int32) _ _ _ h hP hD hS (lv_sub hl [0, 1, 2, 3, 4] rfl)
        · rw [if_neg c_25] at h
          refine lv_iload_n hx hb dX1_rank_60 rfl (lv_at hl 4 rfl) ?_
          refine lv_aload_n hx hb dX1_rank_61 rfl (lv_at hl 2 rfl) ?_
          refine gt_M_locks hx hb hts hin0 hown hK hP hf_13 dX1_rank_62 ?_
          refine lv_iload_n hx hb dX1_rank_65 rfl (lv_at hl 1 rfl) ?_
          obtain ⟨g_30, h⟩ := og_some h
          refine ld_M_locks (F := (m_locks u)) hx hb hK hP rfl (inb_in g_30) dX1_rank_66 ?_
          refine lv_icmp_ge (tgt := 73) hx hb dX1_rank_67 (by decide) (fun c_31 => ?_) (fun c_31 => ?_)
          · rw [if_pos c_31] at h
            have jp_88 : ∀ (t_88 : Int32) (H : Heap) (locs : List Loc) (ls : Array Slot), ((if (m_needed u) ≤ p0 then (if p1 = (-1 : Int32) then (some t_88) else (some ((t_88 + (1 : Int32)) + t_48))) else (some (t_88 + t_48))) : Option (Int32)) = some r → va_P (dC, dI) vwCl (cM hs ka u) H → va_D A (cM hs ka u) → va_S A s.heap H locs → lv_has ls 6 [(4, .int t_48), (3, .int ((m_order u) p0.toNatClampNeg)), (0, .ref (hs 0)), (1, .int p0), (2, .int p1)] → W p l e (headSpec wzX1_rank ({ frames := 0, cells := 0, slots := 0, locals := 0 })).room s m ([.ref (hs 0), .int p0, .int p1] : List Value).toArray below meth c H locs 0 0 (MQ below (va_Qi (fun (r1 : Int32) (u1 : MS) => r1 = r ∧ u1 = u) (aM dC dI A hs ka) A) ([.ref (hs 0), .int p0, .int p1] : List Value).toArray s 0 0 A) (F0 m 88 ls [.int t_88]) := by
              intro t_88 H locs ls h hP hD hS hl
              refine lv_istore (lv' := [(5, .int t_88), (4, .int t_48), (3, .int ((m_order u) p0.toNatClampNeg)), (0, .ref (hs 0)), (1, .int p0), (2, .int p1)]) hx hb dX1_rank_88 hl (by decide) rfl (fun ls hl => ?_)
              refine lv_iload_n hx hb dX1_rank_90 rfl (lv_at hl 4 rfl) ?_
              refine lv_aload_n hx hb dX1_rank_91 rfl (lv_at hl 3 rfl) ?_
              refine gt_M_needed (V := (m_needed u)) hx hb hts hin0 hown hK hP hf_94 rfl dX1_rank_92 ?_
              refine lv_icmp_ge (tgt := 106) hx hb dX1_rank_95 (by decide) (fun c_32 => ?_) (fun c_32 => ?_)
              · rw [if_pos c_32] at h
                refine lv_iload_n hx hb dX1_rank_106 rfl (lv_at hl 5 rfl) ?_
                refine lv_iconst (v := (-1 : Int32)) hx hb dX1_rank_107 (by decide) ?_
                refine lv_icmp_ne (tgt := 116) hx hb dX1_rank_108 (by decide) (fun c_33 => ?_) (fun c_33 => ?_)
                · rw [if_neg c_33] at h
                  refine lv_iload hx hb dX1_rank_116 (lv_at hl 0 rfl) ?_
                  refine lv_iconst (v := (1 : Int32)) hx hb dX1_rank_118 (by decide) ?_
                  refine lv_iadd hx hb dX1_rank_119 ?_
                  refine lv_iload hx hb dX1_rank_120 (lv_at hl 1 rfl) ?_
                  refine lv_iadd hx hb dX1_rank_122 ?_
                  have e9 := Option.some.inj h
                  exact W.iret (v := ((t_88 + (1 : Int32)) + t_48)) hx hb hr (fun t ht hW => ⟨⟨((t_88 + (1 : Int32)) + t_48), u, rfl, ⟨e9, rfl⟩, by rw [ht]; exact hP, va_K.moved hW.alike hK, hD⟩, hS.F ht⟩) hS.2.2 dX1_rank_123
                · rw [if_pos c_33] at h
                  refine lv_iload hx hb dX1_rank_111 (lv_at hl 0 rfl) ?_
                  refine lv_goto (tgt := 123) hx hb dX1_rank_113 (by decide) ?_
                  have e9 := Option.some.inj h
                  exact W.iret (v := t_88) hx hb hr (fun t ht hW => ⟨⟨t_88, u, rfl, ⟨e9, rfl⟩, by rw [ht]; exact hP, va_K.moved hW.alike hK, hD⟩, hS.F ht⟩) hS.2.2 dX1_rank_123
              · rw [if_neg c_32] at h
                refine lv_iload hx hb dX1_rank_98 (lv_at hl 0 rfl) ?_
                refine lv_iload hx hb dX1_rank_100 (lv_at hl 1 rfl) ?_
                refine lv_iadd hx hb dX1_rank_102 ?_
                refine lv_goto (tgt := 123) hx hb dX1_rank_103 (by decide) ?_
                have e9 := Option.some.inj h
                exact W.iret (v := (t_88 + t_48)) hx hb hr (fun t ht hW => ⟨⟨(t_88 + t_48), u, rfl, ⟨e9, rfl⟩, by rw [ht]; exact hP, va_K.moved hW.alike hK, hD⟩, hS.F ht⟩) hS.2.2 dX1_rank_123
            have h := jn_e h
            refine lv_aload_n hx hb dX1_rank_73 rfl (lv_at hl 2 rfl) ?_
            refine gt_M_locks hx hb hts hin0 hown hK hP hf_13 dX1_rank_74 ?_
            refine lv_iload_n hx hb dX1_rank_77 rfl (lv_at hl 1 rfl) ?_
            obtain ⟨g_34, h⟩ := og_some h
            refine ld_M_locks (F := (m_locks u)) hx hb hK hP rfl (inb_in g_34) dX1_rank_78 ?_
            refine lv_iconst (v := (-1 : Int32)) hx hb dX1_rank_79 (by decide) ?_
            refine lv_icmp_eq (tgt := 87) hx hb dX1_rank_80 (by decide) (fun c_35 => ?_) (fun c_35 => ?_)
            · rw [if_pos c_35] at h
              refine lv_iconst (v := (0 : Int32)) hx hb dX1_rank_87 (by decide) ?_
              exact jp_88 (0 : Int32) _ _ _ h hP hD hS (lv_sub hl [0, 1, 2, 3, 4] rfl)
            · rw [if_neg c_35] at h
              refine lv_iconst (v := (1 : Int32)) hx hb dX1_rank_83 (by decide) ?_
              refine lv_goto (tgt := 88) hx hb dX1_rank_84 (by decide) ?_
              exact jp_88 (1 : Int32) _ _ _ h hP hD hS (lv_sub hl [0, 1, 2, 3, 4] rfl)
          · rw [if_neg c_31] at h
            refine lv_iinc (v := (t_48 + (-1 : Int32))) (lv' := [(4, .int (t_48 + (-1 : Int32))), (3, .int ((m_order u) p0.toNatClampNeg)), (0, .ref (hs 0)), (1, .int p0), (2, .int p1)]) hx hb dX1_rank_70 hl (k := 0) rfl (congrArg (fun z : Int32 => t_48 + z) (by decide : Int32.ofInt (-1) = (-1 : Int32))) (by decide) rfl (fun ls hl => ?_)
            have jp_88 : ∀ (t_88 : Int32) (H : Heap) (locs : List Loc) (ls : Array Slot), ((if (m_needed u) ≤ p0 then (if p1 = (-1 : Int32) then (some t_88) else (some ((t_88 + (1 : Int32)) + (t_48 + (-1 : Int32))))) else (some (t_88 + (t_48 + (-1 : Int32))))) : Option (Int32)) = some r → va_P (dC, dI) vwCl (cM hs ka u) H → va_D A (cM hs ka u) → va_S A s.heap H locs → lv_has ls 6 [(4, .int (t_48 + (-1 : Int32))), (3, .int ((m_order u) p0.toNatClampNeg)), (0, .ref (hs 0)), (1, .int p0), (2, .int p1)] → W p l e (headSpec wzX1_rank ({ frames := 0, cells := 0, slots := 0, locals := 0 })).room s m ([.ref (hs 0), .int p0, .int p1] : List Value).toArray below meth c H locs 0 0 (MQ below (va_Qi (fun (r1 : Int32) (u1 : MS) => r1 = r ∧ u1 = u) (aM dC dI A hs ka) A) ([.ref (hs 0), .int p0, .int p1] : List Value).toArray s 0 0 A) (F0 m 88 ls [.int t_88]) := by
              intro t_88 H locs ls h hP hD hS hl
              refine lv_istore (lv' := [(5, .int t_88), (4, .int (t_48 + (-1 : Int32))), (3, .int ((m_order u) p0.toNatClampNeg)), (0, .ref (hs 0)), (1, .int p0), (2, .int p1)]) hx hb dX1_rank_88 hl (by decide) rfl (fun ls hl => ?_)
              refine lv_iload_n hx hb dX1_rank_90 rfl (lv_at hl 4 rfl) ?_
              refine lv_aload_n hx hb dX1_rank_91 rfl (lv_at hl 3 rfl) ?_
              refine gt_M_needed (V := (m_needed u)) hx hb hts hin0 hown hK hP hf_94 rfl dX1_rank_92 ?_
              refine lv_icmp_ge (tgt := 106) hx hb dX1_rank_95 (by decide) (fun c_36 => ?_) (fun c_36 => ?_)
              · rw [if_pos c_36] at h
                refine lv_iload_n hx hb dX1_rank_106 rfl (lv_at hl 5 rfl) ?_
                refine lv_iconst (v := (-1 : Int32)) hx hb dX1_rank_107 (by decide) ?_
                refine lv_icmp_ne (tgt := 116) hx hb dX1_rank_108 (by decide) (fun c_37 => ?_) (fun c_37 => ?_)
                · rw [if_neg c_37] at h
                  refine lv_iload hx hb dX1_rank_116 (lv_at hl 0 rfl) ?_
                  refine lv_iconst (v := (1 : Int32)) hx hb dX1_rank_118 (by decide) ?_
                  refine lv_iadd hx hb dX1_rank_119 ?_
                  refine lv_iload hx hb dX1_rank_120 (lv_at hl 1 rfl) ?_
                  refine lv_iadd hx hb dX1_rank_122 ?_
                  have e9 := Option.some.inj h
                  exact W.iret (v := ((t_88 + (1 : Int32)) + (t_48 + (-1 : Int32)))) hx hb hr (fun t ht hW => ⟨⟨((t_88 + (1 : Int32)) + (t_48 + (-1 : Int32))), u, rfl, ⟨e9, rfl⟩, by rw [ht]; exact hP, va_K.moved hW.alike hK, hD⟩, hS.F ht⟩) hS.2.2 dX1_rank_123
                · rw [if_pos c_37] at h
                  refine lv_iload hx hb dX1_rank_111 (lv_at hl 0 rfl) ?_
                  refine lv_goto (tgt := 123) hx hb dX1_rank_113 (by decide) ?_
                  have e9 := Option.some.inj h
                  exact W.iret (v := t_88) hx hb hr (fun t ht hW => ⟨⟨t_88, u, rfl, ⟨e9, rfl⟩, by rw [ht]; exact hP, va_K.moved hW.alike hK, hD⟩, hS.F ht⟩) hS.2.2 dX1_rank_123
              · rw [if_neg c_36] at h
                refine lv_iload hx hb dX1_rank_98 (lv_at hl 0 rfl) ?_
                refine lv_iload hx hb dX1_rank_100 (lv_at hl 1 rfl) ?_
                refine lv_iadd hx hb dX1_rank_102 ?_
                refine lv_goto (tgt := 123) hx hb dX1_rank_103 (by decide) ?_
                have e9 := Option.some.inj h
                exact W.iret (v := (t_88 + (t_48 + (-1 : Int32)))) hx hb hr (fun t ht hW => ⟨⟨(t_88 + (t_48 + (-1 : Int32))), u, rfl, ⟨e9, rfl⟩, by rw [ht]; exact hP, va_K.moved hW.alike hK, hD⟩, hS.F ht⟩) hS.2.2 dX1_rank_123
            have h := jn_e h
            refine lv_aload_n hx hb dX1_rank_73 rfl (lv_at hl 2 rfl) ?_
            refine gt_M_locks hx hb hts hin0 hown hK hP hf_13 dX1_rank_74 ?_
            refine lv_iload_n hx hb dX1_rank_77 rfl (lv_at hl 1 rfl) ?_
            obtain ⟨g_38, h⟩ := og_some h
            refine ld_M_locks (F := (m_locks u)) hx hb hK hP rfl (inb_in g_38) dX1_rank_78 ?_
            refine lv_iconst (v := (-1 : Int32)) hx hb dX1_rank_79 (by decide) ?_
            refine lv_icmp_eq (tgt := 87) hx hb dX1_rank_80 (by decide) (fun c_39 => ?_) (fun c_39 => ?_)
            · rw [if_pos c_39] at h
              refine lv_iconst (v := (0 : Int32)) hx hb dX1_rank_87 (by decide) ?_
              exact jp_88 (0 : Int32) _ _ _ h hP hD hS (lv_sub hl [0, 1, 2, 3, 4] rfl)
            · rw [if_neg c_39] at h
              refine lv_iconst (v := (1 : Int32)) hx hb dX1_rank_83 (by decide) ?_
              refine lv_goto (tgt := 88) hx hb dX1_rank_84 (by decide) ?_
              exact jp_88 (1 : Int32) _ _ _ h hP hD hS (lv_sub hl [0, 1, 2, 3, 4] rfl)
      have h := jn_e h
      refine lv_iload_n hx hb dX1_rank_24 rfl (lv_at hl 3 rfl) ?_
      refine lv_iconst (v := (-1 : Int32)) hx hb dX1_rank_25 (by decide) ?_
      refine lv_icmp_ne (tgt := 38) hx hb dX1_rank_26 (by decide) (fun c_40 => ?_) (fun c_40 => ?_)
      · rw [if_neg c_40] at h
        refine lv_aload_n hx hb dX1_rank_38 rfl (lv_at hl 1 rfl) ?_
        refine gt_M_versions hx hb hts hin0 hown hK hP hf_7 dX1_rank_39 ?_
        refine lv_iload_n hx hb dX1_rank_42 rfl (lv_at hl 0 rfl) ?_
        obtain ⟨g_41, h⟩ := og_some h
        refine ld_M_versions (F := (m_versions u)) hx hb hK hP rfl (inb_in g_41) dX1_rank_43 ?_
        refine lv_iconst (v := (1 : Int32)) hx hb dX1_rank_44 (by decide) ?_
        refine lv_isub hx hb dX1_rank_45 ?_
        refine lv_iload_n hx hb dX1_rank_46 rfl (lv_at hl 3 rfl) ?_
        refine lv_isub hx hb dX1_rank_47 ?_
        exact jp_48 ((((m_versions u) ((m_order u) p0.toNatClampNeg).toNatClampNeg) - (1 : Int32)) - p1) _ _ _ h hP hD hS (lv_sub hl [0, 1, 2, 3] rfl)
      · rw [if_pos c_40] at h
        refine lv_aload_n hx hb dX1_rank_29 rfl (lv_at hl 1 rfl) ?_
        refine gt_M_versions hx hb hts hin0 hown hK hP hf_7 dX1_rank_30 ?_
        refine lv_iload_n hx hb dX1_rank_33 rfl (lv_at hl 0 rfl) ?_
        obtain ⟨g_42, h⟩ := og_some h
        refine ld_M_versions (F := (m_versions u)) hx hb hK hP rfl (inb_in g_42) dX1_rank_34 ?_
        refine lv_goto (tgt := 48) hx hb dX1_rank_35 (by decide) ?_
        exact jp_48 ((m_versions u) ((m_order u) p0.toNatClampNeg).toNatClampNeg) _ _ _ h hP hD hS (lv_sub hl [0, 1, 2, 3] rfl)
    · rw [if_neg c_23] at h
      refine lv_iconst (v := (0 : Int32)) hx hb dX1_rank_22 (by decide) ?_
      have e9 := Option.some.inj h
      exact W.iret (v := (0 : Int32)) hx hb hr (fun t ht hW => ⟨⟨(0 : Int32), u, rfl, ⟨e9, rfl⟩, by rw [ht]; exact hP, va_K.moved hW.alike hK, hD⟩, hS.F ht⟩) hS.2.2 dX1_rank_23
set_option maxHeartbeats 4000000 in
set_option maxRecDepth 100000 in
theorem c_X1_ranked (l : Launch) (dC : Nat → ClassId) (dI : Nat → Nat → Nat) (hs : Nat → Nat) (ka : Nat → ClassId) (sz : Nat) (fu : Nat) (u : MS) (p0 : Int32) (p1 : Int32) (r : Int32) (h : pf_X1_ranked fu p0 p1 u = some r) : Met l yX1_ranked wzX1_ranked ({ frames := 1, cells := 0, slots := 0, locals := 25 }) (va_Pc [.ref (hs 0), .int p0, .int p1] (fun U => U.heap.size = sz ∧ va_P (dC, dI) vwCl (cM hs ka u) U.heap ∧ va_K (dC, dI) vwCl (tM ka) U ∧ va_D (fun _ => True) (cM hs ka u))) (va_Qi (fun (r1 : Int32) (u1 : MS) => r1 = r ∧ u1 = u) (aM dC dI (va_A (cM hs ka u) sz) hs ka) (va_A (cM hs ka u) sz)) 0 0 (va_A (cM hs ka u) sz) := by
  refine Met.ofW (cc := cX1_ranked) (maxL := 4) (ret := (some .int)) (by decide) rfl ?_
  intro p e s m args below meth c s₁ B hml hv
  obtain ⟨rfl, hsz, hP, hK, hD0⟩ := hv
  have hx := B.exec
  have hb := B.bytes
  have hr := B.returns
  have hts := atoms_spec (ws := wzX1_ranked) B.pre
  have hown : s.vm.findClass RX1 = some m.cls := findClass_of_methodNamed B.named
  have hlocks := B.notSynchronized
  subst hsz
  have hD := hD0.self (sz := s.heap.size)
  generalize hAe : va_A (cM hs ka u) s.heap.size = A at hD ⊢
  have hA : ∀ q : Nat, s.heap.size ≤ q → A q := fun q h => by rw [← hAe]; exact Or.inr h
  have hS : va_S A s.heap s.heap [] := va_S.rf
  have hP : va_P (dC, dI) vwCl (cM hs ka u) s.heap := hP
  clear hD0 hAe
  have hl := lv_entry ([.ref (hs 0), .int p0, .int p1]) (n := 4) (Nat.le_of_ble_eq_true rfl)
  rw [lg_entry_eq]
  generalize (lg_sl ([.ref (hs 0), .int p0, .int p1]) ++ List.replicate (4 - (lg_sl ([.ref (hs 0), .int p0, .int p1])).length) Slot.unset).toArray = ls at hl ⊢
  have hl : lv_has ls 4 [(0, .ref (hs 0)), (1, .int p0), (2, .int p1)] := hl
  rw [pf_X1_ranked] at h
  refine lv_iconst (v := (-1 : Int32)) hx hb dX1_ranked_0 (by decide) ?_
  refine lv_istore_n (lv' := [(3, .int (-1 : Int32)), (0, .ref (hs 0)), (1, .int p0), (2, .int p1)]) hx hb dX1_ranked_1 rfl hl (by decide) rfl (fun ls hl => ?_)
  have lp_2 : ∀ K_2 : Int32 → Option (Int32), (∀ (x3_2 : Int32) (H : Heap) (locs : List Loc) (ls : Array Slot), K_2 x3_2 = some r → va_P (dC, dI) vwCl (cM hs ka u) H → va_D A (cM hs ka u) → va_S A s.heap H locs → lv_has ls 4 [(3, .int x3_2), (0, .ref (hs 0)), (1, .int p0), (2, .int p1)] → W p l e (headSpec wzX1_ranked ({ frames := 1, cells := 0, slots := 0, locals := 25 })).room s m ([.ref (hs 0), .int p0, .int p1] : List Value).toArray below meth c H locs 0 0 (MQ below (va_Qi (fun (r1 : Int32) (u1 : MS) => r1 = r ∧ u1 = u) (aM dC dI A hs ka) A) ([.ref (hs 0), .int p0, .int p1] : List Value).toArray s 0 0 A) (F0 m 18 ls [])) → ∀ n_2 : Nat, ∀ (x3_2 : Int32) (H : Heap) (locs : List Loc) (ls : Array Slot), pl_X1_ranked_2 fu p0 p1 u K_2 n_2 x3_2 = some r → va_P (dC, dI) vwCl (cM hs ka u) H → va_D A (cM hs ka u) → va_S A s.heap H locs → lv_has ls 4 [(3, .int x3_2), (0, .ref (hs 0)), (1, .int p0), (2, .int p1)] → W p l e (headSpec wzX1_ranked ({ frames := 1, cells := 0, slots := 0, locals := 25 })).room s m ([.ref (hs 0), .int p0, .int p1] : List Value).toArray below meth c H locs 0 0 (MQ below (va_Qi (fun (r1 : Int32) (u1 : MS) => r1 = r ∧ u1 = u) (aM dC dI A hs ka) A) ([.ref (hs 0), .int p0, .int p1] : List Value).toArray s 0 0 A) (F0 m 2 ls []) := by
    intro K_2 hk_2 n_2
    induction n_2 with
    | zero =>
      intro x3_2 H locs ls h
      exact absurd (show (none : Option (Int32)) = some r from h) (fun q => by cases q)
    | succ n_2 ih_2 =>
      intro x3_2 H locs ls h hP hD hS hl
      rw [pl_X1_ranked_2] at h
      refine lv_aload_n hx hb dX1_ranked_2 rfl (lv_at hl 1 rfl) ?_
      refine lv_iload_n hx hb dX1_ranked_3 rfl (lv_at hl 2 rfl) ?_
      refine lv_iload_n hx hb dX1_ranked_4 rfl (lv_at hl 0 rfl) ?_
      obtain ⟨q_1, hc_1, h⟩ := ob_some h
      have hPc := hP
      have hDc := hD
      have hKc := hK
      have hFc := fr_M hD hS hA
      refine va_calli (va_runV (As := [.int p0, .int x3_2]) (rest := []) ⟨hx, hb, hml, hown, hts⟩ (c_X1_rank l dC dI hs ka H.size fu u p0 x3_2 q_1 hc_1) (cwV 2 hts gX1_ranked_X1_rank rfl rfl rfl (by decide +kernel) ⟨Nat.le_of_ble_eq_true rfl, Nat.le_of_ble_eq_true rfl⟩) ⟨fun a U g mk q => by obtain ⟨q0, q1, qP, qK, qD⟩ := q; exact ⟨q0, q1, qP, va_K.moved (u := U) (U := U.calling g mk a) (Vm.Alike.refl U.vm) qK, qD⟩, rc_M hKc hPc, fun U hU hW => ⟨rfl, by rw [hU], by rw [hU]; exact hPc, va_K.moved hW.alike hKc, hDc.weaken (fun _ _ _ _ => trivial)⟩⟩ rfl rfl hl.1 rfl (lv_room (Nat.le_of_ble_eq_true rfl)) dX1_ranked_5 ⟨Nat.zero_le _, Nat.zero_le _⟩) hS (fun q _ h => hFc q h) hFc (fun r_1 u_c1 t H1 locs ht hvm hw hB hz1 hk1 hS => ?_)
      obtain ⟨hw1, hw2⟩ := hw
      subst r_1
      subst u_c1
      obtain ⟨hP1, hK1, hD1⟩ := hB
      rw [ht] at hP1
      obtain ⟨hP, hD⟩ := jw_M hP hD hk1 hFc hP1 hD1
      clear hPc hDc hKc hFc hz1 hk1 hP1 hK1 hD1
      generalize H1 = H at hP hS ⊢
      refine lv_iload_n hx hb dX1_ranked_8 rfl (lv_at hl 3 rfl) ?_
      refine lv_icmp_eq (tgt := 18) hx hb dX1_ranked_9 (by decide) (fun c_2 => ?_) (fun c_2 => ?_)
      · rw [if_pos c_2] at h
        exact hk_2 x3_2 _ _ _ h hP hD hS (lv_sub hl [0, 1, 2, 3] rfl)
      · rw [if_neg c_2] at h
        refine lv_iinc (v := (x3_2 + (1 : Int32))) (lv' := [(3, .int (x3_2 + (1 : Int32))), (0, .ref (hs 0)), (1, .int p0), (2, .int p1)]) hx hb dX1_ranked_12 hl (k := 0) rfl (congrArg (fun z : Int32 => x3_2 + z) (by decide : Int32.ofInt (1) = (1 : Int32))) (by decide) rfl (fun ls hl => ?_)
        refine lv_goto (tgt := 2) hx hb dX1_ranked_15 (by decide) ?_
        exact ih_2 (x3_2 + (1 : Int32)) _ _ _ h hP hD hS (lv_sub hl [0, 1, 2, 3] rfl)
  refine lp_2 _ (fun x3_2 H locs ls h hP hD hS hl => ?_) fu (-1 : Int32) _ _ _ h hP hD hS hl
  refine lv_iload_n hx hb dX1_ranked_18 rfl (lv_at hl 0 rfl) ?_
  have e9 := Option.some.inj h
  exact W.iret (v := x3_2) hx hb hr (fun t ht hW => ⟨⟨x3_2, u, rfl, ⟨e9, rfl⟩, by rw [ht]; exact hP, va_K.moved hW.alike hK, hD⟩, hS.F ht⟩) hS.2.2 dX1_ranked_19
