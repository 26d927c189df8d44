set_option maxHeartbeats 4000000 in
set_option maxRecDepth 100000 in
theorem c_X0_firstOf (l : Launch) (dC : Nat → ClassId) (dI : Nat → Nat → Nat) (hs : Nat → Nat) (ka : Nat → ClassId) (sz : Nat) (fu : Nat) (k : Nat) (FW : Int64 → Int32 → Int32 → XS → Option (Int64)) (hFW : ∀ (sz : Nat) (u : XS) (p0 : Int64) (p1 : Int32) (p2 : Int32) (r : Int64), FW p0 p1 p2 u = some r → Met l yX0_firstWithin wzX0_firstWithin (RMfw k) (va_Pc [.ref (hs 0), .long p0, .int p1, .int p2] (fun U => U.heap.size = sz ∧ va_P (dC, dI) vwCl (cX hs ka u) U.heap ∧ va_K (dC, dI) vwCl (tX ka) U ∧ va_D (fun _ => True) (cX hs ka u))) (va_Ql (fun (r1 : Int64) (u1 : XS) => r1 = r ∧ u1 = u) (aX dC dI (va_A (cX hs ka u) sz) hs ka) (va_A (cX hs ka u) sz)) 0 0 (va_A (cX hs ka u) sz)) (u : XS) (p0 : Int64) (p1 : Int32) (p2 : Int32) (r : Int64) (h : pf_X0_firstOf fu FW p0 p1 p2 u = some r) : Met l yX0_firstOf wzX0_firstOf (RMfo k) (va_Pc [.ref (hs 0), .long p0, .int p1, .int p2] (fun U => U.heap.size = sz ∧ va_P (dC, dI) vwCl (cX hs ka u) U.heap ∧ va_K (dC, dI) vwCl (tX ka) U ∧ va_D (fun _ => True) (cX hs ka u))) (va_Ql (fun (r1 : Int64) (u1 : XS) => r1 = r ∧ u1 = u) (aX dC dI (va_A (cX hs ka u) sz) hs ka) (va_A (cX hs ka u) sz)) 0 0 (va_A (cX hs ka u) sz) := by
  refine Met.ofW (cc := cX0_firstOf) (maxL := 14) (ret := (some .long)) (by decide) rfl ?_
  intro p e s m args below meth c s₁ B hml hv
  obtain ⟨rfl, hsz, hP, hK, hD0⟩ := hv
  have hx := B.exec
  have hb := B.bytes
  have hr := B.returns
  have hts := atoms_spec (ws := wzX0_firstOf) B.pre
  have hown : s.vm.findClass RX0 = some m.cls := findClass_of_methodNamed B.named
  have hlocks := B.notSynchronized
  subst hsz
  have hD := hD0.self (sz := s.heap.size)
  generalize hAe : va_A (cX hs ka u) s.heap.size = A at hD ⊢
  have hA : ∀ q : Nat, s.heap.size ≤ q → A q := fun q h => by rw [← hAe]; exact Or.inr h
  have hS : va_S A s.heap s.heap [] := va_S.rf
  have hP : va_P (dC, dI) vwCl (cX hs ka u) s.heap := hP
  clear hD0 hAe
  have hin0 : ∀ w ∈ u_ws RX0 TX0 14, w ∈ wzX0_firstOf := fun w h => List.mem_cons_of_mem _ (inTX0 w h)
  have hf_133 := hts (.fieldLink RX0 133 "ConflictSolve" "neededPacks" "I") (List.mem_cons_of_mem _ tz_48)
  have hf_16 := hts (.fieldLink RX0 16 "ConflictSolve" "order" "[I") (List.mem_cons_of_mem _ tz_44)
  have hl := lv_entry ([.ref (hs 0), .long p0, .int p1, .int p2]) (n := 14) (Nat.le_of_ble_eq_true rfl)
  rw [lg_entry_eq]
  generalize (lg_sl ([.ref (hs 0), .long p0, .int p1, .int p2]) ++ List.replicate (14 - (lg_sl ([.ref (hs 0), .long p0, .int p1, .int p2])).length) Slot.unset).toArray = ls at hl ⊢
  have hl : lv_has ls 14 [(0, .ref (hs 0)), (1, .long p0), (3, .int p1), (4, .int p2)] := hl
  rw [pf_X0_firstOf] at h
  refine lv_iload hx hb dX0_firstOf_0 (lv_at hl 3 rfl) ?_
  refine lv_if_lt (tgt := 12) hx hb dX0_firstOf_2 (by decide) (fun c_1 => ?_) (fun c_1 => ?_)
  · rw [if_pos c_1] at h
    refine lv_lload_n hx hb dX0_firstOf_12 rfl (lv_at hl 1 rfl) ?_
    have e9 := Option.some.inj h
    exact W.lret (v := p0) hx hb hr (fun t ht hW => ⟨⟨p0, u, rfl, ⟨e9, rfl⟩, by rw [ht]; exact hP, va_K.moved hW.alike hK, hD⟩, hS.F ht⟩) hS.2.2 dX0_firstOf_13
  · rw [if_neg c_1] at h
    refine lv_iload hx hb dX0_firstOf_5 (lv_at hl 3 rfl) ?_
    refine lv_bipush (v := (8 : Int32)) hx hb dX0_firstOf_7 (by decide) ?_
    refine lv_icmp_lt (tgt := 14) hx hb dX0_firstOf_9 (by decide) (fun c_2 => ?_) (fun c_2 => ?_)
    · rw [if_pos c_2] at h
      refine lv_aload_n hx hb dX0_firstOf_14 rfl (lv_at hl 0 rfl) ?_
      refine gt_X_order hx hb hts hin0 hown hK hP hf_16 dX0_firstOf_15 ?_
      refine lv_iload hx hb dX0_firstOf_18 (lv_at hl 3 rfl) ?_
      obtain ⟨g_3, h⟩ := og_some h
      refine ld_X_order (F := (x_order u)) hx hb hK hP rfl (inb_in g_3) dX0_firstOf_20 ?_
      refine lv_istore (lv' := [(5, .int ((x_order u) p2.toNatClampNeg)), (0, .ref (hs 0)), (1, .long p0), (3, .int p1), (4, .int p2)]) hx hb dX0_firstOf_21 hl (by decide) rfl (fun ls hl => ?_)
      have jp_37 : ∀ (t_37 : Int32) (H : Heap) (locs : List Loc) (ls : Array Slot), ((pl_X0_firstOf_45 fu FW p1 p2 u t_37 (fun x9_45 x7_45 => (some (0 : Int64))) fu (0 : Int32) p0) : Option (Int64)) = some r → va_P (dC, dI) vwCl (cX hs ka u) H → va_D A (cX hs ka u) → va_S A s.heap H locs → lv_has ls 14 [(5, .int ((x_order u) p2.toNatClampNeg)), (0, .ref (hs 0)), (1, .long p0), (3, .int p1), (4, .int p2)] → W p l e (headSpec wzX0_firstOf (RMfo k)).room s m ([.ref (hs 0), .long p0, .int p1, .int p2] : List Value).toArray below meth c H locs 0 0 (MQ below (va_Ql (fun (r1 : Int64) (u1 : XS) => r1 = r ∧ u1 = u) (aX dC dI A hs ka) A) ([.ref (hs 0), .long p0, .int p1, .int p2] : List Value).toArray s 0 0 A) (F0 m 37 ls [.int t_37]) := by
        intro t_37 H locs ls h hP hD hS hl
        refine lv_istore (lv' := [(6, .int t_37), (5, .int ((x_order u) p2.toNatClampNeg)), (0, .ref (hs 0)), (1, .long p0), (3, .int p1), (4, .int p2)]) hx hb dX0_firstOf_37 hl (by decide) rfl (fun ls hl => ?_)
        refine lv_lload_n hx hb dX0_firstOf_39 rfl (lv_at hl 3 rfl) ?_
        refine lv_lstore (lv' := [(7, .long p0), (6, .int t_37), (5, .int ((x_order u) p2.toNatClampNeg)), (0, .ref (hs 0)), (1, .long p0), (3, .int p1), (4, .int p2)]) hx hb dX0_firstOf_40 hl (by decide) rfl (fun ls hl => ?_)
        refine lv_iconst (v := (0 : Int32)) hx hb dX0_firstOf_42 (by decide) ?_
        refine lv_istore (lv' := [(9, .int (0 : Int32)), (7, .long p0), (6, .int t_37), (5, .int ((x_order u) p2.toNatClampNeg)), (0, .ref (hs 0)), (1, .long p0), (3, .int p1), (4, .int p2)]) hx hb dX0_firstOf_43 hl (by decide) rfl (fun ls hl => ?_)
        have lp_45 : ∀ K_45 : Int32 → Int64 → Option (Int64), (∀ (x9_45 : Int32) (x7_45 : Int64) (H : Heap) (locs : List Loc) (ls : Array Slot), K_45 x9_45 x7_45 = some r → va_P (dC, dI) vwCl (cX hs ka u) H → va_D A (cX hs ka u) → va_S A s.heap H locs → lv_has ls 14 [(9, .int x9_45), (7, .long x7_45), (6, .int t_37), (5, .int ((x_order u) p2.toNatClampNeg)), (0, .ref (hs 0)), (1, .long p0), (3, .int p1), (4, .int p2)] → W p l e (headSpec wzX0_firstOf (RMfo k)).room s m ([.ref (hs 0), .long p0, .int p1, .int p2] : List Value).toArray below meth c H locs 0 0 (MQ below (va_Ql (fun (r1 : Int64) (u1 : XS) => r1 = r ∧ u1 = u) (aX dC dI A hs ka) A) ([.ref (hs 0), .long p0, .int p1, .int p2] : List Value).toArray s 0 0 A) (F0 m 127 ls [])) → ∀ n_45 : Nat, ∀ (x9_45 : Int32) (x7_45 : Int64) (H : Heap) (locs : List Loc) (ls : Array Slot), pl_X0_firstOf_45 fu FW p1 p2 u t_37 K_45 n_45 x9_45 x7_45 = some r → va_P (dC, dI) vwCl (cX hs ka u) H → va_D A (cX hs ka u) → va_S A s.heap H locs → lv_has ls 14 [(9, .int x9_45), (7, .long x7_45), (6, .int t_37), (5, .int ((x_order u) p2.toNatClampNeg)), (0, .ref (hs 0)), (1, .long p0), (3, .int p1), (4, .int p2)] → W p l e (headSpec wzX0_firstOf (RMfo k)).room s m ([.ref (hs 0), .long p0, .int p1, .int p2] : List Value).toArray below meth c H locs 0 0 (MQ below (va_Ql (fun (r1 : Int64) (u1 : XS) => r1 = r ∧ u1 = u) (aX dC dI A hs ka) A) ([.ref (hs 0), .long p0, .int p1, .int p2] : List Value).toArray s 0 0 A) (F0 m 45 ls []) := by
          intro K_45 hk_45 n_45
          induction n_45 with
          | zero =>
            intro x9_45 x7_45 H locs ls h
            exact absurd (show (none : Option (Int64)) = some r from h) (fun q => by cases q)
          | succ n_45 ih_45 =>
            intro x9_45 x7_45 H locs ls h hP hD hS hl
            rw [pl_X0_firstOf_45] at h
            refine lv_iload hx hb dX0_firstOf_45 (lv_at hl 0 rfl) ?_
            refine lv_bipush (v := (8 : Int32)) hx hb dX0_firstOf_47 (by decide) ?_
            refine lv_icmp_ge (tgt := 127) hx hb dX0_firstOf_49 (by decide) (fun c_4 => ?_) (fun c_4 => ?_)
            · rw [if_pos c_4] at h
              exact hk_45 x9_45 x7_45 _ _ _ h hP hD hS (lv_sub hl [0, 1, 2, 3, 4, 5, 6, 7] rfl)
            · rw [if_neg c_4] at h
              refine lv_lload hx hb dX0_firstOf_52 (lv_at hl 1 rfl) ?_
              refine lv_aload_n hx hb dX0_firstOf_54 rfl (lv_at hl 4 rfl) ?_
              refine lv_iload hx hb dX0_firstOf_55 (lv_at hl 0 rfl) ?_
              refine lv_iload hx hb dX0_firstOf_57 (lv_at hl 3 rfl) ?_
              refine lv_iload hx hb dX0_firstOf_59 (lv_at hl 2 rfl) ?_
              have hPc := hP
              have hDc := hD
              have hKc := hK
              have hFc := fr_X hD hS hA
              refine va_calll (va_runV (As := [.int x9_45, .int ((x_order u) p2.toNatClampNeg), .int t_37]) (rest := [.long x7_45]) ⟨hx, hb, hml, hown, hts⟩ (c_X0_placeAt l dC dI hs ka H.size u x9_45 ((x_order u) p2.toNatClampNeg) t_37 _ rfl) (cwV 3 hts gX0_firstOf_X0_placeAt rfl rfl rfl (by decide +kernel) ⟨(by show 2 + 1 ≤ 5 + 2 * k; omega), (by show 8 + (4 + 11) + 42 ≤ 180 + 70 * k; omega)⟩) ⟨fun a U g mk q => by obtain ⟨q0, q1, qP, qK, qD⟩ := q; exact ⟨q0, q1, qP, va_K.moved (u := U) (U := U.calling g mk a) (Vm.Alike.refl U.vm) qK, qD⟩, rc_X hKc hPc, fun U hU hW => ⟨rfl, by rw [hU], by rw [hU]; exact hPc, va_K.moved hW.alike hKc, hDc.weaken (fun _ _ _ _ => trivial)⟩⟩ rfl rfl hl.1 rfl (lv_room (Nat.le_of_ble_eq_true rfl)) dX0_firstOf_61 ⟨Nat.zero_le _, Nat.zero_le _⟩) hS (fun q _ h => hFc q h) hFc (fun r_5 u_c5 t H1 locs ht hvm hw hB hz1 hk1 hS => ?_)
              obtain ⟨hw1, hw2⟩ := hw
              subst r_5
              subst u_c5
              obtain ⟨hP1, hK1, hD1⟩ := hB
              rw [ht] at hP1
              obtain ⟨hP, hD⟩ := jw_X hP hD hk1 hFc hP1 hD1
              clear hPc hDc hKc hFc hz1 hk1 hP1 hK1 hD1
              generalize H1 = H at hP hS ⊢
              refine lv_land hx hb dX0_firstOf_64 ?_
              refine lv_lstore (lv' := [(10, .long (x7_45 &&& (pf_X0_placeAt x9_45 ((x_order u) p2.toNatClampNeg) t_37 u))), (9, .int x9_45), (7, .long x7_45), (6, .int t_37), (5, .int ((x_order u) p2.toNatClampNeg)), (0, .ref (hs 0)), (1, .long p0), (3, .int p1), (4, .int p2)]) hx hb dX0_firstOf_65 hl (by decide) rfl (fun ls hl => ?_)
              refine lv_lload hx hb dX0_firstOf_67 (lv_at hl 0 rfl) ?_
              refine lv_lconst (v := (0 : Int64)) hx hb dX0_firstOf_69 (by decide) ?_
              refine W.lcmp hx hb dX0_firstOf_70 ?_
              refine lv_if_eq (tgt := 121) hx hb dX0_firstOf_71 (by decide) (fun c_6 => ?_) (fun c_6 => ?_)
              · have c_6 := (lg_cmp_eq _ _).mp c_6
                rw [if_pos c_6] at h
                refine lv_iinc (v := (x9_45 + (1 : Int32))) (lv' := [(9, .int (x9_45 + (1 : Int32))), (10, .long (x7_45 &&& (pf_X0_placeAt x9_45 ((x_order u) p2.toNatClampNeg) t_37 u))), (7, .long x7_45), (6, .int t_37), (5, .int ((x_order u) p2.toNatClampNeg)), (0, .ref (hs 0)), (1, .long p0), (3, .int p1), (4, .int p2)]) hx hb dX0_firstOf_121 hl (k := 1) rfl (congrArg (fun z : Int32 => x9_45 + z) (by decide : Int32.ofInt (1) = (1 : Int32))) (by decide) rfl (fun ls hl => ?_)
                refine lv_goto (tgt := 45) hx hb dX0_firstOf_124 (by decide) ?_
                exact ih_45 (x9_45 + (1 : Int32)) x7_45 _ _ _ h hP hD hS (lv_sub hl [0, 2, 3, 4, 5, 6, 7, 8] rfl)
              · have c_6 := (fun q => c_6 ((lg_cmp_eq _ _).mpr q))
                rw [if_neg c_6] at h
                refine lv_aload_n hx hb dX0_firstOf_74 rfl (lv_at hl 5 rfl) ?_
                refine lv_lload hx hb dX0_firstOf_75 (lv_at hl 2 rfl) ?_
                refine lv_iload hx hb dX0_firstOf_77 (lv_at hl 4 rfl) ?_
                have hPc : va_P (dC, dI) vwCl ([] : va_W) H := hP.sub [] rfl
                have hDc : va_D A ([] : va_W) := hD.sub [] (by decide) rfl
                have hKc := hK.sub (tys' := []) [] rfl
                have hFc := fn_X hD hS hA
                refine va_calll (va_runS (As := [.int ((x_order u) p2.toNatClampNeg)]) (rest := [.long x7_45, .ref (hs 0)]) ⟨hx, hb, hml, hown, hts⟩ (c_X0_allOf l dC dI H.size ((x_order u) p2.toNatClampNeg) _ rfl) (va_cwS 1 hts gX0_firstOf_X0_allOf rfl rfl rfl (by decide +kernel) ⟨(by show 0 + 1 ≤ 5 + 2 * k; omega), (by show 8 + (1 + 11) + 0 ≤ 180 + 70 * k; omega)⟩) ⟨fun a U g mk q => by obtain ⟨q0, q1, qP, qK, qD⟩ := q; exact ⟨q0, q1, qP, va_K.moved (u := U) (U := U.calling g mk a) (Vm.Alike.refl U.vm) qK, qD⟩, fun U hU hW => ⟨rfl, by rw [hU], by rw [hU]; exact hPc, va_K.moved hW.alike hKc, hDc.weaken (fun _ _ _ _ => trivial)⟩⟩ rfl rfl hl.1 rfl (lv_room (Nat.le_of_ble_eq_true rfl)) dX0_firstOf_79 ⟨Nat.zero_le _, Nat.zero_le _⟩) hS (fun q _ h => hFc q h) hFc (fun r_7 u_c7 t H1 locs ht hvm hw hB hz1 hk1 hS => ?_)
                subst r_7
                obtain ⟨hP1, hK1, hD1⟩ := hB
                rw [ht] at hP1
                obtain ⟨hP, hD⟩ := js_X hP hD hk1 hFc hP1 hD1
                clear hPc hDc hKc hFc hz1 hk1 hP1 hK1 hD1
                generalize H1 = H at hP hS ⊢
                refine lv_ldc2 (v := (-1 : Int64)) hx hb hown (hts (.constantLong RX0 55 (-1)) (List.mem_cons_of_mem _ tz_121)) dX0_firstOf_82 ?_
                refine lv_lxor hx hb dX0_firstOf_85 ?_
                refine lv_land hx hb dX0_firstOf_86 ?_
                refine lv_lload hx hb dX0_firstOf_87 (lv_at hl 0 rfl) ?_
                refine lv_lor hx hb dX0_firstOf_89 ?_
                refine lv_iload_n hx hb dX0_firstOf_90 rfl (lv_at hl 7 rfl) ?_
                refine lv_iload hx hb dX0_firstOf_91 (lv_at hl 8 rfl) ?_
                refine lv_iconst (v := (1 : Int32)) hx hb dX0_firstOf_93 (by decide) ?_
                refine lv_iadd hx hb dX0_firstOf_94 ?_
                obtain ⟨q_8, hc_8, h⟩ := ob_some h
                have hPc := hP
                have hDc := hD
                have hKc := hK
                have hFc := fr_X hD hS hA
                refine va_calll (va_runV (As := [.long ((x7_45 &&& ((pf_X0_allOf ((x_order u) p2.toNatClampNeg)) ^^^ (-1 : Int64))) ||| (x7_45 &&& (pf_X0_placeAt x9_45 ((x_order u) p2.toNatClampNeg) t_37 u))), .int p1, .int (p2 + (1 : Int32))]) (rest := []) ⟨hx, hb, hml, hown, hts⟩ (hFW H.size u ((x7_45 &&& ((pf_X0_allOf ((x_order u) p2.toNatClampNeg)) ^^^ (-1 : Int64))) ||| (x7_45 &&& (pf_X0_placeAt x9_45 ((x_order u) p2.toNatClampNeg) t_37 u))) p1 (p2 + (1 : Int32)) q_8 hc_8) (cwV 3 hts gX0_firstOf_X0_firstWithin rfl rfl rfl (by decide +kernel) ⟨(by show (4 + 2 * k) + 1 ≤ 5 + 2 * k; omega), (by show 8 + (7 + 11) + (150 + 70 * k) ≤ 180 + 70 * k; omega)⟩) ⟨fun a U g mk q => by obtain ⟨q0, q1, qP, qK, qD⟩ := q; exact ⟨q0, q1, qP, va_K.moved (u := U) (U := U.calling g mk a) (Vm.Alike.refl U.vm) qK, qD⟩, rc_X hKc hPc, fun U hU hW => ⟨rfl, by rw [hU], by rw [hU]; exact hPc, va_K.moved hW.alike hKc, hDc.weaken (fun _ _ _ _ => trivial)⟩⟩ rfl rfl hl.1 rfl (lv_room (Nat.le_of_ble_eq_true rfl)) dX0_firstOf_95 ⟨Nat.zero_le _, Nat.zero_le _⟩) hS (fun q _ h => hFc q h) hFc (fun r_8 u_c8 t H1 locs ht hvm hw hB hz1 hk1 hS => ?_)
                obtain ⟨hw1, hw2⟩ := hw
                subst r_8
                subst u_c8
                obtain ⟨hP1, hK1, hD1⟩ := hB
                rw [ht] at hP1
                obtain ⟨hP, hD⟩ := jw_X hP hD hk1 hFc hP1 hD1
                clear hPc hDc hKc hFc hz1 hk1 hP1 hK1 hD1
                generalize H1 = H at hP hS ⊢
                refine lv_lstore (lv' := [(12, .long q_8), (10, .long (x7_45 &&& (pf_X0_placeAt x9_45 ((x_order u) p2.toNatClampNeg) t_37 u))), (9, .int x9_45), (7, .long x7_45), (6, .int t_37), (5, .int ((x_order u) p2.toNatClampNeg)), (0, .ref (hs 0)), (1, .long p0), (3, .int p1), (4, .int p2)]) hx hb dX0_firstOf_98 hl (by decide) rfl (fun ls hl => ?_)
                refine lv_lload hx hb dX0_firstOf_100 (lv_at hl 0 rfl) ?_
                refine lv_lconst (v := (0 : Int64)) hx hb dX0_firstOf_102 (by decide) ?_
                refine W.lcmp hx hb dX0_firstOf_103 ?_
                refine lv_if_eq (tgt := 110) hx hb dX0_firstOf_104 (by decide) (fun c_9 => ?_) (fun c_9 => ?_)
                · have c_9 := (lg_cmp_eq _ _).mp c_9
                  rw [if_pos c_9] at h
                  refine lv_lload hx hb dX0_firstOf_110 (lv_at hl 3 rfl) ?_
                  refine lv_lload hx hb dX0_firstOf_112 (lv_at hl 1 rfl) ?_
                  refine lv_ldc2 (v := (-1 : Int64)) hx hb hown (hts (.constantLong RX0 55 (-1)) (List.mem_cons_of_mem _ tz_121)) dX0_firstOf_114 ?_
                  refine lv_lxor hx hb dX0_firstOf_117 ?_
                  refine lv_land hx hb dX0_firstOf_118 ?_
                  refine lv_lstore (lv' := [(7, .long (x7_45 &&& ((x7_45 &&& (pf_X0_placeAt x9_45 ((x_order u) p2.toNatClampNeg) t_37 u)) ^^^ (-1 : Int64)))), (12, .long q_8), (10, .long (x7_45 &&& (pf_X0_placeAt x9_45 ((x_order u) p2.toNatClampNeg) t_37 u))), (9, .int x9_45), (6, .int t_37), (5, .int ((x_order u) p2.toNatClampNeg)), (0, .ref (hs 0)), (1, .long p0), (3, .int p1), (4, .int p2)]) hx hb dX0_firstOf_119 hl (by decide) rfl (fun ls hl => ?_)
                  refine lv_iinc (v := (x9_45 + (1 : Int32))) (lv' := [(9, .int (x9_45 + (1 : Int32))), (7, .long (x7_45 &&& ((x7_45 &&& (pf_X0_placeAt x9_45 ((x_order u) p2.toNatClampNeg) t_37 u)) ^^^ (-1 : Int64)))), (12, .long q_8), (10, .long (x7_45 &&& (pf_X0_placeAt x9_45 ((x_order u) p2.toNatClampNeg) t_37 u))), (6, .int t_37), (5, .int ((x_order u) p2.toNatClampNeg)), (0, .ref (hs 0)), (1, .long p0), (3, .int p1), (4, .int p2)]) hx hb dX0_firstOf_121 hl (k := 3) rfl (congrArg (fun z : Int32 => x9_45 + z) (by decide : Int32.ofInt (1) = (1 : Int32))) (by decide) rfl (fun ls hl => ?_)
                  refine lv_goto (tgt := 45) hx hb dX0_firstOf_124 (by decide) ?_
                  exact ih_45 (x9_45 + (1 : Int32)) (x7_45 &&& ((x7_45 &&& (pf_X0_placeAt x9_45 ((x_order u) p2.toNatClampNeg) t_37 u)) ^^^ (-1 : Int64))) _ _ _ h hP hD hS (lv_sub hl [0, 1, 4, 5, 6, 7, 8, 9] rfl)
                · have c_9 := (fun q => c_9 ((lg_cmp_eq _ _).mpr q))
                  rw [if_neg c_9] at h
                  refine lv_lload hx hb dX0_firstOf_107 (lv_at hl 0 rfl) ?_
                  have e9 := Option.some.inj h
                  exact W.lret (v := q_8) hx hb hr (fun t ht hW => ⟨⟨q_8, u, rfl, ⟨e9, rfl⟩, by rw [ht]; exact hP, va_K.moved hW.alike hK, hD⟩, hS.F ht⟩) hS.2.2 dX0_firstOf_109
        refine lp_45 _ (fun x9_45 x7_45 H locs ls h hP hD hS hl => ?_) fu (0 : Int32) p0 _ _ _ h hP hD hS hl
        refine lv_lconst (v := (0 : Int64)) hx hb dX0_firstOf_127 (by decide) ?_
        have e9 := Option.some.inj h
        exact W.lret (v := (0 : Int64)) hx hb hr (fun t ht hW => ⟨⟨(0 : Int64), u, rfl, ⟨e9, rfl⟩, by rw [ht]; exact hP, va_K.moved hW.alike hK, hD⟩, hS.F ht⟩) hS.2.2 dX0_firstOf_128
      have h := jn_e h
      refine lv_iload hx hb dX0_firstOf_23 (lv_at hl 4 rfl) ?_
      refine lv_aload_n hx hb dX0_firstOf_25 rfl (lv_at hl 1 rfl) ?_
      refine gt_X_neededPacks (V := (x_neededPacks u)) hx hb hts hin0 hown hK hP hf_133 rfl dX0_firstOf_26 ?_
      refine lv_icmp_ge (tgt := 36) hx hb dX0_firstOf_29 (by decide) (fun c_10 => ?_) (fun c_10 => ?_)
      · rw [if_pos c_10] at h
        refine lv_iconst (v := (0 : Int32)) hx hb dX0_firstOf_36 (by decide) ?_
        exact jp_37 (0 : Int32) _ _ _ h hP hD hS (lv_sub hl [0, 1, 2, 3, 4] rfl)
      · rw [if_neg c_10] at h
        refine lv_iconst (v := (1 : Int32)) hx hb dX0_firstOf_32 (by decide) ?_
        refine lv_goto (tgt := 37) hx hb dX0_firstOf_33 (by decide) ?_
        exact jp_37 (1 : Int32) _ _ _ h hP hD hS (lv_sub hl [0, 1, 2, 3, 4] rfl)
    · rw [if_neg c_2] at h
      refine lv_lload_n hx hb dX0_firstOf_12 rfl (lv_at hl 1 rfl) ?_
      have e9 := Option.some.inj h
      exact W.lret (v := p0) hx hb hr (fun t ht hW => ⟨⟨p0, u, rfl, ⟨e9, rfl⟩, by rw [ht]; exact hP, va_K.moved hW.alike hK, hD⟩, hS.F ht⟩) hS.2.2 dX0_firstOf_13
set_option maxHeartbeats 4000000 in
set_option maxRecDepth 100000 in
theorem c_X0_fwk (l : Launch) (dC : Nat → ClassId) (dI : Nat → Nat → Nat) (hs : Nat → Nat) (ka : Nat → ClassId) (fu : Nat) : ∀ (k : Nat) (sz : Nat) (u : XS) (p0 : Int64) (p1 : Int32) (p2 : Int32) (r : Int64) (h : pf_X0_fwk fu k p0 p1 p2 u = some r), Met l yX0_firstWithin wzX0_firstWithin (RMfw k) (va_Pc [.ref (hs 0), .long p0, .int p1, .int p2] (fun U => U.heap.size = sz ∧ va_P (dC, dI) vwCl (cX hs ka u) U.heap ∧ va_K (dC, dI) vwCl (tX ka) U ∧ va_D (fun _ => True) (cX hs ka u))) (va_Ql (fun (r1 : Int64) (u1 : XS) => r1 = r ∧ u1 = u) (aX dC dI (va_A (cX hs ka u) sz) hs ka) (va_A (cX hs ka u) sz)) 0 0 (va_A (cX hs ka u) sz) := by
  intro k
  induction k with
  | zero =>
    intro sz u p0 p1 p2 r h
    exact absurd (show (none : Option (Int64)) = some r from h) (fun q => by cases q)
  | succ k ih =>
    intro sz u p0 p1 p2 r h
    refine Met.ofW (cc := cX0_firstWithin) (maxL := 7) (ret := (some .long)) (by decide) rfl ?_
    intro p e s m args below meth c s₁ B hml hv
    obtain ⟨rfl, hsz, hP, hK, hD0⟩ := hv
    have hx := B.exec
    have hb := B.bytes
    have hr := B.returns
    have hts := atoms_spec (ws := wzX0_firstWithin) B.pre
    have hown : s.vm.findClass RX0 = some m.cls := findClass_of_methodNamed B.named
    have hlocks := B.notSynchronized
    subst hsz
    have hD := hD0.self (sz := s.heap.size)
    generalize hAe : va_A (cX hs ka u) s.heap.size = A at hD ⊢
    have hA : ∀ q : Nat, s.heap.size ≤ q → A q := fun q h => by rw [← hAe]; exact Or.inr h
    have hS : va_S A s.heap s.heap [] := va_S.rf
    have hP : va_P (dC, dI) vwCl (cX hs ka u) s.heap := hP
    clear hD0 hAe
    have hl := lv_entry ([.ref (hs 0), .long p0, .int p1, .int p2]) (n := 7) (Nat.le_of_ble_eq_true rfl)
    rw [lg_entry_eq]
    generalize (lg_sl ([.ref (hs 0), .long p0, .int p1, .int p2]) ++ List.replicate (7 - (lg_sl ([.ref (hs 0), .long p0, .int p1, .int p2])).length) Slot.unset).toArray = ls at hl ⊢
    have hl : lv_has ls 7 [(0, .ref (hs 0)), (1, .long p0), (3, .int p1), (4, .int p2)] := hl
    rw [pf_X0_fwk] at h
    refine lv_aload_n hx hb dX0_firstWithin_0 rfl (lv_at hl 0 rfl) ?_
    refine lv_lload_n hx hb dX0_firstWithin_1 rfl (lv_at hl 1 rfl) ?_
    refine lv_iload_n hx hb dX0_firstWithin_2 rfl (lv_at hl 2 rfl) ?_
    obtain ⟨q_1, hc_1, h⟩ := ob_some h
    have hPc := hP
    have hDc := hD
    have hKc := hK
    have hFc := fr_X hD hS hA
    refine va_calll (va_runV (As := [.long p0, .int p1]) (rest := []) ⟨hx, hb, hml, hown, hts⟩ (c_X0_narrow l dC dI hs ka s.heap.size fu u p0 p1 q_1 hc_1) (cwV 2 hts gX0_firstWithin_X0_narrow rfl rfl rfl (by decide +kernel) ⟨(by show 2 + 1 ≤ 4 + 2 * (k + 1); omega), (by show 8 + (10 + 11) + 50 ≤ 150 + 70 * (k + 1); omega)⟩) ⟨fun a U g mk q => by obtain ⟨q0, q1, qP, qK, qD⟩ := q; exact ⟨q0, q1, qP, va_K.moved (u := U) (U := U.calling g mk a) (Vm.Alike.refl U.vm) qK, qD⟩, rc_X hKc hPc, fun U hU hW => ⟨rfl, by rw [hU], by rw [hU]; exact hPc, va_K.moved hW.alike hKc, hDc.weaken (fun _ _ _ _ => trivial)⟩⟩ rfl rfl hl.1 rfl (lv_room (Nat.le_of_ble_eq_true rfl)) dX0_firstWithin_3 ⟨Nat.zero_le _, Nat.zero_le _⟩) hS (fun q _ h => hFc q h) hFc (fun r_1 u_c1 t H1 locs ht hvm hw hB hz1 hk1 hS => ?_)
    obtain ⟨hw1, hw2⟩ := hw
    subst r_1
    subst u_c1
    obtain ⟨hP1, hK1, hD1⟩ := hB
    rw [ht] at hP1
    obtain ⟨hP, hD⟩ := jw_X hP hD hk1 hFc hP1 hD1
    clear hPc hDc hKc hFc hz1 hk1 hP1 hK1 hD1
    generalize H1 = H at hP hS ⊢
    refine lv_lstore (lv' := [(5, .long q_1), (0, .ref (hs 0)), (1, .long p0), (3, .int p1), (4, .int p2)]) hx hb dX0_firstWithin_6 hl (by decide) rfl (fun ls hl => ?_)
    refine lv_lload hx hb dX0_firstWithin_8 (lv_at hl 0 rfl) ?_
    refine lv_lconst (v := (0 : Int64)) hx hb dX0_firstWithin_10 (by decide) ?_
    refine W.lcmp hx hb dX0_firstWithin_11 ?_
    refine lv_if_ne (tgt := 19) hx hb dX0_firstWithin_12 (by decide) (fun c_2 => ?_) (fun c_2 => ?_)
    · have c_2 := (fun q => c_2 ((lg_cmp_eq _ _).mpr q))
      rw [if_neg c_2] at h
      refine lv_aload_n hx hb dX0_firstWithin_19 rfl (lv_at hl 1 rfl) ?_
      refine lv_lload hx hb dX0_firstWithin_20 (lv_at hl 0 rfl) ?_
      refine lv_iload_n hx hb dX0_firstWithin_22 rfl (lv_at hl 3 rfl) ?_
      refine lv_iload hx hb dX0_firstWithin_23 (lv_at hl 4 rfl) ?_
      obtain ⟨q_3, hc_3, h⟩ := ob_some h
      have hPc := hP
      have hDc := hD
      have hKc := hK
      have hFc := fr_X hD hS hA
      refine va_calll (va_runV (As := [.long q_1, .int p1, .int p2]) (rest := []) ⟨hx, hb, hml, hown, hts⟩ (c_X0_firstOf l dC dI hs ka H.size fu k (pf_X0_fwk fu k) (fun sz u p0 p1 p2 r h => ih sz u p0 p1 p2 r h) u q_1 p1 p2 q_3 hc_3) (cwV 3 hts gX0_firstWithin_X0_firstOf rfl rfl rfl (by decide +kernel) ⟨(by show (5 + 2 * k) + 1 ≤ 4 + 2 * (k + 1); omega), (by show 8 + (14 + 11) + (180 + 70 * k) ≤ 150 + 70 * (k + 1); omega)⟩) ⟨fun a U g mk q => by obtain ⟨q0, q1, qP, qK, qD⟩ := q; exact ⟨q0, q1, qP, va_K.moved (u := U) (U := U.calling g mk a) (Vm.Alike.refl U.vm) qK, qD⟩, rc_X hKc hPc, fun U hU hW => ⟨rfl, by rw [hU], by rw [hU]; exact hPc, va_K.moved hW.alike hKc, hDc.weaken (fun _ _ _ _ => trivial)⟩⟩ rfl rfl hl.1 rfl (lv_room (Nat.le_of_ble_eq_true rfl)) dX0_firstWithin_25 ⟨Nat.zero_le _, Nat.zero_le _⟩) hS (fun q _ h => hFc q h) hFc (fun r_3 u_c3 t H1 locs ht hvm hw hB hz1 hk1 hS => ?_)
      obtain ⟨hw1, hw2⟩ := hw
      subst r_3
      subst u_c3
      obtain ⟨hP1, hK1, hD1⟩ := hB
      rw [ht] at hP1
      obtain ⟨hP, hD⟩ := jw_X hP hD hk1 hFc hP1 hD1
      clear hPc hDc hKc hFc hz1 hk1 hP1 hK1 hD1
      generalize H1 = H at hP hS ⊢
      have e9 := Option.some.inj h
      exact W.lret (v := q_3) hx hb hr (fun t ht hW => ⟨⟨q_3, u, rfl, ⟨e9, rfl⟩, by rw [ht]; exact hP, va_K.moved hW.alike hK, hD⟩, hS.F ht⟩) hS.2.2 dX0_firstWithin_28
    · have c_2 := (lg_cmp_eq _ _).mp c_2
      rw [if_pos c_2] at h
      refine lv_lconst (v := (0 : Int64)) hx hb dX0_firstWithin_15 (by decide) ?_
      refine lv_goto (tgt := 28) hx hb dX0_firstWithin_16 (by decide) ?_
      have e9 := Option.some.inj h
      exact W.lret (v := (0 : Int64)) hx hb hr (fun t ht hW => ⟨⟨(0 : Int64), u, rfl, ⟨e9, rfl⟩, by rw [ht]; exact hP, va_K.moved hW.alike hK, hD⟩, hS.F ht⟩) hS.2.2 dX0_firstWithin_28
theorem c_X0_firstWithin (l : Launch) (dC : Nat → ClassId) (dI : Nat → Nat → Nat) (hs : Nat → Nat) (ka : Nat → ClassId) (sz : Nat) (fu : Nat) (u : XS) (p0 : Int64) (p1 : Int32) (p2 : Int32) (r : Int64) (h : pf_X0_firstWithin fu p0 p1 p2 u = some r) : Met l yX0_firstWithin wzX0_firstWithin (RMfw 9) (va_Pc [.ref (hs 0), .long p0, .int p1, .int p2] (fun U => U.heap.size = sz ∧ va_P (dC, dI) vwCl (cX hs ka u) U.heap ∧ va_K (dC, dI) vwCl (tX ka) U ∧ va_D (fun _ => True) (cX hs ka u))) (va_Ql (fun (r1 : Int64) (u1 : XS) => r1 = r ∧ u1 = u) (aX dC dI (va_A (cX hs ka u) sz) hs ka) (va_A (cX hs ka u) sz)) 0 0 (va_A (cX hs ka u) sz) := c_X0_fwk l dC dI hs ka fu 9 sz u p0 p1 p2 r h
set_option maxHeartbeats 4000000 in
set_option maxRecDepth 100000 in
theorem c_X0_solve (l : Launch) (dC : Nat → ClassId) (dI : Nat → Nat → Nat) (hs : Nat → Nat) (ka : Nat → ClassId) (sz : Nat) (fu : Nat) (u : XS) (r : Int32) (u' : XS) (h : pf_X0_solve fu u = some (r, u')) : Met l yX0_solve wzX0_solve ({ frames := 23, cells := 0, slots := 0, locals := 806 }) (va_Pc [.ref (hs 0)] (fun U => U.heap.size = sz ∧ va_P (dC, dI) vwCl (cX hs ka u) U.heap ∧ va_K (dC, dI) vwCl (tX ka) U ∧ va_D (fun _ => True) (cX hs ka u))) (va_Qi (fun (r1 : Int32) (u1 : XS) => r1 = r ∧ u1 = u') (aX dC dI (va_A (cX hs ka u) sz) hs ka) (va_A (cX hs ka u) sz)) 0 0 (va_A (cX hs ka u) sz) := by
  refine Met.ofW (cc := cX0_solve) (maxL := 1) (ret := (some .int)) (by decide) rfl ?_
  intro p e s m args below meth c s₁ B hml hv
  obtain ⟨rfl, hsz, hP, hK, hD0⟩ := hv
  have hx := B.exec
  have hb := B.bytes
  have hr := B.returns
  have hts := atoms_spec (ws := wzX0_solve) B.pre
  have hown : s.vm.findClass RX0 = some m.cls := findClass_of_methodNamed B.named
  have hlocks := B.notSynchronized
  subst hsz
  have hD := hD0.self (sz := s.heap.size)
  generalize hAe : va_A (cX hs ka u) s.heap.size = A at hD ⊢
  have hA : ∀ q : Nat, s.heap.size ≤ q → A q := fun q h => by rw [← hAe]; exact Or.inr h
  have hS : va_S A s.heap s.heap [] := va_S.rf
  have hP : va_P (dC, dI) vwCl (cX hs ka u) s.heap := hP
  clear hD0 hAe
  have hin0 : ∀ w ∈ u_ws RX0 TX0 14, w ∈ wzX0_solve := fun w h => List.mem_cons_of_mem _ (inTX0 w h)
  have hf_103 := hts (.fieldLink RX0 103 "ConflictSolve" "picked" "J") (List.mem_cons_of_mem _ tz_54)
  have hf_22 := hts (.fieldLink RX0 22 "ConflictSolve" "places" "J") (List.mem_cons_of_mem _ tz_49)
  have hl := lv_entry ([.ref (hs 0)]) (n := 1) (Nat.le_of_ble_eq_true rfl)
  rw [lg_entry_eq]
  generalize (lg_sl ([.ref (hs 0)]) ++ List.replicate (1 - (lg_sl ([.ref (hs 0)])).length) Slot.unset).toArray = ls at hl ⊢
  have hl : lv_has ls 1 [(0, .ref (hs 0))] := hl
  rw [pf_X0_solve] at h
  refine lv_aload_n hx hb dX0_solve_0 rfl (lv_at hl 0 rfl) ?_
  refine lv_aload_n hx hb dX0_solve_1 rfl (lv_at hl 0 rfl) ?_
  refine lv_aload_n hx hb dX0_solve_2 rfl (lv_at hl 0 rfl) ?_
  refine gt_X_places (V := (x_places u)) hx hb hts hin0 hown hK hP hf_22 rfl dX0_solve_3 ?_
  refine lv_aload_n hx hb dX0_solve_6 rfl (lv_at hl 0 rfl) ?_
  have hPc := hP
  have hDc := hD
  have hKc := hK
  have hFc := fr_X hD hS hA
  refine va_calli (va_runV (As := []) (rest := [.long (x_places u), .ref (hs 0), .ref (hs 0)]) ⟨hx, hb, hml, hown, hts⟩ (c_X0_demandsThatCount l dC dI hs ka s.heap.size u _ rfl) (cwV 0 hts gX0_solve_X0_demandsThatCount rfl rfl rfl (by decide +kernel) ⟨Nat.le_of_ble_eq_true rfl, Nat.le_of_ble_eq_true rfl⟩) ⟨fun a U g mk q => by obtain ⟨q0, q1, qP, qK, qD⟩ := q; exact ⟨q0, q1, qP, va_K.moved (u := U) (U := U.calling g mk a) (Vm.Alike.refl U.vm) qK, qD⟩, rc_X hKc hPc, fun U hU hW => ⟨rfl, by rw [hU], by rw [hU]; exact hPc, va_K.moved hW.alike hKc, hDc.weaken (fun _ _ _ _ => trivial)⟩⟩ rfl rfl hl.1 rfl (lv_room (Nat.le_of_ble_eq_true rfl)) dX0_solve_7 ⟨Nat.zero_le _, Nat.zero_le _⟩) hS (fun q _ h => hFc q h) hFc (fun r_1 u_c1 t H1 locs ht hvm hw hB hz1 hk1 hS => ?_)
  obtain ⟨hw1, hw2⟩ := hw
  subst r_1
  subst u_c1
  obtain ⟨hP1, hK1, hD1⟩ := hB
  rw [ht] at hP1
  obtain ⟨hP, hD⟩ := jw_X hP hD hk1 hFc hP1 hD1
  clear hPc hDc hKc hFc hz1 hk1 hP1 hK1 hD1
  generalize H1 = H at hP hS ⊢
  refine lv_iconst (v := (0 : Int32)) hx hb dX0_solve_10 (by decide) ?_
  obtain ⟨q_2, hc_2, h⟩ := ob_some h
  have hPc := hP
  have hDc := hD
  have hKc := hK
  have hFc := fr_X hD hS hA
  refine va_calll (va_runV (As := [.long (x_places u), .int (pf_X0_demandsThatCount u), .int (0 : Int32)]) (rest := [.ref (hs 0)]) ⟨hx, hb, hml, hown, hts⟩ (c_X0_firstWithin l dC dI hs ka H.size fu u (x_places u) (pf_X0_demandsThatCount u) (0 : Int32) q_2 hc_2) (cwV 3 hts gX0_solve_X0_firstWithin rfl rfl rfl (by decide +kernel) ⟨Nat.le_of_ble_eq_true rfl, Nat.le_of_ble_eq_true rfl⟩) ⟨fun a U g mk q => by obtain ⟨q0, q1, qP, qK, qD⟩ := q; exact ⟨q0, q1, qP, va_K.moved (u := U) (U := U.calling g mk a) (Vm.Alike.refl U.vm) qK, qD⟩, rc_X hKc hPc, fun U hU hW => ⟨rfl, by rw [hU], by rw [hU]; exact hPc, va_K.moved hW.alike hKc, hDc.weaken (fun _ _ _ _ => trivial)⟩⟩ rfl rfl hl.1 rfl (lv_room (Nat.le_of_ble_eq_true rfl)) dX0_solve_11 ⟨Nat.zero_le _, Nat.zero_le _⟩) hS (fun q _ h => hFc q h) hFc (fun r_2 u_c2 t H1 locs ht hvm hw hB hz1 hk1 hS => ?_)
  obtain ⟨hw1, hw2⟩ := hw
  subst r_2
  subst u_c2
  obtain ⟨hP1, hK1, hD1⟩ := hB
  rw [ht] at hP1
  obtain ⟨hP, hD⟩ := jw_X hP hD hk1 hFc hP1 hD1
  clear hPc hDc hKc hFc hz1 hk1 hP1 hK1 hD1
  generalize H1 = H at hP hS ⊢
  refine pt_X_picked hx hb hts hin0 hown hK hP hD hS hf_103 dX0_solve_14 (fun H locs hP hD hS => ?_)
  refine lv_aload_n hx hb dX0_solve_17 rfl (lv_at hl 0 rfl) ?_
  refine gt_X_picked (V := q_2) hx hb hts hin0 hown hK hP hf_103 (rq_x_picked_picked u q_2) dX0_solve_18 ?_
  refine lv_lconst (v := (0 : Int64)) hx hb dX0_solve_21 (by decide) ?_
  refine W.lcmp hx hb dX0_solve_22 ?_
  refine lv_if_ne (tgt := 30) hx hb dX0_solve_23 (by decide) (fun c_3 => ?_) (fun c_3 => ?_)
  · have c_3 := (fun q => c_3 ((lg_cmp_eq _ _).mpr q))
    rw [if_neg c_3] at h
    refine lv_iconst (v := (1 : Int32)) hx hb dX0_solve_30 (by decide) ?_
    have e9 := Option.some.inj h
    exact W.iret (v := (1 : Int32)) hx hb hr (fun t ht hW => ⟨⟨(1 : Int32), (xs_picked u q_2), rfl, ⟨congrArg Prod.fst e9, congrArg Prod.snd e9⟩, by rw [ht]; exact hP, va_K.moved hW.alike hK, hD⟩, hS.F ht⟩) hS.2.2 dX0_solve_31
  · have c_3 := (lg_cmp_eq _ _).mp c_3
    rw [if_pos c_3] at h
    refine lv_iconst (v := (0 : Int32)) hx hb dX0_solve_26 (by decide) ?_
    refine lv_goto (tgt := 31) hx hb dX0_solve_27 (by decide) ?_
    have e9 := Option.some.inj h
    exact W.iret (v := (0 : Int32)) hx hb hr (fun t ht hW => ⟨⟨(0 : Int32), (xs_picked u q_2), rfl, ⟨congrArg Prod.fst e9, congrArg Prod.snd e9⟩, by rw [ht]; exact hP, va_K.moved hW.alike hK, hD⟩, hS.F ht⟩) hS.2.2 dX0_solve_31
set_option maxHeartbeats 4000000 in
set_option maxRecDepth 100000 in
theorem c_X0_chosen (l : Launch) (dC : Nat → ClassId) (dI : Nat → Nat → Nat) (hs : Nat → Nat) (ka : Nat → ClassId) (sz : Nat) (fu : Nat) (u : XS) (p0 : Int32) (r : Int32) (h : pf_X0_chosen fu p0 u = some r) : Met l yX0_chosen wzX0_chosen ({ frames := 2, cells := 0, slots := 0, locals := 42 }) (va_Pc [.ref (hs 0), .int p0] (fun U => U.heap.size = sz ∧ va_P (dC, dI) vwCl (cX hs ka u) U.heap ∧ va_K (dC, dI) vwCl (tX ka) U ∧ va_D (fun _ => True) (cX hs ka u))) (va_Qi (fun (r1 : Int32) (u1 : XS) => r1 = r ∧ u1 = u) (aX dC dI (va_A (cX hs ka u) sz) hs ka) (va_A (cX hs ka u) sz)) 0 0 (va_A (cX hs ka u) sz) := by
  refine Met.ofW (cc := cX0_chosen) (maxL := 3) (ret := (some .int)) (by decide) rfl ?_
  intro p e s m args below meth c s₁ B hml hv
  obtain ⟨rfl, hsz, hP, hK, hD0⟩ := hv
  have hx := B.exec
  have hb := B.bytes
  have hr := B.returns
  have hts := atoms_spec (ws := wzX0_chosen) B.pre
  have hown : s.vm.findClass RX0 = some m.cls := findClass_of_methodNamed B.named
  have hlocks := B.notSynchronized
  subst hsz
  have hD := hD0.self (sz := s.heap.size)
  generalize hAe : va_A (cX hs ka u) s.heap.size = A at hD ⊢
  have hA : ∀ q : Nat, s.heap.size ≤ q → A q := fun q h => by rw [← hAe]; exact Or.inr h
  have hS : va_S A s.heap s.heap [] := va_S.rf
  have hP : va_P (dC, dI) vwCl (cX hs ka u) s.heap := hP
  clear hD0 hAe
  have hin0 : ∀ w ∈ u_ws RX0 TX0 14, w ∈ wzX0_chosen := fun w h => List.mem_cons_of_mem _ (inTX0 w h)
  have hf_103 := hts (.fieldLink RX0 103 "ConflictSolve" "picked" "J") (List.mem_cons_of_mem _ tz_54)
  have hl := lv_entry ([.ref (hs 0), .int p0]) (n := 3) (Nat.le_of_ble_eq_true rfl)
  rw [lg_entry_eq]
  generalize (lg_sl ([.ref (hs 0), .int p0]) ++ List.replicate (3 - (lg_sl ([.ref (hs 0), .int p0])).length) Slot.unset).toArray = ls at hl ⊢
  have hl : lv_has ls 3 [(0, .ref (hs 0)), (1, .int p0)] := hl
  rw [pf_X0_chosen] at h
  refine lv_aload_n hx hb dX0_chosen_0 rfl (lv_at hl 0 rfl) ?_
  refine lv_iload_n hx hb dX0_chosen_1 rfl (lv_at hl 1 rfl) ?_
  have hPc := hP
  have hDc := hD
  have hKc := hK
  have hFc := fr_X hD hS hA
  refine va_calli (va_runV (As := [.int p0]) (rest := []) ⟨hx, hb, hml, hown, hts⟩ (c_X0_hasPack l dC dI hs ka s.heap.size u p0 _ rfl) (cwV 1 hts gX0_chosen_X0_hasPack rfl rfl rfl (by decide +kernel) ⟨Nat.le_of_ble_eq_true rfl, Nat.le_of_ble_eq_true rfl⟩) ⟨fun a U g mk q => by obtain ⟨q0, q1, qP, qK, qD⟩ := q; exact ⟨q0, q1, qP, va_K.moved (u := U) (U := U.calling g mk a) (Vm.Alike.refl U.vm) qK, qD⟩, rc_X hKc hPc, fun U hU hW => ⟨rfl, by rw [hU], by rw [hU]; exact hPc, va_K.moved hW.alike hKc, hDc.weaken (fun _ _ _ _ => trivial)⟩⟩ rfl rfl hl.1 rfl (lv_room (Nat.le_of_ble_eq_true rfl)) dX0_chosen_2 ⟨Nat.zero_le _, Nat.zero_le _⟩) hS (fun q _ h => hFc q h) hFc (fun r_1 u_c1 t H1 locs ht hvm hw hB hz1 hk1 hS => ?_)
  obtain ⟨hw1, hw2⟩ := hw
  subst r_1
  subst u_c1
  obtain ⟨hP1, hK1, hD1⟩ := hB
  rw [ht] at hP1
  obtain ⟨hP, hD⟩ := jw_X hP hD hk1 hFc hP1 hD1
  clear hPc hDc hKc hFc hz1 hk1 hP1 hK1 hD1
  generalize H1 = H at hP hS ⊢
  refine lv_if_ne (tgt := 10) hx hb dX0_chosen_5 (by decide) (fun c_2 => ?_) (fun c_2 => ?_)
  · rw [if_neg c_2] at h
    refine lv_iconst (v := (0 : Int32)) hx hb dX0_chosen_10 (by decide) ?_
    refine lv_istore_n (lv' := [(2, .int (0 : Int32)), (0, .ref (hs 0)), (1, .int p0)]) hx hb dX0_chosen_11 rfl hl (by decide) rfl (fun ls hl => ?_)
    have lp_12 : ∀ K_12 : Int32 → Option (Int32), (∀ (x2_12 : Int32) (H : Heap) (locs : List Loc) (ls : Array Slot), K_12 x2_12 = some r → va_P (dC, dI) vwCl (cX hs ka u) H → va_D A (cX hs ka u) → va_S A s.heap H locs → lv_has ls 3 [(2, .int x2_12), (0, .ref (hs 0)), (1, .int p0)] → W p l e (headSpec wzX0_chosen ({ frames := 2, cells := 0, slots := 0, locals := 42 })).room s m ([.ref (hs 0), .int p0] : List Value).toArray below meth c H locs 0 0 (MQ below (va_Qi (fun (r1 : Int32) (u1 : XS) => r1 = r ∧ u1 = u) (aX dC dI A hs ka) A) ([.ref (hs 0), .int p0] : List Value).toArray s 0 0 A) (F0 m 41 ls [])) → ∀ n_12 : Nat, ∀ (x2_12 : Int32) (H : Heap) (locs : List Loc) (ls : Array Slot), pl_X0_chosen_12 fu p0 u K_12 n_12 x2_12 = some r → va_P (dC, dI) vwCl (cX hs ka u) H → va_D A (cX hs ka u) → va_S A s.heap H locs → lv_has ls 3 [(2, .int x2_12), (0, .ref (hs 0)), (1, .int p0)] → W p l e (headSpec wzX0_chosen ({ frames := 2, cells := 0, slots := 0, locals := 42 })).room s m ([.ref (hs 0), .int p0] : List Value).toArray below meth c H locs 0 0 (MQ below (va_Qi (fun (r1 : Int32) (u1 : XS) => r1 = r ∧ u1 = u) (aX dC dI A hs ka) A) ([.ref (hs 0), .int p0] : List Value).toArray s 0 0 A) (F0 m 12 ls []) := by
      intro K_12 hk_12 n_12
      induction n_12 with
      | zero =>
        intro x2_12 H locs ls h
        exact absurd (show (none : Option (Int32)) = some r from h) (fun q => by cases q)
      | succ n_12 ih_12 =>
        intro x2_12 H locs ls h hP hD hS hl
        rw [pl_X0_chosen_12] at h
        refine lv_iload_n hx hb dX0_chosen_12 rfl (lv_at hl 0 rfl) ?_
        refine lv_bipush (v := (6 : Int32)) hx hb dX0_chosen_13 (by decide) ?_
        refine lv_icmp_ge (tgt := 41) hx hb dX0_chosen_15 (by decide) (fun c_3 => ?_) (fun c_3 => ?_)
        · rw [if_pos c_3] at h
          exact hk_12 x2_12 _ _ _ h hP hD hS (lv_sub hl [0, 1, 2] rfl)
        · rw [if_neg c_3] at h
          refine lv_aload_n hx hb dX0_chosen_18 rfl (lv_at hl 1 rfl) ?_
          refine gt_X_picked (V := (x_picked u)) hx hb hts hin0 hown hK hP hf_103 rfl dX0_chosen_19 ?_
          refine lv_iload_n hx hb dX0_chosen_22 rfl (lv_at hl 2 rfl) ?_
          refine lv_iload_n hx hb dX0_chosen_23 rfl (lv_at hl 0 rfl) ?_
          have hPc : va_P (dC, dI) vwCl ([] : va_W) H := hP.sub [] rfl
          have hDc : va_D A ([] : va_W) := hD.sub [] (by decide) rfl
          have hKc := hK.sub (tys' := []) [] rfl
          have hFc := fn_X hD hS hA
          refine va_calll (va_runS (As := [.int p0, .int x2_12]) (rest := [.long (x_picked u)]) ⟨hx, hb, hml, hown, hts⟩ (c_X0_placeOf l dC dI H.size p0 x2_12 _ rfl) (va_cwS 2 hts gX0_chosen_X0_placeOf rfl rfl rfl (by decide +kernel) ⟨Nat.le_of_ble_eq_true rfl, Nat.le_of_ble_eq_true rfl⟩) ⟨fun a U g mk q => by obtain ⟨q0, q1, qP, qK, qD⟩ := q; exact ⟨q0, q1, qP, va_K.moved (u := U) (U := U.calling g mk a) (Vm.Alike.refl U.vm) qK, qD⟩, fun U hU hW => ⟨rfl, by rw [hU], by rw [hU]; exact hPc, va_K.moved hW.alike hKc, hDc.weaken (fun _ _ _ _ => trivial)⟩⟩ rfl rfl hl.1 rfl (lv_room (Nat.le_of_ble_eq_true rfl)) dX0_chosen_24 ⟨Nat.zero_le _, Nat.zero_le _⟩) hS (fun q _ h => hFc q h) hFc (fun r_4 u_c4 t H1 locs ht hvm hw hB hz1 hk1 hS => ?_)
          subst r_4
          obtain ⟨hP1, hK1, hD1⟩ := hB
          rw [ht] at hP1
          obtain ⟨hP, hD⟩ := js_X hP hD hk1 hFc hP1 hD1
          clear hPc hDc hKc hFc hz1 hk1 hP1 hK1 hD1
          generalize H1 = H at hP hS ⊢
          refine lv_land hx hb dX0_chosen_27 ?_
          refine lv_lconst (v := (0 : Int64)) hx hb dX0_chosen_28 (by decide) ?_
          refine W.lcmp hx hb dX0_chosen_29 ?_
          refine lv_if_eq (tgt := 35) hx hb dX0_chosen_30 (by decide) (fun c_5 => ?_) (fun c_5 => ?_)
          · have c_5 := (lg_cmp_eq _ _).mp c_5
            rw [if_pos c_5] at h
            refine lv_iinc (v := (x2_12 + (1 : Int32))) (lv' := [(2, .int (x2_12 + (1 : Int32))), (0, .ref (hs 0)), (1, .int p0)]) hx hb dX0_chosen_35 hl (k := 0) rfl (congrArg (fun z : Int32 => x2_12 + z) (by decide : Int32.ofInt (1) = (1 : Int32))) (by decide) rfl (fun ls hl => ?_)
            refine lv_goto (tgt := 12) hx hb dX0_chosen_38 (by decide) ?_
            exact ih_12 (x2_12 + (1 : Int32)) _ _ _ h hP hD hS (lv_sub hl [0, 1, 2] rfl)
          · have c_5 := (fun q => c_5 ((lg_cmp_eq _ _).mpr q))
            rw [if_neg c_5] at h
            refine lv_iload_n hx hb dX0_chosen_33 rfl (lv_at hl 0 rfl) ?_
            have e9 := Option.some.inj h
            exact W.iret (v := x2_12) hx hb hr (fun t ht hW => ⟨⟨x2_12, u, rfl, ⟨e9, rfl⟩, by rw [ht]; exact hP, va_K.moved hW.alike hK, hD⟩, hS.F ht⟩) hS.2.2 dX0_chosen_34
    refine lp_12 _ (fun x2_12 H locs ls h hP hD hS hl => ?_) fu (0 : Int32) _ _ _ h hP hD hS hl
    refine lv_iconst (v := (-1 : Int32)) hx hb dX0_chosen_41 (by decide) ?_
    have e9 := Option.some.inj h
    exact W.iret (v := (-1 : Int32)) hx hb hr (fun t ht hW => ⟨⟨(-1 : Int32), u, rfl, ⟨e9, rfl⟩, by rw [ht]; exact hP, va_K.moved hW.alike hK, hD⟩, hS.F ht⟩) hS.2.2 dX0_chosen_42
  · rw [if_pos c_2] at h
    refine lv_iconst (v := (-1 : Int32)) hx hb dX0_chosen_8 (by decide) ?_
    have e9 := Option.some.inj h
    exact W.iret (v := (-1 : Int32)) hx hb hr (fun t ht hW => ⟨⟨(-1 : Int32), u, rfl, ⟨e9, rfl⟩, by rw [ht]; exact hP, va_K.moved hW.alike hK, hD⟩, hS.F ht⟩) hS.2.2 dX0_chosen_9
set_option maxHeartbeats 4000000 in
set_option maxRecDepth 100000 in
theorem c_X0_someRightKeeps (l : Launch) (dC : Nat → ClassId) (dI : Nat → Nat → Nat) (hs : Nat → Nat) (ka : Nat → ClassId) (sz : Nat) (fu : Nat) (u : XS) (p0 : Int32) (r : Int32) (h : pf_X0_someRightKeeps fu p0 u = some r) : Met l yX0_someRightKeeps wzX0_someRightKeeps ({ frames := 23, cells := 0, slots := 0, locals := 806 }) (va_Pc [.ref (hs 0), .int p0] (fun U => U.heap.size = sz ∧ va_P (dC, dI) vwCl (cX hs ka u) U.heap ∧ va_K (dC, dI) vwCl (tX ka) U ∧ va_D (fun _ => True) (cX hs ka u))) (va_Qi (fun (r1 : Int32) (u1 : XS) => r1 = r ∧ u1 = u) (aX dC dI (va_A (cX hs ka u) sz) hs ka) (va_A (cX hs ka u) sz)) 0 0 (va_A (cX hs ka u) sz) := by
  refine Met.ofW (cc := cX0_someRightKeeps) (maxL := 2) (ret := (some .boolean)) (by decide) rfl ?_
  intro p e s m args below meth c s₁ B hml hv
  obtain ⟨rfl, hsz, hP, hK, hD0⟩ := hv
  have hx := B.exec
  have hb := B.bytes
  have hr := B.returns
  have hts := atoms_spec (ws := wzX0_someRightKeeps) B.pre
  have hown : s.vm.findClass RX0 = some m.cls := findClass_of_methodNamed B.named
  have hlocks := B.notSynchronized
  subst hsz
  have hD := hD0.self (sz := s.heap.size)
  generalize hAe : va_A (cX hs ka u) s.heap.size = A at hD ⊢
  have hA : ∀ q : Nat, s.heap.size ≤ q → A q := fun q h => by rw [← hAe]; exact Or.inr h
  have hS : va_S A s.heap s.heap [] := va_S.rf
  have hP : va_P (dC, dI) vwCl (cX hs ka u) s.heap := hP
  clear hD0 hAe
  have hin0 : ∀ w ∈ u_ws RX0 TX0 14, w ∈ wzX0_someRightKeeps := fun w h => List.mem_cons_of_mem _ (inTX0 w h)
  have hf_22 := hts (.fieldLink RX0 22 "ConflictSolve" "places" "J") (List.mem_cons_of_mem _ tz_49)
  have hl := lv_entry ([.ref (hs 0), .int p0]) (n := 2) (Nat.le_of_ble_eq_true rfl)
  rw [lg_entry_eq]
  generalize (lg_sl ([.ref (hs 0), .int p0]) ++ List.replicate (2 - (lg_sl ([.ref (hs 0), .int p0])).length) Slot.unset).toArray = ls at hl ⊢
  have hl : lv_has ls 2 [(0, .ref (hs 0)), (1, .int p0)] := hl
  rw [pf_X0_someRightKeeps] at h
  refine lv_aload_n hx hb dX0_someRightKeeps_0 rfl (lv_at hl 0 rfl) ?_
  refine lv_aload_n hx hb dX0_someRightKeeps_1 rfl (lv_at hl 0 rfl) ?_
  refine gt_X_places (V := (x_places u)) hx hb hts hin0 hown hK hP hf_22 rfl dX0_someRightKeeps_2 ?_
  refine lv_iload_n hx hb dX0_someRightKeeps_5 rfl (lv_at hl 1 rfl) ?_
  refine lv_iconst (v := (0 : Int32)) hx hb dX0_someRightKeeps_6 (by decide) ?_
  obtain ⟨q_1, hc_1, h⟩ := ob_some h
  have hPc := hP
  have hDc := hD
  have hKc := hK
  have hFc := fr_X hD hS hA
  refine va_calll (va_runV (As := [.long (x_places u), .int p0, .int (0 : Int32)]) (rest := []) ⟨hx, hb, hml, hown, hts⟩ (c_X0_firstWithin l dC dI hs ka s.heap.size fu u (x_places u) p0 (0 : Int32) q_1 hc_1) (cwV 3 hts gX0_someRightKeeps_X0_firstWithin rfl rfl rfl (by decide +kernel) ⟨Nat.le_of_ble_eq_true rfl, Nat.le_of_ble_eq_true rfl⟩) ⟨fun a U g mk q => by obtain ⟨q0, q1, qP, qK, qD⟩ := q; exact ⟨q0, q1, qP, va_K.moved (u := U) (U := U.calling g mk a) (Vm.Alike.refl U.vm) qK, qD⟩, rc_X hKc hPc, fun U hU hW => ⟨rfl, by rw [hU], by rw [hU]; exact hPc, va_K.moved hW.alike hKc, hDc.weaken (fun _ _ _ _ => trivial)⟩⟩ rfl rfl hl.1 rfl (lv_room (Nat.le_of_ble_eq_true rfl)) dX0_someRightKeeps_7 ⟨Nat.zero_le _, Nat.zero_le _⟩) hS (fun q _ h => hFc q h) hFc (fun r_1 u_c1 t H1 locs ht hvm hw hB hz1 hk1 hS => ?_)
  obtain ⟨hw1, hw2⟩ := hw
  subst r_1
  subst u_c1
  obtain ⟨hP1, hK1, hD1⟩ := hB
  rw [ht] at hP1
  obtain ⟨hP, hD⟩ := jw_X hP hD hk1 hFc hP1 hD1
  clear hPc hDc hKc hFc hz1 hk1 hP1 hK1 hD1
  generalize H1 = H at hP hS ⊢
  refine lv_lconst (v := (0 : Int64)) hx hb dX0_someRightKeeps_10 (by decide) ?_
  refine W.lcmp hx hb dX0_someRightKeeps_11 ?_
  refine lv_if_eq (tgt := 19) hx hb dX0_someRightKeeps_12 (by decide) (fun c_2 => ?_) (fun c_2 => ?_)
  · have c_2 := (lg_cmp_eq _ _).mp c_2
    rw [if_pos c_2] at h
    refine lv_iconst (v := (0 : Int32)) hx hb dX0_someRightKeeps_19 (by decide) ?_
    have e9 := Option.some.inj h
    exact W.zret (v := (0 : Int32)) hx hb hr rfl (fun t ht hW => ⟨⟨(0 : Int32), u, rfl, ⟨e9, rfl⟩, by rw [ht]; exact hP, va_K.moved hW.alike hK, hD⟩, hS.F ht⟩) hS.2.2 dX0_someRightKeeps_20
  · have c_2 := (fun q => c_2 ((lg_cmp_eq _ _).mpr q))
    rw [if_neg c_2] at h
    refine lv_iconst (v := (1 : Int32)) hx hb dX0_someRightKeeps_15 (by decide) ?_
    refine lv_goto (tgt := 20) hx hb dX0_someRightKeeps_16 (by decide) ?_
    have e9 := Option.some.inj h
    exact W.zret (v := (1 : Int32)) hx hb hr rfl (fun t ht hW => ⟨⟨(1 : Int32), u, rfl, ⟨e9, rfl⟩, by rw [ht]; exact hP, va_K.moved hW.alike hK, hD⟩, hS.F ht⟩) hS.2.2 dX0_someRightKeeps_20
