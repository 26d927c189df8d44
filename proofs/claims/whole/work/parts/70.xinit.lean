set_option maxHeartbeats 400000 in
set_option maxRecDepth 100000 in
theorem c_X0_init (l : Launch) (dC : Nat → ClassId) (dI : Nat → Nat → Nat) (h0 : Nat) (sz : Nat) (fu : Nat) (u' : XS) (h : pf_X0_init fu xI0 = some u') : Met l yX0_init wzX0_init ({ frames := 1, cells := 3, slots := 140, locals := 12 }) (va_Pc [.ref h0] (fun U => U.heap.size = sz ∧ va_P (dC, dI) vwCl [(h0, .inr (0, [.null, .null, .null, .int 0, .int 0, .int 0, .int 0, .long 0, .long 0, .int 0, .int 0, .int 0, .long 0, .int 0]))] U.heap ∧ va_K (dC, dI) vwCl [] U ∧ va_D (fun _ => True) [(h0, .inr (0, [.null, .null, .null, .int 0, .int 0, .int 0, .int 0, .long 0, .long 0, .int 0, .int 0, .int 0, .long 0, .int 0]))])) (va_Qv (fun (u1 : XS) => u1 = u') (aXe dC dI (va_A [(h0, .inr (0, [.null, .null, .null, .int 0, .int 0, .int 0, .int 0, .long 0, .long 0, .int 0, .int 0, .int 0, .long 0, .int 0]))] sz) h0) (va_A [(h0, .inr (0, [.null, .null, .null, .int 0, .int 0, .int 0, .int 0, .long 0, .long 0, .int 0, .int 0, .int 0, .long 0, .int 0]))] sz)) 3 140 (va_A [(h0, .inr (0, [.null, .null, .null, .int 0, .int 0, .int 0, .int 0, .long 0, .long 0, .int 0, .int 0, .int 0, .long 0, .int 0]))] sz) := by
  refine Met.ofW (cc := cX0_init) (maxL := 2) (ret := none) (by decide) rfl ?_
  intro p e s m args below meth c s₁ B hml hv
  obtain ⟨rfl, hsz, hP, hK, hD0⟩ := hv
  have hx := B.exec
  have hb := B.bytes
  have hr := B.returns
  have hts := atoms_spec (ws := wzX0_init) B.pre
  have hown : s.vm.findClass RX0 = some m.cls := findClass_of_methodNamed B.named
  have hlocks := B.notSynchronized
  have hin : meth.name = "<init>" := (name_of_methodNamed B.named B.method).1
  subst hsz
  have hD := hD0.self (sz := s.heap.size)
  generalize hAe : va_A [(h0, .inr (0, [.null, .null, .null, .int 0, .int 0, .int 0, .int 0, .long 0, .long 0, .int 0, .int 0, .int 0, .long 0, .int 0]))] s.heap.size = A at hD ⊢
  have hA : ∀ q : Nat, s.heap.size ≤ q → A q := fun q h => by rw [← hAe]; exact Or.inr h
  have hS : va_S A s.heap s.heap [] := va_S.rf
  have hP : va_P (dC, dI) vwCl [(h0, .inr (0, [.null, .null, .null, .int 0, .int 0, .int 0, .int 0, .long 0, .long 0, .int 0, .int 0, .int 0, .long 0, .int 0]))] s.heap := hP
  clear hD0 hAe
  have hin0 : ∀ w ∈ u_ws RX0 TX0 14, w ∈ wzX0_init := fun w h => List.mem_cons_of_mem _ (inTX0 w h)
  have hf_13 := hts (.fieldLink RX0 13 "ConflictSolve" "demandRules" "[J") (List.mem_cons_of_mem _ tz_43)
  have hf_16 := hts (.fieldLink RX0 16 "ConflictSolve" "order" "[I") (List.mem_cons_of_mem _ tz_44)
  have hf_22 := hts (.fieldLink RX0 22 "ConflictSolve" "places" "J") (List.mem_cons_of_mem _ tz_49)
  have hf_9 := hts (.fieldLink RX0 9 "ConflictSolve" "rowRules" "[J") (List.mem_cons_of_mem _ tz_42)
  have hl := lv_entry ([.ref h0]) (n := 2) (Nat.le_of_ble_eq_true rfl)
  rw [lg_entry_eq]
  generalize (lg_sl ([.ref h0]) ++ List.replicate (2 - (lg_sl ([.ref h0])).length) Slot.unset).toArray = ls at hl ⊢
  have hl : lv_has ls 2 [(0, .ref h0)] := hl
  refine lv_aload_n hx hb dX0_init_0 rfl (lv_at hl 0 rfl) ?_
  refine W.objInit hx hb hown (hts (.methodLink RX0 1 objectInit) (List.mem_cons_of_mem _ tz_38)) (hts (.instanceMethod objectInit) (List.mem_cons_of_mem _ tz_39)) (hts (.code objectInit ⟨#[0xb1]⟩ 1 none) (List.mem_cons_of_mem _ tz_40)) rfl (by rw [hml]; exact hl.1) rfl dX0_init_1 (Nat.le_of_ble_eq_true rfl) (Nat.le_of_ble_eq_true rfl) ?_
  refine W.eq (g2 := F0 m 4 ls []) rfl ?_
  refine lv_aload_n hx hb dX0_init_4 rfl (lv_at hl 0 rfl) ?_
  refine lv_bipush (v := (120 : Int32)) hx hb dX0_init_5 (by decide) ?_
  refine va_newa (atype := .long) (ty := .long) (N' := 120) (a0 := (120, .inr (.inl (fun _ => 0)))) hx hb (hts (.arrayClass .long) (List.mem_cons_of_mem _ tz_85)) rfl hK hP hD hS hA (fun _ => rfl) (by decide) (by decide) (by decide) (Nat.le_of_ble_eq_true rfl) (Nat.le_of_ble_eq_true rfl) dX0_init_7 (fun qa1 ca1 H hK hP hD hS => ?_)
  have hP : va_P (dC, dI) vwCl [(h0, .inr (0, [.null, .null, .null, .int 0, .int 0, .int 0, .int 0, .long 0, .long 0, .int 0, .int 0, .int 0, .long 0, .int 0])), (qa1, .inl (ca1, 120, .inr (.inl (fun _ => 0))))] H := hP
  have hD : va_D A [(h0, .inr (0, [.null, .null, .null, .int 0, .int 0, .int 0, .int 0, .long 0, .long 0, .int 0, .int 0, .int 0, .long 0, .int 0])), (qa1, .inl (ca1, 120, .inr (.inl (fun _ => 0))))] := hD
  have hK : va_K (dC, dI) vwCl [(ca1, .long)] s := hK
  refine W.widen (k := 1) (n := 120) (by decide) (by decide) ?_
  refine va_putF (D := (dC, dI)) (ci := 0) (v := .ref qa1) (ty := .array .long) (C := RX0) (T := TX0) (N := 14) hx hb hts hin0 tyX0 tyX0_ok nmX0 hown hK hP hD hS 0 rfl rfl 0 (by decide) hf_9 (fun _ h9 => h9) rfl hin rfl (by decide +kernel) rfl rfl (Nat.le_of_ble_eq_true rfl) dX0_init_9 (fun H locs hP hD hS => ?_)
  have hP : va_P (dC, dI) vwCl [(h0, .inr (0, [.ref qa1, .null, .null, .int 0, .int 0, .int 0, .int 0, .long 0, .long 0, .int 0, .int 0, .int 0, .long 0, .int 0])), (qa1, .inl (ca1, 120, .inr (.inl (fun _ => 0))))] H := hP
  have hD : va_D A [(h0, .inr (0, [.ref qa1, .null, .null, .int 0, .int 0, .int 0, .int 0, .long 0, .long 0, .int 0, .int 0, .int 0, .long 0, .int 0])), (qa1, .inl (ca1, 120, .inr (.inl (fun _ => 0))))] := hD
  refine lv_aload_n hx hb dX0_init_12 rfl (lv_at hl 0 rfl) ?_
  refine lv_bipush (v := (12 : Int32)) hx hb dX0_init_13 (by decide) ?_
  refine va_newa (atype := .long) (ty := .long) (N' := 12) (a0 := (12, .inr (.inl (fun _ => 0)))) hx hb (hts (.arrayClass .long) (List.mem_cons_of_mem _ tz_85)) rfl hK hP hD hS hA (fun _ => rfl) (by decide) (by decide) (by decide) (Nat.le_of_ble_eq_true rfl) (Nat.le_of_ble_eq_true rfl) dX0_init_15 (fun qa2 ca2 H hK hP hD hS => ?_)
  have hP : va_P (dC, dI) vwCl [(h0, .inr (0, [.ref qa1, .null, .null, .int 0, .int 0, .int 0, .int 0, .long 0, .long 0, .int 0, .int 0, .int 0, .long 0, .int 0])), (qa1, .inl (ca1, 120, .inr (.inl (fun _ => 0)))), (qa2, .inl (ca2, 12, .inr (.inl (fun _ => 0))))] H := hP
  have hD : va_D A [(h0, .inr (0, [.ref qa1, .null, .null, .int 0, .int 0, .int 0, .int 0, .long 0, .long 0, .int 0, .int 0, .int 0, .long 0, .int 0])), (qa1, .inl (ca1, 120, .inr (.inl (fun _ => 0)))), (qa2, .inl (ca2, 12, .inr (.inl (fun _ => 0))))] := hD
  have hK : va_K (dC, dI) vwCl [(ca1, .long), (ca2, .long)] s := hK
  refine W.widen (k := 2) (n := 132) (by decide) (by decide) ?_
  refine va_putF (D := (dC, dI)) (ci := 0) (v := .ref qa2) (ty := .array .long) (C := RX0) (T := TX0) (N := 14) hx hb hts hin0 tyX0 tyX0_ok nmX0 hown hK hP hD hS 0 rfl rfl 1 (by decide) hf_13 (fun _ h9 => h9) rfl hin rfl (by decide +kernel) rfl rfl (Nat.le_of_ble_eq_true rfl) dX0_init_17 (fun H locs hP hD hS => ?_)
  have hP : va_P (dC, dI) vwCl [(h0, .inr (0, [.ref qa1, .ref qa2, .null, .int 0, .int 0, .int 0, .int 0, .long 0, .long 0, .int 0, .int 0, .int 0, .long 0, .int 0])), (qa1, .inl (ca1, 120, .inr (.inl (fun _ => 0)))), (qa2, .inl (ca2, 12, .inr (.inl (fun _ => 0))))] H := hP
  have hD : va_D A [(h0, .inr (0, [.ref qa1, .ref qa2, .null, .int 0, .int 0, .int 0, .int 0, .long 0, .long 0, .int 0, .int 0, .int 0, .long 0, .int 0])), (qa1, .inl (ca1, 120, .inr (.inl (fun _ => 0)))), (qa2, .inl (ca2, 12, .inr (.inl (fun _ => 0))))] := hD
  refine lv_aload_n hx hb dX0_init_20 rfl (lv_at hl 0 rfl) ?_
  refine lv_bipush (v := (8 : Int32)) hx hb dX0_init_21 (by decide) ?_
  refine va_newa (atype := .int) (ty := .int) (N' := 8) (a0 := (8, .inl (fun _ => 0))) hx hb (hts (.arrayClass .int) (List.mem_cons_of_mem _ tz_86)) rfl hK hP hD hS hA (fun _ => rfl) (by decide) (by decide) (by decide) (Nat.le_of_ble_eq_true rfl) (Nat.le_of_ble_eq_true rfl) dX0_init_23 (fun qa3 ca3 H hK hP hD hS => ?_)
  have hP : va_P (dC, dI) vwCl [(h0, .inr (0, [.ref qa1, .ref qa2, .null, .int 0, .int 0, .int 0, .int 0, .long 0, .long 0, .int 0, .int 0, .int 0, .long 0, .int 0])), (qa1, .inl (ca1, 120, .inr (.inl (fun _ => 0)))), (qa2, .inl (ca2, 12, .inr (.inl (fun _ => 0)))), (qa3, .inl (ca3, 8, .inl (fun _ => 0)))] H := hP
  have hD : va_D A [(h0, .inr (0, [.ref qa1, .ref qa2, .null, .int 0, .int 0, .int 0, .int 0, .long 0, .long 0, .int 0, .int 0, .int 0, .long 0, .int 0])), (qa1, .inl (ca1, 120, .inr (.inl (fun _ => 0)))), (qa2, .inl (ca2, 12, .inr (.inl (fun _ => 0)))), (qa3, .inl (ca3, 8, .inl (fun _ => 0)))] := hD
  have hK : va_K (dC, dI) vwCl [(ca1, .long), (ca2, .long), (ca3, .int)] s := hK
  refine W.widen (k := 3) (n := 140) (by decide) (by decide) ?_
  refine va_putF (D := (dC, dI)) (ci := 0) (v := .ref qa3) (ty := .array .int) (C := RX0) (T := TX0) (N := 14) hx hb hts hin0 tyX0 tyX0_ok nmX0 hown hK hP hD hS 0 rfl rfl 2 (by decide) hf_16 (fun _ h9 => h9) rfl hin rfl (by decide +kernel) rfl rfl (Nat.le_of_ble_eq_true rfl) dX0_init_25 (fun H locs hP hD hS => ?_)
  have hP : va_P (dC, dI) vwCl [(h0, .inr (0, [.ref qa1, .ref qa2, .ref qa3, .int 0, .int 0, .int 0, .int 0, .long 0, .long 0, .int 0, .int 0, .int 0, .long 0, .int 0])), (qa1, .inl (ca1, 120, .inr (.inl (fun _ => 0)))), (qa2, .inl (ca2, 12, .inr (.inl (fun _ => 0)))), (qa3, .inl (ca3, 8, .inl (fun _ => 0)))] H := hP
  have hD : va_D A [(h0, .inr (0, [.ref qa1, .ref qa2, .ref qa3, .int 0, .int 0, .int 0, .int 0, .long 0, .long 0, .int 0, .int 0, .int 0, .long 0, .int 0])), (qa1, .inl (ca1, 120, .inr (.inl (fun _ => 0)))), (qa2, .inl (ca2, 12, .inr (.inl (fun _ => 0)))), (qa3, .inl (ca3, 8, .inl (fun _ => 0)))] := hD
  obtain ⟨hs, eh0, eh1, eh2, eh3⟩ : ∃ hs : Nat → Nat, hs 0 = h0 ∧ hs 1 = qa1 ∧ hs 2 = qa2 ∧ hs 3 = qa3 := ⟨fun k => match k with | 0 => h0 | 1 => qa1 | 2 => qa2 | _ => qa3, rfl, rfl, rfl, rfl⟩
  obtain ⟨ka, ek1, ek2, ek3⟩ : ∃ ka : Nat → ClassId, ka 1 = ca1 ∧ ka 2 = ca2 ∧ ka 3 = ca3 := ⟨fun k => match k with | 1 => ca1 | 2 => ca2 | _ => ca3, rfl, rfl, rfl⟩
  subst eh0
  subst eh1
  subst eh2
  subst eh3
  subst ek1
  subst ek2
  subst ek3
  have hP : va_P (dC, dI) vwCl (cX hs ka xI0) H := hP
  have hD : va_D A (cX hs ka xI0) := hD
  have hK : va_K (dC, dI) vwCl (tX ka) s := hK
  generalize hu0 : xI0 = u at h hP hD
  rw [pf_X0_init] at h
  refine lv_aload_n hx hb dX0_init_28 rfl (lv_at hl 0 rfl) ?_
  refine lv_ldc2 (v := (4629771061636907072 : Int64)) hx hb hown (hts (.constantLong RX0 20 (4629771061636907072)) (List.mem_cons_of_mem _ tz_41)) dX0_init_29 ?_
  refine pt_X_places hx hb hts hin0 hown hK hP hD hS hf_22 dX0_init_32 (fun H locs hP hD hS => ?_)
  refine lv_iconst (v := (0 : Int32)) hx hb dX0_init_35 (by decide) ?_
  refine lv_istore_n (lv' := [(1, .int (0 : Int32)), (0, .ref (hs 0))]) hx hb dX0_init_36 rfl hl (by decide) rfl (fun ls hl => ?_)
  have lp_37 : ∀ K_37 : Int32 → XS → Option (XS), (∀ (x1_37 : Int32) (u_37 : XS) (H : Heap) (locs : List Loc) (ls : Array Slot), K_37 x1_37 u_37 = some u' → va_P (dC, dI) vwCl (cX hs ka u_37) H → va_D A (cX hs ka u_37) → va_S A s.heap H locs → lv_has ls 2 [(1, .int x1_37), (0, .ref (hs 0))] → W p l e (headSpec wzX0_init ({ frames := 1, cells := 3, slots := 140, locals := 12 })).room s m ([.ref (hs 0)] : List Value).toArray below meth c H locs 3 140 (MQ below (va_Qv (fun (u1 : XS) => u1 = u') (aXe dC dI A (hs 0)) A) ([.ref (hs 0)] : List Value).toArray s 3 140 A) (F0 m 56 ls [])) → ∀ n_37 : Nat, ∀ (x1_37 : Int32) (u_37 : XS) (H : Heap) (locs : List Loc) (ls : Array Slot), pl_X0_init_37 fu K_37 n_37 x1_37 u_37 = some u' → va_P (dC, dI) vwCl (cX hs ka u_37) H → va_D A (cX hs ka u_37) → va_S A s.heap H locs → lv_has ls 2 [(1, .int x1_37), (0, .ref (hs 0))] → W p l e (headSpec wzX0_init ({ frames := 1, cells := 3, slots := 140, locals := 12 })).room s m ([.ref (hs 0)] : List Value).toArray below meth c H locs 3 140 (MQ below (va_Qv (fun (u1 : XS) => u1 = u') (aXe dC dI A (hs 0)) A) ([.ref (hs 0)] : List Value).toArray s 3 140 A) (F0 m 37 ls []) := by
    intro K_37 hk_37 n_37
    induction n_37 with
    | zero =>
      intro x1_37 u_37 H locs ls h
      exact absurd (show (none : Option (XS)) = some u' from h) (fun q => by cases q)
    | succ n_37 ih_37 =>
      intro x1_37 u_37 H locs ls h hP hD hS hl
      rw [pl_X0_init_37] at h
      refine lv_iload_n hx hb dX0_init_37 rfl (lv_at hl 0 rfl) ?_
      refine lv_bipush (v := (8 : Int32)) hx hb dX0_init_38 (by decide) ?_
      refine lv_icmp_ge (tgt := 56) hx hb dX0_init_40 (by decide) (fun c_1 => ?_) (fun c_1 => ?_)
      · rw [if_pos c_1] at h
        exact hk_37 x1_37 u_37 _ _ _ h hP hD hS (lv_sub hl [0, 1] rfl)
      · rw [if_neg c_1] at h
        refine lv_aload_n hx hb dX0_init_43 rfl (lv_at hl 1 rfl) ?_
        refine gt_X_order hx hb hts hin0 hown hK hP hf_16 dX0_init_44 ?_
        refine lv_iload_n hx hb dX0_init_47 rfl (lv_at hl 0 rfl) ?_
        refine lv_iload_n hx hb dX0_init_48 rfl (lv_at hl 0 rfl) ?_
        obtain ⟨g_2, h⟩ := og_some h
        refine sr_X_order (F := (x_order u_37)) hx hb hK hP hD hS rfl (inb_in g_2) dX0_init_49 (fun H locs hP hD hS => ?_)
        refine lv_iinc (v := (x1_37 + (1 : Int32))) (lv' := [(1, .int (x1_37 + (1 : Int32))), (0, .ref (hs 0))]) hx hb dX0_init_50 hl (k := 0) rfl (congrArg (fun z : Int32 => x1_37 + z) (by decide : Int32.ofInt (1) = (1 : Int32))) (by decide) rfl (fun ls hl => ?_)
        refine lv_goto (tgt := 37) hx hb dX0_init_53 (by decide) ?_
        exact ih_37 (x1_37 + (1 : Int32)) (xs_order u_37 (upd (x_order u_37) x1_37.toNatClampNeg x1_37)) _ _ _ h hP hD hS (lv_sub hl [0, 1] rfl)
  refine lp_37 _ (fun x1_37 u_37 H locs ls h hP hD hS hl => ?_) fu (0 : Int32) (xs_places u (4629771061636907072 : Int64)) _ _ _ h hP hD hS hl
  have e9 := Option.some.inj h
  exact W.vret hx hb hr (fun t ht hW => ⟨⟨u_37, rfl, e9, hs, ka, rfl, by rw [ht]; exact hP, va_K.moved hW.alike hK, hD⟩, hS.F ht⟩) hS.2.2 dX0_init_56
