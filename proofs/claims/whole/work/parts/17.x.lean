set_option maxHeartbeats 4000000 in
set_option maxRecDepth 100000 in
theorem c_X0_must (l : Launch) (dC : Nat → ClassId) (dI : Nat → Nat → Nat) (hs : Nat → Nat) (ka : Nat → ClassId) (sz : Nat) (fu : Nat) (u : XS) (p0 : Int32) (r : Int32) (h : pf_X0_must fu p0 u = some r) : Met l yX0_must wzX0_must ({ frames := 24, cells := 0, slots := 0, locals := 830 }) (va_Pc [.ref (hs 0), .int p0] (fun U => U.heap.size = sz ∧ va_P (dC, dI) vwCl (cX hs ka u) U.heap ∧ va_K (dC, dI) vwCl (tX ka) U ∧ va_D (fun _ => True) (cX hs ka u))) (va_Qi (fun (r1 : Int32) (u1 : XS) => r1 = r ∧ u1 = u) (aX dC dI (va_A (cX hs ka u) sz) hs ka) (va_A (cX hs ka u) sz)) 0 0 (va_A (cX hs ka u) sz) := by
  refine Met.ofW (cc := cX0_must) (maxL := 2) (ret := (some .boolean)) (by decide) rfl ?_
  intro p e s m args below meth c s₁ B hml hv
  obtain ⟨rfl, hsz, hP, hK, hD0⟩ := hv
  have hx := B.exec
  have hb := B.bytes
  have hr := B.returns
  have hts := atoms_spec (ws := wzX0_must) B.pre
  have hown : s.vm.findClass RX0 = some m.cls := findClass_of_methodNamed B.named
  have hlocks := B.notSynchronized
  subst hsz
  have hD := hD0.self (sz := s.heap.size)
  generalize hAe : va_A (cX hs ka u) s.heap.size = A at hD ⊢
  have hA : ∀ q : Nat, s.heap.size ≤ q → A q := fun q h => by rw [← hAe]; exact Or.inr h
  have hS : va_S A s.heap s.heap [] := va_S.rf
  have hP : va_P (dC, dI) vwCl (cX hs ka u) s.heap := hP
  clear hD0 hAe
  have hl := lv_entry ([.ref (hs 0), .int p0]) (n := 2) (Nat.le_of_ble_eq_true rfl)
  rw [lg_entry_eq]
  generalize (lg_sl ([.ref (hs 0), .int p0]) ++ List.replicate (2 - (lg_sl ([.ref (hs 0), .int p0])).length) Slot.unset).toArray = ls at hl ⊢
  have hl : lv_has ls 2 [(0, .ref (hs 0)), (1, .int p0)] := hl
  rw [pf_X0_must] at h
  refine lv_aload_n hx hb dX0_must_0 rfl (lv_at hl 0 rfl) ?_
  refine lv_iload_n hx hb dX0_must_1 rfl (lv_at hl 1 rfl) ?_
  have hPc := hP
  have hDc := hD
  have hKc := hK
  have hFc := fr_X hD hS hA
  refine va_calli (va_runV (As := [.int p0]) (rest := []) ⟨hx, hb, hml, hown, hts⟩ (c_X0_hasPack l dC dI hs ka s.heap.size u p0 _ rfl) (cwV 1 hts gX0_must_X0_hasPack rfl rfl rfl (by decide +kernel) ⟨Nat.le_of_ble_eq_true rfl, Nat.le_of_ble_eq_true rfl⟩) ⟨fun a U g mk q => by obtain ⟨q0, q1, qP, qK, qD⟩ := q; exact ⟨q0, q1, qP, va_K.moved (u := U) (U := U.calling g mk a) (Vm.Alike.refl U.vm) qK, qD⟩, rc_X hKc hPc, fun U hU hW => ⟨rfl, by rw [hU], by rw [hU]; exact hPc, va_K.moved hW.alike hKc, hDc.weaken (fun _ _ _ _ => trivial)⟩⟩ rfl rfl hl.1 rfl (lv_room (Nat.le_of_ble_eq_true rfl)) dX0_must_2 ⟨Nat.zero_le _, Nat.zero_le _⟩) hS (fun q _ h => hFc q h) hFc (fun r_1 u_c1 t H1 locs ht hvm hw hB hz1 hk1 hS => ?_)
  obtain ⟨hw1, hw2⟩ := hw
  subst r_1
  subst u_c1
  obtain ⟨hP1, hK1, hD1⟩ := hB
  rw [ht] at hP1
  obtain ⟨hP, hD⟩ := jw_X hP hD hk1 hFc hP1 hD1
  clear hPc hDc hKc hFc hz1 hk1 hP1 hK1 hD1
  generalize H1 = H at hP hS ⊢
  refine lv_if_eq (tgt := 21) hx hb dX0_must_5 (by decide) (fun c_2 => ?_) (fun c_2 => ?_)
  · rw [if_pos c_2] at h
    refine lv_iconst (v := (0 : Int32)) hx hb dX0_must_21 (by decide) ?_
    have e9 := Option.some.inj h
    exact W.zret (v := (0 : Int32)) hx hb hr rfl (fun t ht hW => ⟨⟨(0 : Int32), u, rfl, ⟨e9, rfl⟩, by rw [ht]; exact hP, va_K.moved hW.alike hK, hD⟩, hS.F ht⟩) hS.2.2 dX0_must_22
  · rw [if_neg c_2] at h
    refine lv_aload_n hx hb dX0_must_8 rfl (lv_at hl 0 rfl) ?_
    refine lv_iload_n hx hb dX0_must_9 rfl (lv_at hl 1 rfl) ?_
    refine lv_iconst (v := (-1 : Int32)) hx hb dX0_must_10 (by decide) ?_
    obtain ⟨q_3, hc_3, h⟩ := ob_some h
    have hPc := hP
    have hDc := hD
    have hKc := hK
    have hFc := fr_X hD hS hA
    refine va_calli (va_runV (As := [.int p0, .int (-1 : Int32)]) (rest := []) ⟨hx, hb, hml, hown, hts⟩ (c_X0_someRightGives l dC dI hs ka H.size fu u p0 (-1 : Int32) q_3 hc_3) (cwV 2 hts gX0_must_X0_someRightGives rfl rfl rfl (by decide +kernel) ⟨Nat.le_of_ble_eq_true rfl, Nat.le_of_ble_eq_true rfl⟩) ⟨fun a U g mk q => by obtain ⟨q0, q1, qP, qK, qD⟩ := q; exact ⟨q0, q1, qP, va_K.moved (u := U) (U := U.calling g mk a) (Vm.Alike.refl U.vm) qK, qD⟩, rc_X hKc hPc, fun U hU hW => ⟨rfl, by rw [hU], by rw [hU]; exact hPc, va_K.moved hW.alike hKc, hDc.weaken (fun _ _ _ _ => trivial)⟩⟩ rfl rfl hl.1 rfl (lv_room (Nat.le_of_ble_eq_true rfl)) dX0_must_11 ⟨Nat.zero_le _, Nat.zero_le _⟩) hS (fun q _ h => hFc q h) hFc (fun r_3 u_c3 t H1 locs ht hvm hw hB hz1 hk1 hS => ?_)
    obtain ⟨hw1, hw2⟩ := hw
    subst r_3
    subst u_c3
    obtain ⟨hP1, hK1, hD1⟩ := hB
    rw [ht] at hP1
    obtain ⟨hP, hD⟩ := jw_X hP hD hk1 hFc hP1 hD1
    clear hPc hDc hKc hFc hz1 hk1 hP1 hK1 hD1
    generalize H1 = H at hP hS ⊢
    refine lv_if_ne (tgt := 21) hx hb dX0_must_14 (by decide) (fun c_4 => ?_) (fun c_4 => ?_)
    · rw [if_neg c_4] at h
      refine lv_iconst (v := (0 : Int32)) hx hb dX0_must_21 (by decide) ?_
      have e9 := Option.some.inj h
      exact W.zret (v := (0 : Int32)) hx hb hr rfl (fun t ht hW => ⟨⟨(0 : Int32), u, rfl, ⟨e9, rfl⟩, by rw [ht]; exact hP, va_K.moved hW.alike hK, hD⟩, hS.F ht⟩) hS.2.2 dX0_must_22
    · rw [if_pos c_4] at h
      refine lv_iconst (v := (1 : Int32)) hx hb dX0_must_17 (by decide) ?_
      refine lv_goto (tgt := 22) hx hb dX0_must_18 (by decide) ?_
      have e9 := Option.some.inj h
      exact W.zret (v := (1 : Int32)) hx hb hr rfl (fun t ht hW => ⟨⟨(1 : Int32), u, rfl, ⟨e9, rfl⟩, by rw [ht]; exact hP, va_K.moved hW.alike hK, hD⟩, hS.F ht⟩) hS.2.2 dX0_must_22
