theorem lw_cmp {L i : Nat} (hL : L ≤ 3072) (hi : i ≤ L + 6) : (Int32.ofNat L - (6 : Int32) < nI i) ↔ L < i + 6 := by
  rw [Int32.lt_iff_toInt_lt, nI_toInt (by omega)]
  have h : (Int32.ofNat L - (6 : Int32)).toInt = (L : Int) - 6 := pk_sub_toInt (a := L) (b := 6) (by omega) (by decide)
  rw [h]
  omega
set_option maxHeartbeats 4000000 in
set_option maxRecDepth 100000 in
/-- THE LAW'S LOOP: the two states stand side by side -/
theorem law_loop {p : Program} {l : Launch} {e : Env} {s : State} {m : MethodId} {below : List Frame} {meth : Method} {c : Code} {dC : Nat → ClassId} {dI : Nat → Nat → Nat} {b L : Nat} {xs : Nat → Int32} (hL : L ≤ 3072) (C0 : lw_At p s m meth c b L xs) {fu : Nat} (hfu : 400000000 ≤ fu) (hs gs : Nat → Nat) (ka kb : Nat → ClassId) (hK : va_K (dC, dI) vwCl (tX ka ++ tM kb) s) :
    ∀ (n i : Nat), i ≤ L + 6 → L + 7 ≤ i + n → ∀ (u : XS) (v : MS), Rel u v → ∀ (H : Heap) (locs : List Loc), va_P (dC, dI) vwCl (cX hs ka u ++ cM gs kb v) H → va_D (fun q : Nat => s.heap.size ≤ q) (cX hs ka u ++ cM gs kb v) → va_S (fun q : Nat => s.heap.size ≤ q) s.heap H locs → ∀ (ls : Array Slot), lv_has ls 4 [(0, .ref b), (1, .ref (hs 0)), (2, .ref (gs 0)), (3, .int (nI i))] → W p l e room_1 s m #[Value.ref b] below meth c H locs 21 1589 (lw_Z below #[Value.ref b] s) (F0 m 18 ls []) := by
  obtain ⟨hx, hb, hr, hml, hown, hts, hX, hbl, hlocks, hgv⟩ := id C0
  have hbA : ¬ (fun q : Nat => s.heap.size ≤ q) b := Nat.not_le.mpr hbl
  intro n
  induction n with
  | zero => intro i h1 h2; exact absurd h2 (by omega)
  | succ n ih =>
    intro i hi hin u v hRel H locs hP hD hS ls hl
    refine lv_iload_n hx hb dL_law_18 rfl (lv_at hl 3 rfl) ?_
    refine lv_aload_n hx hb dL_law_19 rfl (lv_at hl 0 rfl) ?_
    refine va_slen hx hb hX hbl hbA hS dL_law_20 ?_
    refine lv_bipush (v := (6 : Int32)) hx hb dL_law_21 (by decide) ?_
    refine lv_isub hx hb dL_law_23 ?_
    refine lv_icmp_gt (tgt := 474) hx hb dL_law_24 (by decide) (fun c1 => ?_) (fun c1 => ?_)
    · refine lv_iconst (v := (1 : Int32)) hx hb dL_law_474 (by decide) ?_
      refine va_forget (fun q hq => hS.2.2 q hq) ?_
      refine W.widen (k := 600000) (n := 7302250) (Nat.le_of_ble_eq_true rfl) (Nat.le_of_ble_eq_true rfl) ?_
      exact lw_ret hx hb hr hlocks dL_law_475
    · have hle : i + 6 ≤ L := by
        have : ¬ L < i + 6 := fun h => c1 ((lw_cmp hL hi).mpr h)
        omega
      have hin0 : vp_in (nI i) L := by exact vp_in_nI (by omega) (by omega)
      have hin1 : vp_in (nI i + (1 : Int32)) L := by rw [show nI i + (1 : Int32) = nI (i + 1) from nI_add i 1]; exact vp_in_nI (by omega) (by omega)
      have hin2 : vp_in (nI i + (2 : Int32)) L := by rw [show nI i + (2 : Int32) = nI (i + 2) from nI_add i 2]; exact vp_in_nI (by omega) (by omega)
      have hin3 : vp_in (nI i + (3 : Int32)) L := by rw [show nI i + (3 : Int32) = nI (i + 3) from nI_add i 3]; exact vp_in_nI (by omega) (by omega)
      have hin4 : vp_in (nI i + (4 : Int32)) L := by rw [show nI i + (4 : Int32) = nI (i + 4) from nI_add i 4]; exact vp_in_nI (by omega) (by omega)
      have hin5 : vp_in (nI i + (5 : Int32)) L := by rw [show nI i + (5 : Int32) = nI (i + 5) from nI_add i 5]; exact vp_in_nI (by omega) (by omega)
      obtain ⟨a0, hxs0⟩ : ∃ a, xs (nI i).toNatClampNeg = a := ⟨_, rfl⟩
      have back : ∀ (u : XS) (v : MS), Rel u v → ∀ (H : Heap) (locs : List Loc) (ls : Array Slot), va_P (dC, dI) vwCl (cX hs ka u ++ cM gs kb v) H → va_D (fun q : Nat => s.heap.size ≤ q) (cX hs ka u ++ cM gs kb v) → va_S (fun q : Nat => s.heap.size ≤ q) s.heap H locs → lv_has ls 4 [(0, .ref b), (1, .ref (hs 0)), (2, .ref (gs 0)), (3, .int (nI i))] → W p l e room_1 s m #[Value.ref b] below meth c H locs 21 1589 (lw_Z below #[Value.ref b] s) (F0 m 468 ls []) := by
        intro u v hRel H locs ls hP hD hS hl
        refine lv_iinc (v := nI (i + 6)) (lv' := [(3, .int (nI (i + 6))), (0, .ref b), (1, .ref (hs 0)), (2, .ref (gs 0))]) hx hb dL_law_468 hl (k := 3) rfl (nI_add i 6) (by decide) rfl (fun ls hl => ?_)
        refine lv_goto (tgt := 18) hx hb dL_law_471 (by decide) ?_
        exact ih (i + 6) (by omega) (by omega) u v hRel H locs hP hD hS ls (lv_sub hl [1, 2, 3, 0] rfl)
      refine lv_aload_n hx hb dL_law_27 rfl (lv_at hl 0 rfl) ?_
      refine lv_iload_n hx hb dL_law_28 rfl (lv_at hl 3 rfl) ?_
      refine va_sld hx hb hX hbl hbA hS hin0 dL_law_29 ?_
      rw [hxs0]
      refine lv_bipush (v := (15 : Int32)) hx hb dL_law_30 (by decide) ?_
      refine lv_iand hx hb dL_law_32 ?_
      obtain ⟨j, hj, ej⟩ := pk_andE a0 (m := 15) 4 (by decide)
      rw [ej]
      clear ej hin0 hxs0
      rcases (show j = 0 ∨ j = 1 ∨ j = 2 ∨ j = 3 ∨ j = 4 ∨ j = 5 ∨ j = 6 ∨ j = 7 ∨ j = 8 ∨ j = 9 ∨ j = 10 ∨ j = 11 ∨ j = 12 ∨ j = 13 ∨ j = 14 ∨ j = 15 by omega) with rfl | rfl | rfl | rfl | rfl | rfl | rfl | rfl | rfl | rfl | rfl | rfl | rfl | rfl | rfl | rfl
      · refine lv_tableIn (tgt := 96) (off := 63) hx hb dL_law_33 (by decide) (by decide) (by decide) (by decide) ?_
        exact lwc_pack C0 hfu hK hin1 rfl hRel hP hD hS hl back
      · refine lv_tableIn (tgt := 119) (off := 86) hx hb dL_law_33 (by decide) (by decide) (by decide) (by decide) ?_
        exact lwc_row C0 hfu hK hin1 rfl hin2 rfl hin3 rfl hin4 rfl hin5 rfl hRel hP hD hS hl back
      · refine lv_tableIn (tgt := 182) (off := 149) hx hb dL_law_33 (by decide) (by decide) (by decide) (by decide) ?_
        exact lwc_demand C0 hfu hK hin1 rfl hin2 rfl hin3 rfl hRel hP hD hS hl back
      · refine lv_tableIn (tgt := 225) (off := 192) hx hb dL_law_33 (by decide) (by decide) (by decide) (by decide) ?_
        exact lwc_or C0 hfu hK hin1 rfl hin2 rfl hRel hP hD hS hl back
      · refine lv_tableIn (tgt := 258) (off := 225) hx hb dL_law_33 (by decide) (by decide) (by decide) (by decide) ?_
        exact lwc_leaveOut C0 hfu hK hin1 rfl hin2 rfl hRel hP hD hS hl back
      · refine lv_tableIn (tgt := 307) (off := 274) hx hb dL_law_33 (by decide) (by decide) (by decide) (by decide) ?_
        exact lwc_lock C0 hfu hK hin1 rfl hin2 rfl hRel hP hD hS hl back
      · refine lv_tableIn (tgt := 340) (off := 307) hx hb dL_law_33 (by decide) (by decide) (by decide) (by decide) ?_
        exact lwc_solve C0 hfu hK  hRel hP hD hS hl back
      · refine lv_tableIn (tgt := 353) (off := 320) hx hb dL_law_33 (by decide) (by decide) (by decide) (by decide) ?_
        exact lwc_chosen C0 hfu hK hin1 rfl hRel hP hD hS hl back
      · refine lv_tableIn (tgt := 376) (off := 343) hx hb dL_law_33 (by decide) (by decide) (by decide) (by decide) ?_
        exact lwc_blame C0 hfu hK  hRel hP hD hS hl back
      · refine lv_tableIn (tgt := 389) (off := 356) hx hb dL_law_33 (by decide) (by decide) (by decide) (by decide) ?_
        exact lwc_blamed C0 hfu hK hin1 rfl hRel hP hD hS hl back
      · refine lv_tableIn (tgt := 412) (off := 379) hx hb dL_law_33 (by decide) (by decide) (by decide) (by decide) ?_
        exact lwc_can C0 hfu hK hin1 rfl hin2 rfl hRel hP hD hS hl back
      · refine lv_tableIn (tgt := 445) (off := 412) hx hb dL_law_33 (by decide) (by decide) (by decide) (by decide) ?_
        exact lwc_must C0 hfu hK hin1 rfl hRel hP hD hS hl back
      · refine lv_tableOut (tgt := 468) hx hb dL_law_33 (by decide) (by decide) ?_
        exact back u v hRel H locs ls hP hD hS hl
      · refine lv_tableOut (tgt := 468) hx hb dL_law_33 (by decide) (by decide) ?_
        exact back u v hRel H locs ls hP hD hS hl
      · refine lv_tableOut (tgt := 468) hx hb dL_law_33 (by decide) (by decide) ?_
        exact back u v hRel H locs ls hP hD hS hl
      · refine lv_tableOut (tgt := 468) hx hb dL_law_33 (by decide) (by decide) ?_
        exact back u v hRel H locs ls hP hD hS hl
