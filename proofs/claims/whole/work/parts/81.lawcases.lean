set_option maxHeartbeats 2000000 in
set_option maxRecDepth 100000 in
theorem lwc_pack {p : Program} {l : Launch} {e : Env} {s : State} {m : MethodId} {below : List Frame} {meth : Method} {c : Code} {dC : Nat → ClassId} {dI : Nat → Nat → Nat} {b L : Nat} {xs : Nat → Int32} (C0 : lw_At p s m meth c b L xs) {fu : Nat} (hfu : 400000000 ≤ fu) {hs gs : Nat → Nat} {ka kb : Nat → ClassId} (hK : va_K (dC, dI) vwCl (tX ka ++ tM kb) s) {i : Nat} {a1 : Int32} (hin1 : vp_in (nI i + (1 : Int32)) L) (hxs1 : xs (nI i + (1 : Int32)).toNatClampNeg = a1) {u : XS} {v : MS} (hRel : Rel u v) {H : Heap} {locs : List Loc} {ls : Array Slot} (hP : va_P (dC, dI) vwCl (cX hs ka u ++ cM gs kb v) H) (hD : va_D (fun q : Nat => s.heap.size ≤ q) (cX hs ka u ++ cM gs kb v)) (hS : va_S (fun q : Nat => s.heap.size ≤ q) s.heap H locs) (hl : lv_has ls 4 [(0, .ref b), (1, .ref (hs 0)), (2, .ref (gs 0)), (3, .int (nI i))])
    (back : ∀ (u : XS) (v : MS), Rel u v → ∀ (H : Heap) (locs : List Loc) (ls : Array Slot), va_P (dC, dI) vwCl (cX hs ka u ++ cM gs kb v) H → va_D (fun q : Nat => s.heap.size ≤ q) (cX hs ka u ++ cM gs kb v) → va_S (fun q : Nat => s.heap.size ≤ q) s.heap H locs → lv_has ls 4 [(0, .ref b), (1, .ref (hs 0)), (2, .ref (gs 0)), (3, .int (nI i))] → W p l e room_1 s m #[Value.ref b] below meth c H locs 21 1589 (lw_Z below #[Value.ref b] s) (F0 m 468 ls [])) : W p l e room_1 s m #[Value.ref b] below meth c H locs 21 1589 (lw_Z below #[Value.ref b] s) (F0 m 96 ls []) := by
  obtain ⟨hx, hb, hr, hml, hown0, hts, hX, hbl, hlocks, hgv⟩ := C0
  have hown : s.vm.findClass RL = some m.cls := hown0
  have hA : ∀ q : Nat, s.heap.size ≤ q → (fun q : Nat => s.heap.size ≤ q) q := fun _ h => h
  have hbA : ¬ (fun q : Nat => s.heap.size ≤ q) b := Nat.not_le.mpr hbl
  obtain ⟨r, u', v', e1, e2, hR⟩ := pack_step (fu := fu) hRel a1
  refine lv_aload_n hx hb dL_law_96 rfl (lv_at hl 1 rfl) ?_
  refine lv_aload_n hx hb dL_law_97 rfl (lv_at hl 0 rfl) ?_
  refine lv_iload_n hx hb dL_law_98 rfl (lv_at hl 3 rfl) ?_
  refine lv_iconst (v := (1 : Int32)) hx hb dL_law_99 (by decide) ?_
  refine lv_iadd hx hb dL_law_100 ?_
  refine va_sld hx hb hX hbl hbA hS hin1 dL_law_101 ?_
  rw [hxs1]
  have hPc : va_P (dC, dI) vwCl (cX hs ka u) H := hP.sub [0, 1, 2, 3] (fsXM_x hs gs ka kb u v)
  have hDc : va_D (fun q : Nat => s.heap.size ≤ q) (cX hs ka u) := hD.sub [0, 1, 2, 3] (by decide) (sXM_x hs gs ka kb u v)
  have hKc : va_K (dC, dI) vwCl (tX ka) s := hK.sub [0, 1, 2] (sK_x ka kb)
  have hFc := va_free (wc := (cX hs ka u)) hD hS hA [0, 1, 2, 3] (sXM_x hs gs ka kb u v)
  refine va_calli (va_runV (As := [.int a1]) (rest := []) ⟨hx, hb, hml, hown, hts⟩ (c_X0_pack l dC dI hs ka H.size fu u a1 r u' e1) (cwV 1 hts gL_law_X0_pack rfl rfl rfl (by decide +kernel) ⟨Nat.le_of_ble_eq_true rfl, Nat.le_of_ble_eq_true rfl⟩) ⟨fun a U g mk q => by obtain ⟨q0, q1, qP, qK, qD⟩ := q; exact ⟨q0, q1, qP, va_K.moved (u := U) (U := U.calling g mk a) (Vm.Alike.refl U.vm) qK, qD⟩, rc_X hKc hPc, fun U hU hW => ⟨rfl, by rw [hU], by rw [hU]; exact hPc, va_K.moved hW.alike hKc, hDc.weaken (fun _ _ _ _ => trivial)⟩⟩ rfl rfl hl.1 rfl (lv_room (Nat.le_of_ble_eq_true rfl)) dL_law_102 ⟨Nat.le_of_ble_eq_true rfl, Nat.le_of_ble_eq_true rfl⟩) hS (fun q _ h => hFc q h) hFc (fun r_c u_c t H1 locs ht hvm hw hB hz1 hk1 hS => ?_)
  obtain ⟨hw1, hw2⟩ := hw
  subst r_c
  subst u_c
  obtain ⟨hP1, hK1, hD1⟩ := hB
  rw [ht] at hP1
  obtain ⟨hP, hD⟩ := va_join (wc := (cX hs ka u)) (wr := (cM gs kb v)) (w1 := (cX hs ka u')) hP hD [0, 1, 2, 3] [4, 5, 6, 7, 8, 9, 10, 11, 12, 13, 14, 15, 16, 17, 18, 19, 20] (sXM_x hs gs ka kb u v) (sXM_m hs gs ka kb u v) (by decide) (by decide) hk1 hFc hP1 hD1
  clear hPc hDc hKc hFc hz1 hk1 hP1 hK1 hD1 ht hvm
  generalize H1 = H at hP hS ⊢
  refine lv_aload_n hx hb dL_law_105 rfl (lv_at hl 2 rfl) ?_
  refine lv_aload_n hx hb dL_law_106 rfl (lv_at hl 0 rfl) ?_
  refine lv_iload_n hx hb dL_law_107 rfl (lv_at hl 3 rfl) ?_
  refine lv_iconst (v := (1 : Int32)) hx hb dL_law_108 (by decide) ?_
  refine lv_iadd hx hb dL_law_109 ?_
  refine va_sld hx hb hX hbl hbA hS hin1 dL_law_110 ?_
  rw [hxs1]
  have hPc : va_P (dC, dI) vwCl (cM gs kb v) H := hP.sub [0, 1, 2, 3, 4, 5, 6, 7, 8, 9, 10, 11, 12, 13, 14, 15, 16] (fsMX_m hs gs ka kb u' v)
  have hDc : va_D (fun q : Nat => s.heap.size ≤ q) (cM gs kb v) := hD.sub [0, 1, 2, 3, 4, 5, 6, 7, 8, 9, 10, 11, 12, 13, 14, 15, 16] (by decide) (sMX_m hs gs ka kb u' v)
  have hKc : va_K (dC, dI) vwCl (tM kb) s := hK.sub [3, 4, 5, 6, 7, 8, 9, 10, 11, 12, 13, 14, 15, 16, 17, 18] (sK_m ka kb)
  have hFc := va_free (wc := (cM gs kb v)) hD hS hA [0, 1, 2, 3, 4, 5, 6, 7, 8, 9, 10, 11, 12, 13, 14, 15, 16] (sMX_m hs gs ka kb u' v)
  refine va_calli (va_runV (As := [.int a1]) (rest := [.int r]) ⟨hx, hb, hml, hown, hts⟩ (c_X1_pack l dC dI gs kb H.size fu v a1 r v' e2) (cwV 1 hts gL_law_X1_pack rfl rfl rfl (by decide +kernel) ⟨Nat.le_of_ble_eq_true rfl, Nat.le_of_ble_eq_true rfl⟩) ⟨fun a U g mk q => by obtain ⟨q0, q1, qP, qK, qD⟩ := q; exact ⟨q0, q1, qP, va_K.moved (u := U) (U := U.calling g mk a) (Vm.Alike.refl U.vm) qK, qD⟩, rc_M hKc hPc, fun U hU hW => ⟨rfl, by rw [hU], by rw [hU]; exact hPc, va_K.moved hW.alike hKc, hDc.weaken (fun _ _ _ _ => trivial)⟩⟩ rfl rfl hl.1 rfl (lv_room (Nat.le_of_ble_eq_true rfl)) dL_law_111 ⟨Nat.le_of_ble_eq_true rfl, Nat.le_of_ble_eq_true rfl⟩) hS (fun q _ h => hFc q h) hFc (fun r_c u_c t H1 locs ht hvm hw hB hz1 hk1 hS => ?_)
  obtain ⟨hw1, hw2⟩ := hw
  subst r_c
  subst u_c
  obtain ⟨hP1, hK1, hD1⟩ := hB
  rw [ht] at hP1
  obtain ⟨hP, hD⟩ := va_join (wc := (cM gs kb v)) (wr := (cX hs ka u')) (w1 := (cM gs kb v')) hP hD [0, 1, 2, 3, 4, 5, 6, 7, 8, 9, 10, 11, 12, 13, 14, 15, 16] [17, 18, 19, 20] (sMX_m hs gs ka kb u' v) (sMX_x hs gs ka kb u' v) (by decide) (by decide) hk1 hFc hP1 hD1
  clear hPc hDc hKc hFc hz1 hk1 hP1 hK1 hD1 ht hvm
  generalize H1 = H at hP hS ⊢
  refine lv_icmp_eq (tgt := 468) hx hb dL_law_114 (by decide) (fun _ => ?_) (fun c9 => absurd rfl c9)
  exact back u' v' hR H locs ls hP hD hS hl
set_option maxHeartbeats 2000000 in
set_option maxRecDepth 100000 in
theorem lwc_row {p : Program} {l : Launch} {e : Env} {s : State} {m : MethodId} {below : List Frame} {meth : Method} {c : Code} {dC : Nat → ClassId} {dI : Nat → Nat → Nat} {b L : Nat} {xs : Nat → Int32} (C0 : lw_At p s m meth c b L xs) {fu : Nat} (hfu : 400000000 ≤ fu) {hs gs : Nat → Nat} {ka kb : Nat → ClassId} (hK : va_K (dC, dI) vwCl (tX ka ++ tM kb) s) {i : Nat} {a1 : Int32} (hin1 : vp_in (nI i + (1 : Int32)) L) (hxs1 : xs (nI i + (1 : Int32)).toNatClampNeg = a1) {a2 : Int32} (hin2 : vp_in (nI i + (2 : Int32)) L) (hxs2 : xs (nI i + (2 : Int32)).toNatClampNeg = a2) {a3 : Int32} (hin3 : vp_in (nI i + (3 : Int32)) L) (hxs3 : xs (nI i + (3 : Int32)).toNatClampNeg = a3) {a4 : Int32} (hin4 : vp_in (nI i + (4 : Int32)) L) (hxs4 : xs (nI i + (4 : Int32)).toNatClampNeg = a4) {a5 : Int32} (hin5 : vp_in (nI i + (5 : Int32)) L) (hxs5 : xs (nI i + (5 : Int32)).toNatClampNeg = a5) {u : XS} {v : MS} (hRel : Rel u v) {H : Heap} {locs : List Loc} {ls : Array Slot} (hP : va_P (dC, dI) vwCl (cX hs ka u ++ cM gs kb v) H) (hD : va_D (fun q : Nat => s.heap.size ≤ q) (cX hs ka u ++ cM gs kb v)) (hS : va_S (fun q : Nat => s.heap.size ≤ q) s.heap H locs) (hl : lv_has ls 4 [(0, .ref b), (1, .ref (hs 0)), (2, .ref (gs 0)), (3, .int (nI i))])
    (back : ∀ (u : XS) (v : MS), Rel u v → ∀ (H : Heap) (locs : List Loc) (ls : Array Slot), va_P (dC, dI) vwCl (cX hs ka u ++ cM gs kb v) H → va_D (fun q : Nat => s.heap.size ≤ q) (cX hs ka u ++ cM gs kb v) → va_S (fun q : Nat => s.heap.size ≤ q) s.heap H locs → lv_has ls 4 [(0, .ref b), (1, .ref (hs 0)), (2, .ref (gs 0)), (3, .int (nI i))] → W p l e room_1 s m #[Value.ref b] below meth c H locs 21 1589 (lw_Z below #[Value.ref b] s) (F0 m 468 ls [])) : W p l e room_1 s m #[Value.ref b] below meth c H locs 21 1589 (lw_Z below #[Value.ref b] s) (F0 m 119 ls []) := by
  obtain ⟨hx, hb, hr, hml, hown0, hts, hX, hbl, hlocks, hgv⟩ := C0
  have hown : s.vm.findClass RL = some m.cls := hown0
  have hA : ∀ q : Nat, s.heap.size ≤ q → (fun q : Nat => s.heap.size ≤ q) q := fun _ h => h
  have hbA : ¬ (fun q : Nat => s.heap.size ≤ q) b := Nat.not_le.mpr hbl
  obtain ⟨r, u', v', e1, e2, hR⟩ := row_step (fu := fu) hRel a1 a2 a3 a4 a5
  refine lv_aload_n hx hb dL_law_119 rfl (lv_at hl 1 rfl) ?_
  refine lv_aload_n hx hb dL_law_120 rfl (lv_at hl 0 rfl) ?_
  refine lv_iload_n hx hb dL_law_121 rfl (lv_at hl 3 rfl) ?_
  refine lv_iconst (v := (1 : Int32)) hx hb dL_law_122 (by decide) ?_
  refine lv_iadd hx hb dL_law_123 ?_
  refine va_sld hx hb hX hbl hbA hS hin1 dL_law_124 ?_
  rw [hxs1]
  refine lv_aload_n hx hb dL_law_125 rfl (lv_at hl 0 rfl) ?_
  refine lv_iload_n hx hb dL_law_126 rfl (lv_at hl 3 rfl) ?_
  refine lv_iconst (v := (2 : Int32)) hx hb dL_law_127 (by decide) ?_
  refine lv_iadd hx hb dL_law_128 ?_
  refine va_sld hx hb hX hbl hbA hS hin2 dL_law_129 ?_
  rw [hxs2]
  refine lv_aload_n hx hb dL_law_130 rfl (lv_at hl 0 rfl) ?_
  refine lv_iload_n hx hb dL_law_131 rfl (lv_at hl 3 rfl) ?_
  refine lv_iconst (v := (3 : Int32)) hx hb dL_law_132 (by decide) ?_
  refine lv_iadd hx hb dL_law_133 ?_
  refine va_sld hx hb hX hbl hbA hS hin3 dL_law_134 ?_
  rw [hxs3]
  refine lv_aload_n hx hb dL_law_135 rfl (lv_at hl 0 rfl) ?_
  refine lv_iload_n hx hb dL_law_136 rfl (lv_at hl 3 rfl) ?_
  refine lv_iconst (v := (4 : Int32)) hx hb dL_law_137 (by decide) ?_
  refine lv_iadd hx hb dL_law_138 ?_
  refine va_sld hx hb hX hbl hbA hS hin4 dL_law_139 ?_
  rw [hxs4]
  refine lv_aload_n hx hb dL_law_140 rfl (lv_at hl 0 rfl) ?_
  refine lv_iload_n hx hb dL_law_141 rfl (lv_at hl 3 rfl) ?_
  refine lv_iconst (v := (5 : Int32)) hx hb dL_law_142 (by decide) ?_
  refine lv_iadd hx hb dL_law_143 ?_
  refine va_sld hx hb hX hbl hbA hS hin5 dL_law_144 ?_
  rw [hxs5]
  have hPc : va_P (dC, dI) vwCl (cX hs ka u) H := hP.sub [0, 1, 2, 3] (fsXM_x hs gs ka kb u v)
  have hDc : va_D (fun q : Nat => s.heap.size ≤ q) (cX hs ka u) := hD.sub [0, 1, 2, 3] (by decide) (sXM_x hs gs ka kb u v)
  have hKc : va_K (dC, dI) vwCl (tX ka) s := hK.sub [0, 1, 2] (sK_x ka kb)
  have hFc := va_free (wc := (cX hs ka u)) hD hS hA [0, 1, 2, 3] (sXM_x hs gs ka kb u v)
  refine va_calli (va_runV (As := [.int a1, .int a2, .int a3, .int a4, .int a5]) (rest := []) ⟨hx, hb, hml, hown, hts⟩ (c_X0_row l dC dI hs ka H.size fu u a1 a2 a3 a4 a5 r u' e1) (cwV 5 hts gL_law_X0_row rfl rfl rfl (by decide +kernel) ⟨Nat.le_of_ble_eq_true rfl, Nat.le_of_ble_eq_true rfl⟩) ⟨fun a U g mk q => by obtain ⟨q0, q1, qP, qK, qD⟩ := q; exact ⟨q0, q1, qP, va_K.moved (u := U) (U := U.calling g mk a) (Vm.Alike.refl U.vm) qK, qD⟩, rc_X hKc hPc, fun U hU hW => ⟨rfl, by rw [hU], by rw [hU]; exact hPc, va_K.moved hW.alike hKc, hDc.weaken (fun _ _ _ _ => trivial)⟩⟩ rfl rfl hl.1 rfl (lv_room (Nat.le_of_ble_eq_true rfl)) dL_law_145 ⟨Nat.le_of_ble_eq_true rfl, Nat.le_of_ble_eq_true rfl⟩) hS (fun q _ h => hFc q h) hFc (fun r_c u_c t H1 locs ht hvm hw hB hz1 hk1 hS => ?_)
  obtain ⟨hw1, hw2⟩ := hw
  subst r_c
  subst u_c
  obtain ⟨hP1, hK1, hD1⟩ := hB
  rw [ht] at hP1
  obtain ⟨hP, hD⟩ := va_join (wc := (cX hs ka u)) (wr := (cM gs kb v)) (w1 := (cX hs ka u')) hP hD [0, 1, 2, 3] [4, 5, 6, 7, 8, 9, 10, 11, 12, 13, 14, 15, 16, 17, 18, 19, 20] (sXM_x hs gs ka kb u v) (sXM_m hs gs ka kb u v) (by decide) (by decide) hk1 hFc hP1 hD1
  clear hPc hDc hKc hFc hz1 hk1 hP1 hK1 hD1 ht hvm
  generalize H1 = H at hP hS ⊢
  refine lv_aload_n hx hb dL_law_148 rfl (lv_at hl 2 rfl) ?_
  refine lv_aload_n hx hb dL_law_149 rfl (lv_at hl 0 rfl) ?_
  refine lv_iload_n hx hb dL_law_150 rfl (lv_at hl 3 rfl) ?_
  refine lv_iconst (v := (1 : Int32)) hx hb dL_law_151 (by decide) ?_
  refine lv_iadd hx hb dL_law_152 ?_
  refine va_sld hx hb hX hbl hbA hS hin1 dL_law_153 ?_
  rw [hxs1]
  refine lv_aload_n hx hb dL_law_154 rfl (lv_at hl 0 rfl) ?_
  refine lv_iload_n hx hb dL_law_155 rfl (lv_at hl 3 rfl) ?_
  refine lv_iconst (v := (2 : Int32)) hx hb dL_law_156 (by decide) ?_
  refine lv_iadd hx hb dL_law_157 ?_
  refine va_sld hx hb hX hbl hbA hS hin2 dL_law_158 ?_
  rw [hxs2]
  refine lv_aload_n hx hb dL_law_159 rfl (lv_at hl 0 rfl) ?_
  refine lv_iload_n hx hb dL_law_160 rfl (lv_at hl 3 rfl) ?_
  refine lv_iconst (v := (3 : Int32)) hx hb dL_law_161 (by decide) ?_
  refine lv_iadd hx hb dL_law_162 ?_
  refine va_sld hx hb hX hbl hbA hS hin3 dL_law_163 ?_
  rw [hxs3]
  refine lv_aload_n hx hb dL_law_164 rfl (lv_at hl 0 rfl) ?_
  refine lv_iload_n hx hb dL_law_165 rfl (lv_at hl 3 rfl) ?_
  refine lv_iconst (v := (4 : Int32)) hx hb dL_law_166 (by decide) ?_
  refine lv_iadd hx hb dL_law_167 ?_
  refine va_sld hx hb hX hbl hbA hS hin4 dL_law_168 ?_
  rw [hxs4]
  refine lv_aload_n hx hb dL_law_169 rfl (lv_at hl 0 rfl) ?_
  refine lv_iload_n hx hb dL_law_170 rfl (lv_at hl 3 rfl) ?_
  refine lv_iconst (v := (5 : Int32)) hx hb dL_law_171 (by decide) ?_
  refine lv_iadd hx hb dL_law_172 ?_
  refine va_sld hx hb hX hbl hbA hS hin5 dL_law_173 ?_
  rw [hxs5]
  have hPc : va_P (dC, dI) vwCl (cM gs kb v) H := hP.sub [0, 1, 2, 3, 4, 5, 6, 7, 8, 9, 10, 11, 12, 13, 14, 15, 16] (fsMX_m hs gs ka kb u' v)
  have hDc : va_D (fun q : Nat => s.heap.size ≤ q) (cM gs kb v) := hD.sub [0, 1, 2, 3, 4, 5, 6, 7, 8, 9, 10, 11, 12, 13, 14, 15, 16] (by decide) (sMX_m hs gs ka kb u' v)
  have hKc : va_K (dC, dI) vwCl (tM kb) s := hK.sub [3, 4, 5, 6, 7, 8, 9, 10, 11, 12, 13, 14, 15, 16, 17, 18] (sK_m ka kb)
  have hFc := va_free (wc := (cM gs kb v)) hD hS hA [0, 1, 2, 3, 4, 5, 6, 7, 8, 9, 10, 11, 12, 13, 14, 15, 16] (sMX_m hs gs ka kb u' v)
  refine va_calli (va_runV (As := [.int a1, .int a2, .int a3, .int a4, .int a5]) (rest := [.int r]) ⟨hx, hb, hml, hown, hts⟩ (c_X1_row l dC dI gs kb H.size fu v a1 a2 a3 a4 a5 r v' e2) (cwV 5 hts gL_law_X1_row rfl rfl rfl (by decide +kernel) ⟨Nat.le_of_ble_eq_true rfl, Nat.le_of_ble_eq_true rfl⟩) ⟨fun a U g mk q => by obtain ⟨q0, q1, qP, qK, qD⟩ := q; exact ⟨q0, q1, qP, va_K.moved (u := U) (U := U.calling g mk a) (Vm.Alike.refl U.vm) qK, qD⟩, rc_M hKc hPc, fun U hU hW => ⟨rfl, by rw [hU], by rw [hU]; exact hPc, va_K.moved hW.alike hKc, hDc.weaken (fun _ _ _ _ => trivial)⟩⟩ rfl rfl hl.1 rfl (lv_room (Nat.le_of_ble_eq_true rfl)) dL_law_174 ⟨Nat.le_of_ble_eq_true rfl, Nat.le_of_ble_eq_true rfl⟩) hS (fun q _ h => hFc q h) hFc (fun r_c u_c t H1 locs ht hvm hw hB hz1 hk1 hS => ?_)
  obtain ⟨hw1, hw2⟩ := hw
  subst r_c
  subst u_c
  obtain ⟨hP1, hK1, hD1⟩ := hB
  rw [ht] at hP1
  obtain ⟨hP, hD⟩ := va_join (wc := (cM gs kb v)) (wr := (cX hs ka u')) (w1 := (cM gs kb v')) hP hD [0, 1, 2, 3, 4, 5, 6, 7, 8, 9, 10, 11, 12, 13, 14, 15, 16] [17, 18, 19, 20] (sMX_m hs gs ka kb u' v) (sMX_x hs gs ka kb u' v) (by decide) (by decide) hk1 hFc hP1 hD1
  clear hPc hDc hKc hFc hz1 hk1 hP1 hK1 hD1 ht hvm
  generalize H1 = H at hP hS ⊢
  refine lv_icmp_eq (tgt := 468) hx hb dL_law_177 (by decide) (fun _ => ?_) (fun c9 => absurd rfl c9)
  exact back u' v' hR H locs ls hP hD hS hl
set_option maxHeartbeats 2000000 in
set_option maxRecDepth 100000 in
theorem lwc_demand {p : Program} {l : Launch} {e : Env} {s : State} {m : MethodId} {below : List Frame} {meth : Method} {c : Code} {dC : Nat → ClassId} {dI : Nat → Nat → Nat} {b L : Nat} {xs : Nat → Int32} (C0 : lw_At p s m meth c b L xs) {fu : Nat} (hfu : 400000000 ≤ fu) {hs gs : Nat → Nat} {ka kb : Nat → ClassId} (hK : va_K (dC, dI) vwCl (tX ka ++ tM kb) s) {i : Nat} {a1 : Int32} (hin1 : vp_in (nI i + (1 : Int32)) L) (hxs1 : xs (nI i + (1 : Int32)).toNatClampNeg = a1) {a2 : Int32} (hin2 : vp_in (nI i + (2 : Int32)) L) (hxs2 : xs (nI i + (2 : Int32)).toNatClampNeg = a2) {a3 : Int32} (hin3 : vp_in (nI i + (3 : Int32)) L) (hxs3 : xs (nI i + (3 : Int32)).toNatClampNeg = a3) {u : XS} {v : MS} (hRel : Rel u v) {H : Heap} {locs : List Loc} {ls : Array Slot} (hP : va_P (dC, dI) vwCl (cX hs ka u ++ cM gs kb v) H) (hD : va_D (fun q : Nat => s.heap.size ≤ q) (cX hs ka u ++ cM gs kb v)) (hS : va_S (fun q : Nat => s.heap.size ≤ q) s.heap H locs) (hl : lv_has ls 4 [(0, .ref b), (1, .ref (hs 0)), (2, .ref (gs 0)), (3, .int (nI i))])
    (back : ∀ (u : XS) (v : MS), Rel u v → ∀ (H : Heap) (locs : List Loc) (ls : Array Slot), va_P (dC, dI) vwCl (cX hs ka u ++ cM gs kb v) H → va_D (fun q : Nat => s.heap.size ≤ q) (cX hs ka u ++ cM gs kb v) → va_S (fun q : Nat => s.heap.size ≤ q) s.heap H locs → lv_has ls 4 [(0, .ref b), (1, .ref (hs 0)), (2, .ref (gs 0)), (3, .int (nI i))] → W p l e room_1 s m #[Value.ref b] below meth c H locs 21 1589 (lw_Z below #[Value.ref b] s) (F0 m 468 ls [])) : W p l e room_1 s m #[Value.ref b] below meth c H locs 21 1589 (lw_Z below #[Value.ref b] s) (F0 m 182 ls []) := by
  obtain ⟨hx, hb, hr, hml, hown0, hts, hX, hbl, hlocks, hgv⟩ := C0
  have hown : s.vm.findClass RL = some m.cls := hown0
  have hA : ∀ q : Nat, s.heap.size ≤ q → (fun q : Nat => s.heap.size ≤ q) q := fun _ h => h
  have hbA : ¬ (fun q : Nat => s.heap.size ≤ q) b := Nat.not_le.mpr hbl
  obtain ⟨r, u', v', e1, e2, hR⟩ := demand_step hfu hRel a1 a2 a3
  refine lv_aload_n hx hb dL_law_182 rfl (lv_at hl 1 rfl) ?_
  refine lv_aload_n hx hb dL_law_183 rfl (lv_at hl 0 rfl) ?_
  refine lv_iload_n hx hb dL_law_184 rfl (lv_at hl 3 rfl) ?_
  refine lv_iconst (v := (1 : Int32)) hx hb dL_law_185 (by decide) ?_
  refine lv_iadd hx hb dL_law_186 ?_
  refine va_sld hx hb hX hbl hbA hS hin1 dL_law_187 ?_
  rw [hxs1]
  refine lv_aload_n hx hb dL_law_188 rfl (lv_at hl 0 rfl) ?_
  refine lv_iload_n hx hb dL_law_189 rfl (lv_at hl 3 rfl) ?_
  refine lv_iconst (v := (2 : Int32)) hx hb dL_law_190 (by decide) ?_
  refine lv_iadd hx hb dL_law_191 ?_
  refine va_sld hx hb hX hbl hbA hS hin2 dL_law_192 ?_
  rw [hxs2]
  refine lv_aload_n hx hb dL_law_193 rfl (lv_at hl 0 rfl) ?_
  refine lv_iload_n hx hb dL_law_194 rfl (lv_at hl 3 rfl) ?_
  refine lv_iconst (v := (3 : Int32)) hx hb dL_law_195 (by decide) ?_
  refine lv_iadd hx hb dL_law_196 ?_
  refine va_sld hx hb hX hbl hbA hS hin3 dL_law_197 ?_
  rw [hxs3]
  have hPc : va_P (dC, dI) vwCl (cX hs ka u) H := hP.sub [0, 1, 2, 3] (fsXM_x hs gs ka kb u v)
  have hDc : va_D (fun q : Nat => s.heap.size ≤ q) (cX hs ka u) := hD.sub [0, 1, 2, 3] (by decide) (sXM_x hs gs ka kb u v)
  have hKc : va_K (dC, dI) vwCl (tX ka) s := hK.sub [0, 1, 2] (sK_x ka kb)
  have hFc := va_free (wc := (cX hs ka u)) hD hS hA [0, 1, 2, 3] (sXM_x hs gs ka kb u v)
  refine va_calli (va_runV (As := [.int a1, .int a2, .int a3]) (rest := []) ⟨hx, hb, hml, hown, hts⟩ (c_X0_demand l dC dI hs ka H.size fu u a1 a2 a3 r u' e1) (cwV 3 hts gL_law_X0_demand rfl rfl rfl (by decide +kernel) ⟨Nat.le_of_ble_eq_true rfl, Nat.le_of_ble_eq_true rfl⟩) ⟨fun a U g mk q => by obtain ⟨q0, q1, qP, qK, qD⟩ := q; exact ⟨q0, q1, qP, va_K.moved (u := U) (U := U.calling g mk a) (Vm.Alike.refl U.vm) qK, qD⟩, rc_X hKc hPc, fun U hU hW => ⟨rfl, by rw [hU], by rw [hU]; exact hPc, va_K.moved hW.alike hKc, hDc.weaken (fun _ _ _ _ => trivial)⟩⟩ rfl rfl hl.1 rfl (lv_room (Nat.le_of_ble_eq_true rfl)) dL_law_198 ⟨Nat.le_of_ble_eq_true rfl, Nat.le_of_ble_eq_true rfl⟩) hS (fun q _ h => hFc q h) hFc (fun r_c u_c t H1 locs ht hvm hw hB hz1 hk1 hS => ?_)
  obtain ⟨hw1, hw2⟩ := hw
  subst r_c
  subst u_c
  obtain ⟨hP1, hK1, hD1⟩ := hB
  rw [ht] at hP1
  obtain ⟨hP, hD⟩ := va_join (wc := (cX hs ka u)) (wr := (cM gs kb v)) (w1 := (cX hs ka u')) hP hD [0, 1, 2, 3] [4, 5, 6, 7, 8, 9, 10, 11, 12, 13, 14, 15, 16, 17, 18, 19, 20] (sXM_x hs gs ka kb u v) (sXM_m hs gs ka kb u v) (by decide) (by decide) hk1 hFc hP1 hD1
  clear hPc hDc hKc hFc hz1 hk1 hP1 hK1 hD1 ht hvm
  generalize H1 = H at hP hS ⊢
  refine lv_aload_n hx hb dL_law_201 rfl (lv_at hl 2 rfl) ?_
  refine lv_aload_n hx hb dL_law_202 rfl (lv_at hl 0 rfl) ?_
  refine lv_iload_n hx hb dL_law_203 rfl (lv_at hl 3 rfl) ?_
  refine lv_iconst (v := (1 : Int32)) hx hb dL_law_204 (by decide) ?_
  refine lv_iadd hx hb dL_law_205 ?_
  refine va_sld hx hb hX hbl hbA hS hin1 dL_law_206 ?_
  rw [hxs1]
  refine lv_aload_n hx hb dL_law_207 rfl (lv_at hl 0 rfl) ?_
  refine lv_iload_n hx hb dL_law_208 rfl (lv_at hl 3 rfl) ?_
  refine lv_iconst (v := (2 : Int32)) hx hb dL_law_209 (by decide) ?_
  refine lv_iadd hx hb dL_law_210 ?_
  refine va_sld hx hb hX hbl hbA hS hin2 dL_law_211 ?_
  rw [hxs2]
  refine lv_aload_n hx hb dL_law_212 rfl (lv_at hl 0 rfl) ?_
  refine lv_iload_n hx hb dL_law_213 rfl (lv_at hl 3 rfl) ?_
  refine lv_iconst (v := (3 : Int32)) hx hb dL_law_214 (by decide) ?_
  refine lv_iadd hx hb dL_law_215 ?_
  refine va_sld hx hb hX hbl hbA hS hin3 dL_law_216 ?_
  rw [hxs3]
  have hPc : va_P (dC, dI) vwCl (cM gs kb v) H := hP.sub [0, 1, 2, 3, 4, 5, 6, 7, 8, 9, 10, 11, 12, 13, 14, 15, 16] (fsMX_m hs gs ka kb u' v)
  have hDc : va_D (fun q : Nat => s.heap.size ≤ q) (cM gs kb v) := hD.sub [0, 1, 2, 3, 4, 5, 6, 7, 8, 9, 10, 11, 12, 13, 14, 15, 16] (by decide) (sMX_m hs gs ka kb u' v)
  have hKc : va_K (dC, dI) vwCl (tM kb) s := hK.sub [3, 4, 5, 6, 7, 8, 9, 10, 11, 12, 13, 14, 15, 16, 17, 18] (sK_m ka kb)
  have hFc := va_free (wc := (cM gs kb v)) hD hS hA [0, 1, 2, 3, 4, 5, 6, 7, 8, 9, 10, 11, 12, 13, 14, 15, 16] (sMX_m hs gs ka kb u' v)
  refine va_calli (va_runV (As := [.int a1, .int a2, .int a3]) (rest := [.int r]) ⟨hx, hb, hml, hown, hts⟩ (c_X1_demand l dC dI gs kb H.size fu v a1 a2 a3 r v' e2) (cwV 3 hts gL_law_X1_demand rfl rfl rfl (by decide +kernel) ⟨Nat.le_of_ble_eq_true rfl, Nat.le_of_ble_eq_true rfl⟩) ⟨fun a U g mk q => by obtain ⟨q0, q1, qP, qK, qD⟩ := q; exact ⟨q0, q1, qP, va_K.moved (u := U) (U := U.calling g mk a) (Vm.Alike.refl U.vm) qK, qD⟩, rc_M hKc hPc, fun U hU hW => ⟨rfl, by rw [hU], by rw [hU]; exact hPc, va_K.moved hW.alike hKc, hDc.weaken (fun _ _ _ _ => trivial)⟩⟩ rfl rfl hl.1 rfl (lv_room (Nat.le_of_ble_eq_true rfl)) dL_law_217 ⟨Nat.le_of_ble_eq_true rfl, Nat.le_of_ble_eq_true rfl⟩) hS (fun q _ h => hFc q h) hFc (fun r_c u_c t H1 locs ht hvm hw hB hz1 hk1 hS => ?_)
  obtain ⟨hw1, hw2⟩ := hw
  subst r_c
  subst u_c
  obtain ⟨hP1, hK1, hD1⟩ := hB
  rw [ht] at hP1
  obtain ⟨hP, hD⟩ := va_join (wc := (cM gs kb v)) (wr := (cX hs ka u')) (w1 := (cM gs kb v')) hP hD [0, 1, 2, 3, 4, 5, 6, 7, 8, 9, 10, 11, 12, 13, 14, 15, 16] [17, 18, 19, 20] (sMX_m hs gs ka kb u' v) (sMX_x hs gs ka kb u' v) (by decide) (by decide) hk1 hFc hP1 hD1
  clear hPc hDc hKc hFc hz1 hk1 hP1 hK1 hD1 ht hvm
  generalize H1 = H at hP hS ⊢
  refine lv_icmp_eq (tgt := 468) hx hb dL_law_220 (by decide) (fun _ => ?_) (fun c9 => absurd rfl c9)
  exact back u' v' hR H locs ls hP hD hS hl
set_option maxHeartbeats 2000000 in
set_option maxRecDepth 100000 in
theorem lwc_or {p : Program} {l : Launch} {e : Env} {s : State} {m : MethodId} {below : List Frame} {meth : Method} {c : Code} {dC : Nat → ClassId} {dI : Nat → Nat → Nat} {b L : Nat} {xs : Nat → Int32} (C0 : lw_At p s m meth c b L xs) {fu : Nat} (hfu : 400000000 ≤ fu) {hs gs : Nat → Nat} {ka kb : Nat → ClassId} (hK : va_K (dC, dI) vwCl (tX ka ++ tM kb) s) {i : Nat} {a1 : Int32} (hin1 : vp_in (nI i + (1 : Int32)) L) (hxs1 : xs (nI i + (1 : Int32)).toNatClampNeg = a1) {a2 : Int32} (hin2 : vp_in (nI i + (2 : Int32)) L) (hxs2 : xs (nI i + (2 : Int32)).toNatClampNeg = a2) {u : XS} {v : MS} (hRel : Rel u v) {H : Heap} {locs : List Loc} {ls : Array Slot} (hP : va_P (dC, dI) vwCl (cX hs ka u ++ cM gs kb v) H) (hD : va_D (fun q : Nat => s.heap.size ≤ q) (cX hs ka u ++ cM gs kb v)) (hS : va_S (fun q : Nat => s.heap.size ≤ q) s.heap H locs) (hl : lv_has ls 4 [(0, .ref b), (1, .ref (hs 0)), (2, .ref (gs 0)), (3, .int (nI i))])
    (back : ∀ (u : XS) (v : MS), Rel u v → ∀ (H : Heap) (locs : List Loc) (ls : Array Slot), va_P (dC, dI) vwCl (cX hs ka u ++ cM gs kb v) H → va_D (fun q : Nat => s.heap.size ≤ q) (cX hs ka u ++ cM gs kb v) → va_S (fun q : Nat => s.heap.size ≤ q) s.heap H locs → lv_has ls 4 [(0, .ref b), (1, .ref (hs 0)), (2, .ref (gs 0)), (3, .int (nI i))] → W p l e room_1 s m #[Value.ref b] below meth c H locs 21 1589 (lw_Z below #[Value.ref b] s) (F0 m 468 ls [])) : W p l e room_1 s m #[Value.ref b] below meth c H locs 21 1589 (lw_Z below #[Value.ref b] s) (F0 m 225 ls []) := by
  obtain ⟨hx, hb, hr, hml, hown0, hts, hX, hbl, hlocks, hgv⟩ := C0
  have hown : s.vm.findClass RL = some m.cls := hown0
  have hA : ∀ q : Nat, s.heap.size ≤ q → (fun q : Nat => s.heap.size ≤ q) q := fun _ h => h
  have hbA : ¬ (fun q : Nat => s.heap.size ≤ q) b := Nat.not_le.mpr hbl
  obtain ⟨r, u', v', e1, e2, hR⟩ := or_step hfu hRel a1 a2
  refine lv_aload_n hx hb dL_law_225 rfl (lv_at hl 1 rfl) ?_
  refine lv_aload_n hx hb dL_law_226 rfl (lv_at hl 0 rfl) ?_
  refine lv_iload_n hx hb dL_law_227 rfl (lv_at hl 3 rfl) ?_
  refine lv_iconst (v := (1 : Int32)) hx hb dL_law_228 (by decide) ?_
  refine lv_iadd hx hb dL_law_229 ?_
  refine va_sld hx hb hX hbl hbA hS hin1 dL_law_230 ?_
  rw [hxs1]
  refine lv_aload_n hx hb dL_law_231 rfl (lv_at hl 0 rfl) ?_
  refine lv_iload_n hx hb dL_law_232 rfl (lv_at hl 3 rfl) ?_
  refine lv_iconst (v := (2 : Int32)) hx hb dL_law_233 (by decide) ?_
  refine lv_iadd hx hb dL_law_234 ?_
  refine va_sld hx hb hX hbl hbA hS hin2 dL_law_235 ?_
  rw [hxs2]
  have hPc : va_P (dC, dI) vwCl (cX hs ka u) H := hP.sub [0, 1, 2, 3] (fsXM_x hs gs ka kb u v)
  have hDc : va_D (fun q : Nat => s.heap.size ≤ q) (cX hs ka u) := hD.sub [0, 1, 2, 3] (by decide) (sXM_x hs gs ka kb u v)
  have hKc : va_K (dC, dI) vwCl (tX ka) s := hK.sub [0, 1, 2] (sK_x ka kb)
  have hFc := va_free (wc := (cX hs ka u)) hD hS hA [0, 1, 2, 3] (sXM_x hs gs ka kb u v)
  refine va_calli (va_runV (As := [.int a1, .int a2]) (rest := []) ⟨hx, hb, hml, hown, hts⟩ (c_X0_or l dC dI hs ka H.size fu u a1 a2 r u' e1) (cwV 2 hts gL_law_X0_or rfl rfl rfl (by decide +kernel) ⟨Nat.le_of_ble_eq_true rfl, Nat.le_of_ble_eq_true rfl⟩) ⟨fun a U g mk q => by obtain ⟨q0, q1, qP, qK, qD⟩ := q; exact ⟨q0, q1, qP, va_K.moved (u := U) (U := U.calling g mk a) (Vm.Alike.refl U.vm) qK, qD⟩, rc_X hKc hPc, fun U hU hW => ⟨rfl, by rw [hU], by rw [hU]; exact hPc, va_K.moved hW.alike hKc, hDc.weaken (fun _ _ _ _ => trivial)⟩⟩ rfl rfl hl.1 rfl (lv_room (Nat.le_of_ble_eq_true rfl)) dL_law_236 ⟨Nat.le_of_ble_eq_true rfl, Nat.le_of_ble_eq_true rfl⟩) hS (fun q _ h => hFc q h) hFc (fun r_c u_c t H1 locs ht hvm hw hB hz1 hk1 hS => ?_)
  obtain ⟨hw1, hw2⟩ := hw
  subst r_c
  subst u_c
  obtain ⟨hP1, hK1, hD1⟩ := hB
  rw [ht] at hP1
  obtain ⟨hP, hD⟩ := va_join (wc := (cX hs ka u)) (wr := (cM gs kb v)) (w1 := (cX hs ka u')) hP hD [0, 1, 2, 3] [4, 5, 6, 7, 8, 9, 10, 11, 12, 13, 14, 15, 16, 17, 18, 19, 20] (sXM_x hs gs ka kb u v) (sXM_m hs gs ka kb u v) (by decide) (by decide) hk1 hFc hP1 hD1
  clear hPc hDc hKc hFc hz1 hk1 hP1 hK1 hD1 ht hvm
  generalize H1 = H at hP hS ⊢
  refine lv_aload_n hx hb dL_law_239 rfl (lv_at hl 2 rfl) ?_
  refine lv_aload_n hx hb dL_law_240 rfl (lv_at hl 0 rfl) ?_
  refine lv_iload_n hx hb dL_law_241 rfl (lv_at hl 3 rfl) ?_
  refine lv_iconst (v := (1 : Int32)) hx hb dL_law_242 (by decide) ?_
  refine lv_iadd hx hb dL_law_243 ?_
  refine va_sld hx hb hX hbl hbA hS hin1 dL_law_244 ?_
  rw [hxs1]
  refine lv_aload_n hx hb dL_law_245 rfl (lv_at hl 0 rfl) ?_
  refine lv_iload_n hx hb dL_law_246 rfl (lv_at hl 3 rfl) ?_
  refine lv_iconst (v := (2 : Int32)) hx hb dL_law_247 (by decide) ?_
  refine lv_iadd hx hb dL_law_248 ?_
  refine va_sld hx hb hX hbl hbA hS hin2 dL_law_249 ?_
  rw [hxs2]
  have hPc : va_P (dC, dI) vwCl (cM gs kb v) H := hP.sub [0, 1, 2, 3, 4, 5, 6, 7, 8, 9, 10, 11, 12, 13, 14, 15, 16] (fsMX_m hs gs ka kb u' v)
  have hDc : va_D (fun q : Nat => s.heap.size ≤ q) (cM gs kb v) := hD.sub [0, 1, 2, 3, 4, 5, 6, 7, 8, 9, 10, 11, 12, 13, 14, 15, 16] (by decide) (sMX_m hs gs ka kb u' v)
  have hKc : va_K (dC, dI) vwCl (tM kb) s := hK.sub [3, 4, 5, 6, 7, 8, 9, 10, 11, 12, 13, 14, 15, 16, 17, 18] (sK_m ka kb)
  have hFc := va_free (wc := (cM gs kb v)) hD hS hA [0, 1, 2, 3, 4, 5, 6, 7, 8, 9, 10, 11, 12, 13, 14, 15, 16] (sMX_m hs gs ka kb u' v)
  refine va_calli (va_runV (As := [.int a1, .int a2]) (rest := [.int r]) ⟨hx, hb, hml, hown, hts⟩ (c_X1_or l dC dI gs kb H.size fu v a1 a2 r v' e2) (cwV 2 hts gL_law_X1_or rfl rfl rfl (by decide +kernel) ⟨Nat.le_of_ble_eq_true rfl, Nat.le_of_ble_eq_true rfl⟩) ⟨fun a U g mk q => by obtain ⟨q0, q1, qP, qK, qD⟩ := q; exact ⟨q0, q1, qP, va_K.moved (u := U) (U := U.calling g mk a) (Vm.Alike.refl U.vm) qK, qD⟩, rc_M hKc hPc, fun U hU hW => ⟨rfl, by rw [hU], by rw [hU]; exact hPc, va_K.moved hW.alike hKc, hDc.weaken (fun _ _ _ _ => trivial)⟩⟩ rfl rfl hl.1 rfl (lv_room (Nat.le_of_ble_eq_true rfl)) dL_law_250 ⟨Nat.le_of_ble_eq_true rfl, Nat.le_of_ble_eq_true rfl⟩) hS (fun q _ h => hFc q h) hFc (fun r_c u_c t H1 locs ht hvm hw hB hz1 hk1 hS => ?_)
  obtain ⟨hw1, hw2⟩ := hw
  subst r_c
  subst u_c
  obtain ⟨hP1, hK1, hD1⟩ := hB
  rw [ht] at hP1
  obtain ⟨hP, hD⟩ := va_join (wc := (cM gs kb v)) (wr := (cX hs ka u')) (w1 := (cM gs kb v')) hP hD [0, 1, 2, 3, 4, 5, 6, 7, 8, 9, 10, 11, 12, 13, 14, 15, 16] [17, 18, 19, 20] (sMX_m hs gs ka kb u' v) (sMX_x hs gs ka kb u' v) (by decide) (by decide) hk1 hFc hP1 hD1
  clear hPc hDc hKc hFc hz1 hk1 hP1 hK1 hD1 ht hvm
  generalize H1 = H at hP hS ⊢
  refine lv_icmp_eq (tgt := 468) hx hb dL_law_253 (by decide) (fun _ => ?_) (fun c9 => absurd rfl c9)
  exact back u' v' hR H locs ls hP hD hS hl
set_option maxHeartbeats 2000000 in
set_option maxRecDepth 100000 in
theorem lwc_leaveOut {p : Program} {l : Launch} {e : Env} {s : State} {m : MethodId} {below : List Frame} {meth : Method} {c : Code} {dC : Nat → ClassId} {dI : Nat → Nat → Nat} {b L : Nat} {xs : Nat → Int32} (C0 : lw_At p s m meth c b L xs) {fu : Nat} (hfu : 400000000 ≤ fu) {hs gs : Nat → Nat} {ka kb : Nat → ClassId} (hK : va_K (dC, dI) vwCl (tX ka ++ tM kb) s) {i : Nat} {a1 : Int32} (hin1 : vp_in (nI i + (1 : Int32)) L) (hxs1 : xs (nI i + (1 : Int32)).toNatClampNeg = a1) {a2 : Int32} (hin2 : vp_in (nI i + (2 : Int32)) L) (hxs2 : xs (nI i + (2 : Int32)).toNatClampNeg = a2) {u : XS} {v : MS} (hRel : Rel u v) {H : Heap} {locs : List Loc} {ls : Array Slot} (hP : va_P (dC, dI) vwCl (cX hs ka u ++ cM gs kb v) H) (hD : va_D (fun q : Nat => s.heap.size ≤ q) (cX hs ka u ++ cM gs kb v)) (hS : va_S (fun q : Nat => s.heap.size ≤ q) s.heap H locs) (hl : lv_has ls 4 [(0, .ref b), (1, .ref (hs 0)), (2, .ref (gs 0)), (3, .int (nI i))])
    (back : ∀ (u : XS) (v : MS), Rel u v → ∀ (H : Heap) (locs : List Loc) (ls : Array Slot), va_P (dC, dI) vwCl (cX hs ka u ++ cM gs kb v) H → va_D (fun q : Nat => s.heap.size ≤ q) (cX hs ka u ++ cM gs kb v) → va_S (fun q : Nat => s.heap.size ≤ q) s.heap H locs → lv_has ls 4 [(0, .ref b), (1, .ref (hs 0)), (2, .ref (gs 0)), (3, .int (nI i))] → W p l e room_1 s m #[Value.ref b] below meth c H locs 21 1589 (lw_Z below #[Value.ref b] s) (F0 m 468 ls [])) : W p l e room_1 s m #[Value.ref b] below meth c H locs 21 1589 (lw_Z below #[Value.ref b] s) (F0 m 258 ls []) := by
  obtain ⟨hx, hb, hr, hml, hown0, hts, hX, hbl, hlocks, hgv⟩ := C0
  have hown : s.vm.findClass RL = some m.cls := hown0
  have hA : ∀ q : Nat, s.heap.size ≤ q → (fun q : Nat => s.heap.size ≤ q) q := fun _ h => h
  have hbA : ¬ (fun q : Nat => s.heap.size ≤ q) b := Nat.not_le.mpr hbl
  by_cases hz : a2 = 0
  · obtain ⟨r, u', v', e1, e2, hR⟩ := leaveOut_step (fu := fu) hRel a1 (0 : Int32) (Or.inl rfl)
    refine lv_aload_n hx hb dL_law_258 rfl (lv_at hl 1 rfl) ?_
    refine lv_aload_n hx hb dL_law_259 rfl (lv_at hl 0 rfl) ?_
    refine lv_iload_n hx hb dL_law_260 rfl (lv_at hl 3 rfl) ?_
    refine lv_iconst (v := (1 : Int32)) hx hb dL_law_261 (by decide) ?_
    refine lv_iadd hx hb dL_law_262 ?_
    refine va_sld hx hb hX hbl hbA hS hin1 dL_law_263 ?_
    rw [hxs1]
    refine lv_aload_n hx hb dL_law_264 rfl (lv_at hl 0 rfl) ?_
    refine lv_iload_n hx hb dL_law_265 rfl (lv_at hl 3 rfl) ?_
    refine lv_iconst (v := (2 : Int32)) hx hb dL_law_266 (by decide) ?_
    refine lv_iadd hx hb dL_law_267 ?_
    refine va_sld hx hb hX hbl hbA hS hin2 dL_law_268 ?_
    rw [hxs2]
    refine lv_if_eq (tgt := 276) hx hb dL_law_269 (by decide) (fun _ => ?_) (fun cz269 => absurd hz cz269)
    refine lv_iconst (v := (0 : Int32)) hx hb dL_law_276 (by decide) ?_
    have hPc : va_P (dC, dI) vwCl (cX hs ka u) H := hP.sub [0, 1, 2, 3] (fsXM_x hs gs ka kb u v)
    have hDc : va_D (fun q : Nat => s.heap.size ≤ q) (cX hs ka u) := hD.sub [0, 1, 2, 3] (by decide) (sXM_x hs gs ka kb u v)
    have hKc : va_K (dC, dI) vwCl (tX ka) s := hK.sub [0, 1, 2] (sK_x ka kb)
    have hFc := va_free (wc := (cX hs ka u)) hD hS hA [0, 1, 2, 3] (sXM_x hs gs ka kb u v)
    refine va_calli (va_runV (As := [.int a1, .int (0 : Int32)]) (rest := []) ⟨hx, hb, hml, hown, hts⟩ (c_X0_leaveOut l dC dI hs ka H.size fu u a1 (0 : Int32) r u' e1) (cwV 2 hts gL_law_X0_leaveOut rfl rfl rfl (by decide +kernel) ⟨Nat.le_of_ble_eq_true rfl, Nat.le_of_ble_eq_true rfl⟩) ⟨fun a U g mk q => by obtain ⟨q0, q1, qP, qK, qD⟩ := q; exact ⟨q0, q1, qP, va_K.moved (u := U) (U := U.calling g mk a) (Vm.Alike.refl U.vm) qK, qD⟩, rc_X hKc hPc, fun U hU hW => ⟨rfl, by rw [hU], by rw [hU]; exact hPc, va_K.moved hW.alike hKc, hDc.weaken (fun _ _ _ _ => trivial)⟩⟩ rfl rfl hl.1 rfl (lv_room (Nat.le_of_ble_eq_true rfl)) dL_law_277 ⟨Nat.le_of_ble_eq_true rfl, Nat.le_of_ble_eq_true rfl⟩) hS (fun q _ h => hFc q h) hFc (fun r_c u_c t H1 locs ht hvm hw hB hz1 hk1 hS => ?_)
    obtain ⟨hw1, hw2⟩ := hw
    subst r_c
    subst u_c
    obtain ⟨hP1, hK1, hD1⟩ := hB
    rw [ht] at hP1
    obtain ⟨hP, hD⟩ := va_join (wc := (cX hs ka u)) (wr := (cM gs kb v)) (w1 := (cX hs ka u')) hP hD [0, 1, 2, 3] [4, 5, 6, 7, 8, 9, 10, 11, 12, 13, 14, 15, 16, 17, 18, 19, 20] (sXM_x hs gs ka kb u v) (sXM_m hs gs ka kb u v) (by decide) (by decide) hk1 hFc hP1 hD1
    clear hPc hDc hKc hFc hz1 hk1 hP1 hK1 hD1 ht hvm
    generalize H1 = H at hP hS ⊢
    refine lv_aload_n hx hb dL_law_280 rfl (lv_at hl 2 rfl) ?_
    refine lv_aload_n hx hb dL_law_281 rfl (lv_at hl 0 rfl) ?_
    refine lv_iload_n hx hb dL_law_282 rfl (lv_at hl 3 rfl) ?_
    refine lv_iconst (v := (1 : Int32)) hx hb dL_law_283 (by decide) ?_
    refine lv_iadd hx hb dL_law_284 ?_
    refine va_sld hx hb hX hbl hbA hS hin1 dL_law_285 ?_
    rw [hxs1]
    refine lv_aload_n hx hb dL_law_286 rfl (lv_at hl 0 rfl) ?_
    refine lv_iload_n hx hb dL_law_287 rfl (lv_at hl 3 rfl) ?_
    refine lv_iconst (v := (2 : Int32)) hx hb dL_law_288 (by decide) ?_
    refine lv_iadd hx hb dL_law_289 ?_
    refine va_sld hx hb hX hbl hbA hS hin2 dL_law_290 ?_
    rw [hxs2]
    refine lv_if_eq (tgt := 298) hx hb dL_law_291 (by decide) (fun _ => ?_) (fun cz291 => absurd hz cz291)
    refine lv_iconst (v := (0 : Int32)) hx hb dL_law_298 (by decide) ?_
    have hPc : va_P (dC, dI) vwCl (cM gs kb v) H := hP.sub [0, 1, 2, 3, 4, 5, 6, 7, 8, 9, 10, 11, 12, 13, 14, 15, 16] (fsMX_m hs gs ka kb u' v)
    have hDc : va_D (fun q : Nat => s.heap.size ≤ q) (cM gs kb v) := hD.sub [0, 1, 2, 3, 4, 5, 6, 7, 8, 9, 10, 11, 12, 13, 14, 15, 16] (by decide) (sMX_m hs gs ka kb u' v)
    have hKc : va_K (dC, dI) vwCl (tM kb) s := hK.sub [3, 4, 5, 6, 7, 8, 9, 10, 11, 12, 13, 14, 15, 16, 17, 18] (sK_m ka kb)
    have hFc := va_free (wc := (cM gs kb v)) hD hS hA [0, 1, 2, 3, 4, 5, 6, 7, 8, 9, 10, 11, 12, 13, 14, 15, 16] (sMX_m hs gs ka kb u' v)
    refine va_calli (va_runV (As := [.int a1, .int (0 : Int32)]) (rest := [.int r]) ⟨hx, hb, hml, hown, hts⟩ (c_X1_leaveOut l dC dI gs kb H.size fu v a1 (0 : Int32) r v' e2) (cwV 2 hts gL_law_X1_leaveOut rfl rfl rfl (by decide +kernel) ⟨Nat.le_of_ble_eq_true rfl, Nat.le_of_ble_eq_true rfl⟩) ⟨fun a U g mk q => by obtain ⟨q0, q1, qP, qK, qD⟩ := q; exact ⟨q0, q1, qP, va_K.moved (u := U) (U := U.calling g mk a) (Vm.Alike.refl U.vm) qK, qD⟩, rc_M hKc hPc, fun U hU hW => ⟨rfl, by rw [hU], by rw [hU]; exact hPc, va_K.moved hW.alike hKc, hDc.weaken (fun _ _ _ _ => trivial)⟩⟩ rfl rfl hl.1 rfl (lv_room (Nat.le_of_ble_eq_true rfl)) dL_law_299 ⟨Nat.le_of_ble_eq_true rfl, Nat.le_of_ble_eq_true rfl⟩) hS (fun q _ h => hFc q h) hFc (fun r_c u_c t H1 locs ht hvm hw hB hz1 hk1 hS => ?_)
    obtain ⟨hw1, hw2⟩ := hw
    subst r_c
    subst u_c
    obtain ⟨hP1, hK1, hD1⟩ := hB
    rw [ht] at hP1
    obtain ⟨hP, hD⟩ := va_join (wc := (cM gs kb v)) (wr := (cX hs ka u')) (w1 := (cM gs kb v')) hP hD [0, 1, 2, 3, 4, 5, 6, 7, 8, 9, 10, 11, 12, 13, 14, 15, 16] [17, 18, 19, 20] (sMX_m hs gs ka kb u' v) (sMX_x hs gs ka kb u' v) (by decide) (by decide) hk1 hFc hP1 hD1
    clear hPc hDc hKc hFc hz1 hk1 hP1 hK1 hD1 ht hvm
    generalize H1 = H at hP hS ⊢
    refine lv_icmp_eq (tgt := 468) hx hb dL_law_302 (by decide) (fun _ => ?_) (fun c9 => absurd rfl c9)
    exact back u' v' hR H locs ls hP hD hS hl
  · obtain ⟨r, u', v', e1, e2, hR⟩ := leaveOut_step (fu := fu) hRel a1 (1 : Int32) (Or.inr rfl)
    refine lv_aload_n hx hb dL_law_258 rfl (lv_at hl 1 rfl) ?_
    refine lv_aload_n hx hb dL_law_259 rfl (lv_at hl 0 rfl) ?_
    refine lv_iload_n hx hb dL_law_260 rfl (lv_at hl 3 rfl) ?_
    refine lv_iconst (v := (1 : Int32)) hx hb dL_law_261 (by decide) ?_
    refine lv_iadd hx hb dL_law_262 ?_
    refine va_sld hx hb hX hbl hbA hS hin1 dL_law_263 ?_
    rw [hxs1]
    refine lv_aload_n hx hb dL_law_264 rfl (lv_at hl 0 rfl) ?_
    refine lv_iload_n hx hb dL_law_265 rfl (lv_at hl 3 rfl) ?_
    refine lv_iconst (v := (2 : Int32)) hx hb dL_law_266 (by decide) ?_
    refine lv_iadd hx hb dL_law_267 ?_
    refine va_sld hx hb hX hbl hbA hS hin2 dL_law_268 ?_
    rw [hxs2]
    refine lv_if_eq (tgt := 276) hx hb dL_law_269 (by decide) (fun cz269 => absurd cz269 hz) (fun _ => ?_)
    refine lv_iconst (v := (1 : Int32)) hx hb dL_law_272 (by decide) ?_
    refine lv_goto (tgt := 277) hx hb dL_law_273 (by decide) ?_
    have hPc : va_P (dC, dI) vwCl (cX hs ka u) H := hP.sub [0, 1, 2, 3] (fsXM_x hs gs ka kb u v)
    have hDc : va_D (fun q : Nat => s.heap.size ≤ q) (cX hs ka u) := hD.sub [0, 1, 2, 3] (by decide) (sXM_x hs gs ka kb u v)
    have hKc : va_K (dC, dI) vwCl (tX ka) s := hK.sub [0, 1, 2] (sK_x ka kb)
    have hFc := va_free (wc := (cX hs ka u)) hD hS hA [0, 1, 2, 3] (sXM_x hs gs ka kb u v)
    refine va_calli (va_runV (As := [.int a1, .int (1 : Int32)]) (rest := []) ⟨hx, hb, hml, hown, hts⟩ (c_X0_leaveOut l dC dI hs ka H.size fu u a1 (1 : Int32) r u' e1) (cwV 2 hts gL_law_X0_leaveOut rfl rfl rfl (by decide +kernel) ⟨Nat.le_of_ble_eq_true rfl, Nat.le_of_ble_eq_true rfl⟩) ⟨fun a U g mk q => by obtain ⟨q0, q1, qP, qK, qD⟩ := q; exact ⟨q0, q1, qP, va_K.moved (u := U) (U := U.calling g mk a) (Vm.Alike.refl U.vm) qK, qD⟩, rc_X hKc hPc, fun U hU hW => ⟨rfl, by rw [hU], by rw [hU]; exact hPc, va_K.moved hW.alike hKc, hDc.weaken (fun _ _ _ _ => trivial)⟩⟩ rfl rfl hl.1 rfl (lv_room (Nat.le_of_ble_eq_true rfl)) dL_law_277 ⟨Nat.le_of_ble_eq_true rfl, Nat.le_of_ble_eq_true rfl⟩) hS (fun q _ h => hFc q h) hFc (fun r_c u_c t H1 locs ht hvm hw hB hz1 hk1 hS => ?_)
    obtain ⟨hw1, hw2⟩ := hw
    subst r_c
    subst u_c
    obtain ⟨hP1, hK1, hD1⟩ := hB
    rw [ht] at hP1
    obtain ⟨hP, hD⟩ := va_join (wc := (cX hs ka u)) (wr := (cM gs kb v)) (w1 := (cX hs ka u')) hP hD [0, 1, 2, 3] [4, 5, 6, 7, 8, 9, 10, 11, 12, 13, 14, 15, 16, 17, 18, 19, 20] (sXM_x hs gs ka kb u v) (sXM_m hs gs ka kb u v) (by decide) (by decide) hk1 hFc hP1 hD1
    clear hPc hDc hKc hFc hz1 hk1 hP1 hK1 hD1 ht hvm
    generalize H1 = H at hP hS ⊢
    refine lv_aload_n hx hb dL_law_280 rfl (lv_at hl 2 rfl) ?_
    refine lv_aload_n hx hb dL_law_281 rfl (lv_at hl 0 rfl) ?_
    refine lv_iload_n hx hb dL_law_282 rfl (lv_at hl 3 rfl) ?_
    refine lv_iconst (v := (1 : Int32)) hx hb dL_law_283 (by decide) ?_
    refine lv_iadd hx hb dL_law_284 ?_
    refine va_sld hx hb hX hbl hbA hS hin1 dL_law_285 ?_
    rw [hxs1]
    refine lv_aload_n hx hb dL_law_286 rfl (lv_at hl 0 rfl) ?_
    refine lv_iload_n hx hb dL_law_287 rfl (lv_at hl 3 rfl) ?_
    refine lv_iconst (v := (2 : Int32)) hx hb dL_law_288 (by decide) ?_
    refine lv_iadd hx hb dL_law_289 ?_
    refine va_sld hx hb hX hbl hbA hS hin2 dL_law_290 ?_
    rw [hxs2]
    refine lv_if_eq (tgt := 298) hx hb dL_law_291 (by decide) (fun cz291 => absurd cz291 hz) (fun _ => ?_)
    refine lv_iconst (v := (1 : Int32)) hx hb dL_law_294 (by decide) ?_
    refine lv_goto (tgt := 299) hx hb dL_law_295 (by decide) ?_
    have hPc : va_P (dC, dI) vwCl (cM gs kb v) H := hP.sub [0, 1, 2, 3, 4, 5, 6, 7, 8, 9, 10, 11, 12, 13, 14, 15, 16] (fsMX_m hs gs ka kb u' v)
    have hDc : va_D (fun q : Nat => s.heap.size ≤ q) (cM gs kb v) := hD.sub [0, 1, 2, 3, 4, 5, 6, 7, 8, 9, 10, 11, 12, 13, 14, 15, 16] (by decide) (sMX_m hs gs ka kb u' v)
    have hKc : va_K (dC, dI) vwCl (tM kb) s := hK.sub [3, 4, 5, 6, 7, 8, 9, 10, 11, 12, 13, 14, 15, 16, 17, 18] (sK_m ka kb)
    have hFc := va_free (wc := (cM gs kb v)) hD hS hA [0, 1, 2, 3, 4, 5, 6, 7, 8, 9, 10, 11, 12, 13, 14, 15, 16] (sMX_m hs gs ka kb u' v)
    refine va_calli (va_runV (As := [.int a1, .int (1 : Int32)]) (rest := [.int r]) ⟨hx, hb, hml, hown, hts⟩ (c_X1_leaveOut l dC dI gs kb H.size fu v a1 (1 : Int32) r v' e2) (cwV 2 hts gL_law_X1_leaveOut rfl rfl rfl (by decide +kernel) ⟨Nat.le_of_ble_eq_true rfl, Nat.le_of_ble_eq_true rfl⟩) ⟨fun a U g mk q => by obtain ⟨q0, q1, qP, qK, qD⟩ := q; exact ⟨q0, q1, qP, va_K.moved (u := U) (U := U.calling g mk a) (Vm.Alike.refl U.vm) qK, qD⟩, rc_M hKc hPc, fun U hU hW => ⟨rfl, by rw [hU], by rw [hU]; exact hPc, va_K.moved hW.alike hKc, hDc.weaken (fun _ _ _ _ => trivial)⟩⟩ rfl rfl hl.1 rfl (lv_room (Nat.le_of_ble_eq_true rfl)) dL_law_299 ⟨Nat.le_of_ble_eq_true rfl, Nat.le_of_ble_eq_true rfl⟩) hS (fun q _ h => hFc q h) hFc (fun r_c u_c t H1 locs ht hvm hw hB hz1 hk1 hS => ?_)
    obtain ⟨hw1, hw2⟩ := hw
    subst r_c
    subst u_c
    obtain ⟨hP1, hK1, hD1⟩ := hB
    rw [ht] at hP1
    obtain ⟨hP, hD⟩ := va_join (wc := (cM gs kb v)) (wr := (cX hs ka u')) (w1 := (cM gs kb v')) hP hD [0, 1, 2, 3, 4, 5, 6, 7, 8, 9, 10, 11, 12, 13, 14, 15, 16] [17, 18, 19, 20] (sMX_m hs gs ka kb u' v) (sMX_x hs gs ka kb u' v) (by decide) (by decide) hk1 hFc hP1 hD1
    clear hPc hDc hKc hFc hz1 hk1 hP1 hK1 hD1 ht hvm
    generalize H1 = H at hP hS ⊢
    refine lv_icmp_eq (tgt := 468) hx hb dL_law_302 (by decide) (fun _ => ?_) (fun c9 => absurd rfl c9)
    exact back u' v' hR H locs ls hP hD hS hl
set_option maxHeartbeats 2000000 in
set_option maxRecDepth 100000 in
theorem lwc_lock {p : Program} {l : Launch} {e : Env} {s : State} {m : MethodId} {below : List Frame} {meth : Method} {c : Code} {dC : Nat → ClassId} {dI : Nat → Nat → Nat} {b L : Nat} {xs : Nat → Int32} (C0 : lw_At p s m meth c b L xs) {fu : Nat} (hfu : 400000000 ≤ fu) {hs gs : Nat → Nat} {ka kb : Nat → ClassId} (hK : va_K (dC, dI) vwCl (tX ka ++ tM kb) s) {i : Nat} {a1 : Int32} (hin1 : vp_in (nI i + (1 : Int32)) L) (hxs1 : xs (nI i + (1 : Int32)).toNatClampNeg = a1) {a2 : Int32} (hin2 : vp_in (nI i + (2 : Int32)) L) (hxs2 : xs (nI i + (2 : Int32)).toNatClampNeg = a2) {u : XS} {v : MS} (hRel : Rel u v) {H : Heap} {locs : List Loc} {ls : Array Slot} (hP : va_P (dC, dI) vwCl (cX hs ka u ++ cM gs kb v) H) (hD : va_D (fun q : Nat => s.heap.size ≤ q) (cX hs ka u ++ cM gs kb v)) (hS : va_S (fun q : Nat => s.heap.size ≤ q) s.heap H locs) (hl : lv_has ls 4 [(0, .ref b), (1, .ref (hs 0)), (2, .ref (gs 0)), (3, .int (nI i))])
    (back : ∀ (u : XS) (v : MS), Rel u v → ∀ (H : Heap) (locs : List Loc) (ls : Array Slot), va_P (dC, dI) vwCl (cX hs ka u ++ cM gs kb v) H → va_D (fun q : Nat => s.heap.size ≤ q) (cX hs ka u ++ cM gs kb v) → va_S (fun q : Nat => s.heap.size ≤ q) s.heap H locs → lv_has ls 4 [(0, .ref b), (1, .ref (hs 0)), (2, .ref (gs 0)), (3, .int (nI i))] → W p l e room_1 s m #[Value.ref b] below meth c H locs 21 1589 (lw_Z below #[Value.ref b] s) (F0 m 468 ls [])) : W p l e room_1 s m #[Value.ref b] below meth c H locs 21 1589 (lw_Z below #[Value.ref b] s) (F0 m 307 ls []) := by
  obtain ⟨hx, hb, hr, hml, hown0, hts, hX, hbl, hlocks, hgv⟩ := C0
  have hown : s.vm.findClass RL = some m.cls := hown0
  have hA : ∀ q : Nat, s.heap.size ≤ q → (fun q : Nat => s.heap.size ≤ q) q := fun _ h => h
  have hbA : ¬ (fun q : Nat => s.heap.size ≤ q) b := Nat.not_le.mpr hbl
  obtain ⟨r, u', v', e1, e2, hR⟩ := lock_step (fu := fu) hRel a1 a2
  refine lv_aload_n hx hb dL_law_307 rfl (lv_at hl 1 rfl) ?_
  refine lv_aload_n hx hb dL_law_308 rfl (lv_at hl 0 rfl) ?_
  refine lv_iload_n hx hb dL_law_309 rfl (lv_at hl 3 rfl) ?_
  refine lv_iconst (v := (1 : Int32)) hx hb dL_law_310 (by decide) ?_
  refine lv_iadd hx hb dL_law_311 ?_
  refine va_sld hx hb hX hbl hbA hS hin1 dL_law_312 ?_
  rw [hxs1]
  refine lv_aload_n hx hb dL_law_313 rfl (lv_at hl 0 rfl) ?_
  refine lv_iload_n hx hb dL_law_314 rfl (lv_at hl 3 rfl) ?_
  refine lv_iconst (v := (2 : Int32)) hx hb dL_law_315 (by decide) ?_
  refine lv_iadd hx hb dL_law_316 ?_
  refine va_sld hx hb hX hbl hbA hS hin2 dL_law_317 ?_
  rw [hxs2]
  have hPc : va_P (dC, dI) vwCl (cX hs ka u) H := hP.sub [0, 1, 2, 3] (fsXM_x hs gs ka kb u v)
  have hDc : va_D (fun q : Nat => s.heap.size ≤ q) (cX hs ka u) := hD.sub [0, 1, 2, 3] (by decide) (sXM_x hs gs ka kb u v)
  have hKc : va_K (dC, dI) vwCl (tX ka) s := hK.sub [0, 1, 2] (sK_x ka kb)
  have hFc := va_free (wc := (cX hs ka u)) hD hS hA [0, 1, 2, 3] (sXM_x hs gs ka kb u v)
  refine va_calli (va_runV (As := [.int a1, .int a2]) (rest := []) ⟨hx, hb, hml, hown, hts⟩ (c_X0_lock l dC dI hs ka H.size fu u a1 a2 r u' e1) (cwV 2 hts gL_law_X0_lock rfl rfl rfl (by decide +kernel) ⟨Nat.le_of_ble_eq_true rfl, Nat.le_of_ble_eq_true rfl⟩) ⟨fun a U g mk q => by obtain ⟨q0, q1, qP, qK, qD⟩ := q; exact ⟨q0, q1, qP, va_K.moved (u := U) (U := U.calling g mk a) (Vm.Alike.refl U.vm) qK, qD⟩, rc_X hKc hPc, fun U hU hW => ⟨rfl, by rw [hU], by rw [hU]; exact hPc, va_K.moved hW.alike hKc, hDc.weaken (fun _ _ _ _ => trivial)⟩⟩ rfl rfl hl.1 rfl (lv_room (Nat.le_of_ble_eq_true rfl)) dL_law_318 ⟨Nat.le_of_ble_eq_true rfl, Nat.le_of_ble_eq_true rfl⟩) hS (fun q _ h => hFc q h) hFc (fun r_c u_c t H1 locs ht hvm hw hB hz1 hk1 hS => ?_)
  obtain ⟨hw1, hw2⟩ := hw
  subst r_c
  subst u_c
  obtain ⟨hP1, hK1, hD1⟩ := hB
  rw [ht] at hP1
  obtain ⟨hP, hD⟩ := va_join (wc := (cX hs ka u)) (wr := (cM gs kb v)) (w1 := (cX hs ka u')) hP hD [0, 1, 2, 3] [4, 5, 6, 7, 8, 9, 10, 11, 12, 13, 14, 15, 16, 17, 18, 19, 20] (sXM_x hs gs ka kb u v) (sXM_m hs gs ka kb u v) (by decide) (by decide) hk1 hFc hP1 hD1
  clear hPc hDc hKc hFc hz1 hk1 hP1 hK1 hD1 ht hvm
  generalize H1 = H at hP hS ⊢
  refine lv_aload_n hx hb dL_law_321 rfl (lv_at hl 2 rfl) ?_
  refine lv_aload_n hx hb dL_law_322 rfl (lv_at hl 0 rfl) ?_
  refine lv_iload_n hx hb dL_law_323 rfl (lv_at hl 3 rfl) ?_
  refine lv_iconst (v := (1 : Int32)) hx hb dL_law_324 (by decide) ?_
  refine lv_iadd hx hb dL_law_325 ?_
  refine va_sld hx hb hX hbl hbA hS hin1 dL_law_326 ?_
  rw [hxs1]
  refine lv_aload_n hx hb dL_law_327 rfl (lv_at hl 0 rfl) ?_
  refine lv_iload_n hx hb dL_law_328 rfl (lv_at hl 3 rfl) ?_
  refine lv_iconst (v := (2 : Int32)) hx hb dL_law_329 (by decide) ?_
  refine lv_iadd hx hb dL_law_330 ?_
  refine va_sld hx hb hX hbl hbA hS hin2 dL_law_331 ?_
  rw [hxs2]
  have hPc : va_P (dC, dI) vwCl (cM gs kb v) H := hP.sub [0, 1, 2, 3, 4, 5, 6, 7, 8, 9, 10, 11, 12, 13, 14, 15, 16] (fsMX_m hs gs ka kb u' v)
  have hDc : va_D (fun q : Nat => s.heap.size ≤ q) (cM gs kb v) := hD.sub [0, 1, 2, 3, 4, 5, 6, 7, 8, 9, 10, 11, 12, 13, 14, 15, 16] (by decide) (sMX_m hs gs ka kb u' v)
  have hKc : va_K (dC, dI) vwCl (tM kb) s := hK.sub [3, 4, 5, 6, 7, 8, 9, 10, 11, 12, 13, 14, 15, 16, 17, 18] (sK_m ka kb)
  have hFc := va_free (wc := (cM gs kb v)) hD hS hA [0, 1, 2, 3, 4, 5, 6, 7, 8, 9, 10, 11, 12, 13, 14, 15, 16] (sMX_m hs gs ka kb u' v)
  refine va_calli (va_runV (As := [.int a1, .int a2]) (rest := [.int r]) ⟨hx, hb, hml, hown, hts⟩ (c_X1_lock l dC dI gs kb H.size fu v a1 a2 r v' e2) (cwV 2 hts gL_law_X1_lock rfl rfl rfl (by decide +kernel) ⟨Nat.le_of_ble_eq_true rfl, Nat.le_of_ble_eq_true rfl⟩) ⟨fun a U g mk q => by obtain ⟨q0, q1, qP, qK, qD⟩ := q; exact ⟨q0, q1, qP, va_K.moved (u := U) (U := U.calling g mk a) (Vm.Alike.refl U.vm) qK, qD⟩, rc_M hKc hPc, fun U hU hW => ⟨rfl, by rw [hU], by rw [hU]; exact hPc, va_K.moved hW.alike hKc, hDc.weaken (fun _ _ _ _ => trivial)⟩⟩ rfl rfl hl.1 rfl (lv_room (Nat.le_of_ble_eq_true rfl)) dL_law_332 ⟨Nat.le_of_ble_eq_true rfl, Nat.le_of_ble_eq_true rfl⟩) hS (fun q _ h => hFc q h) hFc (fun r_c u_c t H1 locs ht hvm hw hB hz1 hk1 hS => ?_)
  obtain ⟨hw1, hw2⟩ := hw
  subst r_c
  subst u_c
  obtain ⟨hP1, hK1, hD1⟩ := hB
  rw [ht] at hP1
  obtain ⟨hP, hD⟩ := va_join (wc := (cM gs kb v)) (wr := (cX hs ka u')) (w1 := (cM gs kb v')) hP hD [0, 1, 2, 3, 4, 5, 6, 7, 8, 9, 10, 11, 12, 13, 14, 15, 16] [17, 18, 19, 20] (sMX_m hs gs ka kb u' v) (sMX_x hs gs ka kb u' v) (by decide) (by decide) hk1 hFc hP1 hD1
  clear hPc hDc hKc hFc hz1 hk1 hP1 hK1 hD1 ht hvm
  generalize H1 = H at hP hS ⊢
  refine lv_icmp_eq (tgt := 468) hx hb dL_law_335 (by decide) (fun _ => ?_) (fun c9 => absurd rfl c9)
  exact back u' v' hR H locs ls hP hD hS hl
set_option maxHeartbeats 2000000 in
set_option maxRecDepth 100000 in
theorem lwc_solve {p : Program} {l : Launch} {e : Env} {s : State} {m : MethodId} {below : List Frame} {meth : Method} {c : Code} {dC : Nat → ClassId} {dI : Nat → Nat → Nat} {b L : Nat} {xs : Nat → Int32} (C0 : lw_At p s m meth c b L xs) {fu : Nat} (hfu : 400000000 ≤ fu) {hs gs : Nat → Nat} {ka kb : Nat → ClassId} (hK : va_K (dC, dI) vwCl (tX ka ++ tM kb) s) {i : Nat}  {u : XS} {v : MS} (hRel : Rel u v) {H : Heap} {locs : List Loc} {ls : Array Slot} (hP : va_P (dC, dI) vwCl (cX hs ka u ++ cM gs kb v) H) (hD : va_D (fun q : Nat => s.heap.size ≤ q) (cX hs ka u ++ cM gs kb v)) (hS : va_S (fun q : Nat => s.heap.size ≤ q) s.heap H locs) (hl : lv_has ls 4 [(0, .ref b), (1, .ref (hs 0)), (2, .ref (gs 0)), (3, .int (nI i))])
    (back : ∀ (u : XS) (v : MS), Rel u v → ∀ (H : Heap) (locs : List Loc) (ls : Array Slot), va_P (dC, dI) vwCl (cX hs ka u ++ cM gs kb v) H → va_D (fun q : Nat => s.heap.size ≤ q) (cX hs ka u ++ cM gs kb v) → va_S (fun q : Nat => s.heap.size ≤ q) s.heap H locs → lv_has ls 4 [(0, .ref b), (1, .ref (hs 0)), (2, .ref (gs 0)), (3, .int (nI i))] → W p l e room_1 s m #[Value.ref b] below meth c H locs 21 1589 (lw_Z below #[Value.ref b] s) (F0 m 468 ls [])) : W p l e room_1 s m #[Value.ref b] below meth c H locs 21 1589 (lw_Z below #[Value.ref b] s) (F0 m 340 ls []) := by
  obtain ⟨hx, hb, hr, hml, hown0, hts, hX, hbl, hlocks, hgv⟩ := C0
  have hown : s.vm.findClass RL = some m.cls := hown0
  have hA : ∀ q : Nat, s.heap.size ≤ q → (fun q : Nat => s.heap.size ≤ q) q := fun _ h => h
  have hbA : ¬ (fun q : Nat => s.heap.size ≤ q) b := Nat.not_le.mpr hbl
  obtain ⟨r, u', v', e1, e2, hR⟩ := solve_step hfu hRel
  refine lv_aload_n hx hb dL_law_340 rfl (lv_at hl 1 rfl) ?_
  have hPc : va_P (dC, dI) vwCl (cX hs ka u) H := hP.sub [0, 1, 2, 3] (fsXM_x hs gs ka kb u v)
  have hDc : va_D (fun q : Nat => s.heap.size ≤ q) (cX hs ka u) := hD.sub [0, 1, 2, 3] (by decide) (sXM_x hs gs ka kb u v)
  have hKc : va_K (dC, dI) vwCl (tX ka) s := hK.sub [0, 1, 2] (sK_x ka kb)
  have hFc := va_free (wc := (cX hs ka u)) hD hS hA [0, 1, 2, 3] (sXM_x hs gs ka kb u v)
  refine va_calli (va_runV (As := []) (rest := []) ⟨hx, hb, hml, hown, hts⟩ (c_X0_solve l dC dI hs ka H.size fu u  r u' e1) (cwV 0 hts gL_law_X0_solve rfl rfl rfl (by decide +kernel) ⟨Nat.le_of_ble_eq_true rfl, Nat.le_of_ble_eq_true rfl⟩) ⟨fun a U g mk q => by obtain ⟨q0, q1, qP, qK, qD⟩ := q; exact ⟨q0, q1, qP, va_K.moved (u := U) (U := U.calling g mk a) (Vm.Alike.refl U.vm) qK, qD⟩, rc_X hKc hPc, fun U hU hW => ⟨rfl, by rw [hU], by rw [hU]; exact hPc, va_K.moved hW.alike hKc, hDc.weaken (fun _ _ _ _ => trivial)⟩⟩ rfl rfl hl.1 rfl (lv_room (Nat.le_of_ble_eq_true rfl)) dL_law_341 ⟨Nat.le_of_ble_eq_true rfl, Nat.le_of_ble_eq_true rfl⟩) hS (fun q _ h => hFc q h) hFc (fun r_c u_c t H1 locs ht hvm hw hB hz1 hk1 hS => ?_)
  obtain ⟨hw1, hw2⟩ := hw
  subst r_c
  subst u_c
  obtain ⟨hP1, hK1, hD1⟩ := hB
  rw [ht] at hP1
  obtain ⟨hP, hD⟩ := va_join (wc := (cX hs ka u)) (wr := (cM gs kb v)) (w1 := (cX hs ka u')) hP hD [0, 1, 2, 3] [4, 5, 6, 7, 8, 9, 10, 11, 12, 13, 14, 15, 16, 17, 18, 19, 20] (sXM_x hs gs ka kb u v) (sXM_m hs gs ka kb u v) (by decide) (by decide) hk1 hFc hP1 hD1
  clear hPc hDc hKc hFc hz1 hk1 hP1 hK1 hD1 ht hvm
  generalize H1 = H at hP hS ⊢
  refine lv_aload_n hx hb dL_law_344 rfl (lv_at hl 2 rfl) ?_
  have hPc : va_P (dC, dI) vwCl (cM gs kb v) H := hP.sub [0, 1, 2, 3, 4, 5, 6, 7, 8, 9, 10, 11, 12, 13, 14, 15, 16] (fsMX_m hs gs ka kb u' v)
  have hDc : va_D (fun q : Nat => s.heap.size ≤ q) (cM gs kb v) := hD.sub [0, 1, 2, 3, 4, 5, 6, 7, 8, 9, 10, 11, 12, 13, 14, 15, 16] (by decide) (sMX_m hs gs ka kb u' v)
  have hKc : va_K (dC, dI) vwCl (tM kb) s := hK.sub [3, 4, 5, 6, 7, 8, 9, 10, 11, 12, 13, 14, 15, 16, 17, 18] (sK_m ka kb)
  have hFc := va_free (wc := (cM gs kb v)) hD hS hA [0, 1, 2, 3, 4, 5, 6, 7, 8, 9, 10, 11, 12, 13, 14, 15, 16] (sMX_m hs gs ka kb u' v)
  refine va_calli (va_runV (As := []) (rest := [.int r]) ⟨hx, hb, hml, hown, hts⟩ (c_X1_solve l dC dI gs kb H.size fu v  r v' e2) (cwV 0 hts gL_law_X1_solve rfl rfl rfl (by decide +kernel) ⟨Nat.le_of_ble_eq_true rfl, Nat.le_of_ble_eq_true rfl⟩) ⟨fun a U g mk q => by obtain ⟨q0, q1, qP, qK, qD⟩ := q; exact ⟨q0, q1, qP, va_K.moved (u := U) (U := U.calling g mk a) (Vm.Alike.refl U.vm) qK, qD⟩, rc_M hKc hPc, fun U hU hW => ⟨rfl, by rw [hU], by rw [hU]; exact hPc, va_K.moved hW.alike hKc, hDc.weaken (fun _ _ _ _ => trivial)⟩⟩ rfl rfl hl.1 rfl (lv_room (Nat.le_of_ble_eq_true rfl)) dL_law_345 ⟨Nat.le_of_ble_eq_true rfl, Nat.le_of_ble_eq_true rfl⟩) hS (fun q _ h => hFc q h) hFc (fun r_c u_c t H1 locs ht hvm hw hB hz1 hk1 hS => ?_)
  obtain ⟨hw1, hw2⟩ := hw
  subst r_c
  subst u_c
  obtain ⟨hP1, hK1, hD1⟩ := hB
  rw [ht] at hP1
  obtain ⟨hP, hD⟩ := va_join (wc := (cM gs kb v)) (wr := (cX hs ka u')) (w1 := (cM gs kb v')) hP hD [0, 1, 2, 3, 4, 5, 6, 7, 8, 9, 10, 11, 12, 13, 14, 15, 16] [17, 18, 19, 20] (sMX_m hs gs ka kb u' v) (sMX_x hs gs ka kb u' v) (by decide) (by decide) hk1 hFc hP1 hD1
  clear hPc hDc hKc hFc hz1 hk1 hP1 hK1 hD1 ht hvm
  generalize H1 = H at hP hS ⊢
  refine lv_icmp_eq (tgt := 468) hx hb dL_law_348 (by decide) (fun _ => ?_) (fun c9 => absurd rfl c9)
  exact back u' v' hR H locs ls hP hD hS hl
set_option maxHeartbeats 2000000 in
set_option maxRecDepth 100000 in
theorem lwc_chosen {p : Program} {l : Launch} {e : Env} {s : State} {m : MethodId} {below : List Frame} {meth : Method} {c : Code} {dC : Nat → ClassId} {dI : Nat → Nat → Nat} {b L : Nat} {xs : Nat → Int32} (C0 : lw_At p s m meth c b L xs) {fu : Nat} (hfu : 400000000 ≤ fu) {hs gs : Nat → Nat} {ka kb : Nat → ClassId} (hK : va_K (dC, dI) vwCl (tX ka ++ tM kb) s) {i : Nat} {a1 : Int32} (hin1 : vp_in (nI i + (1 : Int32)) L) (hxs1 : xs (nI i + (1 : Int32)).toNatClampNeg = a1) {u : XS} {v : MS} (hRel : Rel u v) {H : Heap} {locs : List Loc} {ls : Array Slot} (hP : va_P (dC, dI) vwCl (cX hs ka u ++ cM gs kb v) H) (hD : va_D (fun q : Nat => s.heap.size ≤ q) (cX hs ka u ++ cM gs kb v)) (hS : va_S (fun q : Nat => s.heap.size ≤ q) s.heap H locs) (hl : lv_has ls 4 [(0, .ref b), (1, .ref (hs 0)), (2, .ref (gs 0)), (3, .int (nI i))])
    (back : ∀ (u : XS) (v : MS), Rel u v → ∀ (H : Heap) (locs : List Loc) (ls : Array Slot), va_P (dC, dI) vwCl (cX hs ka u ++ cM gs kb v) H → va_D (fun q : Nat => s.heap.size ≤ q) (cX hs ka u ++ cM gs kb v) → va_S (fun q : Nat => s.heap.size ≤ q) s.heap H locs → lv_has ls 4 [(0, .ref b), (1, .ref (hs 0)), (2, .ref (gs 0)), (3, .int (nI i))] → W p l e room_1 s m #[Value.ref b] below meth c H locs 21 1589 (lw_Z below #[Value.ref b] s) (F0 m 468 ls [])) : W p l e room_1 s m #[Value.ref b] below meth c H locs 21 1589 (lw_Z below #[Value.ref b] s) (F0 m 353 ls []) := by
  obtain ⟨hx, hb, hr, hml, hown0, hts, hX, hbl, hlocks, hgv⟩ := C0
  have hown : s.vm.findClass RL = some m.cls := hown0
  have hA : ∀ q : Nat, s.heap.size ≤ q → (fun q : Nat => s.heap.size ≤ q) q := fun _ h => h
  have hbA : ¬ (fun q : Nat => s.heap.size ≤ q) b := Nat.not_le.mpr hbl
  obtain ⟨r, v', e1, e2, hR⟩ := chosen_step hfu hRel a1
  refine lv_aload_n hx hb dL_law_353 rfl (lv_at hl 1 rfl) ?_
  refine lv_aload_n hx hb dL_law_354 rfl (lv_at hl 0 rfl) ?_
  refine lv_iload_n hx hb dL_law_355 rfl (lv_at hl 3 rfl) ?_
  refine lv_iconst (v := (1 : Int32)) hx hb dL_law_356 (by decide) ?_
  refine lv_iadd hx hb dL_law_357 ?_
  refine va_sld hx hb hX hbl hbA hS hin1 dL_law_358 ?_
  rw [hxs1]
  have hPc : va_P (dC, dI) vwCl (cX hs ka u) H := hP.sub [0, 1, 2, 3] (fsXM_x hs gs ka kb u v)
  have hDc : va_D (fun q : Nat => s.heap.size ≤ q) (cX hs ka u) := hD.sub [0, 1, 2, 3] (by decide) (sXM_x hs gs ka kb u v)
  have hKc : va_K (dC, dI) vwCl (tX ka) s := hK.sub [0, 1, 2] (sK_x ka kb)
  have hFc := va_free (wc := (cX hs ka u)) hD hS hA [0, 1, 2, 3] (sXM_x hs gs ka kb u v)
  refine va_calli (va_runV (As := [.int a1]) (rest := []) ⟨hx, hb, hml, hown, hts⟩ (c_X0_chosen l dC dI hs ka H.size fu u a1 r e1) (cwV 1 hts gL_law_X0_chosen rfl rfl rfl (by decide +kernel) ⟨Nat.le_of_ble_eq_true rfl, Nat.le_of_ble_eq_true rfl⟩) ⟨fun a U g mk q => by obtain ⟨q0, q1, qP, qK, qD⟩ := q; exact ⟨q0, q1, qP, va_K.moved (u := U) (U := U.calling g mk a) (Vm.Alike.refl U.vm) qK, qD⟩, rc_X hKc hPc, fun U hU hW => ⟨rfl, by rw [hU], by rw [hU]; exact hPc, va_K.moved hW.alike hKc, hDc.weaken (fun _ _ _ _ => trivial)⟩⟩ rfl rfl hl.1 rfl (lv_room (Nat.le_of_ble_eq_true rfl)) dL_law_359 ⟨Nat.le_of_ble_eq_true rfl, Nat.le_of_ble_eq_true rfl⟩) hS (fun q _ h => hFc q h) hFc (fun r_c u_c t H1 locs ht hvm hw hB hz1 hk1 hS => ?_)
  obtain ⟨hw1, hw2⟩ := hw
  subst r_c
  subst u_c
  obtain ⟨hP1, hK1, hD1⟩ := hB
  rw [ht] at hP1
  obtain ⟨hP, hD⟩ := va_join (wc := (cX hs ka u)) (wr := (cM gs kb v)) (w1 := (cX hs ka u)) hP hD [0, 1, 2, 3] [4, 5, 6, 7, 8, 9, 10, 11, 12, 13, 14, 15, 16, 17, 18, 19, 20] (sXM_x hs gs ka kb u v) (sXM_m hs gs ka kb u v) (by decide) (by decide) hk1 hFc hP1 hD1
  clear hPc hDc hKc hFc hz1 hk1 hP1 hK1 hD1 ht hvm
  generalize H1 = H at hP hS ⊢
  refine lv_aload_n hx hb dL_law_362 rfl (lv_at hl 2 rfl) ?_
  refine lv_aload_n hx hb dL_law_363 rfl (lv_at hl 0 rfl) ?_
  refine lv_iload_n hx hb dL_law_364 rfl (lv_at hl 3 rfl) ?_
  refine lv_iconst (v := (1 : Int32)) hx hb dL_law_365 (by decide) ?_
  refine lv_iadd hx hb dL_law_366 ?_
  refine va_sld hx hb hX hbl hbA hS hin1 dL_law_367 ?_
  rw [hxs1]
  have hPc : va_P (dC, dI) vwCl (cM gs kb v) H := hP.sub [0, 1, 2, 3, 4, 5, 6, 7, 8, 9, 10, 11, 12, 13, 14, 15, 16] (fsMX_m hs gs ka kb u v)
  have hDc : va_D (fun q : Nat => s.heap.size ≤ q) (cM gs kb v) := hD.sub [0, 1, 2, 3, 4, 5, 6, 7, 8, 9, 10, 11, 12, 13, 14, 15, 16] (by decide) (sMX_m hs gs ka kb u v)
  have hKc : va_K (dC, dI) vwCl (tM kb) s := hK.sub [3, 4, 5, 6, 7, 8, 9, 10, 11, 12, 13, 14, 15, 16, 17, 18] (sK_m ka kb)
  have hFc := va_free (wc := (cM gs kb v)) hD hS hA [0, 1, 2, 3, 4, 5, 6, 7, 8, 9, 10, 11, 12, 13, 14, 15, 16] (sMX_m hs gs ka kb u v)
  refine va_calli (va_runV (As := [.int a1]) (rest := [.int r]) ⟨hx, hb, hml, hown, hts⟩ (c_X1_chosen l dC dI gs kb H.size fu v a1 r v' e2) (cwV 1 hts gL_law_X1_chosen rfl rfl rfl (by decide +kernel) ⟨Nat.le_of_ble_eq_true rfl, Nat.le_of_ble_eq_true rfl⟩) ⟨fun a U g mk q => by obtain ⟨q0, q1, qP, qK, qD⟩ := q; exact ⟨q0, q1, qP, va_K.moved (u := U) (U := U.calling g mk a) (Vm.Alike.refl U.vm) qK, qD⟩, rc_M hKc hPc, fun U hU hW => ⟨rfl, by rw [hU], by rw [hU]; exact hPc, va_K.moved hW.alike hKc, hDc.weaken (fun _ _ _ _ => trivial)⟩⟩ rfl rfl hl.1 rfl (lv_room (Nat.le_of_ble_eq_true rfl)) dL_law_368 ⟨Nat.le_of_ble_eq_true rfl, Nat.le_of_ble_eq_true rfl⟩) hS (fun q _ h => hFc q h) hFc (fun r_c u_c t H1 locs ht hvm hw hB hz1 hk1 hS => ?_)
  obtain ⟨hw1, hw2⟩ := hw
  subst r_c
  subst u_c
  obtain ⟨hP1, hK1, hD1⟩ := hB
  rw [ht] at hP1
  obtain ⟨hP, hD⟩ := va_join (wc := (cM gs kb v)) (wr := (cX hs ka u)) (w1 := (cM gs kb v')) hP hD [0, 1, 2, 3, 4, 5, 6, 7, 8, 9, 10, 11, 12, 13, 14, 15, 16] [17, 18, 19, 20] (sMX_m hs gs ka kb u v) (sMX_x hs gs ka kb u v) (by decide) (by decide) hk1 hFc hP1 hD1
  clear hPc hDc hKc hFc hz1 hk1 hP1 hK1 hD1 ht hvm
  generalize H1 = H at hP hS ⊢
  refine lv_icmp_eq (tgt := 468) hx hb dL_law_371 (by decide) (fun _ => ?_) (fun c9 => absurd rfl c9)
  exact back u v' hR H locs ls hP hD hS hl
set_option maxHeartbeats 2000000 in
set_option maxRecDepth 100000 in
theorem lwc_blame {p : Program} {l : Launch} {e : Env} {s : State} {m : MethodId} {below : List Frame} {meth : Method} {c : Code} {dC : Nat → ClassId} {dI : Nat → Nat → Nat} {b L : Nat} {xs : Nat → Int32} (C0 : lw_At p s m meth c b L xs) {fu : Nat} (hfu : 400000000 ≤ fu) {hs gs : Nat → Nat} {ka kb : Nat → ClassId} (hK : va_K (dC, dI) vwCl (tX ka ++ tM kb) s) {i : Nat}  {u : XS} {v : MS} (hRel : Rel u v) {H : Heap} {locs : List Loc} {ls : Array Slot} (hP : va_P (dC, dI) vwCl (cX hs ka u ++ cM gs kb v) H) (hD : va_D (fun q : Nat => s.heap.size ≤ q) (cX hs ka u ++ cM gs kb v)) (hS : va_S (fun q : Nat => s.heap.size ≤ q) s.heap H locs) (hl : lv_has ls 4 [(0, .ref b), (1, .ref (hs 0)), (2, .ref (gs 0)), (3, .int (nI i))])
    (back : ∀ (u : XS) (v : MS), Rel u v → ∀ (H : Heap) (locs : List Loc) (ls : Array Slot), va_P (dC, dI) vwCl (cX hs ka u ++ cM gs kb v) H → va_D (fun q : Nat => s.heap.size ≤ q) (cX hs ka u ++ cM gs kb v) → va_S (fun q : Nat => s.heap.size ≤ q) s.heap H locs → lv_has ls 4 [(0, .ref b), (1, .ref (hs 0)), (2, .ref (gs 0)), (3, .int (nI i))] → W p l e room_1 s m #[Value.ref b] below meth c H locs 21 1589 (lw_Z below #[Value.ref b] s) (F0 m 468 ls [])) : W p l e room_1 s m #[Value.ref b] below meth c H locs 21 1589 (lw_Z below #[Value.ref b] s) (F0 m 376 ls []) := by
  obtain ⟨hx, hb, hr, hml, hown0, hts, hX, hbl, hlocks, hgv⟩ := C0
  have hown : s.vm.findClass RL = some m.cls := hown0
  have hA : ∀ q : Nat, s.heap.size ≤ q → (fun q : Nat => s.heap.size ≤ q) q := fun _ h => h
  have hbA : ¬ (fun q : Nat => s.heap.size ≤ q) b := Nat.not_le.mpr hbl
  obtain ⟨r, u', v', e1, e2, hR⟩ := blame_step hfu hRel
  refine lv_aload_n hx hb dL_law_376 rfl (lv_at hl 1 rfl) ?_
  have hPc : va_P (dC, dI) vwCl (cX hs ka u) H := hP.sub [0, 1, 2, 3] (fsXM_x hs gs ka kb u v)
  have hDc : va_D (fun q : Nat => s.heap.size ≤ q) (cX hs ka u) := hD.sub [0, 1, 2, 3] (by decide) (sXM_x hs gs ka kb u v)
  have hKc : va_K (dC, dI) vwCl (tX ka) s := hK.sub [0, 1, 2] (sK_x ka kb)
  have hFc := va_free (wc := (cX hs ka u)) hD hS hA [0, 1, 2, 3] (sXM_x hs gs ka kb u v)
  refine va_calli (va_runV (As := []) (rest := []) ⟨hx, hb, hml, hown, hts⟩ (c_X0_blame l dC dI hs ka H.size fu u  r u' e1) (cwV 0 hts gL_law_X0_blame rfl rfl rfl (by decide +kernel) ⟨Nat.le_of_ble_eq_true rfl, Nat.le_of_ble_eq_true rfl⟩) ⟨fun a U g mk q => by obtain ⟨q0, q1, qP, qK, qD⟩ := q; exact ⟨q0, q1, qP, va_K.moved (u := U) (U := U.calling g mk a) (Vm.Alike.refl U.vm) qK, qD⟩, rc_X hKc hPc, fun U hU hW => ⟨rfl, by rw [hU], by rw [hU]; exact hPc, va_K.moved hW.alike hKc, hDc.weaken (fun _ _ _ _ => trivial)⟩⟩ rfl rfl hl.1 rfl (lv_room (Nat.le_of_ble_eq_true rfl)) dL_law_377 ⟨Nat.le_of_ble_eq_true rfl, Nat.le_of_ble_eq_true rfl⟩) hS (fun q _ h => hFc q h) hFc (fun r_c u_c t H1 locs ht hvm hw hB hz1 hk1 hS => ?_)
  obtain ⟨hw1, hw2⟩ := hw
  subst r_c
  subst u_c
  obtain ⟨hP1, hK1, hD1⟩ := hB
  rw [ht] at hP1
  obtain ⟨hP, hD⟩ := va_join (wc := (cX hs ka u)) (wr := (cM gs kb v)) (w1 := (cX hs ka u')) hP hD [0, 1, 2, 3] [4, 5, 6, 7, 8, 9, 10, 11, 12, 13, 14, 15, 16, 17, 18, 19, 20] (sXM_x hs gs ka kb u v) (sXM_m hs gs ka kb u v) (by decide) (by decide) hk1 hFc hP1 hD1
  clear hPc hDc hKc hFc hz1 hk1 hP1 hK1 hD1 ht hvm
  generalize H1 = H at hP hS ⊢
  refine lv_aload_n hx hb dL_law_380 rfl (lv_at hl 2 rfl) ?_
  have hPc : va_P (dC, dI) vwCl (cM gs kb v) H := hP.sub [0, 1, 2, 3, 4, 5, 6, 7, 8, 9, 10, 11, 12, 13, 14, 15, 16] (fsMX_m hs gs ka kb u' v)
  have hDc : va_D (fun q : Nat => s.heap.size ≤ q) (cM gs kb v) := hD.sub [0, 1, 2, 3, 4, 5, 6, 7, 8, 9, 10, 11, 12, 13, 14, 15, 16] (by decide) (sMX_m hs gs ka kb u' v)
  have hKc : va_K (dC, dI) vwCl (tM kb) s := hK.sub [3, 4, 5, 6, 7, 8, 9, 10, 11, 12, 13, 14, 15, 16, 17, 18] (sK_m ka kb)
  have hFc := va_free (wc := (cM gs kb v)) hD hS hA [0, 1, 2, 3, 4, 5, 6, 7, 8, 9, 10, 11, 12, 13, 14, 15, 16] (sMX_m hs gs ka kb u' v)
  refine va_calli (va_runV (As := []) (rest := [.int r]) ⟨hx, hb, hml, hown, hts⟩ (c_X1_blame l dC dI gs kb H.size fu v  r v' e2) (cwV 0 hts gL_law_X1_blame rfl rfl rfl (by decide +kernel) ⟨Nat.le_of_ble_eq_true rfl, Nat.le_of_ble_eq_true rfl⟩) ⟨fun a U g mk q => by obtain ⟨q0, q1, qP, qK, qD⟩ := q; exact ⟨q0, q1, qP, va_K.moved (u := U) (U := U.calling g mk a) (Vm.Alike.refl U.vm) qK, qD⟩, rc_M hKc hPc, fun U hU hW => ⟨rfl, by rw [hU], by rw [hU]; exact hPc, va_K.moved hW.alike hKc, hDc.weaken (fun _ _ _ _ => trivial)⟩⟩ rfl rfl hl.1 rfl (lv_room (Nat.le_of_ble_eq_true rfl)) dL_law_381 ⟨Nat.le_of_ble_eq_true rfl, Nat.le_of_ble_eq_true rfl⟩) hS (fun q _ h => hFc q h) hFc (fun r_c u_c t H1 locs ht hvm hw hB hz1 hk1 hS => ?_)
  obtain ⟨hw1, hw2⟩ := hw
  subst r_c
  subst u_c
  obtain ⟨hP1, hK1, hD1⟩ := hB
  rw [ht] at hP1
  obtain ⟨hP, hD⟩ := va_join (wc := (cM gs kb v)) (wr := (cX hs ka u')) (w1 := (cM gs kb v')) hP hD [0, 1, 2, 3, 4, 5, 6, 7, 8, 9, 10, 11, 12, 13, 14, 15, 16] [17, 18, 19, 20] (sMX_m hs gs ka kb u' v) (sMX_x hs gs ka kb u' v) (by decide) (by decide) hk1 hFc hP1 hD1
  clear hPc hDc hKc hFc hz1 hk1 hP1 hK1 hD1 ht hvm
  generalize H1 = H at hP hS ⊢
  refine lv_icmp_eq (tgt := 468) hx hb dL_law_384 (by decide) (fun _ => ?_) (fun c9 => absurd rfl c9)
  exact back u' v' hR H locs ls hP hD hS hl
set_option maxHeartbeats 2000000 in
set_option maxRecDepth 100000 in
theorem lwc_blamed {p : Program} {l : Launch} {e : Env} {s : State} {m : MethodId} {below : List Frame} {meth : Method} {c : Code} {dC : Nat → ClassId} {dI : Nat → Nat → Nat} {b L : Nat} {xs : Nat → Int32} (C0 : lw_At p s m meth c b L xs) {fu : Nat} (hfu : 400000000 ≤ fu) {hs gs : Nat → Nat} {ka kb : Nat → ClassId} (hK : va_K (dC, dI) vwCl (tX ka ++ tM kb) s) {i : Nat} {a1 : Int32} (hin1 : vp_in (nI i + (1 : Int32)) L) (hxs1 : xs (nI i + (1 : Int32)).toNatClampNeg = a1) {u : XS} {v : MS} (hRel : Rel u v) {H : Heap} {locs : List Loc} {ls : Array Slot} (hP : va_P (dC, dI) vwCl (cX hs ka u ++ cM gs kb v) H) (hD : va_D (fun q : Nat => s.heap.size ≤ q) (cX hs ka u ++ cM gs kb v)) (hS : va_S (fun q : Nat => s.heap.size ≤ q) s.heap H locs) (hl : lv_has ls 4 [(0, .ref b), (1, .ref (hs 0)), (2, .ref (gs 0)), (3, .int (nI i))])
    (back : ∀ (u : XS) (v : MS), Rel u v → ∀ (H : Heap) (locs : List Loc) (ls : Array Slot), va_P (dC, dI) vwCl (cX hs ka u ++ cM gs kb v) H → va_D (fun q : Nat => s.heap.size ≤ q) (cX hs ka u ++ cM gs kb v) → va_S (fun q : Nat => s.heap.size ≤ q) s.heap H locs → lv_has ls 4 [(0, .ref b), (1, .ref (hs 0)), (2, .ref (gs 0)), (3, .int (nI i))] → W p l e room_1 s m #[Value.ref b] below meth c H locs 21 1589 (lw_Z below #[Value.ref b] s) (F0 m 468 ls [])) : W p l e room_1 s m #[Value.ref b] below meth c H locs 21 1589 (lw_Z below #[Value.ref b] s) (F0 m 389 ls []) := by
  obtain ⟨hx, hb, hr, hml, hown0, hts, hX, hbl, hlocks, hgv⟩ := C0
  have hown : s.vm.findClass RL = some m.cls := hown0
  have hA : ∀ q : Nat, s.heap.size ≤ q → (fun q : Nat => s.heap.size ≤ q) q := fun _ h => h
  have hbA : ¬ (fun q : Nat => s.heap.size ≤ q) b := Nat.not_le.mpr hbl
  obtain ⟨r, v', e1, e2, hR⟩ := blamed_step hfu hRel a1
  refine lv_aload_n hx hb dL_law_389 rfl (lv_at hl 1 rfl) ?_
  refine lv_aload_n hx hb dL_law_390 rfl (lv_at hl 0 rfl) ?_
  refine lv_iload_n hx hb dL_law_391 rfl (lv_at hl 3 rfl) ?_
  refine lv_iconst (v := (1 : Int32)) hx hb dL_law_392 (by decide) ?_
  refine lv_iadd hx hb dL_law_393 ?_
  refine va_sld hx hb hX hbl hbA hS hin1 dL_law_394 ?_
  rw [hxs1]
  have hPc : va_P (dC, dI) vwCl (cX hs ka u) H := hP.sub [0, 1, 2, 3] (fsXM_x hs gs ka kb u v)
  have hDc : va_D (fun q : Nat => s.heap.size ≤ q) (cX hs ka u) := hD.sub [0, 1, 2, 3] (by decide) (sXM_x hs gs ka kb u v)
  have hKc : va_K (dC, dI) vwCl (tX ka) s := hK.sub [0, 1, 2] (sK_x ka kb)
  have hFc := va_free (wc := (cX hs ka u)) hD hS hA [0, 1, 2, 3] (sXM_x hs gs ka kb u v)
  refine va_calli (va_runV (As := [.int a1]) (rest := []) ⟨hx, hb, hml, hown, hts⟩ (c_X0_blamed l dC dI hs ka H.size fu u a1 r e1) (cwV 1 hts gL_law_X0_blamed rfl rfl rfl (by decide +kernel) ⟨Nat.le_of_ble_eq_true rfl, Nat.le_of_ble_eq_true rfl⟩) ⟨fun a U g mk q => by obtain ⟨q0, q1, qP, qK, qD⟩ := q; exact ⟨q0, q1, qP, va_K.moved (u := U) (U := U.calling g mk a) (Vm.Alike.refl U.vm) qK, qD⟩, rc_X hKc hPc, fun U hU hW => ⟨rfl, by rw [hU], by rw [hU]; exact hPc, va_K.moved hW.alike hKc, hDc.weaken (fun _ _ _ _ => trivial)⟩⟩ rfl rfl hl.1 rfl (lv_room (Nat.le_of_ble_eq_true rfl)) dL_law_395 ⟨Nat.le_of_ble_eq_true rfl, Nat.le_of_ble_eq_true rfl⟩) hS (fun q _ h => hFc q h) hFc (fun r_c u_c t H1 locs ht hvm hw hB hz1 hk1 hS => ?_)
  obtain ⟨hw1, hw2⟩ := hw
  subst r_c
  subst u_c
  obtain ⟨hP1, hK1, hD1⟩ := hB
  rw [ht] at hP1
  obtain ⟨hP, hD⟩ := va_join (wc := (cX hs ka u)) (wr := (cM gs kb v)) (w1 := (cX hs ka u)) hP hD [0, 1, 2, 3] [4, 5, 6, 7, 8, 9, 10, 11, 12, 13, 14, 15, 16, 17, 18, 19, 20] (sXM_x hs gs ka kb u v) (sXM_m hs gs ka kb u v) (by decide) (by decide) hk1 hFc hP1 hD1
  clear hPc hDc hKc hFc hz1 hk1 hP1 hK1 hD1 ht hvm
  generalize H1 = H at hP hS ⊢
  refine lv_aload_n hx hb dL_law_398 rfl (lv_at hl 2 rfl) ?_
  refine lv_aload_n hx hb dL_law_399 rfl (lv_at hl 0 rfl) ?_
  refine lv_iload_n hx hb dL_law_400 rfl (lv_at hl 3 rfl) ?_
  refine lv_iconst (v := (1 : Int32)) hx hb dL_law_401 (by decide) ?_
  refine lv_iadd hx hb dL_law_402 ?_
  refine va_sld hx hb hX hbl hbA hS hin1 dL_law_403 ?_
  rw [hxs1]
  have hPc : va_P (dC, dI) vwCl (cM gs kb v) H := hP.sub [0, 1, 2, 3, 4, 5, 6, 7, 8, 9, 10, 11, 12, 13, 14, 15, 16] (fsMX_m hs gs ka kb u v)
  have hDc : va_D (fun q : Nat => s.heap.size ≤ q) (cM gs kb v) := hD.sub [0, 1, 2, 3, 4, 5, 6, 7, 8, 9, 10, 11, 12, 13, 14, 15, 16] (by decide) (sMX_m hs gs ka kb u v)
  have hKc : va_K (dC, dI) vwCl (tM kb) s := hK.sub [3, 4, 5, 6, 7, 8, 9, 10, 11, 12, 13, 14, 15, 16, 17, 18] (sK_m ka kb)
  have hFc := va_free (wc := (cM gs kb v)) hD hS hA [0, 1, 2, 3, 4, 5, 6, 7, 8, 9, 10, 11, 12, 13, 14, 15, 16] (sMX_m hs gs ka kb u v)
  refine va_calli (va_runV (As := [.int a1]) (rest := [.int r]) ⟨hx, hb, hml, hown, hts⟩ (c_X1_blamed l dC dI gs kb H.size fu v a1 r v' e2) (cwV 1 hts gL_law_X1_blamed rfl rfl rfl (by decide +kernel) ⟨Nat.le_of_ble_eq_true rfl, Nat.le_of_ble_eq_true rfl⟩) ⟨fun a U g mk q => by obtain ⟨q0, q1, qP, qK, qD⟩ := q; exact ⟨q0, q1, qP, va_K.moved (u := U) (U := U.calling g mk a) (Vm.Alike.refl U.vm) qK, qD⟩, rc_M hKc hPc, fun U hU hW => ⟨rfl, by rw [hU], by rw [hU]; exact hPc, va_K.moved hW.alike hKc, hDc.weaken (fun _ _ _ _ => trivial)⟩⟩ rfl rfl hl.1 rfl (lv_room (Nat.le_of_ble_eq_true rfl)) dL_law_404 ⟨Nat.le_of_ble_eq_true rfl, Nat.le_of_ble_eq_true rfl⟩) hS (fun q _ h => hFc q h) hFc (fun r_c u_c t H1 locs ht hvm hw hB hz1 hk1 hS => ?_)
  obtain ⟨hw1, hw2⟩ := hw
  subst r_c
  subst u_c
  obtain ⟨hP1, hK1, hD1⟩ := hB
  rw [ht] at hP1
  obtain ⟨hP, hD⟩ := va_join (wc := (cM gs kb v)) (wr := (cX hs ka u)) (w1 := (cM gs kb v')) hP hD [0, 1, 2, 3, 4, 5, 6, 7, 8, 9, 10, 11, 12, 13, 14, 15, 16] [17, 18, 19, 20] (sMX_m hs gs ka kb u v) (sMX_x hs gs ka kb u v) (by decide) (by decide) hk1 hFc hP1 hD1
  clear hPc hDc hKc hFc hz1 hk1 hP1 hK1 hD1 ht hvm
  generalize H1 = H at hP hS ⊢
  refine lv_icmp_eq (tgt := 468) hx hb dL_law_407 (by decide) (fun _ => ?_) (fun c9 => absurd rfl c9)
  exact back u v' hR H locs ls hP hD hS hl
set_option maxHeartbeats 2000000 in
set_option maxRecDepth 100000 in
theorem lwc_can {p : Program} {l : Launch} {e : Env} {s : State} {m : MethodId} {below : List Frame} {meth : Method} {c : Code} {dC : Nat → ClassId} {dI : Nat → Nat → Nat} {b L : Nat} {xs : Nat → Int32} (C0 : lw_At p s m meth c b L xs) {fu : Nat} (hfu : 400000000 ≤ fu) {hs gs : Nat → Nat} {ka kb : Nat → ClassId} (hK : va_K (dC, dI) vwCl (tX ka ++ tM kb) s) {i : Nat} {a1 : Int32} (hin1 : vp_in (nI i + (1 : Int32)) L) (hxs1 : xs (nI i + (1 : Int32)).toNatClampNeg = a1) {a2 : Int32} (hin2 : vp_in (nI i + (2 : Int32)) L) (hxs2 : xs (nI i + (2 : Int32)).toNatClampNeg = a2) {u : XS} {v : MS} (hRel : Rel u v) {H : Heap} {locs : List Loc} {ls : Array Slot} (hP : va_P (dC, dI) vwCl (cX hs ka u ++ cM gs kb v) H) (hD : va_D (fun q : Nat => s.heap.size ≤ q) (cX hs ka u ++ cM gs kb v)) (hS : va_S (fun q : Nat => s.heap.size ≤ q) s.heap H locs) (hl : lv_has ls 4 [(0, .ref b), (1, .ref (hs 0)), (2, .ref (gs 0)), (3, .int (nI i))])
    (back : ∀ (u : XS) (v : MS), Rel u v → ∀ (H : Heap) (locs : List Loc) (ls : Array Slot), va_P (dC, dI) vwCl (cX hs ka u ++ cM gs kb v) H → va_D (fun q : Nat => s.heap.size ≤ q) (cX hs ka u ++ cM gs kb v) → va_S (fun q : Nat => s.heap.size ≤ q) s.heap H locs → lv_has ls 4 [(0, .ref b), (1, .ref (hs 0)), (2, .ref (gs 0)), (3, .int (nI i))] → W p l e room_1 s m #[Value.ref b] below meth c H locs 21 1589 (lw_Z below #[Value.ref b] s) (F0 m 468 ls [])) : W p l e room_1 s m #[Value.ref b] below meth c H locs 21 1589 (lw_Z below #[Value.ref b] s) (F0 m 412 ls []) := by
  obtain ⟨hx, hb, hr, hml, hown0, hts, hX, hbl, hlocks, hgv⟩ := C0
  have hown : s.vm.findClass RL = some m.cls := hown0
  have hA : ∀ q : Nat, s.heap.size ≤ q → (fun q : Nat => s.heap.size ≤ q) q := fun _ h => h
  have hbA : ¬ (fun q : Nat => s.heap.size ≤ q) b := Nat.not_le.mpr hbl
  obtain ⟨r, v', e1, e2, hR⟩ := can_step hfu hRel a1 a2
  refine lv_aload_n hx hb dL_law_412 rfl (lv_at hl 1 rfl) ?_
  refine lv_aload_n hx hb dL_law_413 rfl (lv_at hl 0 rfl) ?_
  refine lv_iload_n hx hb dL_law_414 rfl (lv_at hl 3 rfl) ?_
  refine lv_iconst (v := (1 : Int32)) hx hb dL_law_415 (by decide) ?_
  refine lv_iadd hx hb dL_law_416 ?_
  refine va_sld hx hb hX hbl hbA hS hin1 dL_law_417 ?_
  rw [hxs1]
  refine lv_aload_n hx hb dL_law_418 rfl (lv_at hl 0 rfl) ?_
  refine lv_iload_n hx hb dL_law_419 rfl (lv_at hl 3 rfl) ?_
  refine lv_iconst (v := (2 : Int32)) hx hb dL_law_420 (by decide) ?_
  refine lv_iadd hx hb dL_law_421 ?_
  refine va_sld hx hb hX hbl hbA hS hin2 dL_law_422 ?_
  rw [hxs2]
  have hPc : va_P (dC, dI) vwCl (cX hs ka u) H := hP.sub [0, 1, 2, 3] (fsXM_x hs gs ka kb u v)
  have hDc : va_D (fun q : Nat => s.heap.size ≤ q) (cX hs ka u) := hD.sub [0, 1, 2, 3] (by decide) (sXM_x hs gs ka kb u v)
  have hKc : va_K (dC, dI) vwCl (tX ka) s := hK.sub [0, 1, 2] (sK_x ka kb)
  have hFc := va_free (wc := (cX hs ka u)) hD hS hA [0, 1, 2, 3] (sXM_x hs gs ka kb u v)
  refine va_calli (va_runV (As := [.int a1, .int a2]) (rest := []) ⟨hx, hb, hml, hown, hts⟩ (c_X0_can l dC dI hs ka H.size fu u a1 a2 r e1) (cwV 2 hts gL_law_X0_can rfl rfl rfl (by decide +kernel) ⟨Nat.le_of_ble_eq_true rfl, Nat.le_of_ble_eq_true rfl⟩) ⟨fun a U g mk q => by obtain ⟨q0, q1, qP, qK, qD⟩ := q; exact ⟨q0, q1, qP, va_K.moved (u := U) (U := U.calling g mk a) (Vm.Alike.refl U.vm) qK, qD⟩, rc_X hKc hPc, fun U hU hW => ⟨rfl, by rw [hU], by rw [hU]; exact hPc, va_K.moved hW.alike hKc, hDc.weaken (fun _ _ _ _ => trivial)⟩⟩ rfl rfl hl.1 rfl (lv_room (Nat.le_of_ble_eq_true rfl)) dL_law_423 ⟨Nat.le_of_ble_eq_true rfl, Nat.le_of_ble_eq_true rfl⟩) hS (fun q _ h => hFc q h) hFc (fun r_c u_c t H1 locs ht hvm hw hB hz1 hk1 hS => ?_)
  obtain ⟨hw1, hw2⟩ := hw
  subst r_c
  subst u_c
  obtain ⟨hP1, hK1, hD1⟩ := hB
  rw [ht] at hP1
  obtain ⟨hP, hD⟩ := va_join (wc := (cX hs ka u)) (wr := (cM gs kb v)) (w1 := (cX hs ka u)) hP hD [0, 1, 2, 3] [4, 5, 6, 7, 8, 9, 10, 11, 12, 13, 14, 15, 16, 17, 18, 19, 20] (sXM_x hs gs ka kb u v) (sXM_m hs gs ka kb u v) (by decide) (by decide) hk1 hFc hP1 hD1
  clear hPc hDc hKc hFc hz1 hk1 hP1 hK1 hD1 ht hvm
  generalize H1 = H at hP hS ⊢
  refine lv_aload_n hx hb dL_law_426 rfl (lv_at hl 2 rfl) ?_
  refine lv_aload_n hx hb dL_law_427 rfl (lv_at hl 0 rfl) ?_
  refine lv_iload_n hx hb dL_law_428 rfl (lv_at hl 3 rfl) ?_
  refine lv_iconst (v := (1 : Int32)) hx hb dL_law_429 (by decide) ?_
  refine lv_iadd hx hb dL_law_430 ?_
  refine va_sld hx hb hX hbl hbA hS hin1 dL_law_431 ?_
  rw [hxs1]
  refine lv_aload_n hx hb dL_law_432 rfl (lv_at hl 0 rfl) ?_
  refine lv_iload_n hx hb dL_law_433 rfl (lv_at hl 3 rfl) ?_
  refine lv_iconst (v := (2 : Int32)) hx hb dL_law_434 (by decide) ?_
  refine lv_iadd hx hb dL_law_435 ?_
  refine va_sld hx hb hX hbl hbA hS hin2 dL_law_436 ?_
  rw [hxs2]
  have hPc : va_P (dC, dI) vwCl (cM gs kb v) H := hP.sub [0, 1, 2, 3, 4, 5, 6, 7, 8, 9, 10, 11, 12, 13, 14, 15, 16] (fsMX_m hs gs ka kb u v)
  have hDc : va_D (fun q : Nat => s.heap.size ≤ q) (cM gs kb v) := hD.sub [0, 1, 2, 3, 4, 5, 6, 7, 8, 9, 10, 11, 12, 13, 14, 15, 16] (by decide) (sMX_m hs gs ka kb u v)
  have hKc : va_K (dC, dI) vwCl (tM kb) s := hK.sub [3, 4, 5, 6, 7, 8, 9, 10, 11, 12, 13, 14, 15, 16, 17, 18] (sK_m ka kb)
  have hFc := va_free (wc := (cM gs kb v)) hD hS hA [0, 1, 2, 3, 4, 5, 6, 7, 8, 9, 10, 11, 12, 13, 14, 15, 16] (sMX_m hs gs ka kb u v)
  refine va_calli (va_runV (As := [.int a1, .int a2]) (rest := [.int r]) ⟨hx, hb, hml, hown, hts⟩ (c_X1_can l dC dI gs kb H.size fu v a1 a2 r v' e2) (cwV 2 hts gL_law_X1_can rfl rfl rfl (by decide +kernel) ⟨Nat.le_of_ble_eq_true rfl, Nat.le_of_ble_eq_true rfl⟩) ⟨fun a U g mk q => by obtain ⟨q0, q1, qP, qK, qD⟩ := q; exact ⟨q0, q1, qP, va_K.moved (u := U) (U := U.calling g mk a) (Vm.Alike.refl U.vm) qK, qD⟩, rc_M hKc hPc, fun U hU hW => ⟨rfl, by rw [hU], by rw [hU]; exact hPc, va_K.moved hW.alike hKc, hDc.weaken (fun _ _ _ _ => trivial)⟩⟩ rfl rfl hl.1 rfl (lv_room (Nat.le_of_ble_eq_true rfl)) dL_law_437 ⟨Nat.le_of_ble_eq_true rfl, Nat.le_of_ble_eq_true rfl⟩) hS (fun q _ h => hFc q h) hFc (fun r_c u_c t H1 locs ht hvm hw hB hz1 hk1 hS => ?_)
  obtain ⟨hw1, hw2⟩ := hw
  subst r_c
  subst u_c
  obtain ⟨hP1, hK1, hD1⟩ := hB
  rw [ht] at hP1
  obtain ⟨hP, hD⟩ := va_join (wc := (cM gs kb v)) (wr := (cX hs ka u)) (w1 := (cM gs kb v')) hP hD [0, 1, 2, 3, 4, 5, 6, 7, 8, 9, 10, 11, 12, 13, 14, 15, 16] [17, 18, 19, 20] (sMX_m hs gs ka kb u v) (sMX_x hs gs ka kb u v) (by decide) (by decide) hk1 hFc hP1 hD1
  clear hPc hDc hKc hFc hz1 hk1 hP1 hK1 hD1 ht hvm
  generalize H1 = H at hP hS ⊢
  refine lv_icmp_eq (tgt := 468) hx hb dL_law_440 (by decide) (fun _ => ?_) (fun c9 => absurd rfl c9)
  exact back u v' hR H locs ls hP hD hS hl
set_option maxHeartbeats 2000000 in
set_option maxRecDepth 100000 in
theorem lwc_must {p : Program} {l : Launch} {e : Env} {s : State} {m : MethodId} {below : List Frame} {meth : Method} {c : Code} {dC : Nat → ClassId} {dI : Nat → Nat → Nat} {b L : Nat} {xs : Nat → Int32} (C0 : lw_At p s m meth c b L xs) {fu : Nat} (hfu : 400000000 ≤ fu) {hs gs : Nat → Nat} {ka kb : Nat → ClassId} (hK : va_K (dC, dI) vwCl (tX ka ++ tM kb) s) {i : Nat} {a1 : Int32} (hin1 : vp_in (nI i + (1 : Int32)) L) (hxs1 : xs (nI i + (1 : Int32)).toNatClampNeg = a1) {u : XS} {v : MS} (hRel : Rel u v) {H : Heap} {locs : List Loc} {ls : Array Slot} (hP : va_P (dC, dI) vwCl (cX hs ka u ++ cM gs kb v) H) (hD : va_D (fun q : Nat => s.heap.size ≤ q) (cX hs ka u ++ cM gs kb v)) (hS : va_S (fun q : Nat => s.heap.size ≤ q) s.heap H locs) (hl : lv_has ls 4 [(0, .ref b), (1, .ref (hs 0)), (2, .ref (gs 0)), (3, .int (nI i))])
    (back : ∀ (u : XS) (v : MS), Rel u v → ∀ (H : Heap) (locs : List Loc) (ls : Array Slot), va_P (dC, dI) vwCl (cX hs ka u ++ cM gs kb v) H → va_D (fun q : Nat => s.heap.size ≤ q) (cX hs ka u ++ cM gs kb v) → va_S (fun q : Nat => s.heap.size ≤ q) s.heap H locs → lv_has ls 4 [(0, .ref b), (1, .ref (hs 0)), (2, .ref (gs 0)), (3, .int (nI i))] → W p l e room_1 s m #[Value.ref b] below meth c H locs 21 1589 (lw_Z below #[Value.ref b] s) (F0 m 468 ls [])) : W p l e room_1 s m #[Value.ref b] below meth c H locs 21 1589 (lw_Z below #[Value.ref b] s) (F0 m 445 ls []) := by
  obtain ⟨hx, hb, hr, hml, hown0, hts, hX, hbl, hlocks, hgv⟩ := C0
  have hown : s.vm.findClass RL = some m.cls := hown0
  have hA : ∀ q : Nat, s.heap.size ≤ q → (fun q : Nat => s.heap.size ≤ q) q := fun _ h => h
  have hbA : ¬ (fun q : Nat => s.heap.size ≤ q) b := Nat.not_le.mpr hbl
  obtain ⟨r, v', e1, e2, hR⟩ := must_step hfu hRel a1
  refine lv_aload_n hx hb dL_law_445 rfl (lv_at hl 1 rfl) ?_
  refine lv_aload_n hx hb dL_law_446 rfl (lv_at hl 0 rfl) ?_
  refine lv_iload_n hx hb dL_law_447 rfl (lv_at hl 3 rfl) ?_
  refine lv_iconst (v := (1 : Int32)) hx hb dL_law_448 (by decide) ?_
  refine lv_iadd hx hb dL_law_449 ?_
  refine va_sld hx hb hX hbl hbA hS hin1 dL_law_450 ?_
  rw [hxs1]
  have hPc : va_P (dC, dI) vwCl (cX hs ka u) H := hP.sub [0, 1, 2, 3] (fsXM_x hs gs ka kb u v)
  have hDc : va_D (fun q : Nat => s.heap.size ≤ q) (cX hs ka u) := hD.sub [0, 1, 2, 3] (by decide) (sXM_x hs gs ka kb u v)
  have hKc : va_K (dC, dI) vwCl (tX ka) s := hK.sub [0, 1, 2] (sK_x ka kb)
  have hFc := va_free (wc := (cX hs ka u)) hD hS hA [0, 1, 2, 3] (sXM_x hs gs ka kb u v)
  refine va_calli (va_runV (As := [.int a1]) (rest := []) ⟨hx, hb, hml, hown, hts⟩ (c_X0_must l dC dI hs ka H.size fu u a1 r e1) (cwV 1 hts gL_law_X0_must rfl rfl rfl (by decide +kernel) ⟨Nat.le_of_ble_eq_true rfl, Nat.le_of_ble_eq_true rfl⟩) ⟨fun a U g mk q => by obtain ⟨q0, q1, qP, qK, qD⟩ := q; exact ⟨q0, q1, qP, va_K.moved (u := U) (U := U.calling g mk a) (Vm.Alike.refl U.vm) qK, qD⟩, rc_X hKc hPc, fun U hU hW => ⟨rfl, by rw [hU], by rw [hU]; exact hPc, va_K.moved hW.alike hKc, hDc.weaken (fun _ _ _ _ => trivial)⟩⟩ rfl rfl hl.1 rfl (lv_room (Nat.le_of_ble_eq_true rfl)) dL_law_451 ⟨Nat.le_of_ble_eq_true rfl, Nat.le_of_ble_eq_true rfl⟩) hS (fun q _ h => hFc q h) hFc (fun r_c u_c t H1 locs ht hvm hw hB hz1 hk1 hS => ?_)
  obtain ⟨hw1, hw2⟩ := hw
  subst r_c
  subst u_c
  obtain ⟨hP1, hK1, hD1⟩ := hB
  rw [ht] at hP1
  obtain ⟨hP, hD⟩ := va_join (wc := (cX hs ka u)) (wr := (cM gs kb v)) (w1 := (cX hs ka u)) hP hD [0, 1, 2, 3] [4, 5, 6, 7, 8, 9, 10, 11, 12, 13, 14, 15, 16, 17, 18, 19, 20] (sXM_x hs gs ka kb u v) (sXM_m hs gs ka kb u v) (by decide) (by decide) hk1 hFc hP1 hD1
  clear hPc hDc hKc hFc hz1 hk1 hP1 hK1 hD1 ht hvm
  generalize H1 = H at hP hS ⊢
  refine lv_aload_n hx hb dL_law_454 rfl (lv_at hl 2 rfl) ?_
  refine lv_aload_n hx hb dL_law_455 rfl (lv_at hl 0 rfl) ?_
  refine lv_iload_n hx hb dL_law_456 rfl (lv_at hl 3 rfl) ?_
  refine lv_iconst (v := (1 : Int32)) hx hb dL_law_457 (by decide) ?_
  refine lv_iadd hx hb dL_law_458 ?_
  refine va_sld hx hb hX hbl hbA hS hin1 dL_law_459 ?_
  rw [hxs1]
  have hPc : va_P (dC, dI) vwCl (cM gs kb v) H := hP.sub [0, 1, 2, 3, 4, 5, 6, 7, 8, 9, 10, 11, 12, 13, 14, 15, 16] (fsMX_m hs gs ka kb u v)
  have hDc : va_D (fun q : Nat => s.heap.size ≤ q) (cM gs kb v) := hD.sub [0, 1, 2, 3, 4, 5, 6, 7, 8, 9, 10, 11, 12, 13, 14, 15, 16] (by decide) (sMX_m hs gs ka kb u v)
  have hKc : va_K (dC, dI) vwCl (tM kb) s := hK.sub [3, 4, 5, 6, 7, 8, 9, 10, 11, 12, 13, 14, 15, 16, 17, 18] (sK_m ka kb)
  have hFc := va_free (wc := (cM gs kb v)) hD hS hA [0, 1, 2, 3, 4, 5, 6, 7, 8, 9, 10, 11, 12, 13, 14, 15, 16] (sMX_m hs gs ka kb u v)
  refine va_calli (va_runV (As := [.int a1]) (rest := [.int r]) ⟨hx, hb, hml, hown, hts⟩ (c_X1_must l dC dI gs kb H.size fu v a1 r v' e2) (cwV 1 hts gL_law_X1_must rfl rfl rfl (by decide +kernel) ⟨Nat.le_of_ble_eq_true rfl, Nat.le_of_ble_eq_true rfl⟩) ⟨fun a U g mk q => by obtain ⟨q0, q1, qP, qK, qD⟩ := q; exact ⟨q0, q1, qP, va_K.moved (u := U) (U := U.calling g mk a) (Vm.Alike.refl U.vm) qK, qD⟩, rc_M hKc hPc, fun U hU hW => ⟨rfl, by rw [hU], by rw [hU]; exact hPc, va_K.moved hW.alike hKc, hDc.weaken (fun _ _ _ _ => trivial)⟩⟩ rfl rfl hl.1 rfl (lv_room (Nat.le_of_ble_eq_true rfl)) dL_law_460 ⟨Nat.le_of_ble_eq_true rfl, Nat.le_of_ble_eq_true rfl⟩) hS (fun q _ h => hFc q h) hFc (fun r_c u_c t H1 locs ht hvm hw hB hz1 hk1 hS => ?_)
  obtain ⟨hw1, hw2⟩ := hw
  subst r_c
  subst u_c
  obtain ⟨hP1, hK1, hD1⟩ := hB
  rw [ht] at hP1
  obtain ⟨hP, hD⟩ := va_join (wc := (cM gs kb v)) (wr := (cX hs ka u)) (w1 := (cM gs kb v')) hP hD [0, 1, 2, 3, 4, 5, 6, 7, 8, 9, 10, 11, 12, 13, 14, 15, 16] [17, 18, 19, 20] (sMX_m hs gs ka kb u v) (sMX_x hs gs ka kb u v) (by decide) (by decide) hk1 hFc hP1 hD1
  clear hPc hDc hKc hFc hz1 hk1 hP1 hK1 hD1 ht hvm
  generalize H1 = H at hP hS ⊢
  refine lv_icmp_eq (tgt := 468) hx hb dL_law_463 (by decide) (fun _ => ?_) (fun c9 => absurd rfl c9)
  exact back u v' hR H locs ls hP hD hS hl
