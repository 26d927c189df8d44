section ROWSX
variable {p : Program} {l : Launch} {e : Env} {R : Room} {s : State} {m : MethodId} {args : Array Value} {below : List Frame} {meth : Method} {c : Code} {H : Heap} {locs : List Loc} {cells slots : Nat} {Q : State → Prop} {cc : ByteArray} {pc : Nat} {ls : Array Slot} {rest : List Value} {dC : Nat → ClassId} {dI : Nat → Nat → Nat} {A : Nat → Prop} {H0 : Heap} {Ts : List Cond} {own : String} {hs : Nat → Nat} {ka : Nat → ClassId} {u : XS}
theorem gt_X_rowRules (hx : p.tables.exec = Jvm.exec) (hb : c.code = cc) (hts : ∀ w ∈ Ts, w.before args s = true) (hin : ∀ w ∈ u_ws RX0 TX0 14, w ∈ Ts) (hown : s.vm.findClass own = some m.cls) (hK : va_K (dC, dI) vwCl (tX ka) s) (hP : va_P (dC, dI) vwCl (cX hs ka u) H) {index : Nat} (hlink : (Cond.fieldLink own index "ConflictSolve" "rowRules" "[J").before args s = true) (hdg : decode cc pc = .ok (.getfield index, 3)) (kk : W p l e R s m args below meth c H locs cells slots Q (F0 m (pc + 3) ls (.ref (hs 1) :: rest))) : W p l e R s m args below meth c H locs cells slots Q (F0 m pc ls (.ref (hs 0) :: rest)) := va_get (D := (dC, dI)) (ci := 0) (v := .ref (hs 1)) (C := RX0) (T := TX0) (N := 14) hx hb hts hin hown hK hP 0 rfl rfl 0 (by decide) hlink (fun _ h9 => h9) rfl hdg kk
theorem ld_X_rowRules (hx : p.tables.exec = Jvm.exec) (hb : c.code = cc) (hK : va_K (dC, dI) vwCl (tX ka) s) (hP : va_P (dC, dI) vwCl (cX hs ka u) H) {F : Nat → Int64} (hF : x_rowRules u = F) {i : Int32} (hi : vp_in i 120) (hdg : decode cc pc = .ok (.laload, 1)) (kk : W p l e R s m args below meth c H locs cells slots Q (F0 m (pc + 1) ls (.long (F i.toNatClampNeg) :: rest))) : W p l e R s m args below meth c H locs cells slots Q (F0 m pc ls (.int i :: .ref (hs 1) :: rest)) := by
  subst hF
  exact va_lald (f := x_rowRules u) hx hb hK hP 1 0 rfl rfl hi hdg kk
theorem sr_X_rowRules (hx : p.tables.exec = Jvm.exec) (hb : c.code = cc) (hK : va_K (dC, dI) vwCl (tX ka) s) (hP : va_P (dC, dI) vwCl (cX hs ka u) H) (hD : va_D A (cX hs ka u)) (hS : va_S A H0 H locs) {F : Nat → Int64} (hF : x_rowRules u = F) {i : Int32} {x : Int64} (hi : vp_in i 120) (hdg : decode cc pc = .ok (.lastore, 1)) (kk : ∀ (H1 : Heap) (locs1 : List Loc), va_P (dC, dI) vwCl (cX hs ka (xs_rowRules u (vp_updL F i.toNatClampNeg x))) H1 → va_D A (cX hs ka (xs_rowRules u (vp_updL F i.toNatClampNeg x))) → va_S A H0 H1 locs1 → W p l e R s m args below meth c H1 locs1 cells slots Q (F0 m (pc + 1) ls rest)) : W p l e R s m args below meth c H locs cells slots Q (F0 m pc ls (.long x :: .int i :: .ref (hs 1) :: rest)) := by
  subst hF
  exact va_last (f := x_rowRules u) hx hb hK hP hD hS 1 0 rfl rfl hi hdg (fun H1 locs1 hP hD hS => kk H1 locs1 hP hD hS)
theorem gt_X_demandRules (hx : p.tables.exec = Jvm.exec) (hb : c.code = cc) (hts : ∀ w ∈ Ts, w.before args s = true) (hin : ∀ w ∈ u_ws RX0 TX0 14, w ∈ Ts) (hown : s.vm.findClass own = some m.cls) (hK : va_K (dC, dI) vwCl (tX ka) s) (hP : va_P (dC, dI) vwCl (cX hs ka u) H) {index : Nat} (hlink : (Cond.fieldLink own index "ConflictSolve" "demandRules" "[J").before args s = true) (hdg : decode cc pc = .ok (.getfield index, 3)) (kk : W p l e R s m args below meth c H locs cells slots Q (F0 m (pc + 3) ls (.ref (hs 2) :: rest))) : W p l e R s m args below meth c H locs cells slots Q (F0 m pc ls (.ref (hs 0) :: rest)) := va_get (D := (dC, dI)) (ci := 0) (v := .ref (hs 2)) (C := RX0) (T := TX0) (N := 14) hx hb hts hin hown hK hP 0 rfl rfl 1 (by decide) hlink (fun _ h9 => h9) rfl hdg kk
theorem ld_X_demandRules (hx : p.tables.exec = Jvm.exec) (hb : c.code = cc) (hK : va_K (dC, dI) vwCl (tX ka) s) (hP : va_P (dC, dI) vwCl (cX hs ka u) H) {F : Nat → Int64} (hF : x_demandRules u = F) {i : Int32} (hi : vp_in i 12) (hdg : decode cc pc = .ok (.laload, 1)) (kk : W p l e R s m args below meth c H locs cells slots Q (F0 m (pc + 1) ls (.long (F i.toNatClampNeg) :: rest))) : W p l e R s m args below meth c H locs cells slots Q (F0 m pc ls (.int i :: .ref (hs 2) :: rest)) := by
  subst hF
  exact va_lald (f := x_demandRules u) hx hb hK hP 2 1 rfl rfl hi hdg kk
theorem sr_X_demandRules (hx : p.tables.exec = Jvm.exec) (hb : c.code = cc) (hK : va_K (dC, dI) vwCl (tX ka) s) (hP : va_P (dC, dI) vwCl (cX hs ka u) H) (hD : va_D A (cX hs ka u)) (hS : va_S A H0 H locs) {F : Nat → Int64} (hF : x_demandRules u = F) {i : Int32} {x : Int64} (hi : vp_in i 12) (hdg : decode cc pc = .ok (.lastore, 1)) (kk : ∀ (H1 : Heap) (locs1 : List Loc), va_P (dC, dI) vwCl (cX hs ka (xs_demandRules u (vp_updL F i.toNatClampNeg x))) H1 → va_D A (cX hs ka (xs_demandRules u (vp_updL F i.toNatClampNeg x))) → va_S A H0 H1 locs1 → W p l e R s m args below meth c H1 locs1 cells slots Q (F0 m (pc + 1) ls rest)) : W p l e R s m args below meth c H locs cells slots Q (F0 m pc ls (.long x :: .int i :: .ref (hs 2) :: rest)) := by
  subst hF
  exact va_last (f := x_demandRules u) hx hb hK hP hD hS 2 1 rfl rfl hi hdg (fun H1 locs1 hP hD hS => kk H1 locs1 hP hD hS)
theorem gt_X_order (hx : p.tables.exec = Jvm.exec) (hb : c.code = cc) (hts : ∀ w ∈ Ts, w.before args s = true) (hin : ∀ w ∈ u_ws RX0 TX0 14, w ∈ Ts) (hown : s.vm.findClass own = some m.cls) (hK : va_K (dC, dI) vwCl (tX ka) s) (hP : va_P (dC, dI) vwCl (cX hs ka u) H) {index : Nat} (hlink : (Cond.fieldLink own index "ConflictSolve" "order" "[I").before args s = true) (hdg : decode cc pc = .ok (.getfield index, 3)) (kk : W p l e R s m args below meth c H locs cells slots Q (F0 m (pc + 3) ls (.ref (hs 3) :: rest))) : W p l e R s m args below meth c H locs cells slots Q (F0 m pc ls (.ref (hs 0) :: rest)) := va_get (D := (dC, dI)) (ci := 0) (v := .ref (hs 3)) (C := RX0) (T := TX0) (N := 14) hx hb hts hin hown hK hP 0 rfl rfl 2 (by decide) hlink (fun _ h9 => h9) rfl hdg kk
theorem ld_X_order (hx : p.tables.exec = Jvm.exec) (hb : c.code = cc) (hK : va_K (dC, dI) vwCl (tX ka) s) (hP : va_P (dC, dI) vwCl (cX hs ka u) H) {F : Nat → Int32} (hF : x_order u = F) {i : Int32} (hi : vp_in i 8) (hdg : decode cc pc = .ok (.iaload, 1)) (kk : W p l e R s m args below meth c H locs cells slots Q (F0 m (pc + 1) ls (.int (F i.toNatClampNeg) :: rest))) : W p l e R s m args below meth c H locs cells slots Q (F0 m pc ls (.int i :: .ref (hs 3) :: rest)) := by
  subst hF
  exact va_iald (f := x_order u) hx hb hK hP 3 2 rfl rfl hi hdg kk
theorem sr_X_order (hx : p.tables.exec = Jvm.exec) (hb : c.code = cc) (hK : va_K (dC, dI) vwCl (tX ka) s) (hP : va_P (dC, dI) vwCl (cX hs ka u) H) (hD : va_D A (cX hs ka u)) (hS : va_S A H0 H locs) {F : Nat → Int32} (hF : x_order u = F) {i : Int32} {x : Int32} (hi : vp_in i 8) (hdg : decode cc pc = .ok (.iastore, 1)) (kk : ∀ (H1 : Heap) (locs1 : List Loc), va_P (dC, dI) vwCl (cX hs ka (xs_order u (upd F i.toNatClampNeg x))) H1 → va_D A (cX hs ka (xs_order u (upd F i.toNatClampNeg x))) → va_S A H0 H1 locs1 → W p l e R s m args below meth c H1 locs1 cells slots Q (F0 m (pc + 1) ls rest)) : W p l e R s m args below meth c H locs cells slots Q (F0 m pc ls (.int x :: .int i :: .ref (hs 3) :: rest)) := by
  subst hF
  exact va_iast (f := x_order u) hx hb hK hP hD hS 3 2 rfl rfl hi hdg (fun H1 locs1 hP hD hS => kk H1 locs1 hP hD hS)
theorem gt_X_packs (hx : p.tables.exec = Jvm.exec) (hb : c.code = cc) (hts : ∀ w ∈ Ts, w.before args s = true) (hin : ∀ w ∈ u_ws RX0 TX0 14, w ∈ Ts) (hown : s.vm.findClass own = some m.cls) (hK : va_K (dC, dI) vwCl (tX ka) s) (hP : va_P (dC, dI) vwCl (cX hs ka u) H) {index : Nat} (hlink : (Cond.fieldLink own index "ConflictSolve" "packs" "I").before args s = true) {V : Int32} (hV : x_packs u = V) (hdg : decode cc pc = .ok (.getfield index, 3)) (kk : W p l e R s m args below meth c H locs cells slots Q (F0 m (pc + 3) ls (.int V :: rest))) : W p l e R s m args below meth c H locs cells slots Q (F0 m pc ls (.ref (hs 0) :: rest)) := by
  subst hV
  exact va_get (D := (dC, dI)) (ci := 0) (v := .int (x_packs u)) (C := RX0) (T := TX0) (N := 14) hx hb hts hin hown hK hP 0 rfl rfl 3 (by decide) hlink (fun _ h9 => h9) rfl hdg kk
theorem pt_X_packs (hx : p.tables.exec = Jvm.exec) (hb : c.code = cc) (hts : ∀ w ∈ Ts, w.before args s = true) (hin : ∀ w ∈ u_ws RX0 TX0 14, w ∈ Ts) (hown : s.vm.findClass own = some m.cls) (hK : va_K (dC, dI) vwCl (tX ka) s) (hP : va_P (dC, dI) vwCl (cX hs ka u) H) (hD : va_D A (cX hs ka u)) (hS : va_S A H0 H locs) {index : Nat} (hlink : (Cond.fieldLink own index "ConflictSolve" "packs" "I").before args s = true) {x : Int32} (hdg : decode cc pc = .ok (.putfield index, 3)) (kk : ∀ (H1 : Heap) (locs1 : List Loc), va_P (dC, dI) vwCl (cX hs ka (xs_packs u x)) H1 → va_D A (cX hs ka (xs_packs u x)) → va_S A H0 H1 locs1 → W p l e R s m args below meth c H1 locs1 cells slots Q (F0 m (pc + 3) ls rest)) : W p l e R s m args below meth c H locs cells slots Q (F0 m pc ls (.int x :: .ref (hs 0) :: rest)) := va_put (D := (dC, dI)) (ci := 0) (v := .int x) (ty := .int) (C := RX0) (T := TX0) (N := 14) hx hb hts hin tyX0 tyX0_ok nmX0 hown hK hP hD hS 0 rfl rfl 3 (by decide) hlink (fun _ h9 => h9) rfl (by decide +kernel) rfl rfl (Nat.le_of_ble_eq_true rfl) hdg (fun H1 locs1 hP hD hS => kk H1 locs1 hP hD hS)
theorem gt_X_rows (hx : p.tables.exec = Jvm.exec) (hb : c.code = cc) (hts : ∀ w ∈ Ts, w.before args s = true) (hin : ∀ w ∈ u_ws RX0 TX0 14, w ∈ Ts) (hown : s.vm.findClass own = some m.cls) (hK : va_K (dC, dI) vwCl (tX ka) s) (hP : va_P (dC, dI) vwCl (cX hs ka u) H) {index : Nat} (hlink : (Cond.fieldLink own index "ConflictSolve" "rows" "I").before args s = true) {V : Int32} (hV : x_rows u = V) (hdg : decode cc pc = .ok (.getfield index, 3)) (kk : W p l e R s m args below meth c H locs cells slots Q (F0 m (pc + 3) ls (.int V :: rest))) : W p l e R s m args below meth c H locs cells slots Q (F0 m pc ls (.ref (hs 0) :: rest)) := by
  subst hV
  exact va_get (D := (dC, dI)) (ci := 0) (v := .int (x_rows u)) (C := RX0) (T := TX0) (N := 14) hx hb hts hin hown hK hP 0 rfl rfl 4 (by decide) hlink (fun _ h9 => h9) rfl hdg kk
theorem pt_X_rows (hx : p.tables.exec = Jvm.exec) (hb : c.code = cc) (hts : ∀ w ∈ Ts, w.before args s = true) (hin : ∀ w ∈ u_ws RX0 TX0 14, w ∈ Ts) (hown : s.vm.findClass own = some m.cls) (hK : va_K (dC, dI) vwCl (tX ka) s) (hP : va_P (dC, dI) vwCl (cX hs ka u) H) (hD : va_D A (cX hs ka u)) (hS : va_S A H0 H locs) {index : Nat} (hlink : (Cond.fieldLink own index "ConflictSolve" "rows" "I").before args s = true) {x : Int32} (hdg : decode cc pc = .ok (.putfield index, 3)) (kk : ∀ (H1 : Heap) (locs1 : List Loc), va_P (dC, dI) vwCl (cX hs ka (xs_rows u x)) H1 → va_D A (cX hs ka (xs_rows u x)) → va_S A H0 H1 locs1 → W p l e R s m args below meth c H1 locs1 cells slots Q (F0 m (pc + 3) ls rest)) : W p l e R s m args below meth c H locs cells slots Q (F0 m pc ls (.int x :: .ref (hs 0) :: rest)) := va_put (D := (dC, dI)) (ci := 0) (v := .int x) (ty := .int) (C := RX0) (T := TX0) (N := 14) hx hb hts hin tyX0 tyX0_ok nmX0 hown hK hP hD hS 0 rfl rfl 4 (by decide) hlink (fun _ h9 => h9) rfl (by decide +kernel) rfl rfl (Nat.le_of_ble_eq_true rfl) hdg (fun H1 locs1 hP hD hS => kk H1 locs1 hP hD hS)
theorem gt_X_demands (hx : p.tables.exec = Jvm.exec) (hb : c.code = cc) (hts : ∀ w ∈ Ts, w.before args s = true) (hin : ∀ w ∈ u_ws RX0 TX0 14, w ∈ Ts) (hown : s.vm.findClass own = some m.cls) (hK : va_K (dC, dI) vwCl (tX ka) s) (hP : va_P (dC, dI) vwCl (cX hs ka u) H) {index : Nat} (hlink : (Cond.fieldLink own index "ConflictSolve" "demands" "I").before args s = true) {V : Int32} (hV : x_demands u = V) (hdg : decode cc pc = .ok (.getfield index, 3)) (kk : W p l e R s m args below meth c H locs cells slots Q (F0 m (pc + 3) ls (.int V :: rest))) : W p l e R s m args below meth c H locs cells slots Q (F0 m pc ls (.ref (hs 0) :: rest)) := by
  subst hV
  exact va_get (D := (dC, dI)) (ci := 0) (v := .int (x_demands u)) (C := RX0) (T := TX0) (N := 14) hx hb hts hin hown hK hP 0 rfl rfl 5 (by decide) hlink (fun _ h9 => h9) rfl hdg kk
theorem pt_X_demands (hx : p.tables.exec = Jvm.exec) (hb : c.code = cc) (hts : ∀ w ∈ Ts, w.before args s = true) (hin : ∀ w ∈ u_ws RX0 TX0 14, w ∈ Ts) (hown : s.vm.findClass own = some m.cls) (hK : va_K (dC, dI) vwCl (tX ka) s) (hP : va_P (dC, dI) vwCl (cX hs ka u) H) (hD : va_D A (cX hs ka u)) (hS : va_S A H0 H locs) {index : Nat} (hlink : (Cond.fieldLink own index "ConflictSolve" "demands" "I").before args s = true) {x : Int32} (hdg : decode cc pc = .ok (.putfield index, 3)) (kk : ∀ (H1 : Heap) (locs1 : List Loc), va_P (dC, dI) vwCl (cX hs ka (xs_demands u x)) H1 → va_D A (cX hs ka (xs_demands u x)) → va_S A H0 H1 locs1 → W p l e R s m args below meth c H1 locs1 cells slots Q (F0 m (pc + 3) ls rest)) : W p l e R s m args below meth c H locs cells slots Q (F0 m pc ls (.int x :: .ref (hs 0) :: rest)) := va_put (D := (dC, dI)) (ci := 0) (v := .int x) (ty := .int) (C := RX0) (T := TX0) (N := 14) hx hb hts hin tyX0 tyX0_ok nmX0 hown hK hP hD hS 0 rfl rfl 5 (by decide) hlink (fun _ h9 => h9) rfl (by decide +kernel) rfl rfl (Nat.le_of_ble_eq_true rfl) hdg (fun H1 locs1 hP hD hS => kk H1 locs1 hP hD hS)
theorem gt_X_neededPacks (hx : p.tables.exec = Jvm.exec) (hb : c.code = cc) (hts : ∀ w ∈ Ts, w.before args s = true) (hin : ∀ w ∈ u_ws RX0 TX0 14, w ∈ Ts) (hown : s.vm.findClass own = some m.cls) (hK : va_K (dC, dI) vwCl (tX ka) s) (hP : va_P (dC, dI) vwCl (cX hs ka u) H) {index : Nat} (hlink : (Cond.fieldLink own index "ConflictSolve" "neededPacks" "I").before args s = true) {V : Int32} (hV : x_neededPacks u = V) (hdg : decode cc pc = .ok (.getfield index, 3)) (kk : W p l e R s m args below meth c H locs cells slots Q (F0 m (pc + 3) ls (.int V :: rest))) : W p l e R s m args below meth c H locs cells slots Q (F0 m pc ls (.ref (hs 0) :: rest)) := by
  subst hV
  exact va_get (D := (dC, dI)) (ci := 0) (v := .int (x_neededPacks u)) (C := RX0) (T := TX0) (N := 14) hx hb hts hin hown hK hP 0 rfl rfl 6 (by decide) hlink (fun _ h9 => h9) rfl hdg kk
theorem pt_X_neededPacks (hx : p.tables.exec = Jvm.exec) (hb : c.code = cc) (hts : ∀ w ∈ Ts, w.before args s = true) (hin : ∀ w ∈ u_ws RX0 TX0 14, w ∈ Ts) (hown : s.vm.findClass own = some m.cls) (hK : va_K (dC, dI) vwCl (tX ka) s) (hP : va_P (dC, dI) vwCl (cX hs ka u) H) (hD : va_D A (cX hs ka u)) (hS : va_S A H0 H locs) {index : Nat} (hlink : (Cond.fieldLink own index "ConflictSolve" "neededPacks" "I").before args s = true) {x : Int32} (hdg : decode cc pc = .ok (.putfield index, 3)) (kk : ∀ (H1 : Heap) (locs1 : List Loc), va_P (dC, dI) vwCl (cX hs ka (xs_neededPacks u x)) H1 → va_D A (cX hs ka (xs_neededPacks u x)) → va_S A H0 H1 locs1 → W p l e R s m args below meth c H1 locs1 cells slots Q (F0 m (pc + 3) ls rest)) : W p l e R s m args below meth c H locs cells slots Q (F0 m pc ls (.int x :: .ref (hs 0) :: rest)) := va_put (D := (dC, dI)) (ci := 0) (v := .int x) (ty := .int) (C := RX0) (T := TX0) (N := 14) hx hb hts hin tyX0 tyX0_ok nmX0 hown hK hP hD hS 0 rfl rfl 6 (by decide) hlink (fun _ h9 => h9) rfl (by decide +kernel) rfl rfl (Nat.le_of_ble_eq_true rfl) hdg (fun H1 locs1 hP hD hS => kk H1 locs1 hP hD hS)
theorem gt_X_places (hx : p.tables.exec = Jvm.exec) (hb : c.code = cc) (hts : ∀ w ∈ Ts, w.before args s = true) (hin : ∀ w ∈ u_ws RX0 TX0 14, w ∈ Ts) (hown : s.vm.findClass own = some m.cls) (hK : va_K (dC, dI) vwCl (tX ka) s) (hP : va_P (dC, dI) vwCl (cX hs ka u) H) {index : Nat} (hlink : (Cond.fieldLink own index "ConflictSolve" "places" "J").before args s = true) {V : Int64} (hV : x_places u = V) (hdg : decode cc pc = .ok (.getfield index, 3)) (kk : W p l e R s m args below meth c H locs cells slots Q (F0 m (pc + 3) ls (.long V :: rest))) : W p l e R s m args below meth c H locs cells slots Q (F0 m pc ls (.ref (hs 0) :: rest)) := by
  subst hV
  exact va_get (D := (dC, dI)) (ci := 0) (v := .long (x_places u)) (C := RX0) (T := TX0) (N := 14) hx hb hts hin hown hK hP 0 rfl rfl 7 (by decide) hlink (fun _ h9 => h9) rfl hdg kk
theorem pt_X_places (hx : p.tables.exec = Jvm.exec) (hb : c.code = cc) (hts : ∀ w ∈ Ts, w.before args s = true) (hin : ∀ w ∈ u_ws RX0 TX0 14, w ∈ Ts) (hown : s.vm.findClass own = some m.cls) (hK : va_K (dC, dI) vwCl (tX ka) s) (hP : va_P (dC, dI) vwCl (cX hs ka u) H) (hD : va_D A (cX hs ka u)) (hS : va_S A H0 H locs) {index : Nat} (hlink : (Cond.fieldLink own index "ConflictSolve" "places" "J").before args s = true) {x : Int64} (hdg : decode cc pc = .ok (.putfield index, 3)) (kk : ∀ (H1 : Heap) (locs1 : List Loc), va_P (dC, dI) vwCl (cX hs ka (xs_places u x)) H1 → va_D A (cX hs ka (xs_places u x)) → va_S A H0 H1 locs1 → W p l e R s m args below meth c H1 locs1 cells slots Q (F0 m (pc + 3) ls rest)) : W p l e R s m args below meth c H locs cells slots Q (F0 m pc ls (.long x :: .ref (hs 0) :: rest)) := va_put (D := (dC, dI)) (ci := 0) (v := .long x) (ty := .long) (C := RX0) (T := TX0) (N := 14) hx hb hts hin tyX0 tyX0_ok nmX0 hown hK hP hD hS 0 rfl rfl 7 (by decide) hlink (fun _ h9 => h9) rfl (by decide +kernel) rfl rfl (Nat.le_of_ble_eq_true rfl) hdg (fun H1 locs1 hP hD hS => kk H1 locs1 hP hD hS)
theorem gt_X_locked (hx : p.tables.exec = Jvm.exec) (hb : c.code = cc) (hts : ∀ w ∈ Ts, w.before args s = true) (hin : ∀ w ∈ u_ws RX0 TX0 14, w ∈ Ts) (hown : s.vm.findClass own = some m.cls) (hK : va_K (dC, dI) vwCl (tX ka) s) (hP : va_P (dC, dI) vwCl (cX hs ka u) H) {index : Nat} (hlink : (Cond.fieldLink own index "ConflictSolve" "locked" "J").before args s = true) {V : Int64} (hV : x_locked u = V) (hdg : decode cc pc = .ok (.getfield index, 3)) (kk : W p l e R s m args below meth c H locs cells slots Q (F0 m (pc + 3) ls (.long V :: rest))) : W p l e R s m args below meth c H locs cells slots Q (F0 m pc ls (.ref (hs 0) :: rest)) := by
  subst hV
  exact va_get (D := (dC, dI)) (ci := 0) (v := .long (x_locked u)) (C := RX0) (T := TX0) (N := 14) hx hb hts hin hown hK hP 0 rfl rfl 8 (by decide) hlink (fun _ h9 => h9) rfl hdg kk
theorem pt_X_locked (hx : p.tables.exec = Jvm.exec) (hb : c.code = cc) (hts : ∀ w ∈ Ts, w.before args s = true) (hin : ∀ w ∈ u_ws RX0 TX0 14, w ∈ Ts) (hown : s.vm.findClass own = some m.cls) (hK : va_K (dC, dI) vwCl (tX ka) s) (hP : va_P (dC, dI) vwCl (cX hs ka u) H) (hD : va_D A (cX hs ka u)) (hS : va_S A H0 H locs) {index : Nat} (hlink : (Cond.fieldLink own index "ConflictSolve" "locked" "J").before args s = true) {x : Int64} (hdg : decode cc pc = .ok (.putfield index, 3)) (kk : ∀ (H1 : Heap) (locs1 : List Loc), va_P (dC, dI) vwCl (cX hs ka (xs_locked u x)) H1 → va_D A (cX hs ka (xs_locked u x)) → va_S A H0 H1 locs1 → W p l e R s m args below meth c H1 locs1 cells slots Q (F0 m (pc + 3) ls rest)) : W p l e R s m args below meth c H locs cells slots Q (F0 m pc ls (.long x :: .ref (hs 0) :: rest)) := va_put (D := (dC, dI)) (ci := 0) (v := .long x) (ty := .long) (C := RX0) (T := TX0) (N := 14) hx hb hts hin tyX0 tyX0_ok nmX0 hown hK hP hD hS 0 rfl rfl 8 (by decide) hlink (fun _ h9 => h9) rfl (by decide +kernel) rfl rfl (Nat.le_of_ble_eq_true rfl) hdg (fun H1 locs1 hP hD hS => kk H1 locs1 hP hD hS)
theorem gt_X_leftOut (hx : p.tables.exec = Jvm.exec) (hb : c.code = cc) (hts : ∀ w ∈ Ts, w.before args s = true) (hin : ∀ w ∈ u_ws RX0 TX0 14, w ∈ Ts) (hown : s.vm.findClass own = some m.cls) (hK : va_K (dC, dI) vwCl (tX ka) s) (hP : va_P (dC, dI) vwCl (cX hs ka u) H) {index : Nat} (hlink : (Cond.fieldLink own index "ConflictSolve" "leftOut" "I").before args s = true) {V : Int32} (hV : x_leftOut u = V) (hdg : decode cc pc = .ok (.getfield index, 3)) (kk : W p l e R s m args below meth c H locs cells slots Q (F0 m (pc + 3) ls (.int V :: rest))) : W p l e R s m args below meth c H locs cells slots Q (F0 m pc ls (.ref (hs 0) :: rest)) := by
  subst hV
  exact va_get (D := (dC, dI)) (ci := 0) (v := .int (x_leftOut u)) (C := RX0) (T := TX0) (N := 14) hx hb hts hin hown hK hP 0 rfl rfl 9 (by decide) hlink (fun _ h9 => h9) rfl hdg kk
theorem pt_X_leftOut (hx : p.tables.exec = Jvm.exec) (hb : c.code = cc) (hts : ∀ w ∈ Ts, w.before args s = true) (hin : ∀ w ∈ u_ws RX0 TX0 14, w ∈ Ts) (hown : s.vm.findClass own = some m.cls) (hK : va_K (dC, dI) vwCl (tX ka) s) (hP : va_P (dC, dI) vwCl (cX hs ka u) H) (hD : va_D A (cX hs ka u)) (hS : va_S A H0 H locs) {index : Nat} (hlink : (Cond.fieldLink own index "ConflictSolve" "leftOut" "I").before args s = true) {x : Int32} (hdg : decode cc pc = .ok (.putfield index, 3)) (kk : ∀ (H1 : Heap) (locs1 : List Loc), va_P (dC, dI) vwCl (cX hs ka (xs_leftOut u x)) H1 → va_D A (cX hs ka (xs_leftOut u x)) → va_S A H0 H1 locs1 → W p l e R s m args below meth c H1 locs1 cells slots Q (F0 m (pc + 3) ls rest)) : W p l e R s m args below meth c H locs cells slots Q (F0 m pc ls (.int x :: .ref (hs 0) :: rest)) := va_put (D := (dC, dI)) (ci := 0) (v := .int x) (ty := .int) (C := RX0) (T := TX0) (N := 14) hx hb hts hin tyX0 tyX0_ok nmX0 hown hK hP hD hS 0 rfl rfl 9 (by decide) hlink (fun _ h9 => h9) rfl (by decide +kernel) rfl rfl (Nat.le_of_ble_eq_true rfl) hdg (fun H1 locs1 hP hD hS => kk H1 locs1 hP hD hS)
theorem gt_X_alternativesFree (hx : p.tables.exec = Jvm.exec) (hb : c.code = cc) (hts : ∀ w ∈ Ts, w.before args s = true) (hin : ∀ w ∈ u_ws RX0 TX0 14, w ∈ Ts) (hown : s.vm.findClass own = some m.cls) (hK : va_K (dC, dI) vwCl (tX ka) s) (hP : va_P (dC, dI) vwCl (cX hs ka u) H) {index : Nat} (hlink : (Cond.fieldLink own index "ConflictSolve" "alternativesFree" "I").before args s = true) {V : Int32} (hV : x_alternativesFree u = V) (hdg : decode cc pc = .ok (.getfield index, 3)) (kk : W p l e R s m args below meth c H locs cells slots Q (F0 m (pc + 3) ls (.int V :: rest))) : W p l e R s m args below meth c H locs cells slots Q (F0 m pc ls (.ref (hs 0) :: rest)) := by
  subst hV
  exact va_get (D := (dC, dI)) (ci := 0) (v := .int (x_alternativesFree u)) (C := RX0) (T := TX0) (N := 14) hx hb hts hin hown hK hP 0 rfl rfl 10 (by decide) hlink (fun _ h9 => h9) rfl hdg kk
theorem pt_X_alternativesFree (hx : p.tables.exec = Jvm.exec) (hb : c.code = cc) (hts : ∀ w ∈ Ts, w.before args s = true) (hin : ∀ w ∈ u_ws RX0 TX0 14, w ∈ Ts) (hown : s.vm.findClass own = some m.cls) (hK : va_K (dC, dI) vwCl (tX ka) s) (hP : va_P (dC, dI) vwCl (cX hs ka u) H) (hD : va_D A (cX hs ka u)) (hS : va_S A H0 H locs) {index : Nat} (hlink : (Cond.fieldLink own index "ConflictSolve" "alternativesFree" "I").before args s = true) {x : Int32} (hdg : decode cc pc = .ok (.putfield index, 3)) (kk : ∀ (H1 : Heap) (locs1 : List Loc), va_P (dC, dI) vwCl (cX hs ka (xs_alternativesFree u x)) H1 → va_D A (cX hs ka (xs_alternativesFree u x)) → va_S A H0 H1 locs1 → W p l e R s m args below meth c H1 locs1 cells slots Q (F0 m (pc + 3) ls rest)) : W p l e R s m args below meth c H locs cells slots Q (F0 m pc ls (.int x :: .ref (hs 0) :: rest)) := va_put (D := (dC, dI)) (ci := 0) (v := .int x) (ty := .int) (C := RX0) (T := TX0) (N := 14) hx hb hts hin tyX0 tyX0_ok nmX0 hown hK hP hD hS 0 rfl rfl 10 (by decide) hlink (fun _ h9 => h9) rfl (by decide +kernel) rfl rfl (Nat.le_of_ble_eq_true rfl) hdg (fun H1 locs1 hP hD hS => kk H1 locs1 hP hD hS)
theorem gt_X_latestIsDemand (hx : p.tables.exec = Jvm.exec) (hb : c.code = cc) (hts : ∀ w ∈ Ts, w.before args s = true) (hin : ∀ w ∈ u_ws RX0 TX0 14, w ∈ Ts) (hown : s.vm.findClass own = some m.cls) (hK : va_K (dC, dI) vwCl (tX ka) s) (hP : va_P (dC, dI) vwCl (cX hs ka u) H) {index : Nat} (hlink : (Cond.fieldLink own index "ConflictSolve" "latestIsDemand" "Z").before args s = true) {V : Int32} (hV : x_latestIsDemand u = V) (hdg : decode cc pc = .ok (.getfield index, 3)) (kk : W p l e R s m args below meth c H locs cells slots Q (F0 m (pc + 3) ls (.int V :: rest))) : W p l e R s m args below meth c H locs cells slots Q (F0 m pc ls (.ref (hs 0) :: rest)) := by
  subst hV
  exact va_get (D := (dC, dI)) (ci := 0) (v := .int (x_latestIsDemand u)) (C := RX0) (T := TX0) (N := 14) hx hb hts hin hown hK hP 0 rfl rfl 11 (by decide) hlink (fun _ h9 => h9) rfl hdg kk
theorem pt_X_latestIsDemand (hx : p.tables.exec = Jvm.exec) (hb : c.code = cc) (hts : ∀ w ∈ Ts, w.before args s = true) (hin : ∀ w ∈ u_ws RX0 TX0 14, w ∈ Ts) (hown : s.vm.findClass own = some m.cls) (hK : va_K (dC, dI) vwCl (tX ka) s) (hP : va_P (dC, dI) vwCl (cX hs ka u) H) (hD : va_D A (cX hs ka u)) (hS : va_S A H0 H locs) {index : Nat} (hlink : (Cond.fieldLink own index "ConflictSolve" "latestIsDemand" "Z").before args s = true) {x : Int32} (hn : narrow .boolean (.int x) = .int x) (hf : fits .boolean (.int x) = true) (hdg : decode cc pc = .ok (.putfield index, 3)) (kk : ∀ (H1 : Heap) (locs1 : List Loc), va_P (dC, dI) vwCl (cX hs ka (xs_latestIsDemand u x)) H1 → va_D A (cX hs ka (xs_latestIsDemand u x)) → va_S A H0 H1 locs1 → W p l e R s m args below meth c H1 locs1 cells slots Q (F0 m (pc + 3) ls rest)) : W p l e R s m args below meth c H locs cells slots Q (F0 m pc ls (.int x :: .ref (hs 0) :: rest)) := va_put (D := (dC, dI)) (ci := 0) (v := .int x) (ty := .boolean) (C := RX0) (T := TX0) (N := 14) hx hb hts hin tyX0 tyX0_ok nmX0 hown hK hP hD hS 0 rfl rfl 11 (by decide) hlink (fun _ h9 => h9) rfl (by decide +kernel) hn hf (Nat.le_of_ble_eq_true rfl) hdg (fun H1 locs1 hP hD hS => kk H1 locs1 hP hD hS)
theorem gt_X_picked (hx : p.tables.exec = Jvm.exec) (hb : c.code = cc) (hts : ∀ w ∈ Ts, w.before args s = true) (hin : ∀ w ∈ u_ws RX0 TX0 14, w ∈ Ts) (hown : s.vm.findClass own = some m.cls) (hK : va_K (dC, dI) vwCl (tX ka) s) (hP : va_P (dC, dI) vwCl (cX hs ka u) H) {index : Nat} (hlink : (Cond.fieldLink own index "ConflictSolve" "picked" "J").before args s = true) {V : Int64} (hV : x_picked u = V) (hdg : decode cc pc = .ok (.getfield index, 3)) (kk : W p l e R s m args below meth c H locs cells slots Q (F0 m (pc + 3) ls (.long V :: rest))) : W p l e R s m args below meth c H locs cells slots Q (F0 m pc ls (.ref (hs 0) :: rest)) := by
  subst hV
  exact va_get (D := (dC, dI)) (ci := 0) (v := .long (x_picked u)) (C := RX0) (T := TX0) (N := 14) hx hb hts hin hown hK hP 0 rfl rfl 12 (by decide) hlink (fun _ h9 => h9) rfl hdg kk
theorem pt_X_picked (hx : p.tables.exec = Jvm.exec) (hb : c.code = cc) (hts : ∀ w ∈ Ts, w.before args s = true) (hin : ∀ w ∈ u_ws RX0 TX0 14, w ∈ Ts) (hown : s.vm.findClass own = some m.cls) (hK : va_K (dC, dI) vwCl (tX ka) s) (hP : va_P (dC, dI) vwCl (cX hs ka u) H) (hD : va_D A (cX hs ka u)) (hS : va_S A H0 H locs) {index : Nat} (hlink : (Cond.fieldLink own index "ConflictSolve" "picked" "J").before args s = true) {x : Int64} (hdg : decode cc pc = .ok (.putfield index, 3)) (kk : ∀ (H1 : Heap) (locs1 : List Loc), va_P (dC, dI) vwCl (cX hs ka (xs_picked u x)) H1 → va_D A (cX hs ka (xs_picked u x)) → va_S A H0 H1 locs1 → W p l e R s m args below meth c H1 locs1 cells slots Q (F0 m (pc + 3) ls rest)) : W p l e R s m args below meth c H locs cells slots Q (F0 m pc ls (.long x :: .ref (hs 0) :: rest)) := va_put (D := (dC, dI)) (ci := 0) (v := .long x) (ty := .long) (C := RX0) (T := TX0) (N := 14) hx hb hts hin tyX0 tyX0_ok nmX0 hown hK hP hD hS 0 rfl rfl 12 (by decide) hlink (fun _ h9 => h9) rfl (by decide +kernel) rfl rfl (Nat.le_of_ble_eq_true rfl) hdg (fun H1 locs1 hP hD hS => kk H1 locs1 hP hD hS)
theorem gt_X_toBlame (hx : p.tables.exec = Jvm.exec) (hb : c.code = cc) (hts : ∀ w ∈ Ts, w.before args s = true) (hin : ∀ w ∈ u_ws RX0 TX0 14, w ∈ Ts) (hown : s.vm.findClass own = some m.cls) (hK : va_K (dC, dI) vwCl (tX ka) s) (hP : va_P (dC, dI) vwCl (cX hs ka u) H) {index : Nat} (hlink : (Cond.fieldLink own index "ConflictSolve" "toBlame" "I").before args s = true) {V : Int32} (hV : x_toBlame u = V) (hdg : decode cc pc = .ok (.getfield index, 3)) (kk : W p l e R s m args below meth c H locs cells slots Q (F0 m (pc + 3) ls (.int V :: rest))) : W p l e R s m args below meth c H locs cells slots Q (F0 m pc ls (.ref (hs 0) :: rest)) := by
  subst hV
  exact va_get (D := (dC, dI)) (ci := 0) (v := .int (x_toBlame u)) (C := RX0) (T := TX0) (N := 14) hx hb hts hin hown hK hP 0 rfl rfl 13 (by decide) hlink (fun _ h9 => h9) rfl hdg kk
theorem pt_X_toBlame (hx : p.tables.exec = Jvm.exec) (hb : c.code = cc) (hts : ∀ w ∈ Ts, w.before args s = true) (hin : ∀ w ∈ u_ws RX0 TX0 14, w ∈ Ts) (hown : s.vm.findClass own = some m.cls) (hK : va_K (dC, dI) vwCl (tX ka) s) (hP : va_P (dC, dI) vwCl (cX hs ka u) H) (hD : va_D A (cX hs ka u)) (hS : va_S A H0 H locs) {index : Nat} (hlink : (Cond.fieldLink own index "ConflictSolve" "toBlame" "I").before args s = true) {x : Int32} (hdg : decode cc pc = .ok (.putfield index, 3)) (kk : ∀ (H1 : Heap) (locs1 : List Loc), va_P (dC, dI) vwCl (cX hs ka (xs_toBlame u x)) H1 → va_D A (cX hs ka (xs_toBlame u x)) → va_S A H0 H1 locs1 → W p l e R s m args below meth c H1 locs1 cells slots Q (F0 m (pc + 3) ls rest)) : W p l e R s m args below meth c H locs cells slots Q (F0 m pc ls (.int x :: .ref (hs 0) :: rest)) := va_put (D := (dC, dI)) (ci := 0) (v := .int x) (ty := .int) (C := RX0) (T := TX0) (N := 14) hx hb hts hin tyX0 tyX0_ok nmX0 hown hK hP hD hS 0 rfl rfl 13 (by decide) hlink (fun _ h9 => h9) rfl (by decide +kernel) rfl rfl (Nat.le_of_ble_eq_true rfl) hdg (fun H1 locs1 hP hD hS => kk H1 locs1 hP hD hS)
theorem fr_X (hD : va_D A (cX hs ka u)) (hS : va_S A H0 H locs) (hA : ∀ q, H0.size ≤ q → A q) : ∀ q, va_A (cX hs ka u) H.size q → A q := va_free (wc := cX hs ka u) hD hS hA [0, 1, 2, 3] rfl
theorem fn_X (hD : va_D A (cX hs ka u)) (hS : va_S A H0 H locs) (hA : ∀ q, H0.size ≤ q → A q) : ∀ q, va_A ([] : va_W) H.size q → A q := va_free (wc := []) hD hS hA [] rfl
theorem jw_X {H1 : Heap} {u1 : XS} (hP : va_P (dC, dI) vwCl (cX hs ka u) H) (hD : va_D A (cX hs ka u)) (hk : ∀ q : Nat, q < H.size → ¬ va_A (cX hs ka u) H.size q → H1[q]? = H[q]?) (hF : ∀ q, va_A (cX hs ka u) H.size q → A q) (hP1 : va_P (dC, dI) vwCl (cX hs ka u1) H1) (hD1 : va_D (va_A (cX hs ka u) H.size) (cX hs ka u1)) : va_P (dC, dI) vwCl (cX hs ka u1) H1 ∧ va_D A (cX hs ka u1) := va_join (wc := cX hs ka u) (wr := []) (w1 := cX hs ka u1) hP hD [0, 1, 2, 3] [] rfl rfl (by decide) (by decide) hk hF hP1 hD1
theorem js_X {H1 : Heap} (hP : va_P (dC, dI) vwCl (cX hs ka u) H) (hD : va_D A (cX hs ka u)) (hk : ∀ q : Nat, q < H.size → ¬ va_A ([] : va_W) H.size q → H1[q]? = H[q]?) (hF : ∀ q, va_A ([] : va_W) H.size q → A q) (hP1 : va_P (dC, dI) vwCl ([] : va_W) H1) (hD1 : va_D (va_A ([] : va_W) H.size) ([] : va_W)) : va_P (dC, dI) vwCl (cX hs ka u) H1 ∧ va_D A (cX hs ka u) := va_join (wc := []) (wr := cX hs ka u) (w1 := []) hP hD [] [0, 1, 2, 3] rfl rfl (by decide) (by decide) hk hF hP1 hD1
theorem rc_X (hK : va_K (dC, dI) vwCl (tX ka) s) (hP : va_P (dC, dI) vwCl (cX hs ka u) H) : ∃ cell : Cell, H[hs 0]? = some cell ∧ cell.vm.isStatics = false ∧ s.vm.findClass RX0 = some cell.cls := va_recv hK hP (ci := 0) (q0 := 0) rfl rfl
end ROWSX
theorem rq_x_rowRules_rowRules (u : XS) (v : Nat → Int64) : x_rowRules (xs_rowRules u v) = v := nrfl rfl
theorem rq_x_rowRules_demandRules (u : XS) (v : Nat → Int64) : x_rowRules (xs_demandRules u v) = x_rowRules u := nrfl rfl
theorem rq_x_rowRules_order (u : XS) (v : Nat → Int32) : x_rowRules (xs_order u v) = x_rowRules u := nrfl rfl
theorem rq_x_rowRules_packs (u : XS) (v : Int32) : x_rowRules (xs_packs u v) = x_rowRules u := nrfl rfl
theorem rq_x_rowRules_rows (u : XS) (v : Int32) : x_rowRules (xs_rows u v) = x_rowRules u := nrfl rfl
theorem rq_x_rowRules_demands (u : XS) (v : Int32) : x_rowRules (xs_demands u v) = x_rowRules u := nrfl rfl
theorem rq_x_rowRules_neededPacks (u : XS) (v : Int32) : x_rowRules (xs_neededPacks u v) = x_rowRules u := nrfl rfl
theorem rq_x_rowRules_places (u : XS) (v : Int64) : x_rowRules (xs_places u v) = x_rowRules u := nrfl rfl
theorem rq_x_rowRules_locked (u : XS) (v : Int64) : x_rowRules (xs_locked u v) = x_rowRules u := nrfl rfl
theorem rq_x_rowRules_leftOut (u : XS) (v : Int32) : x_rowRules (xs_leftOut u v) = x_rowRules u := nrfl rfl
theorem rq_x_rowRules_alternativesFree (u : XS) (v : Int32) : x_rowRules (xs_alternativesFree u v) = x_rowRules u := nrfl rfl
theorem rq_x_rowRules_latestIsDemand (u : XS) (v : Int32) : x_rowRules (xs_latestIsDemand u v) = x_rowRules u := nrfl rfl
theorem rq_x_rowRules_picked (u : XS) (v : Int64) : x_rowRules (xs_picked u v) = x_rowRules u := nrfl rfl
theorem rq_x_rowRules_toBlame (u : XS) (v : Int32) : x_rowRules (xs_toBlame u v) = x_rowRules u := nrfl rfl
theorem rq_x_demandRules_rowRules (u : XS) (v : Nat → Int64) : x_demandRules (xs_rowRules u v) = x_demandRules u := nrfl rfl
theorem rq_x_demandRules_demandRules (u : XS) (v : Nat → Int64) : x_demandRules (xs_demandRules u v) = v := nrfl rfl
theorem rq_x_demandRules_order (u : XS) (v : Nat → Int32) : x_demandRules (xs_order u v) = x_demandRules u := nrfl rfl
theorem rq_x_demandRules_packs (u : XS) (v : Int32) : x_demandRules (xs_packs u v) = x_demandRules u := nrfl rfl
theorem rq_x_demandRules_rows (u : XS) (v : Int32) : x_demandRules (xs_rows u v) = x_demandRules u := nrfl rfl
theorem rq_x_demandRules_demands (u : XS) (v : Int32) : x_demandRules (xs_demands u v) = x_demandRules u := nrfl rfl
theorem rq_x_demandRules_neededPacks (u : XS) (v : Int32) : x_demandRules (xs_neededPacks u v) = x_demandRules u := nrfl rfl
theorem rq_x_demandRules_places (u : XS) (v : Int64) : x_demandRules (xs_places u v) = x_demandRules u := nrfl rfl
theorem rq_x_demandRules_locked (u : XS) (v : Int64) : x_demandRules (xs_locked u v) = x_demandRules u := nrfl rfl
theorem rq_x_demandRules_leftOut (u : XS) (v : Int32) : x_demandRules (xs_leftOut u v) = x_demandRules u := nrfl rfl
theorem rq_x_demandRules_alternativesFree (u : XS) (v : Int32) : x_demandRules (xs_alternativesFree u v) = x_demandRules u := nrfl rfl
theorem rq_x_demandRules_latestIsDemand (u : XS) (v : Int32) : x_demandRules (xs_latestIsDemand u v) = x_demandRules u := nrfl rfl
theorem rq_x_demandRules_picked (u : XS) (v : Int64) : x_demandRules (xs_picked u v) = x_demandRules u := nrfl rfl
theorem rq_x_demandRules_toBlame (u : XS) (v : Int32) : x_demandRules (xs_toBlame u v) = x_demandRules u := nrfl rfl
theorem rq_x_order_rowRules (u : XS) (v : Nat → Int64) : x_order (xs_rowRules u v) = x_order u := nrfl rfl
theorem rq_x_order_demandRules (u : XS) (v : Nat → Int64) : x_order (xs_demandRules u v) = x_order u := nrfl rfl
theorem rq_x_order_order (u : XS) (v : Nat → Int32) : x_order (xs_order u v) = v := nrfl rfl
theorem rq_x_order_packs (u : XS) (v : Int32) : x_order (xs_packs u v) = x_order u := nrfl rfl
theorem rq_x_order_rows (u : XS) (v : Int32) : x_order (xs_rows u v) = x_order u := nrfl rfl
theorem rq_x_order_demands (u : XS) (v : Int32) : x_order (xs_demands u v) = x_order u := nrfl rfl
theorem rq_x_order_neededPacks (u : XS) (v : Int32) : x_order (xs_neededPacks u v) = x_order u := nrfl rfl
theorem rq_x_order_places (u : XS) (v : Int64) : x_order (xs_places u v) = x_order u := nrfl rfl
theorem rq_x_order_locked (u : XS) (v : Int64) : x_order (xs_locked u v) = x_order u := nrfl rfl
theorem rq_x_order_leftOut (u : XS) (v : Int32) : x_order (xs_leftOut u v) = x_order u := nrfl rfl
theorem rq_x_order_alternativesFree (u : XS) (v : Int32) : x_order (xs_alternativesFree u v) = x_order u := nrfl rfl
theorem rq_x_order_latestIsDemand (u : XS) (v : Int32) : x_order (xs_latestIsDemand u v) = x_order u := nrfl rfl
theorem rq_x_order_picked (u : XS) (v : Int64) : x_order (xs_picked u v) = x_order u := nrfl rfl
theorem rq_x_order_toBlame (u : XS) (v : Int32) : x_order (xs_toBlame u v) = x_order u := nrfl rfl
theorem rq_x_packs_rowRules (u : XS) (v : Nat → Int64) : x_packs (xs_rowRules u v) = x_packs u := nrfl rfl
theorem rq_x_packs_demandRules (u : XS) (v : Nat → Int64) : x_packs (xs_demandRules u v) = x_packs u := nrfl rfl
theorem rq_x_packs_order (u : XS) (v : Nat → Int32) : x_packs (xs_order u v) = x_packs u := nrfl rfl
theorem rq_x_packs_packs (u : XS) (v : Int32) : x_packs (xs_packs u v) = v := nrfl rfl
theorem rq_x_packs_rows (u : XS) (v : Int32) : x_packs (xs_rows u v) = x_packs u := nrfl rfl
theorem rq_x_packs_demands (u : XS) (v : Int32) : x_packs (xs_demands u v) = x_packs u := nrfl rfl
theorem rq_x_packs_neededPacks (u : XS) (v : Int32) : x_packs (xs_neededPacks u v) = x_packs u := nrfl rfl
theorem rq_x_packs_places (u : XS) (v : Int64) : x_packs (xs_places u v) = x_packs u := nrfl rfl
theorem rq_x_packs_locked (u : XS) (v : Int64) : x_packs (xs_locked u v) = x_packs u := nrfl rfl
theorem rq_x_packs_leftOut (u : XS) (v : Int32) : x_packs (xs_leftOut u v) = x_packs u := nrfl rfl
theorem rq_x_packs_alternativesFree (u : XS) (v : Int32) : x_packs (xs_alternativesFree u v) = x_packs u := nrfl rfl
theorem rq_x_packs_latestIsDemand (u : XS) (v : Int32) : x_packs (xs_latestIsDemand u v) = x_packs u := nrfl rfl
theorem rq_x_packs_picked (u : XS) (v : Int64) : x_packs (xs_picked u v) = x_packs u := nrfl rfl
theorem rq_x_packs_toBlame (u : XS) (v : Int32) : x_packs (xs_toBlame u v) = x_packs u := nrfl rfl
theorem rq_x_rows_rowRules (u : XS) (v : Nat → Int64) : x_rows (xs_rowRules u v) = x_rows u := nrfl rfl
theorem rq_x_rows_demandRules (u : XS) (v : Nat → Int64) : x_rows (xs_demandRules u v) = x_rows u := nrfl rfl
theorem rq_x_rows_order (u : XS) (v : Nat → Int32) : x_rows (xs_order u v) = x_rows u := nrfl rfl
theorem rq_x_rows_packs (u : XS) (v : Int32) : x_rows (xs_packs u v) = x_rows u := nrfl rfl
theorem rq_x_rows_rows (u : XS) (v : Int32) : x_rows (xs_rows u v) = v := nrfl rfl
theorem rq_x_rows_demands (u : XS) (v : Int32) : x_rows (xs_demands u v) = x_rows u := nrfl rfl
theorem rq_x_rows_neededPacks (u : XS) (v : Int32) : x_rows (xs_neededPacks u v) = x_rows u := nrfl rfl
theorem rq_x_rows_places (u : XS) (v : Int64) : x_rows (xs_places u v) = x_rows u := nrfl rfl
theorem rq_x_rows_locked (u : XS) (v : Int64) : x_rows (xs_locked u v) = x_rows u := nrfl rfl
theorem rq_x_rows_leftOut (u : XS) (v : Int32) : x_rows (xs_leftOut u v) = x_rows u := nrfl rfl
theorem rq_x_rows_alternativesFree (u : XS) (v : Int32) : x_rows (xs_alternativesFree u v) = x_rows u := nrfl rfl
theorem rq_x_rows_latestIsDemand (u : XS) (v : Int32) : x_rows (xs_latestIsDemand u v) = x_rows u := nrfl rfl
theorem rq_x_rows_picked (u : XS) (v : Int64) : x_rows (xs_picked u v) = x_rows u := nrfl rfl
theorem rq_x_rows_toBlame (u : XS) (v : Int32) : x_rows (xs_toBlame u v) = x_rows u := nrfl rfl
theorem rq_x_demands_rowRules (u : XS) (v : Nat → Int64) : x_demands (xs_rowRules u v) = x_demands u := nrfl rfl
theorem rq_x_demands_demandRules (u : XS) (v : Nat → Int64) : x_demands (xs_demandRules u v) = x_demands u := nrfl rfl
theorem rq_x_demands_order (u : XS) (v : Nat → Int32) : x_demands (xs_order u v) = x_demands u := nrfl rfl
theorem rq_x_demands_packs (u : XS) (v : Int32) : x_demands (xs_packs u v) = x_demands u := nrfl rfl
theorem rq_x_demands_rows (u : XS) (v : Int32) : x_demands (xs_rows u v) = x_demands u := nrfl rfl
theorem rq_x_demands_demands (u : XS) (v : Int32) : x_demands (xs_demands u v) = v := nrfl rfl
theorem rq_x_demands_neededPacks (u : XS) (v : Int32) : x_demands (xs_neededPacks u v) = x_demands u := nrfl rfl
theorem rq_x_demands_places (u : XS) (v : Int64) : x_demands (xs_places u v) = x_demands u := nrfl rfl
theorem rq_x_demands_locked (u : XS) (v : Int64) : x_demands (xs_locked u v) = x_demands u := nrfl rfl
theorem rq_x_demands_leftOut (u : XS) (v : Int32) : x_demands (xs_leftOut u v) = x_demands u := nrfl rfl
theorem rq_x_demands_alternativesFree (u : XS) (v : Int32) : x_demands (xs_alternativesFree u v) = x_demands u := nrfl rfl
theorem rq_x_demands_latestIsDemand (u : XS) (v : Int32) : x_demands (xs_latestIsDemand u v) = x_demands u := nrfl rfl
theorem rq_x_demands_picked (u : XS) (v : Int64) : x_demands (xs_picked u v) = x_demands u := nrfl rfl
theorem rq_x_demands_toBlame (u : XS) (v : Int32) : x_demands (xs_toBlame u v) = x_demands u := nrfl rfl
theorem rq_x_neededPacks_rowRules (u : XS) (v : Nat → Int64) : x_neededPacks (xs_rowRules u v) = x_neededPacks u := nrfl rfl
theorem rq_x_neededPacks_demandRules (u : XS) (v : Nat → Int64) : x_neededPacks (xs_demandRules u v) = x_neededPacks u := nrfl rfl
theorem rq_x_neededPacks_order (u : XS) (v : Nat → Int32) : x_neededPacks (xs_order u v) = x_neededPacks u := nrfl rfl
theorem rq_x_neededPacks_packs (u : XS) (v : Int32) : x_neededPacks (xs_packs u v) = x_neededPacks u := nrfl rfl
theorem rq_x_neededPacks_rows (u : XS) (v : Int32) : x_neededPacks (xs_rows u v) = x_neededPacks u := nrfl rfl
theorem rq_x_neededPacks_demands (u : XS) (v : Int32) : x_neededPacks (xs_demands u v) = x_neededPacks u := nrfl rfl
theorem rq_x_neededPacks_neededPacks (u : XS) (v : Int32) : x_neededPacks (xs_neededPacks u v) = v := nrfl rfl
theorem rq_x_neededPacks_places (u : XS) (v : Int64) : x_neededPacks (xs_places u v) = x_neededPacks u := nrfl rfl
theorem rq_x_neededPacks_locked (u : XS) (v : Int64) : x_neededPacks (xs_locked u v) = x_neededPacks u := nrfl rfl
theorem rq_x_neededPacks_leftOut (u : XS) (v : Int32) : x_neededPacks (xs_leftOut u v) = x_neededPacks u := nrfl rfl
theorem rq_x_neededPacks_alternativesFree (u : XS) (v : Int32) : x_neededPacks (xs_alternativesFree u v) = x_neededPacks u := nrfl rfl
theorem rq_x_neededPacks_latestIsDemand (u : XS) (v : Int32) : x_neededPacks (xs_latestIsDemand u v) = x_neededPacks u := nrfl rfl
theorem rq_x_neededPacks_picked (u : XS) (v : Int64) : x_neededPacks (xs_picked u v) = x_neededPacks u := nrfl rfl
theorem rq_x_neededPacks_toBlame (u : XS) (v : Int32) : x_neededPacks (xs_toBlame u v) = x_neededPacks u := nrfl rfl
theorem rq_x_places_rowRules (u : XS) (v : Nat → Int64) : x_places (xs_rowRules u v) = x_places u := nrfl rfl
theorem rq_x_places_demandRules (u : XS) (v : Nat → Int64) : x_places (xs_demandRules u v) = x_places u := nrfl rfl
theorem rq_x_places_order (u : XS) (v : Nat → Int32) : x_places (xs_order u v) = x_places u := nrfl rfl
theorem rq_x_places_packs (u : XS) (v : Int32) : x_places (xs_packs u v) = x_places u := nrfl rfl
theorem rq_x_places_rows (u : XS) (v : Int32) : x_places (xs_rows u v) = x_places u := nrfl rfl
theorem rq_x_places_demands (u : XS) (v : Int32) : x_places (xs_demands u v) = x_places u := nrfl rfl
theorem rq_x_places_neededPacks (u : XS) (v : Int32) : x_places (xs_neededPacks u v) = x_places u := nrfl rfl
theorem rq_x_places_places (u : XS) (v : Int64) : x_places (xs_places u v) = v := nrfl rfl
theorem rq_x_places_locked (u : XS) (v : Int64) : x_places (xs_locked u v) = x_places u := nrfl rfl
theorem rq_x_places_leftOut (u : XS) (v : Int32) : x_places (xs_leftOut u v) = x_places u := nrfl rfl
theorem rq_x_places_alternativesFree (u : XS) (v : Int32) : x_places (xs_alternativesFree u v) = x_places u := nrfl rfl
theorem rq_x_places_latestIsDemand (u : XS) (v : Int32) : x_places (xs_latestIsDemand u v) = x_places u := nrfl rfl
theorem rq_x_places_picked (u : XS) (v : Int64) : x_places (xs_picked u v) = x_places u := nrfl rfl
theorem rq_x_places_toBlame (u : XS) (v : Int32) : x_places (xs_toBlame u v) = x_places u := nrfl rfl
theorem rq_x_locked_rowRules (u : XS) (v : Nat → Int64) : x_locked (xs_rowRules u v) = x_locked u := nrfl rfl
theorem rq_x_locked_demandRules (u : XS) (v : Nat → Int64) : x_locked (xs_demandRules u v) = x_locked u := nrfl rfl
theorem rq_x_locked_order (u : XS) (v : Nat → Int32) : x_locked (xs_order u v) = x_locked u := nrfl rfl
theorem rq_x_locked_packs (u : XS) (v : Int32) : x_locked (xs_packs u v) = x_locked u := nrfl rfl
theorem rq_x_locked_rows (u : XS) (v : Int32) : x_locked (xs_rows u v) = x_locked u := nrfl rfl
theorem rq_x_locked_demands (u : XS) (v : Int32) : x_locked (xs_demands u v) = x_locked u := nrfl rfl
theorem rq_x_locked_neededPacks (u : XS) (v : Int32) : x_locked (xs_neededPacks u v) = x_locked u := nrfl rfl
theorem rq_x_locked_places (u : XS) (v : Int64) : x_locked (xs_places u v) = x_locked u := nrfl rfl
theorem rq_x_locked_locked (u : XS) (v : Int64) : x_locked (xs_locked u v) = v := nrfl rfl
theorem rq_x_locked_leftOut (u : XS) (v : Int32) : x_locked (xs_leftOut u v) = x_locked u := nrfl rfl
theorem rq_x_locked_alternativesFree (u : XS) (v : Int32) : x_locked (xs_alternativesFree u v) = x_locked u := nrfl rfl
theorem rq_x_locked_latestIsDemand (u : XS) (v : Int32) : x_locked (xs_latestIsDemand u v) = x_locked u := nrfl rfl
theorem rq_x_locked_picked (u : XS) (v : Int64) : x_locked (xs_picked u v) = x_locked u := nrfl rfl
theorem rq_x_locked_toBlame (u : XS) (v : Int32) : x_locked (xs_toBlame u v) = x_locked u := nrfl rfl
theorem rq_x_leftOut_rowRules (u : XS) (v : Nat → Int64) : x_leftOut (xs_rowRules u v) = x_leftOut u := nrfl rfl
theorem rq_x_leftOut_demandRules (u : XS) (v : Nat → Int64) : x_leftOut (xs_demandRules u v) = x_leftOut u := nrfl rfl
theorem rq_x_leftOut_order (u : XS) (v : Nat → Int32) : x_leftOut (xs_order u v) = x_leftOut u := nrfl rfl
theorem rq_x_leftOut_packs (u : XS) (v : Int32) : x_leftOut (xs_packs u v) = x_leftOut u := nrfl rfl
theorem rq_x_leftOut_rows (u : XS) (v : Int32) : x_leftOut (xs_rows u v) = x_leftOut u := nrfl rfl
theorem rq_x_leftOut_demands (u : XS) (v : Int32) : x_leftOut (xs_demands u v) = x_leftOut u := nrfl rfl
theorem rq_x_leftOut_neededPacks (u : XS) (v : Int32) : x_leftOut (xs_neededPacks u v) = x_leftOut u := nrfl rfl
theorem rq_x_leftOut_places (u : XS) (v : Int64) : x_leftOut (xs_places u v) = x_leftOut u := nrfl rfl
theorem rq_x_leftOut_locked (u : XS) (v : Int64) : x_leftOut (xs_locked u v) = x_leftOut u := nrfl rfl
theorem rq_x_leftOut_leftOut (u : XS) (v : Int32) : x_leftOut (xs_leftOut u v) = v := nrfl rfl
theorem rq_x_leftOut_alternativesFree (u : XS) (v : Int32) : x_leftOut (xs_alternativesFree u v) = x_leftOut u := nrfl rfl
theorem rq_x_leftOut_latestIsDemand (u : XS) (v : Int32) : x_leftOut (xs_latestIsDemand u v) = x_leftOut u := nrfl rfl
theorem rq_x_leftOut_picked (u : XS) (v : Int64) : x_leftOut (xs_picked u v) = x_leftOut u := nrfl rfl
theorem rq_x_leftOut_toBlame (u : XS) (v : Int32) : x_leftOut (xs_toBlame u v) = x_leftOut u := nrfl rfl
theorem rq_x_alternativesFree_rowRules (u : XS) (v : Nat → Int64) : x_alternativesFree (xs_rowRules u v) = x_alternativesFree u := nrfl rfl
theorem rq_x_alternativesFree_demandRules (u : XS) (v : Nat → Int64) : x_alternativesFree (xs_demandRules u v) = x_alternativesFree u := nrfl rfl
theorem rq_x_alternativesFree_order (u : XS) (v : Nat → Int32) : x_alternativesFree (xs_order u v) = x_alternativesFree u := nrfl rfl
theorem rq_x_alternativesFree_packs (u : XS) (v : Int32) : x_alternativesFree (xs_packs u v) = x_alternativesFree u := nrfl rfl
theorem rq_x_alternativesFree_rows (u : XS) (v : Int32) : x_alternativesFree (xs_rows u v) = x_alternativesFree u := nrfl rfl
theorem rq_x_alternativesFree_demands (u : XS) (v : Int32) : x_alternativesFree (xs_demands u v) = x_alternativesFree u := nrfl rfl
theorem rq_x_alternativesFree_neededPacks (u : XS) (v : Int32) : x_alternativesFree (xs_neededPacks u v) = x_alternativesFree u := nrfl rfl
theorem rq_x_alternativesFree_places (u : XS) (v : Int64) : x_alternativesFree (xs_places u v) = x_alternativesFree u := nrfl rfl
theorem rq_x_alternativesFree_locked (u : XS) (v : Int64) : x_alternativesFree (xs_locked u v) = x_alternativesFree u := nrfl rfl
theorem rq_x_alternativesFree_leftOut (u : XS) (v : Int32) : x_alternativesFree (xs_leftOut u v) = x_alternativesFree u := nrfl rfl
theorem rq_x_alternativesFree_alternativesFree (u : XS) (v : Int32) : x_alternativesFree (xs_alternativesFree u v) = v := nrfl rfl
theorem rq_x_alternativesFree_latestIsDemand (u : XS) (v : Int32) : x_alternativesFree (xs_latestIsDemand u v) = x_alternativesFree u := nrfl rfl
theorem rq_x_alternativesFree_picked (u : XS) (v : Int64) : x_alternativesFree (xs_picked u v) = x_alternativesFree u := nrfl rfl
theorem rq_x_alternativesFree_toBlame (u : XS) (v : Int32) : x_alternativesFree (xs_toBlame u v) = x_alternativesFree u := nrfl rfl
theorem rq_x_latestIsDemand_rowRules (u : XS) (v : Nat → Int64) : x_latestIsDemand (xs_rowRules u v) = x_latestIsDemand u := nrfl rfl
theorem rq_x_latestIsDemand_demandRules (u : XS) (v : Nat → Int64) : x_latestIsDemand (xs_demandRules u v) = x_latestIsDemand u := nrfl rfl
theorem rq_x_latestIsDemand_order (u : XS) (v : Nat → Int32) : x_latestIsDemand (xs_order u v) = x_latestIsDemand u := nrfl rfl
theorem rq_x_latestIsDemand_packs (u : XS) (v : Int32) : x_latestIsDemand (xs_packs u v) = x_latestIsDemand u := nrfl rfl
theorem rq_x_latestIsDemand_rows (u : XS) (v : Int32) : x_latestIsDemand (xs_rows u v) = x_latestIsDemand u := nrfl rfl
theorem rq_x_latestIsDemand_demands (u : XS) (v : Int32) : x_latestIsDemand (xs_demands u v) = x_latestIsDemand u := nrfl rfl
theorem rq_x_latestIsDemand_neededPacks (u : XS) (v : Int32) : x_latestIsDemand (xs_neededPacks u v) = x_latestIsDemand u := nrfl rfl
theorem rq_x_latestIsDemand_places (u : XS) (v : Int64) : x_latestIsDemand (xs_places u v) = x_latestIsDemand u := nrfl rfl
theorem rq_x_latestIsDemand_locked (u : XS) (v : Int64) : x_latestIsDemand (xs_locked u v) = x_latestIsDemand u := nrfl rfl
theorem rq_x_latestIsDemand_leftOut (u : XS) (v : Int32) : x_latestIsDemand (xs_leftOut u v) = x_latestIsDemand u := nrfl rfl
theorem rq_x_latestIsDemand_alternativesFree (u : XS) (v : Int32) : x_latestIsDemand (xs_alternativesFree u v) = x_latestIsDemand u := nrfl rfl
theorem rq_x_latestIsDemand_latestIsDemand (u : XS) (v : Int32) : x_latestIsDemand (xs_latestIsDemand u v) = v := nrfl rfl
theorem rq_x_latestIsDemand_picked (u : XS) (v : Int64) : x_latestIsDemand (xs_picked u v) = x_latestIsDemand u := nrfl rfl
theorem rq_x_latestIsDemand_toBlame (u : XS) (v : Int32) : x_latestIsDemand (xs_toBlame u v) = x_latestIsDemand u := nrfl rfl
theorem rq_x_picked_rowRules (u : XS) (v : Nat → Int64) : x_picked (xs_rowRules u v) = x_picked u := nrfl rfl
theorem rq_x_picked_demandRules (u : XS) (v : Nat → Int64) : x_picked (xs_demandRules u v) = x_picked u := nrfl rfl
theorem rq_x_picked_order (u : XS) (v : Nat → Int32) : x_picked (xs_order u v) = x_picked u := nrfl rfl
theorem rq_x_picked_packs (u : XS) (v : Int32) : x_picked (xs_packs u v) = x_picked u := nrfl rfl
theorem rq_x_picked_rows (u : XS) (v : Int32) : x_picked (xs_rows u v) = x_picked u := nrfl rfl
theorem rq_x_picked_demands (u : XS) (v : Int32) : x_picked (xs_demands u v) = x_picked u := nrfl rfl
theorem rq_x_picked_neededPacks (u : XS) (v : Int32) : x_picked (xs_neededPacks u v) = x_picked u := nrfl rfl
theorem rq_x_picked_places (u : XS) (v : Int64) : x_picked (xs_places u v) = x_picked u := nrfl rfl
theorem rq_x_picked_locked (u : XS) (v : Int64) : x_picked (xs_locked u v) = x_picked u := nrfl rfl
theorem rq_x_picked_leftOut (u : XS) (v : Int32) : x_picked (xs_leftOut u v) = x_picked u := nrfl rfl
theorem rq_x_picked_alternativesFree (u : XS) (v : Int32) : x_picked (xs_alternativesFree u v) = x_picked u := nrfl rfl
theorem rq_x_picked_latestIsDemand (u : XS) (v : Int32) : x_picked (xs_latestIsDemand u v) = x_picked u := nrfl rfl
theorem rq_x_picked_picked (u : XS) (v : Int64) : x_picked (xs_picked u v) = v := nrfl rfl
theorem rq_x_picked_toBlame (u : XS) (v : Int32) : x_picked (xs_toBlame u v) = x_picked u := nrfl rfl
theorem rq_x_toBlame_rowRules (u : XS) (v : Nat → Int64) : x_toBlame (xs_rowRules u v) = x_toBlame u := nrfl rfl
theorem rq_x_toBlame_demandRules (u : XS) (v : Nat → Int64) : x_toBlame (xs_demandRules u v) = x_toBlame u := nrfl rfl
theorem rq_x_toBlame_order (u : XS) (v : Nat → Int32) : x_toBlame (xs_order u v) = x_toBlame u := nrfl rfl
theorem rq_x_toBlame_packs (u : XS) (v : Int32) : x_toBlame (xs_packs u v) = x_toBlame u := nrfl rfl
theorem rq_x_toBlame_rows (u : XS) (v : Int32) : x_toBlame (xs_rows u v) = x_toBlame u := nrfl rfl
theorem rq_x_toBlame_demands (u : XS) (v : Int32) : x_toBlame (xs_demands u v) = x_toBlame u := nrfl rfl
theorem rq_x_toBlame_neededPacks (u : XS) (v : Int32) : x_toBlame (xs_neededPacks u v) = x_toBlame u := nrfl rfl
theorem rq_x_toBlame_places (u : XS) (v : Int64) : x_toBlame (xs_places u v) = x_toBlame u := nrfl rfl
theorem rq_x_toBlame_locked (u : XS) (v : Int64) : x_toBlame (xs_locked u v) = x_toBlame u := nrfl rfl
theorem rq_x_toBlame_leftOut (u : XS) (v : Int32) : x_toBlame (xs_leftOut u v) = x_toBlame u := nrfl rfl
theorem rq_x_toBlame_alternativesFree (u : XS) (v : Int32) : x_toBlame (xs_alternativesFree u v) = x_toBlame u := nrfl rfl
theorem rq_x_toBlame_latestIsDemand (u : XS) (v : Int32) : x_toBlame (xs_latestIsDemand u v) = x_toBlame u := nrfl rfl
theorem rq_x_toBlame_picked (u : XS) (v : Int64) : x_toBlame (xs_picked u v) = x_toBlame u := nrfl rfl
theorem rq_x_toBlame_toBlame (u : XS) (v : Int32) : x_toBlame (xs_toBlame u v) = v := nrfl rfl
section ROWSM
variable {p : Program} {l : Launch} {e : Env} {R : Room} {s : State} {m : MethodId} {args : Array Value} {below : List Frame} {meth : Method} {c : Code} {H : Heap} {locs : List Loc} {cells slots : Nat} {Q : State → Prop} {cc : ByteArray} {pc : Nat} {ls : Array Slot} {rest : List Value} {dC : Nat → ClassId} {dI : Nat → Nat → Nat} {A : Nat → Prop} {H0 : Heap} {Ts : List Cond} {own : String} {hs : Nat → Nat} {ka : Nat → ClassId} {u : MS}
theorem gt_M_code (hx : p.tables.exec = Jvm.exec) (hb : c.code = cc) (hts : ∀ w ∈ Ts, w.before args s = true) (hin : ∀ w ∈ u_ws RX1 TX1 23, w ∈ Ts) (hown : s.vm.findClass own = some m.cls) (hK : va_K (dC, dI) vwCl (tM ka) s) (hP : va_P (dC, dI) vwCl (cM hs ka u) H) {index : Nat} (hlink : (Cond.fieldLink own index "ConflictSolveModel" "code" "I").before args s = true) {V : Int32} (hV : m_code u = V) (hdg : decode cc pc = .ok (.getfield index, 3)) (kk : W p l e R s m args below meth c H locs cells slots Q (F0 m (pc + 3) ls (.int V :: rest))) : W p l e R s m args below meth c H locs cells slots Q (F0 m pc ls (.ref (hs 0) :: rest)) := by
  subst hV
  exact va_get (D := (dC, dI)) (ci := 1) (v := .int (m_code u)) (C := RX1) (T := TX1) (N := 23) hx hb hts hin hown hK hP 0 rfl rfl 0 (by decide) hlink (fun _ h9 => h9) rfl hdg kk
theorem pt_M_code (hx : p.tables.exec = Jvm.exec) (hb : c.code = cc) (hts : ∀ w ∈ Ts, w.before args s = true) (hin : ∀ w ∈ u_ws RX1 TX1 23, w ∈ Ts) (hown : s.vm.findClass own = some m.cls) (hK : va_K (dC, dI) vwCl (tM ka) s) (hP : va_P (dC, dI) vwCl (cM hs ka u) H) (hD : va_D A (cM hs ka u)) (hS : va_S A H0 H locs) {index : Nat} (hlink : (Cond.fieldLink own index "ConflictSolveModel" "code" "I").before args s = true) {x : Int32} (hdg : decode cc pc = .ok (.putfield index, 3)) (kk : ∀ (H1 : Heap) (locs1 : List Loc), va_P (dC, dI) vwCl (cM hs ka (ms_code u x)) H1 → va_D A (cM hs ka (ms_code u x)) → va_S A H0 H1 locs1 → W p l e R s m args below meth c H1 locs1 cells slots Q (F0 m (pc + 3) ls rest)) : W p l e R s m args below meth c H locs cells slots Q (F0 m pc ls (.int x :: .ref (hs 0) :: rest)) := va_put (D := (dC, dI)) (ci := 1) (v := .int x) (ty := .int) (C := RX1) (T := TX1) (N := 23) hx hb hts hin tyX1 tyX1_ok nmX1 hown hK hP hD hS 0 rfl rfl 0 (by decide) hlink (fun _ h9 => h9) rfl (by decide +kernel) rfl rfl (Nat.le_of_ble_eq_true rfl) hdg (fun H1 locs1 hP hD hS => kk H1 locs1 hP hD hS)
theorem gt_M_versions (hx : p.tables.exec = Jvm.exec) (hb : c.code = cc) (hts : ∀ w ∈ Ts, w.before args s = true) (hin : ∀ w ∈ u_ws RX1 TX1 23, w ∈ Ts) (hown : s.vm.findClass own = some m.cls) (hK : va_K (dC, dI) vwCl (tM ka) s) (hP : va_P (dC, dI) vwCl (cM hs ka u) H) {index : Nat} (hlink : (Cond.fieldLink own index "ConflictSolveModel" "versions" "[I").before args s = true) (hdg : decode cc pc = .ok (.getfield index, 3)) (kk : W p l e R s m args below meth c H locs cells slots Q (F0 m (pc + 3) ls (.ref (hs 1) :: rest))) : W p l e R s m args below meth c H locs cells slots Q (F0 m pc ls (.ref (hs 0) :: rest)) := va_get (D := (dC, dI)) (ci := 1) (v := .ref (hs 1)) (C := RX1) (T := TX1) (N := 23) hx hb hts hin hown hK hP 0 rfl rfl 1 (by decide) hlink (fun _ h9 => h9) rfl hdg kk
theorem ld_M_versions (hx : p.tables.exec = Jvm.exec) (hb : c.code = cc) (hK : va_K (dC, dI) vwCl (tM ka) s) (hP : va_P (dC, dI) vwCl (cM hs ka u) H) {F : Nat → Int32} (hF : m_versions u = F) {i : Int32} (hi : vp_in i 8) (hdg : decode cc pc = .ok (.iaload, 1)) (kk : W p l e R s m args below meth c H locs cells slots Q (F0 m (pc + 1) ls (.int (F i.toNatClampNeg) :: rest))) : W p l e R s m args below meth c H locs cells slots Q (F0 m pc ls (.int i :: .ref (hs 1) :: rest)) := by
  subst hF
  exact va_iald (f := m_versions u) hx hb hK hP 1 0 rfl rfl hi hdg kk
theorem sr_M_versions (hx : p.tables.exec = Jvm.exec) (hb : c.code = cc) (hK : va_K (dC, dI) vwCl (tM ka) s) (hP : va_P (dC, dI) vwCl (cM hs ka u) H) (hD : va_D A (cM hs ka u)) (hS : va_S A H0 H locs) {F : Nat → Int32} (hF : m_versions u = F) {i : Int32} {x : Int32} (hi : vp_in i 8) (hdg : decode cc pc = .ok (.iastore, 1)) (kk : ∀ (H1 : Heap) (locs1 : List Loc), va_P (dC, dI) vwCl (cM hs ka (ms_versions u (upd F i.toNatClampNeg x))) H1 → va_D A (cM hs ka (ms_versions u (upd F i.toNatClampNeg x))) → va_S A H0 H1 locs1 → W p l e R s m args below meth c H1 locs1 cells slots Q (F0 m (pc + 1) ls rest)) : W p l e R s m args below meth c H locs cells slots Q (F0 m pc ls (.int x :: .int i :: .ref (hs 1) :: rest)) := by
  subst hF
  exact va_iast (f := m_versions u) hx hb hK hP hD hS 1 0 rfl rfl hi hdg (fun H1 locs1 hP hD hS => kk H1 locs1 hP hD hS)
theorem gt_M_locks (hx : p.tables.exec = Jvm.exec) (hb : c.code = cc) (hts : ∀ w ∈ Ts, w.before args s = true) (hin : ∀ w ∈ u_ws RX1 TX1 23, w ∈ Ts) (hown : s.vm.findClass own = some m.cls) (hK : va_K (dC, dI) vwCl (tM ka) s) (hP : va_P (dC, dI) vwCl (cM hs ka u) H) {index : Nat} (hlink : (Cond.fieldLink own index "ConflictSolveModel" "locks" "[I").before args s = true) (hdg : decode cc pc = .ok (.getfield index, 3)) (kk : W p l e R s m args below meth c H locs cells slots Q (F0 m (pc + 3) ls (.ref (hs 2) :: rest))) : W p l e R s m args below meth c H locs cells slots Q (F0 m pc ls (.ref (hs 0) :: rest)) := va_get (D := (dC, dI)) (ci := 1) (v := .ref (hs 2)) (C := RX1) (T := TX1) (N := 23) hx hb hts hin hown hK hP 0 rfl rfl 2 (by decide) hlink (fun _ h9 => h9) rfl hdg kk
theorem ld_M_locks (hx : p.tables.exec = Jvm.exec) (hb : c.code = cc) (hK : va_K (dC, dI) vwCl (tM ka) s) (hP : va_P (dC, dI) vwCl (cM hs ka u) H) {F : Nat → Int32} (hF : m_locks u = F) {i : Int32} (hi : vp_in i 8) (hdg : decode cc pc = .ok (.iaload, 1)) (kk : W p l e R s m args below meth c H locs cells slots Q (F0 m (pc + 1) ls (.int (F i.toNatClampNeg) :: rest))) : W p l e R s m args below meth c H locs cells slots Q (F0 m pc ls (.int i :: .ref (hs 2) :: rest)) := by
  subst hF
  exact va_iald (f := m_locks u) hx hb hK hP 2 1 rfl rfl hi hdg kk
theorem sr_M_locks (hx : p.tables.exec = Jvm.exec) (hb : c.code = cc) (hK : va_K (dC, dI) vwCl (tM ka) s) (hP : va_P (dC, dI) vwCl (cM hs ka u) H) (hD : va_D A (cM hs ka u)) (hS : va_S A H0 H locs) {F : Nat → Int32} (hF : m_locks u = F) {i : Int32} {x : Int32} (hi : vp_in i 8) (hdg : decode cc pc = .ok (.iastore, 1)) (kk : ∀ (H1 : Heap) (locs1 : List Loc), va_P (dC, dI) vwCl (cM hs ka (ms_locks u (upd F i.toNatClampNeg x))) H1 → va_D A (cM hs ka (ms_locks u (upd F i.toNatClampNeg x))) → va_S A H0 H1 locs1 → W p l e R s m args below meth c H1 locs1 cells slots Q (F0 m (pc + 1) ls rest)) : W p l e R s m args below meth c H locs cells slots Q (F0 m pc ls (.int x :: .int i :: .ref (hs 2) :: rest)) := by
  subst hF
  exact va_iast (f := m_locks u) hx hb hK hP hD hS 2 1 rfl rfl hi hdg (fun H1 locs1 hP hD hS => kk H1 locs1 hP hD hS)
theorem gt_M_chosen (hx : p.tables.exec = Jvm.exec) (hb : c.code = cc) (hts : ∀ w ∈ Ts, w.before args s = true) (hin : ∀ w ∈ u_ws RX1 TX1 23, w ∈ Ts) (hown : s.vm.findClass own = some m.cls) (hK : va_K (dC, dI) vwCl (tM ka) s) (hP : va_P (dC, dI) vwCl (cM hs ka u) H) {index : Nat} (hlink : (Cond.fieldLink own index "ConflictSolveModel" "chosen" "[I").before args s = true) (hdg : decode cc pc = .ok (.getfield index, 3)) (kk : W p l e R s m args below meth c H locs cells slots Q (F0 m (pc + 3) ls (.ref (hs 3) :: rest))) : W p l e R s m args below meth c H locs cells slots Q (F0 m pc ls (.ref (hs 0) :: rest)) := va_get (D := (dC, dI)) (ci := 1) (v := .ref (hs 3)) (C := RX1) (T := TX1) (N := 23) hx hb hts hin hown hK hP 0 rfl rfl 3 (by decide) hlink (fun _ h9 => h9) rfl hdg kk
theorem ld_M_chosen (hx : p.tables.exec = Jvm.exec) (hb : c.code = cc) (hK : va_K (dC, dI) vwCl (tM ka) s) (hP : va_P (dC, dI) vwCl (cM hs ka u) H) {F : Nat → Int32} (hF : m_chosen u = F) {i : Int32} (hi : vp_in i 8) (hdg : decode cc pc = .ok (.iaload, 1)) (kk : W p l e R s m args below meth c H locs cells slots Q (F0 m (pc + 1) ls (.int (F i.toNatClampNeg) :: rest))) : W p l e R s m args below meth c H locs cells slots Q (F0 m pc ls (.int i :: .ref (hs 3) :: rest)) := by
  subst hF
  exact va_iald (f := m_chosen u) hx hb hK hP 3 2 rfl rfl hi hdg kk
theorem sr_M_chosen (hx : p.tables.exec = Jvm.exec) (hb : c.code = cc) (hK : va_K (dC, dI) vwCl (tM ka) s) (hP : va_P (dC, dI) vwCl (cM hs ka u) H) (hD : va_D A (cM hs ka u)) (hS : va_S A H0 H locs) {F : Nat → Int32} (hF : m_chosen u = F) {i : Int32} {x : Int32} (hi : vp_in i 8) (hdg : decode cc pc = .ok (.iastore, 1)) (kk : ∀ (H1 : Heap) (locs1 : List Loc), va_P (dC, dI) vwCl (cM hs ka (ms_chosen u (upd F i.toNatClampNeg x))) H1 → va_D A (cM hs ka (ms_chosen u (upd F i.toNatClampNeg x))) → va_S A H0 H1 locs1 → W p l e R s m args below meth c H1 locs1 cells slots Q (F0 m (pc + 1) ls rest)) : W p l e R s m args below meth c H locs cells slots Q (F0 m pc ls (.int x :: .int i :: .ref (hs 3) :: rest)) := by
  subst hF
  exact va_iast (f := m_chosen u) hx hb hK hP hD hS 3 2 rfl rfl hi hdg (fun H1 locs1 hP hD hS => kk H1 locs1 hP hD hS)
theorem gt_M_value (hx : p.tables.exec = Jvm.exec) (hb : c.code = cc) (hts : ∀ w ∈ Ts, w.before args s = true) (hin : ∀ w ∈ u_ws RX1 TX1 23, w ∈ Ts) (hown : s.vm.findClass own = some m.cls) (hK : va_K (dC, dI) vwCl (tM ka) s) (hP : va_P (dC, dI) vwCl (cM hs ka u) H) {index : Nat} (hlink : (Cond.fieldLink own index "ConflictSolveModel" "value" "[I").before args s = true) (hdg : decode cc pc = .ok (.getfield index, 3)) (kk : W p l e R s m args below meth c H locs cells slots Q (F0 m (pc + 3) ls (.ref (hs 4) :: rest))) : W p l e R s m args below meth c H locs cells slots Q (F0 m pc ls (.ref (hs 0) :: rest)) := va_get (D := (dC, dI)) (ci := 1) (v := .ref (hs 4)) (C := RX1) (T := TX1) (N := 23) hx hb hts hin hown hK hP 0 rfl rfl 4 (by decide) hlink (fun _ h9 => h9) rfl hdg kk
theorem ld_M_value (hx : p.tables.exec = Jvm.exec) (hb : c.code = cc) (hK : va_K (dC, dI) vwCl (tM ka) s) (hP : va_P (dC, dI) vwCl (cM hs ka u) H) {F : Nat → Int32} (hF : m_value u = F) {i : Int32} (hi : vp_in i 8) (hdg : decode cc pc = .ok (.iaload, 1)) (kk : W p l e R s m args below meth c H locs cells slots Q (F0 m (pc + 1) ls (.int (F i.toNatClampNeg) :: rest))) : W p l e R s m args below meth c H locs cells slots Q (F0 m pc ls (.int i :: .ref (hs 4) :: rest)) := by
  subst hF
  exact va_iald (f := m_value u) hx hb hK hP 4 3 rfl rfl hi hdg kk
theorem sr_M_value (hx : p.tables.exec = Jvm.exec) (hb : c.code = cc) (hK : va_K (dC, dI) vwCl (tM ka) s) (hP : va_P (dC, dI) vwCl (cM hs ka u) H) (hD : va_D A (cM hs ka u)) (hS : va_S A H0 H locs) {F : Nat → Int32} (hF : m_value u = F) {i : Int32} {x : Int32} (hi : vp_in i 8) (hdg : decode cc pc = .ok (.iastore, 1)) (kk : ∀ (H1 : Heap) (locs1 : List Loc), va_P (dC, dI) vwCl (cM hs ka (ms_value u (upd F i.toNatClampNeg x))) H1 → va_D A (cM hs ka (ms_value u (upd F i.toNatClampNeg x))) → va_S A H0 H1 locs1 → W p l e R s m args below meth c H1 locs1 cells slots Q (F0 m (pc + 1) ls rest)) : W p l e R s m args below meth c H locs cells slots Q (F0 m pc ls (.int x :: .int i :: .ref (hs 4) :: rest)) := by
  subst hF
  exact va_iast (f := m_value u) hx hb hK hP hD hS 4 3 rfl rfl hi hdg (fun H1 locs1 hP hD hS => kk H1 locs1 hP hD hS)
theorem gt_M_order (hx : p.tables.exec = Jvm.exec) (hb : c.code = cc) (hts : ∀ w ∈ Ts, w.before args s = true) (hin : ∀ w ∈ u_ws RX1 TX1 23, w ∈ Ts) (hown : s.vm.findClass own = some m.cls) (hK : va_K (dC, dI) vwCl (tM ka) s) (hP : va_P (dC, dI) vwCl (cM hs ka u) H) {index : Nat} (hlink : (Cond.fieldLink own index "ConflictSolveModel" "order" "[I").before args s = true) (hdg : decode cc pc = .ok (.getfield index, 3)) (kk : W p l e R s m args below meth c H locs cells slots Q (F0 m (pc + 3) ls (.ref (hs 5) :: rest))) : W p l e R s m args below meth c H locs cells slots Q (F0 m pc ls (.ref (hs 0) :: rest)) := va_get (D := (dC, dI)) (ci := 1) (v := .ref (hs 5)) (C := RX1) (T := TX1) (N := 23) hx hb hts hin hown hK hP 0 rfl rfl 5 (by decide) hlink (fun _ h9 => h9) rfl hdg kk
theorem ld_M_order (hx : p.tables.exec = Jvm.exec) (hb : c.code = cc) (hK : va_K (dC, dI) vwCl (tM ka) s) (hP : va_P (dC, dI) vwCl (cM hs ka u) H) {F : Nat → Int32} (hF : m_order u = F) {i : Int32} (hi : vp_in i 8) (hdg : decode cc pc = .ok (.iaload, 1)) (kk : W p l e R s m args below meth c H locs cells slots Q (F0 m (pc + 1) ls (.int (F i.toNatClampNeg) :: rest))) : W p l e R s m args below meth c H locs cells slots Q (F0 m pc ls (.int i :: .ref (hs 5) :: rest)) := by
  subst hF
  exact va_iald (f := m_order u) hx hb hK hP 5 4 rfl rfl hi hdg kk
theorem sr_M_order (hx : p.tables.exec = Jvm.exec) (hb : c.code = cc) (hK : va_K (dC, dI) vwCl (tM ka) s) (hP : va_P (dC, dI) vwCl (cM hs ka u) H) (hD : va_D A (cM hs ka u)) (hS : va_S A H0 H locs) {F : Nat → Int32} (hF : m_order u = F) {i : Int32} {x : Int32} (hi : vp_in i 8) (hdg : decode cc pc = .ok (.iastore, 1)) (kk : ∀ (H1 : Heap) (locs1 : List Loc), va_P (dC, dI) vwCl (cM hs ka (ms_order u (upd F i.toNatClampNeg x))) H1 → va_D A (cM hs ka (ms_order u (upd F i.toNatClampNeg x))) → va_S A H0 H1 locs1 → W p l e R s m args below meth c H1 locs1 cells slots Q (F0 m (pc + 1) ls rest)) : W p l e R s m args below meth c H locs cells slots Q (F0 m pc ls (.int x :: .int i :: .ref (hs 5) :: rest)) := by
  subst hF
  exact va_iast (f := m_order u) hx hb hK hP hD hS 5 4 rfl rfl hi hdg (fun H1 locs1 hP hD hS => kk H1 locs1 hP hD hS)
theorem gt_M_option (hx : p.tables.exec = Jvm.exec) (hb : c.code = cc) (hts : ∀ w ∈ Ts, w.before args s = true) (hin : ∀ w ∈ u_ws RX1 TX1 23, w ∈ Ts) (hown : s.vm.findClass own = some m.cls) (hK : va_K (dC, dI) vwCl (tM ka) s) (hP : va_P (dC, dI) vwCl (cM hs ka u) H) {index : Nat} (hlink : (Cond.fieldLink own index "ConflictSolveModel" "option" "[I").before args s = true) (hdg : decode cc pc = .ok (.getfield index, 3)) (kk : W p l e R s m args below meth c H locs cells slots Q (F0 m (pc + 3) ls (.ref (hs 6) :: rest))) : W p l e R s m args below meth c H locs cells slots Q (F0 m pc ls (.ref (hs 0) :: rest)) := va_get (D := (dC, dI)) (ci := 1) (v := .ref (hs 6)) (C := RX1) (T := TX1) (N := 23) hx hb hts hin hown hK hP 0 rfl rfl 6 (by decide) hlink (fun _ h9 => h9) rfl hdg kk
theorem ld_M_option (hx : p.tables.exec = Jvm.exec) (hb : c.code = cc) (hK : va_K (dC, dI) vwCl (tM ka) s) (hP : va_P (dC, dI) vwCl (cM hs ka u) H) {F : Nat → Int32} (hF : m_option u = F) {i : Int32} (hi : vp_in i 8) (hdg : decode cc pc = .ok (.iaload, 1)) (kk : W p l e R s m args below meth c H locs cells slots Q (F0 m (pc + 1) ls (.int (F i.toNatClampNeg) :: rest))) : W p l e R s m args below meth c H locs cells slots Q (F0 m pc ls (.int i :: .ref (hs 6) :: rest)) := by
  subst hF
  exact va_iald (f := m_option u) hx hb hK hP 6 5 rfl rfl hi hdg kk
theorem sr_M_option (hx : p.tables.exec = Jvm.exec) (hb : c.code = cc) (hK : va_K (dC, dI) vwCl (tM ka) s) (hP : va_P (dC, dI) vwCl (cM hs ka u) H) (hD : va_D A (cM hs ka u)) (hS : va_S A H0 H locs) {F : Nat → Int32} (hF : m_option u = F) {i : Int32} {x : Int32} (hi : vp_in i 8) (hdg : decode cc pc = .ok (.iastore, 1)) (kk : ∀ (H1 : Heap) (locs1 : List Loc), va_P (dC, dI) vwCl (cM hs ka (ms_option u (upd F i.toNatClampNeg x))) H1 → va_D A (cM hs ka (ms_option u (upd F i.toNatClampNeg x))) → va_S A H0 H1 locs1 → W p l e R s m args below meth c H1 locs1 cells slots Q (F0 m (pc + 1) ls rest)) : W p l e R s m args below meth c H locs cells slots Q (F0 m pc ls (.int x :: .int i :: .ref (hs 6) :: rest)) := by
  subst hF
  exact va_iast (f := m_option u) hx hb hK hP hD hS 6 5 rfl rfl hi hdg (fun H1 locs1 hP hD hS => kk H1 locs1 hP hD hS)
theorem gt_M_blames0 (hx : p.tables.exec = Jvm.exec) (hb : c.code = cc) (hts : ∀ w ∈ Ts, w.before args s = true) (hin : ∀ w ∈ u_ws RX1 TX1 23, w ∈ Ts) (hown : s.vm.findClass own = some m.cls) (hK : va_K (dC, dI) vwCl (tM ka) s) (hP : va_P (dC, dI) vwCl (cM hs ka u) H) {index : Nat} (hlink : (Cond.fieldLink own index "ConflictSolveModel" "blames0" "[I").before args s = true) (hdg : decode cc pc = .ok (.getfield index, 3)) (kk : W p l e R s m args below meth c H locs cells slots Q (F0 m (pc + 3) ls (.ref (hs 7) :: rest))) : W p l e R s m args below meth c H locs cells slots Q (F0 m pc ls (.ref (hs 0) :: rest)) := va_get (D := (dC, dI)) (ci := 1) (v := .ref (hs 7)) (C := RX1) (T := TX1) (N := 23) hx hb hts hin hown hK hP 0 rfl rfl 7 (by decide) hlink (fun _ h9 => h9) rfl hdg kk
theorem ld_M_blames0 (hx : p.tables.exec = Jvm.exec) (hb : c.code = cc) (hK : va_K (dC, dI) vwCl (tM ka) s) (hP : va_P (dC, dI) vwCl (cM hs ka u) H) {F : Nat → Int32} (hF : m_blames0 u = F) {i : Int32} (hi : vp_in i 8) (hdg : decode cc pc = .ok (.iaload, 1)) (kk : W p l e R s m args below meth c H locs cells slots Q (F0 m (pc + 1) ls (.int (F i.toNatClampNeg) :: rest))) : W p l e R s m args below meth c H locs cells slots Q (F0 m pc ls (.int i :: .ref (hs 7) :: rest)) := by
  subst hF
  exact va_iald (f := m_blames0 u) hx hb hK hP 7 6 rfl rfl hi hdg kk
theorem sr_M_blames0 (hx : p.tables.exec = Jvm.exec) (hb : c.code = cc) (hK : va_K (dC, dI) vwCl (tM ka) s) (hP : va_P (dC, dI) vwCl (cM hs ka u) H) (hD : va_D A (cM hs ka u)) (hS : va_S A H0 H locs) {F : Nat → Int32} (hF : m_blames0 u = F) {i : Int32} {x : Int32} (hi : vp_in i 8) (hdg : decode cc pc = .ok (.iastore, 1)) (kk : ∀ (H1 : Heap) (locs1 : List Loc), va_P (dC, dI) vwCl (cM hs ka (ms_blames0 u (upd F i.toNatClampNeg x))) H1 → va_D A (cM hs ka (ms_blames0 u (upd F i.toNatClampNeg x))) → va_S A H0 H1 locs1 → W p l e R s m args below meth c H1 locs1 cells slots Q (F0 m (pc + 1) ls rest)) : W p l e R s m args below meth c H locs cells slots Q (F0 m pc ls (.int x :: .int i :: .ref (hs 7) :: rest)) := by
  subst hF
  exact va_iast (f := m_blames0 u) hx hb hK hP hD hS 7 6 rfl rfl hi hdg (fun H1 locs1 hP hD hS => kk H1 locs1 hP hD hS)
theorem gt_M_packages (hx : p.tables.exec = Jvm.exec) (hb : c.code = cc) (hts : ∀ w ∈ Ts, w.before args s = true) (hin : ∀ w ∈ u_ws RX1 TX1 23, w ∈ Ts) (hown : s.vm.findClass own = some m.cls) (hK : va_K (dC, dI) vwCl (tM ka) s) (hP : va_P (dC, dI) vwCl (cM hs ka u) H) {index : Nat} (hlink : (Cond.fieldLink own index "ConflictSolveModel" "packages" "I").before args s = true) {V : Int32} (hV : m_packages u = V) (hdg : decode cc pc = .ok (.getfield index, 3)) (kk : W p l e R s m args below meth c H locs cells slots Q (F0 m (pc + 3) ls (.int V :: rest))) : W p l e R s m args below meth c H locs cells slots Q (F0 m pc ls (.ref (hs 0) :: rest)) := by
  subst hV
  exact va_get (D := (dC, dI)) (ci := 1) (v := .int (m_packages u)) (C := RX1) (T := TX1) (N := 23) hx hb hts hin hown hK hP 0 rfl rfl 8 (by decide) hlink (fun _ h9 => h9) rfl hdg kk
theorem pt_M_packages (hx : p.tables.exec = Jvm.exec) (hb : c.code = cc) (hts : ∀ w ∈ Ts, w.before args s = true) (hin : ∀ w ∈ u_ws RX1 TX1 23, w ∈ Ts) (hown : s.vm.findClass own = some m.cls) (hK : va_K (dC, dI) vwCl (tM ka) s) (hP : va_P (dC, dI) vwCl (cM hs ka u) H) (hD : va_D A (cM hs ka u)) (hS : va_S A H0 H locs) {index : Nat} (hlink : (Cond.fieldLink own index "ConflictSolveModel" "packages" "I").before args s = true) {x : Int32} (hdg : decode cc pc = .ok (.putfield index, 3)) (kk : ∀ (H1 : Heap) (locs1 : List Loc), va_P (dC, dI) vwCl (cM hs ka (ms_packages u x)) H1 → va_D A (cM hs ka (ms_packages u x)) → va_S A H0 H1 locs1 → W p l e R s m args below meth c H1 locs1 cells slots Q (F0 m (pc + 3) ls rest)) : W p l e R s m args below meth c H locs cells slots Q (F0 m pc ls (.int x :: .ref (hs 0) :: rest)) := va_put (D := (dC, dI)) (ci := 1) (v := .int x) (ty := .int) (C := RX1) (T := TX1) (N := 23) hx hb hts hin tyX1 tyX1_ok nmX1 hown hK hP hD hS 0 rfl rfl 8 (by decide) hlink (fun _ h9 => h9) rfl (by decide +kernel) rfl rfl (Nat.le_of_ble_eq_true rfl) hdg (fun H1 locs1 hP hD hS => kk H1 locs1 hP hD hS)
theorem gt_M_rows (hx : p.tables.exec = Jvm.exec) (hb : c.code = cc) (hts : ∀ w ∈ Ts, w.before args s = true) (hin : ∀ w ∈ u_ws RX1 TX1 23, w ∈ Ts) (hown : s.vm.findClass own = some m.cls) (hK : va_K (dC, dI) vwCl (tM ka) s) (hP : va_P (dC, dI) vwCl (cM hs ka u) H) {index : Nat} (hlink : (Cond.fieldLink own index "ConflictSolveModel" "rows" "I").before args s = true) {V : Int32} (hV : m_rows u = V) (hdg : decode cc pc = .ok (.getfield index, 3)) (kk : W p l e R s m args below meth c H locs cells slots Q (F0 m (pc + 3) ls (.int V :: rest))) : W p l e R s m args below meth c H locs cells slots Q (F0 m pc ls (.ref (hs 0) :: rest)) := by
  subst hV
  exact va_get (D := (dC, dI)) (ci := 1) (v := .int (m_rows u)) (C := RX1) (T := TX1) (N := 23) hx hb hts hin hown hK hP 0 rfl rfl 9 (by decide) hlink (fun _ h9 => h9) rfl hdg kk
theorem pt_M_rows (hx : p.tables.exec = Jvm.exec) (hb : c.code = cc) (hts : ∀ w ∈ Ts, w.before args s = true) (hin : ∀ w ∈ u_ws RX1 TX1 23, w ∈ Ts) (hown : s.vm.findClass own = some m.cls) (hK : va_K (dC, dI) vwCl (tM ka) s) (hP : va_P (dC, dI) vwCl (cM hs ka u) H) (hD : va_D A (cM hs ka u)) (hS : va_S A H0 H locs) {index : Nat} (hlink : (Cond.fieldLink own index "ConflictSolveModel" "rows" "I").before args s = true) {x : Int32} (hdg : decode cc pc = .ok (.putfield index, 3)) (kk : ∀ (H1 : Heap) (locs1 : List Loc), va_P (dC, dI) vwCl (cM hs ka (ms_rows u x)) H1 → va_D A (cM hs ka (ms_rows u x)) → va_S A H0 H1 locs1 → W p l e R s m args below meth c H1 locs1 cells slots Q (F0 m (pc + 3) ls rest)) : W p l e R s m args below meth c H locs cells slots Q (F0 m pc ls (.int x :: .ref (hs 0) :: rest)) := va_put (D := (dC, dI)) (ci := 1) (v := .int x) (ty := .int) (C := RX1) (T := TX1) (N := 23) hx hb hts hin tyX1 tyX1_ok nmX1 hown hK hP hD hS 0 rfl rfl 9 (by decide) hlink (fun _ h9 => h9) rfl (by decide +kernel) rfl rfl (Nat.le_of_ble_eq_true rfl) hdg (fun H1 locs1 hP hD hS => kk H1 locs1 hP hD hS)
theorem gt_M_demands (hx : p.tables.exec = Jvm.exec) (hb : c.code = cc) (hts : ∀ w ∈ Ts, w.before args s = true) (hin : ∀ w ∈ u_ws RX1 TX1 23, w ∈ Ts) (hown : s.vm.findClass own = some m.cls) (hK : va_K (dC, dI) vwCl (tM ka) s) (hP : va_P (dC, dI) vwCl (cM hs ka u) H) {index : Nat} (hlink : (Cond.fieldLink own index "ConflictSolveModel" "demands" "I").before args s = true) {V : Int32} (hV : m_demands u = V) (hdg : decode cc pc = .ok (.getfield index, 3)) (kk : W p l e R s m args below meth c H locs cells slots Q (F0 m (pc + 3) ls (.int V :: rest))) : W p l e R s m args below meth c H locs cells slots Q (F0 m pc ls (.ref (hs 0) :: rest)) := by
  subst hV
  exact va_get (D := (dC, dI)) (ci := 1) (v := .int (m_demands u)) (C := RX1) (T := TX1) (N := 23) hx hb hts hin hown hK hP 0 rfl rfl 10 (by decide) hlink (fun _ h9 => h9) rfl hdg kk
theorem pt_M_demands (hx : p.tables.exec = Jvm.exec) (hb : c.code = cc) (hts : ∀ w ∈ Ts, w.before args s = true) (hin : ∀ w ∈ u_ws RX1 TX1 23, w ∈ Ts) (hown : s.vm.findClass own = some m.cls) (hK : va_K (dC, dI) vwCl (tM ka) s) (hP : va_P (dC, dI) vwCl (cM hs ka u) H) (hD : va_D A (cM hs ka u)) (hS : va_S A H0 H locs) {index : Nat} (hlink : (Cond.fieldLink own index "ConflictSolveModel" "demands" "I").before args s = true) {x : Int32} (hdg : decode cc pc = .ok (.putfield index, 3)) (kk : ∀ (H1 : Heap) (locs1 : List Loc), va_P (dC, dI) vwCl (cM hs ka (ms_demands u x)) H1 → va_D A (cM hs ka (ms_demands u x)) → va_S A H0 H1 locs1 → W p l e R s m args below meth c H1 locs1 cells slots Q (F0 m (pc + 3) ls rest)) : W p l e R s m args below meth c H locs cells slots Q (F0 m pc ls (.int x :: .ref (hs 0) :: rest)) := va_put (D := (dC, dI)) (ci := 1) (v := .int x) (ty := .int) (C := RX1) (T := TX1) (N := 23) hx hb hts hin tyX1 tyX1_ok nmX1 hown hK hP hD hS 0 rfl rfl 10 (by decide) hlink (fun _ h9 => h9) rfl (by decide +kernel) rfl rfl (Nat.le_of_ble_eq_true rfl) hdg (fun H1 locs1 hP hD hS => kk H1 locs1 hP hD hS)
theorem gt_M_needed (hx : p.tables.exec = Jvm.exec) (hb : c.code = cc) (hts : ∀ w ∈ Ts, w.before args s = true) (hin : ∀ w ∈ u_ws RX1 TX1 23, w ∈ Ts) (hown : s.vm.findClass own = some m.cls) (hK : va_K (dC, dI) vwCl (tM ka) s) (hP : va_P (dC, dI) vwCl (cM hs ka u) H) {index : Nat} (hlink : (Cond.fieldLink own index "ConflictSolveModel" "needed" "I").before args s = true) {V : Int32} (hV : m_needed u = V) (hdg : decode cc pc = .ok (.getfield index, 3)) (kk : W p l e R s m args below meth c H locs cells slots Q (F0 m (pc + 3) ls (.int V :: rest))) : W p l e R s m args below meth c H locs cells slots Q (F0 m pc ls (.ref (hs 0) :: rest)) := by
  subst hV
  exact va_get (D := (dC, dI)) (ci := 1) (v := .int (m_needed u)) (C := RX1) (T := TX1) (N := 23) hx hb hts hin hown hK hP 0 rfl rfl 11 (by decide) hlink (fun _ h9 => h9) rfl hdg kk
theorem pt_M_needed (hx : p.tables.exec = Jvm.exec) (hb : c.code = cc) (hts : ∀ w ∈ Ts, w.before args s = true) (hin : ∀ w ∈ u_ws RX1 TX1 23, w ∈ Ts) (hown : s.vm.findClass own = some m.cls) (hK : va_K (dC, dI) vwCl (tM ka) s) (hP : va_P (dC, dI) vwCl (cM hs ka u) H) (hD : va_D A (cM hs ka u)) (hS : va_S A H0 H locs) {index : Nat} (hlink : (Cond.fieldLink own index "ConflictSolveModel" "needed" "I").before args s = true) {x : Int32} (hdg : decode cc pc = .ok (.putfield index, 3)) (kk : ∀ (H1 : Heap) (locs1 : List Loc), va_P (dC, dI) vwCl (cM hs ka (ms_needed u x)) H1 → va_D A (cM hs ka (ms_needed u x)) → va_S A H0 H1 locs1 → W p l e R s m args below meth c H1 locs1 cells slots Q (F0 m (pc + 3) ls rest)) : W p l e R s m args below meth c H locs cells slots Q (F0 m pc ls (.int x :: .ref (hs 0) :: rest)) := va_put (D := (dC, dI)) (ci := 1) (v := .int x) (ty := .int) (C := RX1) (T := TX1) (N := 23) hx hb hts hin tyX1 tyX1_ok nmX1 hown hK hP hD hS 0 rfl rfl 11 (by decide) hlink (fun _ h9 => h9) rfl (by decide +kernel) rfl rfl (Nat.le_of_ble_eq_true rfl) hdg (fun H1 locs1 hP hD hS => kk H1 locs1 hP hD hS)
theorem gt_M_pack (hx : p.tables.exec = Jvm.exec) (hb : c.code = cc) (hts : ∀ w ∈ Ts, w.before args s = true) (hin : ∀ w ∈ u_ws RX1 TX1 23, w ∈ Ts) (hown : s.vm.findClass own = some m.cls) (hK : va_K (dC, dI) vwCl (tM ka) s) (hP : va_P (dC, dI) vwCl (cM hs ka u) H) {index : Nat} (hlink : (Cond.fieldLink own index "ConflictSolveModel" "pack" "[I").before args s = true) (hdg : decode cc pc = .ok (.getfield index, 3)) (kk : W p l e R s m args below meth c H locs cells slots Q (F0 m (pc + 3) ls (.ref (hs 8) :: rest))) : W p l e R s m args below meth c H locs cells slots Q (F0 m pc ls (.ref (hs 0) :: rest)) := va_get (D := (dC, dI)) (ci := 1) (v := .ref (hs 8)) (C := RX1) (T := TX1) (N := 23) hx hb hts hin hown hK hP 0 rfl rfl 12 (by decide) hlink (fun _ h9 => h9) rfl hdg kk
theorem ld_M_pack (hx : p.tables.exec = Jvm.exec) (hb : c.code = cc) (hK : va_K (dC, dI) vwCl (tM ka) s) (hP : va_P (dC, dI) vwCl (cM hs ka u) H) {F : Nat → Int32} (hF : m_pack u = F) {i : Int32} (hi : vp_in i 132) (hdg : decode cc pc = .ok (.iaload, 1)) (kk : W p l e R s m args below meth c H locs cells slots Q (F0 m (pc + 1) ls (.int (F i.toNatClampNeg) :: rest))) : W p l e R s m args below meth c H locs cells slots Q (F0 m pc ls (.int i :: .ref (hs 8) :: rest)) := by
  subst hF
  exact va_iald (f := m_pack u) hx hb hK hP 8 7 rfl rfl hi hdg kk
theorem sr_M_pack (hx : p.tables.exec = Jvm.exec) (hb : c.code = cc) (hK : va_K (dC, dI) vwCl (tM ka) s) (hP : va_P (dC, dI) vwCl (cM hs ka u) H) (hD : va_D A (cM hs ka u)) (hS : va_S A H0 H locs) {F : Nat → Int32} (hF : m_pack u = F) {i : Int32} {x : Int32} (hi : vp_in i 132) (hdg : decode cc pc = .ok (.iastore, 1)) (kk : ∀ (H1 : Heap) (locs1 : List Loc), va_P (dC, dI) vwCl (cM hs ka (ms_pack u (upd F i.toNatClampNeg x))) H1 → va_D A (cM hs ka (ms_pack u (upd F i.toNatClampNeg x))) → va_S A H0 H1 locs1 → W p l e R s m args below meth c H1 locs1 cells slots Q (F0 m (pc + 1) ls rest)) : W p l e R s m args below meth c H locs cells slots Q (F0 m pc ls (.int x :: .int i :: .ref (hs 8) :: rest)) := by
  subst hF
  exact va_iast (f := m_pack u) hx hb hK hP hD hS 8 7 rfl rfl hi hdg (fun H1 locs1 hP hD hS => kk H1 locs1 hP hD hS)
theorem gt_M_version (hx : p.tables.exec = Jvm.exec) (hb : c.code = cc) (hts : ∀ w ∈ Ts, w.before args s = true) (hin : ∀ w ∈ u_ws RX1 TX1 23, w ∈ Ts) (hown : s.vm.findClass own = some m.cls) (hK : va_K (dC, dI) vwCl (tM ka) s) (hP : va_P (dC, dI) vwCl (cM hs ka u) H) {index : Nat} (hlink : (Cond.fieldLink own index "ConflictSolveModel" "version" "[I").before args s = true) (hdg : decode cc pc = .ok (.getfield index, 3)) (kk : W p l e R s m args below meth c H locs cells slots Q (F0 m (pc + 3) ls (.ref (hs 9) :: rest))) : W p l e R s m args below meth c H locs cells slots Q (F0 m pc ls (.ref (hs 0) :: rest)) := va_get (D := (dC, dI)) (ci := 1) (v := .ref (hs 9)) (C := RX1) (T := TX1) (N := 23) hx hb hts hin hown hK hP 0 rfl rfl 13 (by decide) hlink (fun _ h9 => h9) rfl hdg kk
theorem ld_M_version (hx : p.tables.exec = Jvm.exec) (hb : c.code = cc) (hK : va_K (dC, dI) vwCl (tM ka) s) (hP : va_P (dC, dI) vwCl (cM hs ka u) H) {F : Nat → Int32} (hF : m_version u = F) {i : Int32} (hi : vp_in i 132) (hdg : decode cc pc = .ok (.iaload, 1)) (kk : W p l e R s m args below meth c H locs cells slots Q (F0 m (pc + 1) ls (.int (F i.toNatClampNeg) :: rest))) : W p l e R s m args below meth c H locs cells slots Q (F0 m pc ls (.int i :: .ref (hs 9) :: rest)) := by
  subst hF
  exact va_iald (f := m_version u) hx hb hK hP 9 8 rfl rfl hi hdg kk
theorem sr_M_version (hx : p.tables.exec = Jvm.exec) (hb : c.code = cc) (hK : va_K (dC, dI) vwCl (tM ka) s) (hP : va_P (dC, dI) vwCl (cM hs ka u) H) (hD : va_D A (cM hs ka u)) (hS : va_S A H0 H locs) {F : Nat → Int32} (hF : m_version u = F) {i : Int32} {x : Int32} (hi : vp_in i 132) (hdg : decode cc pc = .ok (.iastore, 1)) (kk : ∀ (H1 : Heap) (locs1 : List Loc), va_P (dC, dI) vwCl (cM hs ka (ms_version u (upd F i.toNatClampNeg x))) H1 → va_D A (cM hs ka (ms_version u (upd F i.toNatClampNeg x))) → va_S A H0 H1 locs1 → W p l e R s m args below meth c H1 locs1 cells slots Q (F0 m (pc + 1) ls rest)) : W p l e R s m args below meth c H locs cells slots Q (F0 m pc ls (.int x :: .int i :: .ref (hs 9) :: rest)) := by
  subst hF
  exact va_iast (f := m_version u) hx hb hK hP hD hS 9 8 rfl rfl hi hdg (fun H1 locs1 hP hD hS => kk H1 locs1 hP hD hS)
theorem gt_M_kind (hx : p.tables.exec = Jvm.exec) (hb : c.code = cc) (hts : ∀ w ∈ Ts, w.before args s = true) (hin : ∀ w ∈ u_ws RX1 TX1 23, w ∈ Ts) (hown : s.vm.findClass own = some m.cls) (hK : va_K (dC, dI) vwCl (tM ka) s) (hP : va_P (dC, dI) vwCl (cM hs ka u) H) {index : Nat} (hlink : (Cond.fieldLink own index "ConflictSolveModel" "kind" "[I").before args s = true) (hdg : decode cc pc = .ok (.getfield index, 3)) (kk : W p l e R s m args below meth c H locs cells slots Q (F0 m (pc + 3) ls (.ref (hs 10) :: rest))) : W p l e R s m args below meth c H locs cells slots Q (F0 m pc ls (.ref (hs 0) :: rest)) := va_get (D := (dC, dI)) (ci := 1) (v := .ref (hs 10)) (C := RX1) (T := TX1) (N := 23) hx hb hts hin hown hK hP 0 rfl rfl 14 (by decide) hlink (fun _ h9 => h9) rfl hdg kk
theorem ld_M_kind (hx : p.tables.exec = Jvm.exec) (hb : c.code = cc) (hK : va_K (dC, dI) vwCl (tM ka) s) (hP : va_P (dC, dI) vwCl (cM hs ka u) H) {F : Nat → Int32} (hF : m_kind u = F) {i : Int32} (hi : vp_in i 132) (hdg : decode cc pc = .ok (.iaload, 1)) (kk : W p l e R s m args below meth c H locs cells slots Q (F0 m (pc + 1) ls (.int (F i.toNatClampNeg) :: rest))) : W p l e R s m args below meth c H locs cells slots Q (F0 m pc ls (.int i :: .ref (hs 10) :: rest)) := by
  subst hF
  exact va_iald (f := m_kind u) hx hb hK hP 10 9 rfl rfl hi hdg kk
theorem sr_M_kind (hx : p.tables.exec = Jvm.exec) (hb : c.code = cc) (hK : va_K (dC, dI) vwCl (tM ka) s) (hP : va_P (dC, dI) vwCl (cM hs ka u) H) (hD : va_D A (cM hs ka u)) (hS : va_S A H0 H locs) {F : Nat → Int32} (hF : m_kind u = F) {i : Int32} {x : Int32} (hi : vp_in i 132) (hdg : decode cc pc = .ok (.iastore, 1)) (kk : ∀ (H1 : Heap) (locs1 : List Loc), va_P (dC, dI) vwCl (cM hs ka (ms_kind u (upd F i.toNatClampNeg x))) H1 → va_D A (cM hs ka (ms_kind u (upd F i.toNatClampNeg x))) → va_S A H0 H1 locs1 → W p l e R s m args below meth c H1 locs1 cells slots Q (F0 m (pc + 1) ls rest)) : W p l e R s m args below meth c H locs cells slots Q (F0 m pc ls (.int x :: .int i :: .ref (hs 10) :: rest)) := by
  subst hF
  exact va_iast (f := m_kind u) hx hb hK hP hD hS 10 9 rfl rfl hi hdg (fun H1 locs1 hP hD hS => kk H1 locs1 hP hD hS)
theorem gt_M_many (hx : p.tables.exec = Jvm.exec) (hb : c.code = cc) (hts : ∀ w ∈ Ts, w.before args s = true) (hin : ∀ w ∈ u_ws RX1 TX1 23, w ∈ Ts) (hown : s.vm.findClass own = some m.cls) (hK : va_K (dC, dI) vwCl (tM ka) s) (hP : va_P (dC, dI) vwCl (cM hs ka u) H) {index : Nat} (hlink : (Cond.fieldLink own index "ConflictSolveModel" "many" "[I").before args s = true) (hdg : decode cc pc = .ok (.getfield index, 3)) (kk : W p l e R s m args below meth c H locs cells slots Q (F0 m (pc + 3) ls (.ref (hs 11) :: rest))) : W p l e R s m args below meth c H locs cells slots Q (F0 m pc ls (.ref (hs 0) :: rest)) := va_get (D := (dC, dI)) (ci := 1) (v := .ref (hs 11)) (C := RX1) (T := TX1) (N := 23) hx hb hts hin hown hK hP 0 rfl rfl 15 (by decide) hlink (fun _ h9 => h9) rfl hdg kk
theorem ld_M_many (hx : p.tables.exec = Jvm.exec) (hb : c.code = cc) (hK : va_K (dC, dI) vwCl (tM ka) s) (hP : va_P (dC, dI) vwCl (cM hs ka u) H) {F : Nat → Int32} (hF : m_many u = F) {i : Int32} (hi : vp_in i 132) (hdg : decode cc pc = .ok (.iaload, 1)) (kk : W p l e R s m args below meth c H locs cells slots Q (F0 m (pc + 1) ls (.int (F i.toNatClampNeg) :: rest))) : W p l e R s m args below meth c H locs cells slots Q (F0 m pc ls (.int i :: .ref (hs 11) :: rest)) := by
  subst hF
  exact va_iald (f := m_many u) hx hb hK hP 11 10 rfl rfl hi hdg kk
theorem sr_M_many (hx : p.tables.exec = Jvm.exec) (hb : c.code = cc) (hK : va_K (dC, dI) vwCl (tM ka) s) (hP : va_P (dC, dI) vwCl (cM hs ka u) H) (hD : va_D A (cM hs ka u)) (hS : va_S A H0 H locs) {F : Nat → Int32} (hF : m_many u = F) {i : Int32} {x : Int32} (hi : vp_in i 132) (hdg : decode cc pc = .ok (.iastore, 1)) (kk : ∀ (H1 : Heap) (locs1 : List Loc), va_P (dC, dI) vwCl (cM hs ka (ms_many u (upd F i.toNatClampNeg x))) H1 → va_D A (cM hs ka (ms_many u (upd F i.toNatClampNeg x))) → va_S A H0 H1 locs1 → W p l e R s m args below meth c H1 locs1 cells slots Q (F0 m (pc + 1) ls rest)) : W p l e R s m args below meth c H locs cells slots Q (F0 m pc ls (.int x :: .int i :: .ref (hs 11) :: rest)) := by
  subst hF
  exact va_iast (f := m_many u) hx hb hK hP hD hS 11 10 rfl rfl hi hdg (fun H1 locs1 hP hD hS => kk H1 locs1 hP hD hS)
theorem gt_M_other (hx : p.tables.exec = Jvm.exec) (hb : c.code = cc) (hts : ∀ w ∈ Ts, w.before args s = true) (hin : ∀ w ∈ u_ws RX1 TX1 23, w ∈ Ts) (hown : s.vm.findClass own = some m.cls) (hK : va_K (dC, dI) vwCl (tM ka) s) (hP : va_P (dC, dI) vwCl (cM hs ka u) H) {index : Nat} (hlink : (Cond.fieldLink own index "ConflictSolveModel" "other" "[I").before args s = true) (hdg : decode cc pc = .ok (.getfield index, 3)) (kk : W p l e R s m args below meth c H locs cells slots Q (F0 m (pc + 3) ls (.ref (hs 12) :: rest))) : W p l e R s m args below meth c H locs cells slots Q (F0 m pc ls (.ref (hs 0) :: rest)) := va_get (D := (dC, dI)) (ci := 1) (v := .ref (hs 12)) (C := RX1) (T := TX1) (N := 23) hx hb hts hin hown hK hP 0 rfl rfl 16 (by decide) hlink (fun _ h9 => h9) rfl hdg kk
theorem ld_M_other (hx : p.tables.exec = Jvm.exec) (hb : c.code = cc) (hK : va_K (dC, dI) vwCl (tM ka) s) (hP : va_P (dC, dI) vwCl (cM hs ka u) H) {F : Nat → Int32} (hF : m_other u = F) {i : Int32} (hi : vp_in i 396) (hdg : decode cc pc = .ok (.iaload, 1)) (kk : W p l e R s m args below meth c H locs cells slots Q (F0 m (pc + 1) ls (.int (F i.toNatClampNeg) :: rest))) : W p l e R s m args below meth c H locs cells slots Q (F0 m pc ls (.int i :: .ref (hs 12) :: rest)) := by
  subst hF
  exact va_iald (f := m_other u) hx hb hK hP 12 11 rfl rfl hi hdg kk
theorem sr_M_other (hx : p.tables.exec = Jvm.exec) (hb : c.code = cc) (hK : va_K (dC, dI) vwCl (tM ka) s) (hP : va_P (dC, dI) vwCl (cM hs ka u) H) (hD : va_D A (cM hs ka u)) (hS : va_S A H0 H locs) {F : Nat → Int32} (hF : m_other u = F) {i : Int32} {x : Int32} (hi : vp_in i 396) (hdg : decode cc pc = .ok (.iastore, 1)) (kk : ∀ (H1 : Heap) (locs1 : List Loc), va_P (dC, dI) vwCl (cM hs ka (ms_other u (upd F i.toNatClampNeg x))) H1 → va_D A (cM hs ka (ms_other u (upd F i.toNatClampNeg x))) → va_S A H0 H1 locs1 → W p l e R s m args below meth c H1 locs1 cells slots Q (F0 m (pc + 1) ls rest)) : W p l e R s m args below meth c H locs cells slots Q (F0 m pc ls (.int x :: .int i :: .ref (hs 12) :: rest)) := by
  subst hF
  exact va_iast (f := m_other u) hx hb hK hP hD hS 12 11 rfl rfl hi hdg (fun H1 locs1 hP hD hS => kk H1 locs1 hP hD hS)
theorem gt_M_set (hx : p.tables.exec = Jvm.exec) (hb : c.code = cc) (hts : ∀ w ∈ Ts, w.before args s = true) (hin : ∀ w ∈ u_ws RX1 TX1 23, w ∈ Ts) (hown : s.vm.findClass own = some m.cls) (hK : va_K (dC, dI) vwCl (tM ka) s) (hP : va_P (dC, dI) vwCl (cM hs ka u) H) {index : Nat} (hlink : (Cond.fieldLink own index "ConflictSolveModel" "set" "[I").before args s = true) (hdg : decode cc pc = .ok (.getfield index, 3)) (kk : W p l e R s m args below meth c H locs cells slots Q (F0 m (pc + 3) ls (.ref (hs 13) :: rest))) : W p l e R s m args below meth c H locs cells slots Q (F0 m pc ls (.ref (hs 0) :: rest)) := va_get (D := (dC, dI)) (ci := 1) (v := .ref (hs 13)) (C := RX1) (T := TX1) (N := 23) hx hb hts hin hown hK hP 0 rfl rfl 17 (by decide) hlink (fun _ h9 => h9) rfl hdg kk
theorem ld_M_set (hx : p.tables.exec = Jvm.exec) (hb : c.code = cc) (hK : va_K (dC, dI) vwCl (tM ka) s) (hP : va_P (dC, dI) vwCl (cM hs ka u) H) {F : Nat → Int32} (hF : m_set u = F) {i : Int32} (hi : vp_in i 396) (hdg : decode cc pc = .ok (.iaload, 1)) (kk : W p l e R s m args below meth c H locs cells slots Q (F0 m (pc + 1) ls (.int (F i.toNatClampNeg) :: rest))) : W p l e R s m args below meth c H locs cells slots Q (F0 m pc ls (.int i :: .ref (hs 13) :: rest)) := by
  subst hF
  exact va_iald (f := m_set u) hx hb hK hP 13 12 rfl rfl hi hdg kk
theorem sr_M_set (hx : p.tables.exec = Jvm.exec) (hb : c.code = cc) (hK : va_K (dC, dI) vwCl (tM ka) s) (hP : va_P (dC, dI) vwCl (cM hs ka u) H) (hD : va_D A (cM hs ka u)) (hS : va_S A H0 H locs) {F : Nat → Int32} (hF : m_set u = F) {i : Int32} {x : Int32} (hi : vp_in i 396) (hdg : decode cc pc = .ok (.iastore, 1)) (kk : ∀ (H1 : Heap) (locs1 : List Loc), va_P (dC, dI) vwCl (cM hs ka (ms_set u (upd F i.toNatClampNeg x))) H1 → va_D A (cM hs ka (ms_set u (upd F i.toNatClampNeg x))) → va_S A H0 H1 locs1 → W p l e R s m args below meth c H1 locs1 cells slots Q (F0 m (pc + 1) ls rest)) : W p l e R s m args below meth c H locs cells slots Q (F0 m pc ls (.int x :: .int i :: .ref (hs 13) :: rest)) := by
  subst hF
  exact va_iast (f := m_set u) hx hb hK hP hD hS 13 12 rfl rfl hi hdg (fun H1 locs1 hP hD hS => kk H1 locs1 hP hD hS)
theorem gt_M_out (hx : p.tables.exec = Jvm.exec) (hb : c.code = cc) (hts : ∀ w ∈ Ts, w.before args s = true) (hin : ∀ w ∈ u_ws RX1 TX1 23, w ∈ Ts) (hown : s.vm.findClass own = some m.cls) (hK : va_K (dC, dI) vwCl (tM ka) s) (hP : va_P (dC, dI) vwCl (cM hs ka u) H) {index : Nat} (hlink : (Cond.fieldLink own index "ConflictSolveModel" "out" "[Z").before args s = true) (hdg : decode cc pc = .ok (.getfield index, 3)) (kk : W p l e R s m args below meth c H locs cells slots Q (F0 m (pc + 3) ls (.ref (hs 14) :: rest))) : W p l e R s m args below meth c H locs cells slots Q (F0 m pc ls (.ref (hs 0) :: rest)) := va_get (D := (dC, dI)) (ci := 1) (v := .ref (hs 14)) (C := RX1) (T := TX1) (N := 23) hx hb hts hin hown hK hP 0 rfl rfl 18 (by decide) hlink (fun _ h9 => h9) rfl hdg kk
theorem ld_M_out (hx : p.tables.exec = Jvm.exec) (hb : c.code = cc) (hK : va_K (dC, dI) vwCl (tM ka) s) (hP : va_P (dC, dI) vwCl (cM hs ka u) H) {F : Nat → Int32} (hF : m_out u = F) {i : Int32} (hi : vp_in i 12) (hdg : decode cc pc = .ok (.baload, 1)) (kk : W p l e R s m args below meth c H locs cells slots Q (F0 m (pc + 1) ls (.int (F i.toNatClampNeg) :: rest))) : W p l e R s m args below meth c H locs cells slots Q (F0 m pc ls (.int i :: .ref (hs 14) :: rest)) := by
  subst hF
  exact va_zald (f := m_out u) hx hb hK hP 14 13 rfl rfl hi hdg kk
theorem sr_M_out (hx : p.tables.exec = Jvm.exec) (hb : c.code = cc) (hK : va_K (dC, dI) vwCl (tM ka) s) (hP : va_P (dC, dI) vwCl (cM hs ka u) H) (hD : va_D A (cM hs ka u)) (hS : va_S A H0 H locs) {F : Nat → Int32} (hF : m_out u = F) {i : Int32} {x : Int32} (hi : vp_in i 12) (hdg : decode cc pc = .ok (.bastore, 1)) (kk : ∀ (H1 : Heap) (locs1 : List Loc), va_P (dC, dI) vwCl (cM hs ka (ms_out u (upd F i.toNatClampNeg (vp_nar .boolean x)))) H1 → va_D A (cM hs ka (ms_out u (upd F i.toNatClampNeg (vp_nar .boolean x)))) → va_S A H0 H1 locs1 → W p l e R s m args below meth c H1 locs1 cells slots Q (F0 m (pc + 1) ls rest)) : W p l e R s m args below meth c H locs cells slots Q (F0 m pc ls (.int x :: .int i :: .ref (hs 14) :: rest)) := by
  subst hF
  exact va_zast (f := m_out u) hx hb hK hP hD hS 14 13 rfl rfl hi hdg (fun H1 locs1 hP hD hS => kk H1 locs1 hP hD hS)
theorem gt_M_away (hx : p.tables.exec = Jvm.exec) (hb : c.code = cc) (hts : ∀ w ∈ Ts, w.before args s = true) (hin : ∀ w ∈ u_ws RX1 TX1 23, w ∈ Ts) (hown : s.vm.findClass own = some m.cls) (hK : va_K (dC, dI) vwCl (tM ka) s) (hP : va_P (dC, dI) vwCl (cM hs ka u) H) {index : Nat} (hlink : (Cond.fieldLink own index "ConflictSolveModel" "away" "[Z").before args s = true) (hdg : decode cc pc = .ok (.getfield index, 3)) (kk : W p l e R s m args below meth c H locs cells slots Q (F0 m (pc + 3) ls (.ref (hs 15) :: rest))) : W p l e R s m args below meth c H locs cells slots Q (F0 m pc ls (.ref (hs 0) :: rest)) := va_get (D := (dC, dI)) (ci := 1) (v := .ref (hs 15)) (C := RX1) (T := TX1) (N := 23) hx hb hts hin hown hK hP 0 rfl rfl 19 (by decide) hlink (fun _ h9 => h9) rfl hdg kk
theorem ld_M_away (hx : p.tables.exec = Jvm.exec) (hb : c.code = cc) (hK : va_K (dC, dI) vwCl (tM ka) s) (hP : va_P (dC, dI) vwCl (cM hs ka u) H) {F : Nat → Int32} (hF : m_away u = F) {i : Int32} (hi : vp_in i 12) (hdg : decode cc pc = .ok (.baload, 1)) (kk : W p l e R s m args below meth c H locs cells slots Q (F0 m (pc + 1) ls (.int (F i.toNatClampNeg) :: rest))) : W p l e R s m args below meth c H locs cells slots Q (F0 m pc ls (.int i :: .ref (hs 15) :: rest)) := by
  subst hF
  exact va_zald (f := m_away u) hx hb hK hP 15 14 rfl rfl hi hdg kk
theorem sr_M_away (hx : p.tables.exec = Jvm.exec) (hb : c.code = cc) (hK : va_K (dC, dI) vwCl (tM ka) s) (hP : va_P (dC, dI) vwCl (cM hs ka u) H) (hD : va_D A (cM hs ka u)) (hS : va_S A H0 H locs) {F : Nat → Int32} (hF : m_away u = F) {i : Int32} {x : Int32} (hi : vp_in i 12) (hdg : decode cc pc = .ok (.bastore, 1)) (kk : ∀ (H1 : Heap) (locs1 : List Loc), va_P (dC, dI) vwCl (cM hs ka (ms_away u (upd F i.toNatClampNeg (vp_nar .boolean x)))) H1 → va_D A (cM hs ka (ms_away u (upd F i.toNatClampNeg (vp_nar .boolean x)))) → va_S A H0 H1 locs1 → W p l e R s m args below meth c H1 locs1 cells slots Q (F0 m (pc + 1) ls rest)) : W p l e R s m args below meth c H locs cells slots Q (F0 m pc ls (.int x :: .int i :: .ref (hs 15) :: rest)) := by
  subst hF
  exact va_zast (f := m_away u) hx hb hK hP hD hS 15 14 rfl rfl hi hdg (fun H1 locs1 hP hD hS => kk H1 locs1 hP hD hS)
theorem gt_M_latest (hx : p.tables.exec = Jvm.exec) (hb : c.code = cc) (hts : ∀ w ∈ Ts, w.before args s = true) (hin : ∀ w ∈ u_ws RX1 TX1 23, w ∈ Ts) (hown : s.vm.findClass own = some m.cls) (hK : va_K (dC, dI) vwCl (tM ka) s) (hP : va_P (dC, dI) vwCl (cM hs ka u) H) {index : Nat} (hlink : (Cond.fieldLink own index "ConflictSolveModel" "latest" "I").before args s = true) {V : Int32} (hV : m_latest u = V) (hdg : decode cc pc = .ok (.getfield index, 3)) (kk : W p l e R s m args below meth c H locs cells slots Q (F0 m (pc + 3) ls (.int V :: rest))) : W p l e R s m args below meth c H locs cells slots Q (F0 m pc ls (.ref (hs 0) :: rest)) := by
  subst hV
  exact va_get (D := (dC, dI)) (ci := 1) (v := .int (m_latest u)) (C := RX1) (T := TX1) (N := 23) hx hb hts hin hown hK hP 0 rfl rfl 20 (by decide) hlink (fun _ h9 => h9) rfl hdg kk
theorem pt_M_latest (hx : p.tables.exec = Jvm.exec) (hb : c.code = cc) (hts : ∀ w ∈ Ts, w.before args s = true) (hin : ∀ w ∈ u_ws RX1 TX1 23, w ∈ Ts) (hown : s.vm.findClass own = some m.cls) (hK : va_K (dC, dI) vwCl (tM ka) s) (hP : va_P (dC, dI) vwCl (cM hs ka u) H) (hD : va_D A (cM hs ka u)) (hS : va_S A H0 H locs) {index : Nat} (hlink : (Cond.fieldLink own index "ConflictSolveModel" "latest" "I").before args s = true) {x : Int32} (hdg : decode cc pc = .ok (.putfield index, 3)) (kk : ∀ (H1 : Heap) (locs1 : List Loc), va_P (dC, dI) vwCl (cM hs ka (ms_latest u x)) H1 → va_D A (cM hs ka (ms_latest u x)) → va_S A H0 H1 locs1 → W p l e R s m args below meth c H1 locs1 cells slots Q (F0 m (pc + 3) ls rest)) : W p l e R s m args below meth c H locs cells slots Q (F0 m pc ls (.int x :: .ref (hs 0) :: rest)) := va_put (D := (dC, dI)) (ci := 1) (v := .int x) (ty := .int) (C := RX1) (T := TX1) (N := 23) hx hb hts hin tyX1 tyX1_ok nmX1 hown hK hP hD hS 0 rfl rfl 20 (by decide) hlink (fun _ h9 => h9) rfl (by decide +kernel) rfl rfl (Nat.le_of_ble_eq_true rfl) hdg (fun H1 locs1 hP hD hS => kk H1 locs1 hP hD hS)
theorem gt_M_blamed (hx : p.tables.exec = Jvm.exec) (hb : c.code = cc) (hts : ∀ w ∈ Ts, w.before args s = true) (hin : ∀ w ∈ u_ws RX1 TX1 23, w ∈ Ts) (hown : s.vm.findClass own = some m.cls) (hK : va_K (dC, dI) vwCl (tM ka) s) (hP : va_P (dC, dI) vwCl (cM hs ka u) H) {index : Nat} (hlink : (Cond.fieldLink own index "ConflictSolveModel" "blamed" "[I").before args s = true) (hdg : decode cc pc = .ok (.getfield index, 3)) (kk : W p l e R s m args below meth c H locs cells slots Q (F0 m (pc + 3) ls (.ref (hs 16) :: rest))) : W p l e R s m args below meth c H locs cells slots Q (F0 m pc ls (.ref (hs 0) :: rest)) := va_get (D := (dC, dI)) (ci := 1) (v := .ref (hs 16)) (C := RX1) (T := TX1) (N := 23) hx hb hts hin hown hK hP 0 rfl rfl 21 (by decide) hlink (fun _ h9 => h9) rfl hdg kk
theorem ld_M_blamed (hx : p.tables.exec = Jvm.exec) (hb : c.code = cc) (hK : va_K (dC, dI) vwCl (tM ka) s) (hP : va_P (dC, dI) vwCl (cM hs ka u) H) {F : Nat → Int32} (hF : m_blamed u = F) {i : Int32} (hi : vp_in i 12) (hdg : decode cc pc = .ok (.iaload, 1)) (kk : W p l e R s m args below meth c H locs cells slots Q (F0 m (pc + 1) ls (.int (F i.toNatClampNeg) :: rest))) : W p l e R s m args below meth c H locs cells slots Q (F0 m pc ls (.int i :: .ref (hs 16) :: rest)) := by
  subst hF
  exact va_iald (f := m_blamed u) hx hb hK hP 16 15 rfl rfl hi hdg kk
theorem sr_M_blamed (hx : p.tables.exec = Jvm.exec) (hb : c.code = cc) (hK : va_K (dC, dI) vwCl (tM ka) s) (hP : va_P (dC, dI) vwCl (cM hs ka u) H) (hD : va_D A (cM hs ka u)) (hS : va_S A H0 H locs) {F : Nat → Int32} (hF : m_blamed u = F) {i : Int32} {x : Int32} (hi : vp_in i 12) (hdg : decode cc pc = .ok (.iastore, 1)) (kk : ∀ (H1 : Heap) (locs1 : List Loc), va_P (dC, dI) vwCl (cM hs ka (ms_blamed u (upd F i.toNatClampNeg x))) H1 → va_D A (cM hs ka (ms_blamed u (upd F i.toNatClampNeg x))) → va_S A H0 H1 locs1 → W p l e R s m args below meth c H1 locs1 cells slots Q (F0 m (pc + 1) ls rest)) : W p l e R s m args below meth c H locs cells slots Q (F0 m pc ls (.int x :: .int i :: .ref (hs 16) :: rest)) := by
  subst hF
  exact va_iast (f := m_blamed u) hx hb hK hP hD hS 16 15 rfl rfl hi hdg (fun H1 locs1 hP hD hS => kk H1 locs1 hP hD hS)
theorem gt_M_blames (hx : p.tables.exec = Jvm.exec) (hb : c.code = cc) (hts : ∀ w ∈ Ts, w.before args s = true) (hin : ∀ w ∈ u_ws RX1 TX1 23, w ∈ Ts) (hown : s.vm.findClass own = some m.cls) (hK : va_K (dC, dI) vwCl (tM ka) s) (hP : va_P (dC, dI) vwCl (cM hs ka u) H) {index : Nat} (hlink : (Cond.fieldLink own index "ConflictSolveModel" "blames" "I").before args s = true) {V : Int32} (hV : m_blames u = V) (hdg : decode cc pc = .ok (.getfield index, 3)) (kk : W p l e R s m args below meth c H locs cells slots Q (F0 m (pc + 3) ls (.int V :: rest))) : W p l e R s m args below meth c H locs cells slots Q (F0 m pc ls (.ref (hs 0) :: rest)) := by
  subst hV
  exact va_get (D := (dC, dI)) (ci := 1) (v := .int (m_blames u)) (C := RX1) (T := TX1) (N := 23) hx hb hts hin hown hK hP 0 rfl rfl 22 (by decide) hlink (fun _ h9 => h9) rfl hdg kk
theorem pt_M_blames (hx : p.tables.exec = Jvm.exec) (hb : c.code = cc) (hts : ∀ w ∈ Ts, w.before args s = true) (hin : ∀ w ∈ u_ws RX1 TX1 23, w ∈ Ts) (hown : s.vm.findClass own = some m.cls) (hK : va_K (dC, dI) vwCl (tM ka) s) (hP : va_P (dC, dI) vwCl (cM hs ka u) H) (hD : va_D A (cM hs ka u)) (hS : va_S A H0 H locs) {index : Nat} (hlink : (Cond.fieldLink own index "ConflictSolveModel" "blames" "I").before args s = true) {x : Int32} (hdg : decode cc pc = .ok (.putfield index, 3)) (kk : ∀ (H1 : Heap) (locs1 : List Loc), va_P (dC, dI) vwCl (cM hs ka (ms_blames u x)) H1 → va_D A (cM hs ka (ms_blames u x)) → va_S A H0 H1 locs1 → W p l e R s m args below meth c H1 locs1 cells slots Q (F0 m (pc + 3) ls rest)) : W p l e R s m args below meth c H locs cells slots Q (F0 m pc ls (.int x :: .ref (hs 0) :: rest)) := va_put (D := (dC, dI)) (ci := 1) (v := .int x) (ty := .int) (C := RX1) (T := TX1) (N := 23) hx hb hts hin tyX1 tyX1_ok nmX1 hown hK hP hD hS 0 rfl rfl 22 (by decide) hlink (fun _ h9 => h9) rfl (by decide +kernel) rfl rfl (Nat.le_of_ble_eq_true rfl) hdg (fun H1 locs1 hP hD hS => kk H1 locs1 hP hD hS)
theorem fr_M (hD : va_D A (cM hs ka u)) (hS : va_S A H0 H locs) (hA : ∀ q, H0.size ≤ q → A q) : ∀ q, va_A (cM hs ka u) H.size q → A q := va_free (wc := cM hs ka u) hD hS hA [0, 1, 2, 3, 4, 5, 6, 7, 8, 9, 10, 11, 12, 13, 14, 15, 16] rfl
theorem fn_M (hD : va_D A (cM hs ka u)) (hS : va_S A H0 H locs) (hA : ∀ q, H0.size ≤ q → A q) : ∀ q, va_A ([] : va_W) H.size q → A q := va_free (wc := []) hD hS hA [] rfl
theorem jw_M {H1 : Heap} {u1 : MS} (hP : va_P (dC, dI) vwCl (cM hs ka u) H) (hD : va_D A (cM hs ka u)) (hk : ∀ q : Nat, q < H.size → ¬ va_A (cM hs ka u) H.size q → H1[q]? = H[q]?) (hF : ∀ q, va_A (cM hs ka u) H.size q → A q) (hP1 : va_P (dC, dI) vwCl (cM hs ka u1) H1) (hD1 : va_D (va_A (cM hs ka u) H.size) (cM hs ka u1)) : va_P (dC, dI) vwCl (cM hs ka u1) H1 ∧ va_D A (cM hs ka u1) := va_join (wc := cM hs ka u) (wr := []) (w1 := cM hs ka u1) hP hD [0, 1, 2, 3, 4, 5, 6, 7, 8, 9, 10, 11, 12, 13, 14, 15, 16] [] rfl rfl (by decide) (by decide) hk hF hP1 hD1
theorem js_M {H1 : Heap} (hP : va_P (dC, dI) vwCl (cM hs ka u) H) (hD : va_D A (cM hs ka u)) (hk : ∀ q : Nat, q < H.size → ¬ va_A ([] : va_W) H.size q → H1[q]? = H[q]?) (hF : ∀ q, va_A ([] : va_W) H.size q → A q) (hP1 : va_P (dC, dI) vwCl ([] : va_W) H1) (hD1 : va_D (va_A ([] : va_W) H.size) ([] : va_W)) : va_P (dC, dI) vwCl (cM hs ka u) H1 ∧ va_D A (cM hs ka u) := va_join (wc := []) (wr := cM hs ka u) (w1 := []) hP hD [] [0, 1, 2, 3, 4, 5, 6, 7, 8, 9, 10, 11, 12, 13, 14, 15, 16] rfl rfl (by decide) (by decide) hk hF hP1 hD1
theorem rc_M (hK : va_K (dC, dI) vwCl (tM ka) s) (hP : va_P (dC, dI) vwCl (cM hs ka u) H) : ∃ cell : Cell, H[hs 0]? = some cell ∧ cell.vm.isStatics = false ∧ s.vm.findClass RX1 = some cell.cls := va_recv hK hP (ci := 1) (q0 := 0) rfl rfl
end ROWSM
theorem rq_m_code_code (u : MS) (v : Int32) : m_code (ms_code u v) = v := nrfl rfl
theorem rq_m_code_versions (u : MS) (v : Nat → Int32) : m_code (ms_versions u v) = m_code u := nrfl rfl
theorem rq_m_code_locks (u : MS) (v : Nat → Int32) : m_code (ms_locks u v) = m_code u := nrfl rfl
theorem rq_m_code_chosen (u : MS) (v : Nat → Int32) : m_code (ms_chosen u v) = m_code u := nrfl rfl
theorem rq_m_code_value (u : MS) (v : Nat → Int32) : m_code (ms_value u v) = m_code u := nrfl rfl
theorem rq_m_code_order (u : MS) (v : Nat → Int32) : m_code (ms_order u v) = m_code u := nrfl rfl
theorem rq_m_code_option (u : MS) (v : Nat → Int32) : m_code (ms_option u v) = m_code u := nrfl rfl
theorem rq_m_code_blames0 (u : MS) (v : Nat → Int32) : m_code (ms_blames0 u v) = m_code u := nrfl rfl
theorem rq_m_code_packages (u : MS) (v : Int32) : m_code (ms_packages u v) = m_code u := nrfl rfl
theorem rq_m_code_rows (u : MS) (v : Int32) : m_code (ms_rows u v) = m_code u := nrfl rfl
theorem rq_m_code_demands (u : MS) (v : Int32) : m_code (ms_demands u v) = m_code u := nrfl rfl
theorem rq_m_code_needed (u : MS) (v : Int32) : m_code (ms_needed u v) = m_code u := nrfl rfl
theorem rq_m_code_pack (u : MS) (v : Nat → Int32) : m_code (ms_pack u v) = m_code u := nrfl rfl
theorem rq_m_code_version (u : MS) (v : Nat → Int32) : m_code (ms_version u v) = m_code u := nrfl rfl
theorem rq_m_code_kind (u : MS) (v : Nat → Int32) : m_code (ms_kind u v) = m_code u := nrfl rfl
theorem rq_m_code_many (u : MS) (v : Nat → Int32) : m_code (ms_many u v) = m_code u := nrfl rfl
theorem rq_m_code_other (u : MS) (v : Nat → Int32) : m_code (ms_other u v) = m_code u := nrfl rfl
theorem rq_m_code_set (u : MS) (v : Nat → Int32) : m_code (ms_set u v) = m_code u := nrfl rfl
theorem rq_m_code_out (u : MS) (v : Nat → Int32) : m_code (ms_out u v) = m_code u := nrfl rfl
theorem rq_m_code_away (u : MS) (v : Nat → Int32) : m_code (ms_away u v) = m_code u := nrfl rfl
theorem rq_m_code_latest (u : MS) (v : Int32) : m_code (ms_latest u v) = m_code u := nrfl rfl
theorem rq_m_code_blamed (u : MS) (v : Nat → Int32) : m_code (ms_blamed u v) = m_code u := nrfl rfl
theorem rq_m_code_blames (u : MS) (v : Int32) : m_code (ms_blames u v) = m_code u := nrfl rfl
theorem rq_m_versions_code (u : MS) (v : Int32) : m_versions (ms_code u v) = m_versions u := nrfl rfl
theorem rq_m_versions_versions (u : MS) (v : Nat → Int32) : m_versions (ms_versions u v) = v := nrfl rfl
theorem rq_m_versions_locks (u : MS) (v : Nat → Int32) : m_versions (ms_locks u v) = m_versions u := nrfl rfl
theorem rq_m_versions_chosen (u : MS) (v : Nat → Int32) : m_versions (ms_chosen u v) = m_versions u := nrfl rfl
theorem rq_m_versions_value (u : MS) (v : Nat → Int32) : m_versions (ms_value u v) = m_versions u := nrfl rfl
theorem rq_m_versions_order (u : MS) (v : Nat → Int32) : m_versions (ms_order u v) = m_versions u := nrfl rfl
theorem rq_m_versions_option (u : MS) (v : Nat → Int32) : m_versions (ms_option u v) = m_versions u := nrfl rfl
theorem rq_m_versions_blames0 (u : MS) (v : Nat → Int32) : m_versions (ms_blames0 u v) = m_versions u := nrfl rfl
theorem rq_m_versions_packages (u : MS) (v : Int32) : m_versions (ms_packages u v) = m_versions u := nrfl rfl
theorem rq_m_versions_rows (u : MS) (v : Int32) : m_versions (ms_rows u v) = m_versions u := nrfl rfl
theorem rq_m_versions_demands (u : MS) (v : Int32) : m_versions (ms_demands u v) = m_versions u := nrfl rfl
theorem rq_m_versions_needed (u : MS) (v : Int32) : m_versions (ms_needed u v) = m_versions u := nrfl rfl
theorem rq_m_versions_pack (u : MS) (v : Nat → Int32) : m_versions (ms_pack u v) = m_versions u := nrfl rfl
theorem rq_m_versions_version (u : MS) (v : Nat → Int32) : m_versions (ms_version u v) = m_versions u := nrfl rfl
theorem rq_m_versions_kind (u : MS) (v : Nat → Int32) : m_versions (ms_kind u v) = m_versions u := nrfl rfl
theorem rq_m_versions_many (u : MS) (v : Nat → Int32) : m_versions (ms_many u v) = m_versions u := nrfl rfl
theorem rq_m_versions_other (u : MS) (v : Nat → Int32) : m_versions (ms_other u v) = m_versions u := nrfl rfl
theorem rq_m_versions_set (u : MS) (v : Nat → Int32) : m_versions (ms_set u v) = m_versions u := nrfl rfl
theorem rq_m_versions_out (u : MS) (v : Nat → Int32) : m_versions (ms_out u v) = m_versions u := nrfl rfl
theorem rq_m_versions_away (u : MS) (v : Nat → Int32) : m_versions (ms_away u v) = m_versions u := nrfl rfl
theorem rq_m_versions_latest (u : MS) (v : Int32) : m_versions (ms_latest u v) = m_versions u := nrfl rfl
theorem rq_m_versions_blamed (u : MS) (v : Nat → Int32) : m_versions (ms_blamed u v) = m_versions u := nrfl rfl
theorem rq_m_versions_blames (u : MS) (v : Int32) : m_versions (ms_blames u v) = m_versions u := nrfl rfl
theorem rq_m_locks_code (u : MS) (v : Int32) : m_locks (ms_code u v) = m_locks u := nrfl rfl
theorem rq_m_locks_versions (u : MS) (v : Nat → Int32) : m_locks (ms_versions u v) = m_locks u := nrfl rfl
theorem rq_m_locks_locks (u : MS) (v : Nat → Int32) : m_locks (ms_locks u v) = v := nrfl rfl
theorem rq_m_locks_chosen (u : MS) (v : Nat → Int32) : m_locks (ms_chosen u v) = m_locks u := nrfl rfl
theorem rq_m_locks_value (u : MS) (v : Nat → Int32) : m_locks (ms_value u v) = m_locks u := nrfl rfl
theorem rq_m_locks_order (u : MS) (v : Nat → Int32) : m_locks (ms_order u v) = m_locks u := nrfl rfl
theorem rq_m_locks_option (u : MS) (v : Nat → Int32) : m_locks (ms_option u v) = m_locks u := nrfl rfl
theorem rq_m_locks_blames0 (u : MS) (v : Nat → Int32) : m_locks (ms_blames0 u v) = m_locks u := nrfl rfl
theorem rq_m_locks_packages (u : MS) (v : Int32) : m_locks (ms_packages u v) = m_locks u := nrfl rfl
theorem rq_m_locks_rows (u : MS) (v : Int32) : m_locks (ms_rows u v) = m_locks u := nrfl rfl
theorem rq_m_locks_demands (u : MS) (v : Int32) : m_locks (ms_demands u v) = m_locks u := nrfl rfl
theorem rq_m_locks_needed (u : MS) (v : Int32) : m_locks (ms_needed u v) = m_locks u := nrfl rfl
theorem rq_m_locks_pack (u : MS) (v : Nat → Int32) : m_locks (ms_pack u v) = m_locks u := nrfl rfl
theorem rq_m_locks_version (u : MS) (v : Nat → Int32) : m_locks (ms_version u v) = m_locks u := nrfl rfl
theorem rq_m_locks_kind (u : MS) (v : Nat → Int32) : m_locks (ms_kind u v) = m_locks u := nrfl rfl
theorem rq_m_locks_many (u : MS) (v : Nat → Int32) : m_locks (ms_many u v) = m_locks u := nrfl rfl
theorem rq_m_locks_other (u : MS) (v : Nat → Int32) : m_locks (ms_other u v) = m_locks u := nrfl rfl
theorem rq_m_locks_set (u : MS) (v : Nat → Int32) : m_locks (ms_set u v) = m_locks u := nrfl rfl
theorem rq_m_locks_out (u : MS) (v : Nat → Int32) : m_locks (ms_out u v) = m_locks u := nrfl rfl
theorem rq_m_locks_away (u : MS) (v : Nat → Int32) : m_locks (ms_away u v) = m_locks u := nrfl rfl
theorem rq_m_locks_latest (u : MS) (v : Int32) : m_locks (ms_latest u v) = m_locks u := nrfl rfl
theorem rq_m_locks_blamed (u : MS) (v : Nat → Int32) : m_locks (ms_blamed u v) = m_locks u := nrfl rfl
theorem rq_m_locks_blames (u : MS) (v : Int32) : m_locks (ms_blames u v) = m_locks u := nrfl rfl
theorem rq_m_chosen_code (u : MS) (v : Int32) : m_chosen (ms_code u v) = m_chosen u := nrfl rfl
theorem rq_m_chosen_versions (u : MS) (v : Nat → Int32) : m_chosen (ms_versions u v) = m_chosen u := nrfl rfl
theorem rq_m_chosen_locks (u : MS) (v : Nat → Int32) : m_chosen (ms_locks u v) = m_chosen u := nrfl rfl
theorem rq_m_chosen_chosen (u : MS) (v : Nat → Int32) : m_chosen (ms_chosen u v) = v := nrfl rfl
theorem rq_m_chosen_value (u : MS) (v : Nat → Int32) : m_chosen (ms_value u v) = m_chosen u := nrfl rfl
theorem rq_m_chosen_order (u : MS) (v : Nat → Int32) : m_chosen (ms_order u v) = m_chosen u := nrfl rfl
theorem rq_m_chosen_option (u : MS) (v : Nat → Int32) : m_chosen (ms_option u v) = m_chosen u := nrfl rfl
theorem rq_m_chosen_blames0 (u : MS) (v : Nat → Int32) : m_chosen (ms_blames0 u v) = m_chosen u := nrfl rfl
theorem rq_m_chosen_packages (u : MS) (v : Int32) : m_chosen (ms_packages u v) = m_chosen u := nrfl rfl
theorem rq_m_chosen_rows (u : MS) (v : Int32) : m_chosen (ms_rows u v) = m_chosen u := nrfl rfl
theorem rq_m_chosen_demands (u : MS) (v : Int32) : m_chosen (ms_demands u v) = m_chosen u := nrfl rfl
theorem rq_m_chosen_needed (u : MS) (v : Int32) : m_chosen (ms_needed u v) = m_chosen u := nrfl rfl
theorem rq_m_chosen_pack (u : MS) (v : Nat → Int32) : m_chosen (ms_pack u v) = m_chosen u := nrfl rfl
theorem rq_m_chosen_version (u : MS) (v : Nat → Int32) : m_chosen (ms_version u v) = m_chosen u := nrfl rfl
theorem rq_m_chosen_kind (u : MS) (v : Nat → Int32) : m_chosen (ms_kind u v) = m_chosen u := nrfl rfl
theorem rq_m_chosen_many (u : MS) (v : Nat → Int32) : m_chosen (ms_many u v) = m_chosen u := nrfl rfl
theorem rq_m_chosen_other (u : MS) (v : Nat → Int32) : m_chosen (ms_other u v) = m_chosen u := nrfl rfl
theorem rq_m_chosen_set (u : MS) (v : Nat → Int32) : m_chosen (ms_set u v) = m_chosen u := nrfl rfl
theorem rq_m_chosen_out (u : MS) (v : Nat → Int32) : m_chosen (ms_out u v) = m_chosen u := nrfl rfl
theorem rq_m_chosen_away (u : MS) (v : Nat → Int32) : m_chosen (ms_away u v) = m_chosen u := nrfl rfl
theorem rq_m_chosen_latest (u : MS) (v : Int32) : m_chosen (ms_latest u v) = m_chosen u := nrfl rfl
theorem rq_m_chosen_blamed (u : MS) (v : Nat → Int32) : m_chosen (ms_blamed u v) = m_chosen u := nrfl rfl
theorem rq_m_chosen_blames (u : MS) (v : Int32) : m_chosen (ms_blames u v) = m_chosen u := nrfl rfl
theorem rq_m_value_code (u : MS) (v : Int32) : m_value (ms_code u v) = m_value u := nrfl rfl
theorem rq_m_value_versions (u : MS) (v : Nat → Int32) : m_value (ms_versions u v) = m_value u := nrfl rfl
theorem rq_m_value_locks (u : MS) (v : Nat → Int32) : m_value (ms_locks u v) = m_value u := nrfl rfl
theorem rq_m_value_chosen (u : MS) (v : Nat → Int32) : m_value (ms_chosen u v) = m_value u := nrfl rfl
theorem rq_m_value_value (u : MS) (v : Nat → Int32) : m_value (ms_value u v) = v := nrfl rfl
theorem rq_m_value_order (u : MS) (v : Nat → Int32) : m_value (ms_order u v) = m_value u := nrfl rfl
theorem rq_m_value_option (u : MS) (v : Nat → Int32) : m_value (ms_option u v) = m_value u := nrfl rfl
theorem rq_m_value_blames0 (u : MS) (v : Nat → Int32) : m_value (ms_blames0 u v) = m_value u := nrfl rfl
theorem rq_m_value_packages (u : MS) (v : Int32) : m_value (ms_packages u v) = m_value u := nrfl rfl
theorem rq_m_value_rows (u : MS) (v : Int32) : m_value (ms_rows u v) = m_value u := nrfl rfl
theorem rq_m_value_demands (u : MS) (v : Int32) : m_value (ms_demands u v) = m_value u := nrfl rfl
theorem rq_m_value_needed (u : MS) (v : Int32) : m_value (ms_needed u v) = m_value u := nrfl rfl
theorem rq_m_value_pack (u : MS) (v : Nat → Int32) : m_value (ms_pack u v) = m_value u := nrfl rfl
theorem rq_m_value_version (u : MS) (v : Nat → Int32) : m_value (ms_version u v) = m_value u := nrfl rfl
theorem rq_m_value_kind (u : MS) (v : Nat → Int32) : m_value (ms_kind u v) = m_value u := nrfl rfl
theorem rq_m_value_many (u : MS) (v : Nat → Int32) : m_value (ms_many u v) = m_value u := nrfl rfl
theorem rq_m_value_other (u : MS) (v : Nat → Int32) : m_value (ms_other u v) = m_value u := nrfl rfl
theorem rq_m_value_set (u : MS) (v : Nat → Int32) : m_value (ms_set u v) = m_value u := nrfl rfl
theorem rq_m_value_out (u : MS) (v : Nat → Int32) : m_value (ms_out u v) = m_value u := nrfl rfl
theorem rq_m_value_away (u : MS) (v : Nat → Int32) : m_value (ms_away u v) = m_value u := nrfl rfl
theorem rq_m_value_latest (u : MS) (v : Int32) : m_value (ms_latest u v) = m_value u := nrfl rfl
theorem rq_m_value_blamed (u : MS) (v : Nat → Int32) : m_value (ms_blamed u v) = m_value u := nrfl rfl
theorem rq_m_value_blames (u : MS) (v : Int32) : m_value (ms_blames u v) = m_value u := nrfl rfl
theorem rq_m_order_code (u : MS) (v : Int32) : m_order (ms_code u v) = m_order u := nrfl rfl
theorem rq_m_order_versions (u : MS) (v : Nat → Int32) : m_order (ms_versions u v) = m_order u := nrfl rfl
theorem rq_m_order_locks (u : MS) (v : Nat → Int32) : m_order (ms_locks u v) = m_order u := nrfl rfl
theorem rq_m_order_chosen (u : MS) (v : Nat → Int32) : m_order (ms_chosen u v) = m_order u := nrfl rfl
theorem rq_m_order_value (u : MS) (v : Nat → Int32) : m_order (ms_value u v) = m_order u := nrfl rfl
theorem rq_m_order_order (u : MS) (v : Nat → Int32) : m_order (ms_order u v) = v := nrfl rfl
theorem rq_m_order_option (u : MS) (v : Nat → Int32) : m_order (ms_option u v) = m_order u := nrfl rfl
theorem rq_m_order_blames0 (u : MS) (v : Nat → Int32) : m_order (ms_blames0 u v) = m_order u := nrfl rfl
theorem rq_m_order_packages (u : MS) (v : Int32) : m_order (ms_packages u v) = m_order u := nrfl rfl
theorem rq_m_order_rows (u : MS) (v : Int32) : m_order (ms_rows u v) = m_order u := nrfl rfl
theorem rq_m_order_demands (u : MS) (v : Int32) : m_order (ms_demands u v) = m_order u := nrfl rfl
theorem rq_m_order_needed (u : MS) (v : Int32) : m_order (ms_needed u v) = m_order u := nrfl rfl
theorem rq_m_order_pack (u : MS) (v : Nat → Int32) : m_order (ms_pack u v) = m_order u := nrfl rfl
theorem rq_m_order_version (u : MS) (v : Nat → Int32) : m_order (ms_version u v) = m_order u := nrfl rfl
theorem rq_m_order_kind (u : MS) (v : Nat → Int32) : m_order (ms_kind u v) = m_order u := nrfl rfl
theorem rq_m_order_many (u : MS) (v : Nat → Int32) : m_order (ms_many u v) = m_order u := nrfl rfl
theorem rq_m_order_other (u : MS) (v : Nat → Int32) : m_order (ms_other u v) = m_order u := nrfl rfl
theorem rq_m_order_set (u : MS) (v : Nat → Int32) : m_order (ms_set u v) = m_order u := nrfl rfl
theorem rq_m_order_out (u : MS) (v : Nat → Int32) : m_order (ms_out u v) = m_order u := nrfl rfl
theorem rq_m_order_away (u : MS) (v : Nat → Int32) : m_order (ms_away u v) = m_order u := nrfl rfl
theorem rq_m_order_latest (u : MS) (v : Int32) : m_order (ms_latest u v) = m_order u := nrfl rfl
theorem rq_m_order_blamed (u : MS) (v : Nat → Int32) : m_order (ms_blamed u v) = m_order u := nrfl rfl
theorem rq_m_order_blames (u : MS) (v : Int32) : m_order (ms_blames u v) = m_order u := nrfl rfl
theorem rq_m_option_code (u : MS) (v : Int32) : m_option (ms_code u v) = m_option u := nrfl rfl
theorem rq_m_option_versions (u : MS) (v : Nat → Int32) : m_option (ms_versions u v) = m_option u := nrfl rfl
theorem rq_m_option_locks (u : MS) (v : Nat → Int32) : m_option (ms_locks u v) = m_option u := nrfl rfl
theorem rq_m_option_chosen (u : MS) (v : Nat → Int32) : m_option (ms_chosen u v) = m_option u := nrfl rfl
theorem rq_m_option_value (u : MS) (v : Nat → Int32) : m_option (ms_value u v) = m_option u := nrfl rfl
theorem rq_m_option_order (u : MS) (v : Nat → Int32) : m_option (ms_order u v) = m_option u := nrfl rfl
theorem rq_m_option_option (u : MS) (v : Nat → Int32) : m_option (ms_option u v) = v := nrfl rfl
theorem rq_m_option_blames0 (u : MS) (v : Nat → Int32) : m_option (ms_blames0 u v) = m_option u := nrfl rfl
theorem rq_m_option_packages (u : MS) (v : Int32) : m_option (ms_packages u v) = m_option u := nrfl rfl
theorem rq_m_option_rows (u : MS) (v : Int32) : m_option (ms_rows u v) = m_option u := nrfl rfl
theorem rq_m_option_demands (u : MS) (v : Int32) : m_option (ms_demands u v) = m_option u := nrfl rfl
theorem rq_m_option_needed (u : MS) (v : Int32) : m_option (ms_needed u v) = m_option u := nrfl rfl
theorem rq_m_option_pack (u : MS) (v : Nat → Int32) : m_option (ms_pack u v) = m_option u := nrfl rfl
theorem rq_m_option_version (u : MS) (v : Nat → Int32) : m_option (ms_version u v) = m_option u := nrfl rfl
theorem rq_m_option_kind (u : MS) (v : Nat → Int32) : m_option (ms_kind u v) = m_option u := nrfl rfl
theorem rq_m_option_many (u : MS) (v : Nat → Int32) : m_option (ms_many u v) = m_option u := nrfl rfl
theorem rq_m_option_other (u : MS) (v : Nat → Int32) : m_option (ms_other u v) = m_option u := nrfl rfl
theorem rq_m_option_set (u : MS) (v : Nat → Int32) : m_option (ms_set u v) = m_option u := nrfl rfl
theorem rq_m_option_out (u : MS) (v : Nat → Int32) : m_option (ms_out u v) = m_option u := nrfl rfl
theorem rq_m_option_away (u : MS) (v : Nat → Int32) : m_option (ms_away u v) = m_option u := nrfl rfl
theorem rq_m_option_latest (u : MS) (v : Int32) : m_option (ms_latest u v) = m_option u := nrfl rfl
theorem rq_m_option_blamed (u : MS) (v : Nat → Int32) : m_option (ms_blamed u v) = m_option u := nrfl rfl
theorem rq_m_option_blames (u : MS) (v : Int32) : m_option (ms_blames u v) = m_option u := nrfl rfl
theorem rq_m_blames0_code (u : MS) (v : Int32) : m_blames0 (ms_code u v) = m_blames0 u := nrfl rfl
theorem rq_m_blames0_versions (u : MS) (v : Nat → Int32) : m_blames0 (ms_versions u v) = m_blames0 u := nrfl rfl
theorem rq_m_blames0_locks (u : MS) (v : Nat → Int32) : m_blames0 (ms_locks u v) = m_blames0 u := nrfl rfl
theorem rq_m_blames0_chosen (u : MS) (v : Nat → Int32) : m_blames0 (ms_chosen u v) = m_blames0 u := nrfl rfl
theorem rq_m_blames0_value (u : MS) (v : Nat → Int32) : m_blames0 (ms_value u v) = m_blames0 u := nrfl rfl
theorem rq_m_blames0_order (u : MS) (v : Nat → Int32) : m_blames0 (ms_order u v) = m_blames0 u := nrfl rfl
theorem rq_m_blames0_option (u : MS) (v : Nat → Int32) : m_blames0 (ms_option u v) = m_blames0 u := nrfl rfl
theorem rq_m_blames0_blames0 (u : MS) (v : Nat → Int32) : m_blames0 (ms_blames0 u v) = v := nrfl rfl
theorem rq_m_blames0_packages (u : MS) (v : Int32) : m_blames0 (ms_packages u v) = m_blames0 u := nrfl rfl
theorem rq_m_blames0_rows (u : MS) (v : Int32) : m_blames0 (ms_rows u v) = m_blames0 u := nrfl rfl
theorem rq_m_blames0_demands (u : MS) (v : Int32) : m_blames0 (ms_demands u v) = m_blames0 u := nrfl rfl
theorem rq_m_blames0_needed (u : MS) (v : Int32) : m_blames0 (ms_needed u v) = m_blames0 u := nrfl rfl
theorem rq_m_blames0_pack (u : MS) (v : Nat → Int32) : m_blames0 (ms_pack u v) = m_blames0 u := nrfl rfl
theorem rq_m_blames0_version (u : MS) (v : Nat → Int32) : m_blames0 (ms_version u v) = m_blames0 u := nrfl rfl
theorem rq_m_blames0_kind (u : MS) (v : Nat → Int32) : m_blames0 (ms_kind u v) = m_blames0 u := nrfl rfl
theorem rq_m_blames0_many (u : MS) (v : Nat → Int32) : m_blames0 (ms_many u v) = m_blames0 u := nrfl rfl
theorem rq_m_blames0_other (u : MS) (v : Nat → Int32) : m_blames0 (ms_other u v) = m_blames0 u := nrfl rfl
theorem rq_m_blames0_set (u : MS) (v : Nat → Int32) : m_blames0 (ms_set u v) = m_blames0 u := nrfl rfl
theorem rq_m_blames0_out (u : MS) (v : Nat → Int32) : m_blames0 (ms_out u v) = m_blames0 u := nrfl rfl
theorem rq_m_blames0_away (u : MS) (v : Nat → Int32) : m_blames0 (ms_away u v) = m_blames0 u := nrfl rfl
theorem rq_m_blames0_latest (u : MS) (v : Int32) : m_blames0 (ms_latest u v) = m_blames0 u := nrfl rfl
theorem rq_m_blames0_blamed (u : MS) (v : Nat → Int32) : m_blames0 (ms_blamed u v) = m_blames0 u := nrfl rfl
theorem rq_m_blames0_blames (u : MS) (v : Int32) : m_blames0 (ms_blames u v) = m_blames0 u := nrfl rfl
theorem rq_m_packages_code (u : MS) (v : Int32) : m_packages (ms_code u v) = m_packages u := nrfl rfl
theorem rq_m_packages_versions (u : MS) (v : Nat → Int32) : m_packages (ms_versions u v) = m_packages u := nrfl rfl
theorem rq_m_packages_locks (u : MS) (v : Nat → Int32) : m_packages (ms_locks u v) = m_packages u := nrfl rfl
theorem rq_m_packages_chosen (u : MS) (v : Nat → Int32) : m_packages (ms_chosen u v) = m_packages u := nrfl rfl
theorem rq_m_packages_value (u : MS) (v : Nat → Int32) : m_packages (ms_value u v) = m_packages u := nrfl rfl
theorem rq_m_packages_order (u : MS) (v : Nat → Int32) : m_packages (ms_order u v) = m_packages u := nrfl rfl
theorem rq_m_packages_option (u : MS) (v : Nat → Int32) : m_packages (ms_option u v) = m_packages u := nrfl rfl
theorem rq_m_packages_blames0 (u : MS) (v : Nat → Int32) : m_packages (ms_blames0 u v) = m_packages u := nrfl rfl
theorem rq_m_packages_packages (u : MS) (v : Int32) : m_packages (ms_packages u v) = v := nrfl rfl
theorem rq_m_packages_rows (u : MS) (v : Int32) : m_packages (ms_rows u v) = m_packages u := nrfl rfl
theorem rq_m_packages_demands (u : MS) (v : Int32) : m_packages (ms_demands u v) = m_packages u := nrfl rfl
theorem rq_m_packages_needed (u : MS) (v : Int32) : m_packages (ms_needed u v) = m_packages u := nrfl rfl
theorem rq_m_packages_pack (u : MS) (v : Nat → Int32) : m_packages (ms_pack u v) = m_packages u := nrfl rfl
theorem rq_m_packages_version (u : MS) (v : Nat → Int32) : m_packages (ms_version u v) = m_packages u := nrfl rfl
theorem rq_m_packages_kind (u : MS) (v : Nat → Int32) : m_packages (ms_kind u v) = m_packages u := nrfl rfl
theorem rq_m_packages_many (u : MS) (v : Nat → Int32) : m_packages (ms_many u v) = m_packages u := nrfl rfl
theorem rq_m_packages_other (u : MS) (v : Nat → Int32) : m_packages (ms_other u v) = m_packages u := nrfl rfl
theorem rq_m_packages_set (u : MS) (v : Nat → Int32) : m_packages (ms_set u v) = m_packages u := nrfl rfl
theorem rq_m_packages_out (u : MS) (v : Nat → Int32) : m_packages (ms_out u v) = m_packages u := nrfl rfl
theorem rq_m_packages_away (u : MS) (v : Nat → Int32) : m_packages (ms_away u v) = m_packages u := nrfl rfl
theorem rq_m_packages_latest (u : MS) (v : Int32) : m_packages (ms_latest u v) = m_packages u := nrfl rfl
theorem rq_m_packages_blamed (u : MS) (v : Nat → Int32) : m_packages (ms_blamed u v) = m_packages u := nrfl rfl
theorem rq_m_packages_blames (u : MS) (v : Int32) : m_packages (ms_blames u v) = m_packages u := nrfl rfl
theorem rq_m_rows_code (u : MS) (v : Int32) : m_rows (ms_code u v) = m_rows u := nrfl rfl
theorem rq_m_rows_versions (u : MS) (v : Nat → Int32) : m_rows (ms_versions u v) = m_rows u := nrfl rfl
theorem rq_m_rows_locks (u : MS) (v : Nat → Int32) : m_rows (ms_locks u v) = m_rows u := nrfl rfl
theorem rq_m_rows_chosen (u : MS) (v : Nat → Int32) : m_rows (ms_chosen u v) = m_rows u := nrfl rfl
theorem rq_m_rows_value (u : MS) (v : Nat → Int32) : m_rows (ms_value u v) = m_rows u := nrfl rfl
theorem rq_m_rows_order (u : MS) (v : Nat → Int32) : m_rows (ms_order u v) = m_rows u := nrfl rfl
theorem rq_m_rows_option (u : MS) (v : Nat → Int32) : m_rows (ms_option u v) = m_rows u := nrfl rfl
theorem rq_m_rows_blames0 (u : MS) (v : Nat → Int32) : m_rows (ms_blames0 u v) = m_rows u := nrfl rfl
theorem rq_m_rows_packages (u : MS) (v : Int32) : m_rows (ms_packages u v) = m_rows u := nrfl rfl
theorem rq_m_rows_rows (u : MS) (v : Int32) : m_rows (ms_rows u v) = v := nrfl rfl
theorem rq_m_rows_demands (u : MS) (v : Int32) : m_rows (ms_demands u v) = m_rows u := nrfl rfl
theorem rq_m_rows_needed (u : MS) (v : Int32) : m_rows (ms_needed u v) = m_rows u := nrfl rfl
theorem rq_m_rows_pack (u : MS) (v : Nat → Int32) : m_rows (ms_pack u v) = m_rows u := nrfl rfl
theorem rq_m_rows_version (u : MS) (v : Nat → Int32) : m_rows (ms_version u v) = m_rows u := nrfl rfl
theorem rq_m_rows_kind (u : MS) (v : Nat → Int32) : m_rows (ms_kind u v) = m_rows u := nrfl rfl
theorem rq_m_rows_many (u : MS) (v : Nat → Int32) : m_rows (ms_many u v) = m_rows u := nrfl rfl
theorem rq_m_rows_other (u : MS) (v : Nat → Int32) : m_rows (ms_other u v) = m_rows u := nrfl rfl
theorem rq_m_rows_set (u : MS) (v : Nat → Int32) : m_rows (ms_set u v) = m_rows u := nrfl rfl
theorem rq_m_rows_out (u : MS) (v : Nat → Int32) : m_rows (ms_out u v) = m_rows u := nrfl rfl
theorem rq_m_rows_away (u : MS) (v : Nat → Int32) : m_rows (ms_away u v) = m_rows u := nrfl rfl
theorem rq_m_rows_latest (u : MS) (v : Int32) : m_rows (ms_latest u v) = m_rows u := nrfl rfl
theorem rq_m_rows_blamed (u : MS) (v : Nat → Int32) : m_rows (ms_blamed u v) = m_rows u := nrfl rfl
theorem rq_m_rows_blames (u : MS) (v : Int32) : m_rows (ms_blames u v) = m_rows u := nrfl rfl
theorem rq_m_demands_code (u : MS) (v : Int32) : m_demands (ms_code u v) = m_demands u := nrfl rfl
theorem rq_m_demands_versions (u : MS) (v : Nat → Int32) : m_demands (ms_versions u v) = m_demands u := nrfl rfl
theorem rq_m_demands_locks (u : MS) (v : Nat → Int32) : m_demands (ms_locks u v) = m_demands u := nrfl rfl
theorem rq_m_demands_chosen (u : MS) (v : Nat → Int32) : m_demands (ms_chosen u v) = m_demands u := nrfl rfl
theorem rq_m_demands_value (u : MS) (v : Nat → Int32) : m_demands (ms_value u v) = m_demands u := nrfl rfl
theorem rq_m_demands_order (u : MS) (v : Nat → Int32) : m_demands (ms_order u v) = m_demands u := nrfl rfl
theorem rq_m_demands_option (u : MS) (v : Nat → Int32) : m_demands (ms_option u v) = m_demands u := nrfl rfl
theorem rq_m_demands_blames0 (u : MS) (v : Nat → Int32) : m_demands (ms_blames0 u v) = m_demands u := nrfl rfl
theorem rq_m_demands_packages (u : MS) (v : Int32) : m_demands (ms_packages u v) = m_demands u := nrfl rfl
theorem rq_m_demands_rows (u : MS) (v : Int32) : m_demands (ms_rows u v) = m_demands u := nrfl rfl
theorem rq_m_demands_demands (u : MS) (v : Int32) : m_demands (ms_demands u v) = v := nrfl rfl
theorem rq_m_demands_needed (u : MS) (v : Int32) : m_demands (ms_needed u v) = m_demands u := nrfl rfl
theorem rq_m_demands_pack (u : MS) (v : Nat → Int32) : m_demands (ms_pack u v) = m_demands u := nrfl rfl
theorem rq_m_demands_version (u : MS) (v : Nat → Int32) : m_demands (ms_version u v) = m_demands u := nrfl rfl
theorem rq_m_demands_kind (u : MS) (v : Nat → Int32) : m_demands (ms_kind u v) = m_demands u := nrfl rfl
theorem rq_m_demands_many (u : MS) (v : Nat → Int32) : m_demands (ms_many u v) = m_demands u := nrfl rfl
theorem rq_m_demands_other (u : MS) (v : Nat → Int32) : m_demands (ms_other u v) = m_demands u := nrfl rfl
theorem rq_m_demands_set (u : MS) (v : Nat → Int32) : m_demands (ms_set u v) = m_demands u := nrfl rfl
theorem rq_m_demands_out (u : MS) (v : Nat → Int32) : m_demands (ms_out u v) = m_demands u := nrfl rfl
theorem rq_m_demands_away (u : MS) (v : Nat → Int32) : m_demands (ms_away u v) = m_demands u := nrfl rfl
theorem rq_m_demands_latest (u : MS) (v : Int32) : m_demands (ms_latest u v) = m_demands u := nrfl rfl
theorem rq_m_demands_blamed (u : MS) (v : Nat → Int32) : m_demands (ms_blamed u v) = m_demands u := nrfl rfl
theorem rq_m_demands_blames (u : MS) (v : Int32) : m_demands (ms_blames u v) = m_demands u := nrfl rfl
theorem rq_m_needed_code (u : MS) (v : Int32) : m_needed (ms_code u v) = m_needed u := nrfl rfl
theorem rq_m_needed_versions (u : MS) (v : Nat → Int32) : m_needed (ms_versions u v) = m_needed u := nrfl rfl
theorem rq_m_needed_locks (u : MS) (v : Nat → Int32) : m_needed (ms_locks u v) = m_needed u := nrfl rfl
theorem rq_m_needed_chosen (u : MS) (v : Nat → Int32) : m_needed (ms_chosen u v) = m_needed u := nrfl rfl
theorem rq_m_needed_value (u : MS) (v : Nat → Int32) : m_needed (ms_value u v) = m_needed u := nrfl rfl
theorem rq_m_needed_order (u : MS) (v : Nat → Int32) : m_needed (ms_order u v) = m_needed u := nrfl rfl
theorem rq_m_needed_option (u : MS) (v : Nat → Int32) : m_needed (ms_option u v) = m_needed u := nrfl rfl
theorem rq_m_needed_blames0 (u : MS) (v : Nat → Int32) : m_needed (ms_blames0 u v) = m_needed u := nrfl rfl
theorem rq_m_needed_packages (u : MS) (v : Int32) : m_needed (ms_packages u v) = m_needed u := nrfl rfl
theorem rq_m_needed_rows (u : MS) (v : Int32) : m_needed (ms_rows u v) = m_needed u := nrfl rfl
theorem rq_m_needed_demands (u : MS) (v : Int32) : m_needed (ms_demands u v) = m_needed u := nrfl rfl
theorem rq_m_needed_needed (u : MS) (v : Int32) : m_needed (ms_needed u v) = v := nrfl rfl
theorem rq_m_needed_pack (u : MS) (v : Nat → Int32) : m_needed (ms_pack u v) = m_needed u := nrfl rfl
theorem rq_m_needed_version (u : MS) (v : Nat → Int32) : m_needed (ms_version u v) = m_needed u := nrfl rfl
theorem rq_m_needed_kind (u : MS) (v : Nat → Int32) : m_needed (ms_kind u v) = m_needed u := nrfl rfl
theorem rq_m_needed_many (u : MS) (v : Nat → Int32) : m_needed (ms_many u v) = m_needed u := nrfl rfl
theorem rq_m_needed_other (u : MS) (v : Nat → Int32) : m_needed (ms_other u v) = m_needed u := nrfl rfl
theorem rq_m_needed_set (u : MS) (v : Nat → Int32) : m_needed (ms_set u v) = m_needed u := nrfl rfl
theorem rq_m_needed_out (u : MS) (v : Nat → Int32) : m_needed (ms_out u v) = m_needed u := nrfl rfl
theorem rq_m_needed_away (u : MS) (v : Nat → Int32) : m_needed (ms_away u v) = m_needed u := nrfl rfl
theorem rq_m_needed_latest (u : MS) (v : Int32) : m_needed (ms_latest u v) = m_needed u := nrfl rfl
theorem rq_m_needed_blamed (u : MS) (v : Nat → Int32) : m_needed (ms_blamed u v) = m_needed u := nrfl rfl
theorem rq_m_needed_blames (u : MS) (v : Int32) : m_needed (ms_blames u v) = m_needed u := nrfl rfl
theorem rq_m_pack_code (u : MS) (v : Int32) : m_pack (ms_code u v) = m_pack u := nrfl rfl
theorem rq_m_pack_versions (u : MS) (v : Nat → Int32) : m_pack (ms_versions u v) = m_pack u := nrfl rfl
theorem rq_m_pack_locks (u : MS) (v : Nat → Int32) : m_pack (ms_locks u v) = m_pack u := nrfl rfl
theorem rq_m_pack_chosen (u : MS) (v : Nat → Int32) : m_pack (ms_chosen u v) = m_pack u := nrfl rfl
theorem rq_m_pack_value (u : MS) (v : Nat → Int32) : m_pack (ms_value u v) = m_pack u := nrfl rfl
theorem rq_m_pack_order (u : MS) (v : Nat → Int32) : m_pack (ms_order u v) = m_pack u := nrfl rfl
theorem rq_m_pack_option (u : MS) (v : Nat → Int32) : m_pack (ms_option u v) = m_pack u := nrfl rfl
theorem rq_m_pack_blames0 (u : MS) (v : Nat → Int32) : m_pack (ms_blames0 u v) = m_pack u := nrfl rfl
theorem rq_m_pack_packages (u : MS) (v : Int32) : m_pack (ms_packages u v) = m_pack u := nrfl rfl
theorem rq_m_pack_rows (u : MS) (v : Int32) : m_pack (ms_rows u v) = m_pack u := nrfl rfl
theorem rq_m_pack_demands (u : MS) (v : Int32) : m_pack (ms_demands u v) = m_pack u := nrfl rfl
theorem rq_m_pack_needed (u : MS) (v : Int32) : m_pack (ms_needed u v) = m_pack u := nrfl rfl
theorem rq_m_pack_pack (u : MS) (v : Nat → Int32) : m_pack (ms_pack u v) = v := nrfl rfl
theorem rq_m_pack_version (u : MS) (v : Nat → Int32) : m_pack (ms_version u v) = m_pack u := nrfl rfl
theorem rq_m_pack_kind (u : MS) (v : Nat → Int32) : m_pack (ms_kind u v) = m_pack u := nrfl rfl
theorem rq_m_pack_many (u : MS) (v : Nat → Int32) : m_pack (ms_many u v) = m_pack u := nrfl rfl
theorem rq_m_pack_other (u : MS) (v : Nat → Int32) : m_pack (ms_other u v) = m_pack u := nrfl rfl
theorem rq_m_pack_set (u : MS) (v : Nat → Int32) : m_pack (ms_set u v) = m_pack u := nrfl rfl
theorem rq_m_pack_out (u : MS) (v : Nat → Int32) : m_pack (ms_out u v) = m_pack u := nrfl rfl
theorem rq_m_pack_away (u : MS) (v : Nat → Int32) : m_pack (ms_away u v) = m_pack u := nrfl rfl
theorem rq_m_pack_latest (u : MS) (v : Int32) : m_pack (ms_latest u v) = m_pack u := nrfl rfl
theorem rq_m_pack_blamed (u : MS) (v : Nat → Int32) : m_pack (ms_blamed u v) = m_pack u := nrfl rfl
theorem rq_m_pack_blames (u : MS) (v : Int32) : m_pack (ms_blames u v) = m_pack u := nrfl rfl
theorem rq_m_version_code (u : MS) (v : Int32) : m_version (ms_code u v) = m_version u := nrfl rfl
theorem rq_m_version_versions (u : MS) (v : Nat → Int32) : m_version (ms_versions u v) = m_version u := nrfl rfl
theorem rq_m_version_locks (u : MS) (v : Nat → Int32) : m_version (ms_locks u v) = m_version u := nrfl rfl
theorem rq_m_version_chosen (u : MS) (v : Nat → Int32) : m_version (ms_chosen u v) = m_version u := nrfl rfl
theorem rq_m_version_value (u : MS) (v : Nat → Int32) : m_version (ms_value u v) = m_version u := nrfl rfl
theorem rq_m_version_order (u : MS) (v : Nat → Int32) : m_version (ms_order u v) = m_version u := nrfl rfl
theorem rq_m_version_option (u : MS) (v : Nat → Int32) : m_version (ms_option u v) = m_version u := nrfl rfl
theorem rq_m_version_blames0 (u : MS) (v : Nat → Int32) : m_version (ms_blames0 u v) = m_version u := nrfl rfl
theorem rq_m_version_packages (u : MS) (v : Int32) : m_version (ms_packages u v) = m_version u := nrfl rfl
theorem rq_m_version_rows (u : MS) (v : Int32) : m_version (ms_rows u v) = m_version u := nrfl rfl
theorem rq_m_version_demands (u : MS) (v : Int32) : m_version (ms_demands u v) = m_version u := nrfl rfl
theorem rq_m_version_needed (u : MS) (v : Int32) : m_version (ms_needed u v) = m_version u := nrfl rfl
theorem rq_m_version_pack (u : MS) (v : Nat → Int32) : m_version (ms_pack u v) = m_version u := nrfl rfl
theorem rq_m_version_version (u : MS) (v : Nat → Int32) : m_version (ms_version u v) = v := nrfl rfl
theorem rq_m_version_kind (u : MS) (v : Nat → Int32) : m_version (ms_kind u v) = m_version u := nrfl rfl
theorem rq_m_version_many (u : MS) (v : Nat → Int32) : m_version (ms_many u v) = m_version u := nrfl rfl
theorem rq_m_version_other (u : MS) (v : Nat → Int32) : m_version (ms_other u v) = m_version u := nrfl rfl
theorem rq_m_version_set (u : MS) (v : Nat → Int32) : m_version (ms_set u v) = m_version u := nrfl rfl
theorem rq_m_version_out (u : MS) (v : Nat → Int32) : m_version (ms_out u v) = m_version u := nrfl rfl
theorem rq_m_version_away (u : MS) (v : Nat → Int32) : m_version (ms_away u v) = m_version u := nrfl rfl
theorem rq_m_version_latest (u : MS) (v : Int32) : m_version (ms_latest u v) = m_version u := nrfl rfl
theorem rq_m_version_blamed (u : MS) (v : Nat → Int32) : m_version (ms_blamed u v) = m_version u := nrfl rfl
theorem rq_m_version_blames (u : MS) (v : Int32) : m_version (ms_blames u v) = m_version u := nrfl rfl
theorem rq_m_kind_code (u : MS) (v : Int32) : m_kind (ms_code u v) = m_kind u := nrfl rfl
theorem rq_m_kind_versions (u : MS) (v : Nat → Int32) : m_kind (ms_versions u v) = m_kind u := nrfl rfl
theorem rq_m_kind_locks (u : MS) (v : Nat → Int32) : m_kind (ms_locks u v) = m_kind u := nrfl rfl
theorem rq_m_kind_chosen (u : MS) (v : Nat → Int32) : m_kind (ms_chosen u v) = m_kind u := nrfl rfl
theorem rq_m_kind_value (u : MS) (v : Nat → Int32) : m_kind (ms_value u v) = m_kind u := nrfl rfl
theorem rq_m_kind_order (u : MS) (v : Nat → Int32) : m_kind (ms_order u v) = m_kind u := nrfl rfl
theorem rq_m_kind_option (u : MS) (v : Nat → Int32) : m_kind (ms_option u v) = m_kind u := nrfl rfl
theorem rq_m_kind_blames0 (u : MS) (v : Nat → Int32) : m_kind (ms_blames0 u v) = m_kind u := nrfl rfl
theorem rq_m_kind_packages (u : MS) (v : Int32) : m_kind (ms_packages u v) = m_kind u := nrfl rfl
theorem rq_m_kind_rows (u : MS) (v : Int32) : m_kind (ms_rows u v) = m_kind u := nrfl rfl
theorem rq_m_kind_demands (u : MS) (v : Int32) : m_kind (ms_demands u v) = m_kind u := nrfl rfl
theorem rq_m_kind_needed (u : MS) (v : Int32) : m_kind (ms_needed u v) = m_kind u := nrfl rfl
theorem rq_m_kind_pack (u : MS) (v : Nat → Int32) : m_kind (ms_pack u v) = m_kind u := nrfl rfl
theorem rq_m_kind_version (u : MS) (v : Nat → Int32) : m_kind (ms_version u v) = m_kind u := nrfl rfl
theorem rq_m_kind_kind (u : MS) (v : Nat → Int32) : m_kind (ms_kind u v) = v := nrfl rfl
theorem rq_m_kind_many (u : MS) (v : Nat → Int32) : m_kind (ms_many u v) = m_kind u := nrfl rfl
theorem rq_m_kind_other (u : MS) (v : Nat → Int32) : m_kind (ms_other u v) = m_kind u := nrfl rfl
theorem rq_m_kind_set (u : MS) (v : Nat → Int32) : m_kind (ms_set u v) = m_kind u := nrfl rfl
theorem rq_m_kind_out (u : MS) (v : Nat → Int32) : m_kind (ms_out u v) = m_kind u := nrfl rfl
theorem rq_m_kind_away (u : MS) (v : Nat → Int32) : m_kind (ms_away u v) = m_kind u := nrfl rfl
theorem rq_m_kind_latest (u : MS) (v : Int32) : m_kind (ms_latest u v) = m_kind u := nrfl rfl
theorem rq_m_kind_blamed (u : MS) (v : Nat → Int32) : m_kind (ms_blamed u v) = m_kind u := nrfl rfl
theorem rq_m_kind_blames (u : MS) (v : Int32) : m_kind (ms_blames u v) = m_kind u := nrfl rfl
theorem rq_m_many_code (u : MS) (v : Int32) : m_many (ms_code u v) = m_many u := nrfl rfl
theorem rq_m_many_versions (u : MS) (v : Nat → Int32) : m_many (ms_versions u v) = m_many u := nrfl rfl
theorem rq_m_many_locks (u : MS) (v : Nat → Int32) : m_many (ms_locks u v) = m_many u := nrfl rfl
theorem rq_m_many_chosen (u : MS) (v : Nat → Int32) : m_many (ms_chosen u v) = m_many u := nrfl rfl
theorem rq_m_many_value (u : MS) (v : Nat → Int32) : m_many (ms_value u v) = m_many u := nrfl rfl
theorem rq_m_many_order (u : MS) (v : Nat → Int32) : m_many (ms_order u v) = m_many u := nrfl rfl
theorem rq_m_many_option (u : MS) (v : Nat → Int32) : m_many (ms_option u v) = m_many u := nrfl rfl
theorem rq_m_many_blames0 (u : MS) (v : Nat → Int32) : m_many (ms_blames0 u v) = m_many u := nrfl rfl
theorem rq_m_many_packages (u : MS) (v : Int32) : m_many (ms_packages u v) = m_many u := nrfl rfl
theorem rq_m_many_rows (u : MS) (v : Int32) : m_many (ms_rows u v) = m_many u := nrfl rfl
theorem rq_m_many_demands (u : MS) (v : Int32) : m_many (ms_demands u v) = m_many u := nrfl rfl
theorem rq_m_many_needed (u : MS) (v : Int32) : m_many (ms_needed u v) = m_many u := nrfl rfl
theorem rq_m_many_pack (u : MS) (v : Nat → Int32) : m_many (ms_pack u v) = m_many u := nrfl rfl
theorem rq_m_many_version (u : MS) (v : Nat → Int32) : m_many (ms_version u v) = m_many u := nrfl rfl
theorem rq_m_many_kind (u : MS) (v : Nat → Int32) : m_many (ms_kind u v) = m_many u := nrfl rfl
theorem rq_m_many_many (u : MS) (v : Nat → Int32) : m_many (ms_many u v) = v := nrfl rfl
theorem rq_m_many_other (u : MS) (v : Nat → Int32) : m_many (ms_other u v) = m_many u := nrfl rfl
theorem rq_m_many_set (u : MS) (v : Nat → Int32) : m_many (ms_set u v) = m_many u := nrfl rfl
theorem rq_m_many_out (u : MS) (v : Nat → Int32) : m_many (ms_out u v) = m_many u := nrfl rfl
theorem rq_m_many_away (u : MS) (v : Nat → Int32) : m_many (ms_away u v) = m_many u := nrfl rfl
theorem rq_m_many_latest (u : MS) (v : Int32) : m_many (ms_latest u v) = m_many u := nrfl rfl
theorem rq_m_many_blamed (u : MS) (v : Nat → Int32) : m_many (ms_blamed u v) = m_many u := nrfl rfl
theorem rq_m_many_blames (u : MS) (v : Int32) : m_many (ms_blames u v) = m_many u := nrfl rfl
theorem rq_m_other_code (u : MS) (v : Int32) : m_other (ms_code u v) = m_other u := nrfl rfl
theorem rq_m_other_versions (u : MS) (v : Nat → Int32) : m_other (ms_versions u v) = m_other u := nrfl rfl
theorem rq_m_other_locks (u : MS) (v : Nat → Int32) : m_other (ms_locks u v) = m_other u := nrfl rfl
theorem rq_m_other_chosen (u : MS) (v : Nat → Int32) : m_other (ms_chosen u v) = m_other u := nrfl rfl
theorem rq_m_other_value (u : MS) (v : Nat → Int32) : m_other (ms_value u v) = m_other u := nrfl rfl
theorem rq_m_other_order (u : MS) (v : Nat → Int32) : m_other (ms_order u v) = m_other u := nrfl rfl
theorem rq_m_other_option (u : MS) (v : Nat → Int32) : m_other (ms_option u v) = m_other u := nrfl rfl
theorem rq_m_other_blames0 (u : MS) (v : Nat → Int32) : m_other (ms_blames0 u v) = m_other u := nrfl rfl
theorem rq_m_other_packages (u : MS) (v : Int32) : m_other (ms_packages u v) = m_other u := nrfl rfl
theorem rq_m_other_rows (u : MS) (v : Int32) : m_other (ms_rows u v) = m_other u := nrfl rfl
theorem rq_m_other_demands (u : MS) (v : Int32) : m_other (ms_demands u v) = m_other u := nrfl rfl
theorem rq_m_other_needed (u : MS) (v : Int32) : m_other (ms_needed u v) = m_other u := nrfl rfl
theorem rq_m_other_pack (u : MS) (v : Nat → Int32) : m_other (ms_pack u v) = m_other u := nrfl rfl
theorem rq_m_other_version (u : MS) (v : Nat → Int32) : m_other (ms_version u v) = m_other u := nrfl rfl
theorem rq_m_other_kind (u : MS) (v : Nat → Int32) : m_other (ms_kind u v) = m_other u := nrfl rfl
theorem rq_m_other_many (u : MS) (v : Nat → Int32) : m_other (ms_many u v) = m_other u := nrfl rfl
theorem rq_m_other_other (u : MS) (v : Nat → Int32) : m_other (ms_other u v) = v := nrfl rfl
theorem rq_m_other_set (u : MS) (v : Nat → Int32) : m_other (ms_set u v) = m_other u := nrfl rfl
theorem rq_m_other_out (u : MS) (v : Nat → Int32) : m_other (ms_out u v) = m_other u := nrfl rfl
theorem rq_m_other_away (u : MS) (v : Nat → Int32) : m_other (ms_away u v) = m_other u := nrfl rfl
theorem rq_m_other_latest (u : MS) (v : Int32) : m_other (ms_latest u v) = m_other u := nrfl rfl
theorem rq_m_other_blamed (u : MS) (v : Nat → Int32) : m_other (ms_blamed u v) = m_other u := nrfl rfl
theorem rq_m_other_blames (u : MS) (v : Int32) : m_other (ms_blames u v) = m_other u := nrfl rfl
theorem rq_m_set_code (u : MS) (v : Int32) : m_set (ms_code u v) = m_set u := nrfl rfl
theorem rq_m_set_versions (u : MS) (v : Nat → Int32) : m_set (ms_versions u v) = m_set u := nrfl rfl
theorem rq_m_set_locks (u : MS) (v : Nat → Int32) : m_set (ms_locks u v) = m_set u := nrfl rfl
theorem rq_m_set_chosen (u : MS) (v : Nat → Int32) : m_set (ms_chosen u v) = m_set u := nrfl rfl
theorem rq_m_set_value (u : MS) (v : Nat → Int32) : m_set (ms_value u v) = m_set u := nrfl rfl
theorem rq_m_set_order (u : MS) (v : Nat → Int32) : m_set (ms_order u v) = m_set u := nrfl rfl
theorem rq_m_set_option (u : MS) (v : Nat → Int32) : m_set (ms_option u v) = m_set u := nrfl rfl
theorem rq_m_set_blames0 (u : MS) (v : Nat → Int32) : m_set (ms_blames0 u v) = m_set u := nrfl rfl
theorem rq_m_set_packages (u : MS) (v : Int32) : m_set (ms_packages u v) = m_set u := nrfl rfl
theorem rq_m_set_rows (u : MS) (v : Int32) : m_set (ms_rows u v) = m_set u := nrfl rfl
theorem rq_m_set_demands (u : MS) (v : Int32) : m_set (ms_demands u v) = m_set u := nrfl rfl
theorem rq_m_set_needed (u : MS) (v : Int32) : m_set (ms_needed u v) = m_set u := nrfl rfl
theorem rq_m_set_pack (u : MS) (v : Nat → Int32) : m_set (ms_pack u v) = m_set u := nrfl rfl
theorem rq_m_set_version (u : MS) (v : Nat → Int32) : m_set (ms_version u v) = m_set u := nrfl rfl
theorem rq_m_set_kind (u : MS) (v : Nat → Int32) : m_set (ms_kind u v) = m_set u := nrfl rfl
theorem rq_m_set_many (u : MS) (v : Nat → Int32) : m_set (ms_many u v) = m_set u := nrfl rfl
theorem rq_m_set_other (u : MS) (v : Nat → Int32) : m_set (ms_other u v) = m_set u := nrfl rfl
theorem rq_m_set_set (u : MS) (v : Nat → Int32) : m_set (ms_set u v) = v := nrfl rfl
theorem rq_m_set_out (u : MS) (v : Nat → Int32) : m_set (ms_out u v) = m_set u := nrfl rfl
theorem rq_m_set_away (u : MS) (v : Nat → Int32) : m_set (ms_away u v) = m_set u := nrfl rfl
theorem rq_m_set_latest (u : MS) (v : Int32) : m_set (ms_latest u v) = m_set u := nrfl rfl
theorem rq_m_set_blamed (u : MS) (v : Nat → Int32) : m_set (ms_blamed u v) = m_set u := nrfl rfl
theorem rq_m_set_blames (u : MS) (v : Int32) : m_set (ms_blames u v) = m_set u := nrfl rfl
theorem rq_m_out_code (u : MS) (v : Int32) : m_out (ms_code u v) = m_out u := nrfl rfl
theorem rq_m_out_versions (u : MS) (v : Nat → Int32) : m_out (ms_versions u v) = m_out u := nrfl rfl
theorem rq_m_out_locks (u : MS) (v : Nat → Int32) : m_out (ms_locks u v) = m_out u := nrfl rfl
theorem rq_m_out_chosen (u : MS) (v : Nat → Int32) : m_out (ms_chosen u v) = m_out u := nrfl rfl
theorem rq_m_out_value (u : MS) (v : Nat → Int32) : m_out (ms_value u v) = m_out u := nrfl rfl
theorem rq_m_out_order (u : MS) (v : Nat → Int32) : m_out (ms_order u v) = m_out u := nrfl rfl
theorem rq_m_out_option (u : MS) (v : Nat → Int32) : m_out (ms_option u v) = m_out u := nrfl rfl
theorem rq_m_out_blames0 (u : MS) (v : Nat → Int32) : m_out (ms_blames0 u v) = m_out u := nrfl rfl
theorem rq_m_out_packages (u : MS) (v : Int32) : m_out (ms_packages u v) = m_out u := nrfl rfl
theorem rq_m_out_rows (u : MS) (v : Int32) : m_out (ms_rows u v) = m_out u := nrfl rfl
theorem rq_m_out_demands (u : MS) (v : Int32) : m_out (ms_demands u v) = m_out u := nrfl rfl
theorem rq_m_out_needed (u : MS) (v : Int32) : m_out (ms_needed u v) = m_out u := nrfl rfl
theorem rq_m_out_pack (u : MS) (v : Nat → Int32) : m_out (ms_pack u v) = m_out u := nrfl rfl
theorem rq_m_out_version (u : MS) (v : Nat → Int32) : m_out (ms_version u v) = m_out u := nrfl rfl
theorem rq_m_out_kind (u : MS) (v : Nat → Int32) : m_out (ms_kind u v) = m_out u := nrfl rfl
theorem rq_m_out_many (u : MS) (v : Nat → Int32) : m_out (ms_many u v) = m_out u := nrfl rfl
theorem rq_m_out_other (u : MS) (v : Nat → Int32) : m_out (ms_other u v) = m_out u := nrfl rfl
theorem rq_m_out_set (u : MS) (v : Nat → Int32) : m_out (ms_set u v) = m_out u := nrfl rfl
theorem rq_m_out_out (u : MS) (v : Nat → Int32) : m_out (ms_out u v) = v := nrfl rfl
theorem rq_m_out_away (u : MS) (v : Nat → Int32) : m_out (ms_away u v) = m_out u := nrfl rfl
theorem rq_m_out_latest (u : MS) (v : Int32) : m_out (ms_latest u v) = m_out u := nrfl rfl
theorem rq_m_out_blamed (u : MS) (v : Nat → Int32) : m_out (ms_blamed u v) = m_out u := nrfl rfl
theorem rq_m_out_blames (u : MS) (v : Int32) : m_out (ms_blames u v) = m_out u := nrfl rfl
theorem rq_m_away_code (u : MS) (v : Int32) : m_away (ms_code u v) = m_away u := nrfl rfl
theorem rq_m_away_versions (u : MS) (v : Nat → Int32) : m_away (ms_versions u v) = m_away u := nrfl rfl
theorem rq_m_away_locks (u : MS) (v : Nat → Int32) : m_away (ms_locks u v) = m_away u := nrfl rfl
theorem rq_m_away_chosen (u : MS) (v : Nat → Int32) : m_away (ms_chosen u v) = m_away u := nrfl rfl
theorem rq_m_away_value (u : MS) (v : Nat → Int32) : m_away (ms_value u v) = m_away u := nrfl rfl
theorem rq_m_away_order (u : MS) (v : Nat → Int32) : m_away (ms_order u v) = m_away u := nrfl rfl
theorem rq_m_away_option (u : MS) (v : Nat → Int32) : m_away (ms_option u v) = m_away u := nrfl rfl
theorem rq_m_away_blames0 (u : MS) (v : Nat → Int32) : m_away (ms_blames0 u v) = m_away u := nrfl rfl
theorem rq_m_away_packages (u : MS) (v : Int32) : m_away (ms_packages u v) = m_away u := nrfl rfl
theorem rq_m_away_rows (u : MS) (v : Int32) : m_away (ms_rows u v) = m_away u := nrfl rfl
theorem rq_m_away_demands (u : MS) (v : Int32) : m_away (ms_demands u v) = m_away u := nrfl rfl
theorem rq_m_away_needed (u : MS) (v : Int32) : m_away (ms_needed u v) = m_away u := nrfl rfl
theorem rq_m_away_pack (u : MS) (v : Nat → Int32) : m_away (ms_pack u v) = m_away u := nrfl rfl
theorem rq_m_away_version (u : MS) (v : Nat → Int32) : m_away (ms_version u v) = m_away u := nrfl rfl
theorem rq_m_away_kind (u : MS) (v : Nat → Int32) : m_away (ms_kind u v) = m_away u := nrfl rfl
theorem rq_m_away_many (u : MS) (v : Nat → Int32) : m_away (ms_many u v) = m_away u := nrfl rfl
theorem rq_m_away_other (u : MS) (v : Nat → Int32) : m_away (ms_other u v) = m_away u := nrfl rfl
theorem rq_m_away_set (u : MS) (v : Nat → Int32) : m_away (ms_set u v) = m_away u := nrfl rfl
theorem rq_m_away_out (u : MS) (v : Nat → Int32) : m_away (ms_out u v) = m_away u := nrfl rfl
theorem rq_m_away_away (u : MS) (v : Nat → Int32) : m_away (ms_away u v) = v := nrfl rfl
theorem rq_m_away_latest (u : MS) (v : Int32) : m_away (ms_latest u v) = m_away u := nrfl rfl
theorem rq_m_away_blamed (u : MS) (v : Nat → Int32) : m_away (ms_blamed u v) = m_away u := nrfl rfl
theorem rq_m_away_blames (u : MS) (v : Int32) : m_away (ms_blames u v) = m_away u := nrfl rfl
theorem rq_m_latest_code (u : MS) (v : Int32) : m_latest (ms_code u v) = m_latest u := nrfl rfl
theorem rq_m_latest_versions (u : MS) (v : Nat → Int32) : m_latest (ms_versions u v) = m_latest u := nrfl rfl
theorem rq_m_latest_locks (u : MS) (v : Nat → Int32) : m_latest (ms_locks u v) = m_latest u := nrfl rfl
theorem rq_m_latest_chosen (u : MS) (v : Nat → Int32) : m_latest (ms_chosen u v) = m_latest u := nrfl rfl
theorem rq_m_latest_value (u : MS) (v : Nat → Int32) : m_latest (ms_value u v) = m_latest u := nrfl rfl
theorem rq_m_latest_order (u : MS) (v : Nat → Int32) : m_latest (ms_order u v) = m_latest u := nrfl rfl
theorem rq_m_latest_option (u : MS) (v : Nat → Int32) : m_latest (ms_option u v) = m_latest u := nrfl rfl
theorem rq_m_latest_blames0 (u : MS) (v : Nat → Int32) : m_latest (ms_blames0 u v) = m_latest u := nrfl rfl
theorem rq_m_latest_packages (u : MS) (v : Int32) : m_latest (ms_packages u v) = m_latest u := nrfl rfl
theorem rq_m_latest_rows (u : MS) (v : Int32) : m_latest (ms_rows u v) = m_latest u := nrfl rfl
theorem rq_m_latest_demands (u : MS) (v : Int32) : m_latest (ms_demands u v) = m_latest u := nrfl rfl
theorem rq_m_latest_needed (u : MS) (v : Int32) : m_latest (ms_needed u v) = m_latest u := nrfl rfl
theorem rq_m_latest_pack (u : MS) (v : Nat → Int32) : m_latest (ms_pack u v) = m_latest u := nrfl rfl
theorem rq_m_latest_version (u : MS) (v : Nat → Int32) : m_latest (ms_version u v) = m_latest u := nrfl rfl
theorem rq_m_latest_kind (u : MS) (v : Nat → Int32) : m_latest (ms_kind u v) = m_latest u := nrfl rfl
theorem rq_m_latest_many (u : MS) (v : Nat → Int32) : m_latest (ms_many u v) = m_latest u := nrfl rfl
theorem rq_m_latest_other (u : MS) (v : Nat → Int32) : m_latest (ms_other u v) = m_latest u := nrfl rfl
theorem rq_m_latest_set (u : MS) (v : Nat → Int32) : m_latest (ms_set u v) = m_latest u := nrfl rfl
theorem rq_m_latest_out (u : MS) (v : Nat → Int32) : m_latest (ms_out u v) = m_latest u := nrfl rfl
theorem rq_m_latest_away (u : MS) (v : Nat → Int32) : m_latest (ms_away u v) = m_latest u := nrfl rfl
theorem rq_m_latest_latest (u : MS) (v : Int32) : m_latest (ms_latest u v) = v := nrfl rfl
theorem rq_m_latest_blamed (u : MS) (v : Nat → Int32) : m_latest (ms_blamed u v) = m_latest u := nrfl rfl
theorem rq_m_latest_blames (u : MS) (v : Int32) : m_latest (ms_blames u v) = m_latest u := nrfl rfl
theorem rq_m_blamed_code (u : MS) (v : Int32) : m_blamed (ms_code u v) = m_blamed u := nrfl rfl
theorem rq_m_blamed_versions (u : MS) (v : Nat → Int32) : m_blamed (ms_versions u v) = m_blamed u := nrfl rfl
theorem rq_m_blamed_locks (u : MS) (v : Nat → Int32) : m_blamed (ms_locks u v) = m_blamed u := nrfl rfl
theorem rq_m_blamed_chosen (u : MS) (v : Nat → Int32) : m_blamed (ms_chosen u v) = m_blamed u := nrfl rfl
theorem rq_m_blamed_value (u : MS) (v : Nat → Int32) : m_blamed (ms_value u v) = m_blamed u := nrfl rfl
theorem rq_m_blamed_order (u : MS) (v : Nat → Int32) : m_blamed (ms_order u v) = m_blamed u := nrfl rfl
theorem rq_m_blamed_option (u : MS) (v : Nat → Int32) : m_blamed (ms_option u v) = m_blamed u := nrfl rfl
theorem rq_m_blamed_blames0 (u : MS) (v : Nat → Int32) : m_blamed (ms_blames0 u v) = m_blamed u := nrfl rfl
theorem rq_m_blamed_packages (u : MS) (v : Int32) : m_blamed (ms_packages u v) = m_blamed u := nrfl rfl
theorem rq_m_blamed_rows (u : MS) (v : Int32) : m_blamed (ms_rows u v) = m_blamed u := nrfl rfl
theorem rq_m_blamed_demands (u : MS) (v : Int32) : m_blamed (ms_demands u v) = m_blamed u := nrfl rfl
theorem rq_m_blamed_needed (u : MS) (v : Int32) : m_blamed (ms_needed u v) = m_blamed u := nrfl rfl
theorem rq_m_blamed_pack (u : MS) (v : Nat → Int32) : m_blamed (ms_pack u v) = m_blamed u := nrfl rfl
theorem rq_m_blamed_version (u : MS) (v : Nat → Int32) : m_blamed (ms_version u v) = m_blamed u := nrfl rfl
theorem rq_m_blamed_kind (u : MS) (v : Nat → Int32) : m_blamed (ms_kind u v) = m_blamed u := nrfl rfl
theorem rq_m_blamed_many (u : MS) (v : Nat → Int32) : m_blamed (ms_many u v) = m_blamed u := nrfl rfl
theorem rq_m_blamed_other (u : MS) (v : Nat → Int32) : m_blamed (ms_other u v) = m_blamed u := nrfl rfl
theorem rq_m_blamed_set (u : MS) (v : Nat → Int32) : m_blamed (ms_set u v) = m_blamed u := nrfl rfl
theorem rq_m_blamed_out (u : MS) (v : Nat → Int32) : m_blamed (ms_out u v) = m_blamed u := nrfl rfl
theorem rq_m_blamed_away (u : MS) (v : Nat → Int32) : m_blamed (ms_away u v) = m_blamed u := nrfl rfl
theorem rq_m_blamed_latest (u : MS) (v : Int32) : m_blamed (ms_latest u v) = m_blamed u := nrfl rfl
theorem rq_m_blamed_blamed (u : MS) (v : Nat → Int32) : m_blamed (ms_blamed u v) = v := nrfl rfl
theorem rq_m_blamed_blames (u : MS) (v : Int32) : m_blamed (ms_blames u v) = m_blamed u := nrfl rfl
theorem rq_m_blames_code (u : MS) (v : Int32) : m_blames (ms_code u v) = m_blames u := nrfl rfl
theorem rq_m_blames_versions (u : MS) (v : Nat → Int32) : m_blames (ms_versions u v) = m_blames u := nrfl rfl
theorem rq_m_blames_locks (u : MS) (v : Nat → Int32) : m_blames (ms_locks u v) = m_blames u := nrfl rfl
theorem rq_m_blames_chosen (u : MS) (v : Nat → Int32) : m_blames (ms_chosen u v) = m_blames u := nrfl rfl
theorem rq_m_blames_value (u : MS) (v : Nat → Int32) : m_blames (ms_value u v) = m_blames u := nrfl rfl
theorem rq_m_blames_order (u : MS) (v : Nat → Int32) : m_blames (ms_order u v) = m_blames u := nrfl rfl
theorem rq_m_blames_option (u : MS) (v : Nat → Int32) : m_blames (ms_option u v) = m_blames u := nrfl rfl
theorem rq_m_blames_blames0 (u : MS) (v : Nat → Int32) : m_blames (ms_blames0 u v) = m_blames u := nrfl rfl
theorem rq_m_blames_packages (u : MS) (v : Int32) : m_blames (ms_packages u v) = m_blames u := nrfl rfl
theorem rq_m_blames_rows (u : MS) (v : Int32) : m_blames (ms_rows u v) = m_blames u := nrfl rfl
theorem rq_m_blames_demands (u : MS) (v : Int32) : m_blames (ms_demands u v) = m_blames u := nrfl rfl
theorem rq_m_blames_needed (u : MS) (v : Int32) : m_blames (ms_needed u v) = m_blames u := nrfl rfl
theorem rq_m_blames_pack (u : MS) (v : Nat → Int32) : m_blames (ms_pack u v) = m_blames u := nrfl rfl
theorem rq_m_blames_version (u : MS) (v : Nat → Int32) : m_blames (ms_version u v) = m_blames u := nrfl rfl
theorem rq_m_blames_kind (u : MS) (v : Nat → Int32) : m_blames (ms_kind u v) = m_blames u := nrfl rfl
theorem rq_m_blames_many (u : MS) (v : Nat → Int32) : m_blames (ms_many u v) = m_blames u := nrfl rfl
theorem rq_m_blames_other (u : MS) (v : Nat → Int32) : m_blames (ms_other u v) = m_blames u := nrfl rfl
theorem rq_m_blames_set (u : MS) (v : Nat → Int32) : m_blames (ms_set u v) = m_blames u := nrfl rfl
theorem rq_m_blames_out (u : MS) (v : Nat → Int32) : m_blames (ms_out u v) = m_blames u := nrfl rfl
theorem rq_m_blames_away (u : MS) (v : Nat → Int32) : m_blames (ms_away u v) = m_blames u := nrfl rfl
theorem rq_m_blames_latest (u : MS) (v : Int32) : m_blames (ms_latest u v) = m_blames u := nrfl rfl
theorem rq_m_blames_blamed (u : MS) (v : Nat → Int32) : m_blames (ms_blamed u v) = m_blames u := nrfl rfl
theorem rq_m_blames_blames (u : MS) (v : Int32) : m_blames (ms_blames u v) = v := nrfl rfl
