/-! CONSTRUCTOR of RopedHalls: its walk (laid by wip/whole/gen/gen_cons2.py) -/
set_option maxHeartbeats 4000000 in
set_option maxRecDepth 100000 in
theorem i_X5 (l : Launch) (D : va_G) (cA : Nat → ClassId) (h0 sz : Nat) : Met l yX5_init wsX5_init ({ frames := 3, cells := 102, slots := 2399, locals := 53 }) (va_Pc [.ref h0] (fun U => U.heap.size = sz ∧ va_P D vwCl [(h0, .inr (5, [.null, .null, .null, .null, .null, .null, .null, .null, .int 0, .int 0]))] U.heap ∧ va_K D vwCl (je_T cA) U ∧ va_D (fun _ => True) [(h0, .inr (5, [.null, .null, .null, .null, .null, .null, .null, .null, .int 0, .int 0]))] ∧ (∀ w ∈ xnest, va_Nw w U) ∧ va_AO "RopedHalls$Hall" U)) (va_Qv (fun ad : je_C → Nat => ad (5, 0, 0) = h0) (fun ad t => va_P D vwCl (ids5.map (xF ad cA)) t.heap ∧ va_K D vwCl (je_T cA) t ∧ va_D (va_A [(h0, .inr (5, [.null, .null, .null, .null, .null, .null, .null, .null, .int 0, .int 0]))] sz) (ids5.map (xF ad cA))) (va_A [(h0, .inr (5, [.null, .null, .null, .null, .null, .null, .null, .null, .int 0, .int 0]))] sz)) 102 2399 (va_A [(h0, .inr (5, [.null, .null, .null, .null, .null, .null, .null, .null, .int 0, .int 0]))] sz) := by
  refine Met.ofW (cc := cX5_init) (maxL := 2) (ret := none) (by decide) rfl ?_
  intro p e s m args below meth c s₁ B hml hv
  obtain ⟨rfl, hsz, hP, hK, hD0, hN, hAO⟩ := hv
  have hx := B.exec
  have hb := B.bytes
  have hr := B.returns
  have hts := atoms_spec (ws := wsX5_init) B.pre
  have hown : s.vm.findClass RX5 = some m.cls := findClass_of_methodNamed B.named
  have hin : meth.name = "<init>" := (name_of_methodNamed B.named B.method).1
  subst hsz
  have hD := hD0.self (sz := s.heap.size)
  generalize hAe : va_A [(h0, .inr (5, [.null, .null, .null, .null, .null, .null, .null, .null, .int 0, .int 0]))] s.heap.size = A at hD ⊢
  have hA : ∀ q : Nat, s.heap.size ≤ q → A q := fun q h => by rw [← hAe]; exact Or.inr h
  have hS : va_S A s.heap s.heap [] := va_S.rf
  have hl := lv_entry ([.ref h0]) (n := 2) (Nat.le_of_ble_eq_true rfl)
  rw [lg_entry_eq]
  generalize (lg_sl ([.ref h0]) ++ List.replicate (2 - (lg_sl ([.ref h0])).length) Slot.unset).toArray = ls at hl ⊢
  have hl : lv_has ls 2 [(0, .ref h0)] := hl
  refine lv_aload_n hx hb dX5_init_0 rfl (lv_at hl 0 rfl) ?_
  refine W.objInit hx hb hown (hts (.methodLink RX5 3 objectInit) (by decide +kernel)) (hts (.instanceMethod objectInit) (by decide +kernel)) (hts (.code objectInit ⟨#[0xb1]⟩ 1 none) (List.mem_of_getElem? (i := 3) rfl)) rfl (by rw [hml]; exact hl.1) rfl dX5_init_1 (Nat.le_of_ble_eq_true rfl) (Nat.le_of_ble_eq_true rfl) ?_
  refine W.eq (g2 := F0 m 4 ls []) rfl ?_
  refine lv_aload_n hx hb dX5_init_4 rfl (lv_at hl 0 rfl) ?_
  have hc_1 : 0 + 1 ≤ 102 := by decide
  have hs_1 : 0 + 12 ≤ 2399 := by decide
  refine va_new (D := D) (cl := vwCl) (ci := 1) (fs := [.int 0, .int 0, .int 0, .int 0, .int 0, .null, .null, .null, .null, .null, .null, .null]) (C := RX1) (T := TX1) (N := 12) hx hb hts inX5_X1 tyX1 tyX1_ok hown (hts (.classLink RX5 9 RX1) (by decide +kernel)) (hts (.instantiable RX1 12) (by decide +kernel)) (hts (.initialized RX1) (by decide +kernel)) hK hP hD hS hA rfl dfX1 hc_1 hs_1 dX5_init_5 (fun q1 H hP hD hS => ?_)
  refine W.widen (k := 1) (n := 12) (by decide) (by decide) ?_
  refine lv_dup hx hb dX5_init_8 rfl ?_
  have hkc_1 : 1 + 7 ≤ 102 := by decide
  have hks_1 : 12 + 156 ≤ 2399 := by decide
  have hPc : va_P D vwCl [(q1, .inr (1, [.int 0, .int 0, .int 0, .int 0, .int 0, .null, .null, .null, .null, .null, .null, .null]))] H := fun k x hx9 => by
    cases k with
    | zero => cases hx9; exact hP _ _ xw_lst
    | succ k => simp at hx9
  have hDc : va_D (fun _ => True) [(q1, .inr (1, [.int 0, .int 0, .int 0, .int 0, .int 0, .null, .null, .null, .null, .null, .null, .null]))] := ⟨fun i j x y hx9 hy9 _ => by
    cases i with
    | zero =>
      cases j with
      | zero => rfl
      | succ j => simp at hy9
    | succ i => simp at hx9, fun _ _ _ => trivial⟩
  refine xw_call (cA := cA) (va_runI (As := []) (rest := [.ref q1, .ref h0]) ⟨hx, hb, hml, hown, hts⟩ (i_X1 l D cA q1 H.size) (cwI 0 hts gX5_init_X1_init rfl rfl rfl (hts (.initialized RX1) (by decide +kernel)) (hts (.methodLink RX5 11 yX1_init) (by decide +kernel)) (hts (.instanceMethod yX1_init) (by decide +kernel)) rfl (by decide +kernel) ⟨Nat.le_of_ble_eq_true rfl, Nat.le_of_ble_eq_true rfl⟩) ⟨fun a U g mk q => by obtain ⟨q0, q1, qP, qK, qD⟩ := q; exact ⟨q0, q1, qP, va_K.moved (u := U) (U := U.calling g mk a) (Vm.Alike.refl U.vm) qK, qD⟩, fun U hU hW => ⟨rfl, by rw [hU], by rw [hU]; exact hPc, va_K.moved hW.alike hK, hDc⟩⟩ rfl rfl hl.1 rfl (lv_room (Nat.le_of_ble_eq_true rfl)) dX5_init_9 ⟨hkc_1, hks_1⟩) hP hD hS hA (fun f1 H1 locs1 hq hP1 hD1 hS1 => ?_)
  have hq : f1 0 = q1 := hq
  subst hq
  have hP : va_P D vwCl ((h0, .inr (5, [.null, .null, .null, .null, .null, .null, .null, .null, .int 0, .int 0])) :: (xb cA 1 f1)) H1 := hP1
  have hD : va_D A ((h0, .inr (5, [.null, .null, .null, .null, .null, .null, .null, .null, .int 0, .int 0])) :: (xb cA 1 f1)) := hD1
  have hS := hS1
  clear hPc hDc hP1 hD1 hS1
  refine W.widen (k := 8) (n := 168) (by decide) (by decide) ?_
  refine va_putF (D := D) (cl := vwCl) (ci := 5) (v := .ref (f1 0)) (ty := .object "RopedHalls$Hall") (C := RX5) (T := TX5) (N := 10) hx hb hts inX5_X5 tyX5 tyX5_ok nmX5 hown hK hP hD hS 0 rfl rfl 0 (by decide) (hts (.fieldLink RX5 12 "RopedHalls" "hall" "LRopedHalls$Hall;") (by decide +kernel)) (fun _ h9 => h9) rfl hin rfl (by decide +kernel) rfl rfl (Nat.le_of_ble_eq_true rfl) dX5_init_12 (fun H locs hP hD hS => ?_)
  have hP : va_P D vwCl ((h0, .inr (5, [.ref (f1 0), .null, .null, .null, .null, .null, .null, .null, .int 0, .int 0])) :: (xb cA 1 f1)) H := hP
  have hD : va_D A ((h0, .inr (5, [.ref (f1 0), .null, .null, .null, .null, .null, .null, .null, .int 0, .int 0])) :: (xb cA 1 f1)) := hD
  refine lv_aload_n hx hb dX5_init_15 rfl (lv_at hl 0 rfl) ?_
  have hc_2 : 8 + 1 ≤ 102 := by decide
  have hs_2 : 168 + 6 ≤ 2399 := by decide
  refine va_new (D := D) (cl := vwCl) (ci := 4) (fs := [.null, .null, .null, .null, .null, .int 0]) (C := RX4) (T := TX4) (N := 6) hx hb hts inX5_X4 tyX4 tyX4_ok hown (hts (.classLink RX5 16 RX4) (by decide +kernel)) (hts (.instantiable RX4 6) (by decide +kernel)) (hts (.initialized RX4) (by decide +kernel)) hK hP hD hS hA rfl dfX4 hc_2 hs_2 dX5_init_16 (fun q2 H hP hD hS => ?_)
  refine W.widen (k := 9) (n := 174) (by decide) (by decide) ?_
  refine lv_dup hx hb dX5_init_19 rfl ?_
  have hkc_2 : 9 + 5 ≤ 102 := by decide
  have hks_2 : 174 + 280 ≤ 2399 := by decide
  have hPc : va_P D vwCl [(q2, .inr (4, [.null, .null, .null, .null, .null, .int 0]))] H := fun k x hx9 => by
    cases k with
    | zero => cases hx9; exact hP _ _ xw_lst
    | succ k => simp at hx9
  have hDc : va_D (fun _ => True) [(q2, .inr (4, [.null, .null, .null, .null, .null, .int 0]))] := ⟨fun i j x y hx9 hy9 _ => by
    cases i with
    | zero =>
      cases j with
      | zero => rfl
      | succ j => simp at hy9
    | succ i => simp at hx9, fun _ _ _ => trivial⟩
  refine xw_call (cA := cA) (va_runIN (As := []) (rest := [.ref q2, .ref h0]) ⟨hx, hb, hml, hown, hts⟩ (i_X4 l D cA q2 H.size) ⟨va_cnB 0 hts gX5_init_X4_init_n18 rfl rfl rfl (hN (.methodLinkNest RX5 18 yX4_init RX5) (by decide +kernel)) (hts (.initialized RX4) (by decide +kernel)) (by decide +kernel) ⟨Nat.le_of_ble_eq_true rfl, Nat.le_of_ble_eq_true rfl⟩, rfl, hts (.instanceMethod yX4_init) (by decide +kernel)⟩ ⟨fun a U g mk q => by obtain ⟨q0, q1, qP, qK, qD⟩ := q; exact ⟨q0, q1, qP, va_K.moved (u := U) (U := U.calling g mk a) (Vm.Alike.refl U.vm) qK, qD⟩, fun U hU hW => ⟨rfl, by rw [hU], by rw [hU]; exact hPc, va_K.moved hW.alike hK, hDc⟩⟩ rfl rfl hl.1 rfl (lv_room (Nat.le_of_ble_eq_true rfl)) dX5_init_20 ⟨hkc_2, hks_2⟩) hP hD hS hA (fun f2 H1 locs1 hq hP1 hD1 hS1 => ?_)
  have hq : f2 0 = q2 := hq
  subst hq
  have hP : va_P D vwCl ((h0, .inr (5, [.ref (f1 0), .null, .null, .null, .null, .null, .null, .null, .int 0, .int 0])) :: ((xb cA 1 f1) ++ xb cA 4 f2)) H1 := hP1
  have hD : va_D A ((h0, .inr (5, [.ref (f1 0), .null, .null, .null, .null, .null, .null, .null, .int 0, .int 0])) :: ((xb cA 1 f1) ++ xb cA 4 f2)) := hD1
  have hS := hS1
  clear hPc hDc hP1 hD1 hS1
  refine W.widen (k := 14) (n := 454) (by decide) (by decide) ?_
  refine va_putF (D := D) (cl := vwCl) (ci := 5) (v := .ref (f2 0)) (ty := .object "RopedHalls$Routes") (C := RX5) (T := TX5) (N := 10) hx hb hts inX5_X5 tyX5 tyX5_ok nmX5 hown hK hP hD hS 0 rfl rfl 1 (by decide) (hts (.fieldLink RX5 19 "RopedHalls" "routes" "LRopedHalls$Routes;") (by decide +kernel)) (fun _ h9 => h9) rfl hin rfl (by decide +kernel) rfl rfl (Nat.le_of_ble_eq_true rfl) dX5_init_23 (fun H locs hP hD hS => ?_)
  have hP : va_P D vwCl ((h0, .inr (5, [.ref (f1 0), .ref (f2 0), .null, .null, .null, .null, .null, .null, .int 0, .int 0])) :: ((xb cA 1 f1) ++ xb cA 4 f2)) H := hP
  have hD : va_D A ((h0, .inr (5, [.ref (f1 0), .ref (f2 0), .null, .null, .null, .null, .null, .null, .int 0, .int 0])) :: ((xb cA 1 f1) ++ xb cA 4 f2)) := hD
  refine lv_aload_n hx hb dX5_init_26 rfl (lv_at hl 0 rfl) ?_
  have hc_3 : 14 + 1 ≤ 102 := by decide
  have hs_3 : 454 + 1 ≤ 2399 := by decide
  refine va_new (D := D) (cl := vwCl) (ci := 2) (fs := [.null]) (C := RX2) (T := TX2) (N := 1) hx hb hts inX5_X2 tyX2 tyX2_ok hown (hts (.classLink RX5 23 RX2) (by decide +kernel)) (hts (.instantiable RX2 1) (by decide +kernel)) (hts (.initialized RX2) (by decide +kernel)) hK hP hD hS hA rfl dfX2 hc_3 hs_3 dX5_init_27 (fun q3 H hP hD hS => ?_)
  refine W.widen (k := 15) (n := 455) (by decide) (by decide) ?_
  refine lv_dup hx hb dX5_init_30 rfl ?_
  have hkc_3 : 15 + 1 ≤ 102 := by decide
  have hks_3 : 455 + 35 ≤ 2399 := by decide
  have hPc : va_P D vwCl [(q3, .inr (2, [.null]))] H := fun k x hx9 => by
    cases k with
    | zero => cases hx9; exact hP _ _ xw_lst
    | succ k => simp at hx9
  have hDc : va_D (fun _ => True) [(q3, .inr (2, [.null]))] := ⟨fun i j x y hx9 hy9 _ => by
    cases i with
    | zero =>
      cases j with
      | zero => rfl
      | succ j => simp at hy9
    | succ i => simp at hx9, fun _ _ _ => trivial⟩
  refine xw_call (cA := cA) (va_runIN (As := []) (rest := [.ref q3, .ref h0]) ⟨hx, hb, hml, hown, hts⟩ (i_X2 l D cA q3 H.size) ⟨va_cnB 0 hts gX5_init_X2_init_n25 rfl rfl rfl (hN (.methodLinkNest RX5 25 yX2_init RX5) (by decide +kernel)) (hts (.initialized RX2) (by decide +kernel)) (by decide +kernel) ⟨Nat.le_of_ble_eq_true rfl, Nat.le_of_ble_eq_true rfl⟩, rfl, hts (.instanceMethod yX2_init) (by decide +kernel)⟩ ⟨fun a U g mk q => by obtain ⟨q0, q1, qP, qK, qD⟩ := q; exact ⟨q0, q1, qP, va_K.moved (u := U) (U := U.calling g mk a) (Vm.Alike.refl U.vm) qK, qD⟩, fun U hU hW => ⟨rfl, by rw [hU], by rw [hU]; exact hPc, va_K.moved hW.alike hK, hDc⟩⟩ rfl rfl hl.1 rfl (lv_room (Nat.le_of_ble_eq_true rfl)) dX5_init_31 ⟨hkc_3, hks_3⟩) hP hD hS hA (fun f3 H1 locs1 hq hP1 hD1 hS1 => ?_)
  have hq : f3 0 = q3 := hq
  subst hq
  have hP : va_P D vwCl ((h0, .inr (5, [.ref (f1 0), .ref (f2 0), .null, .null, .null, .null, .null, .null, .int 0, .int 0])) :: (((xb cA 1 f1) ++ xb cA 4 f2) ++ xb cA 2 f3)) H1 := hP1
  have hD : va_D A ((h0, .inr (5, [.ref (f1 0), .ref (f2 0), .null, .null, .null, .null, .null, .null, .int 0, .int 0])) :: (((xb cA 1 f1) ++ xb cA 4 f2) ++ xb cA 2 f3)) := hD1
  have hS := hS1
  clear hPc hDc hP1 hD1 hS1
  refine W.widen (k := 16) (n := 490) (by decide) (by decide) ?_
  refine va_putF (D := D) (cl := vwCl) (ci := 5) (v := .ref (f3 0)) (ty := .object "RopedHalls$Minute") (C := RX5) (T := TX5) (N := 10) hx hb hts inX5_X5 tyX5 tyX5_ok nmX5 hown hK hP hD hS 0 rfl rfl 2 (by decide) (hts (.fieldLink RX5 26 "RopedHalls" "minute" "LRopedHalls$Minute;") (by decide +kernel)) (fun _ h9 => h9) rfl hin rfl (by decide +kernel) rfl rfl (Nat.le_of_ble_eq_true rfl) dX5_init_34 (fun H locs hP hD hS => ?_)
  have hP : va_P D vwCl ((h0, .inr (5, [.ref (f1 0), .ref (f2 0), .ref (f3 0), .null, .null, .null, .null, .null, .int 0, .int 0])) :: (((xb cA 1 f1) ++ xb cA 4 f2) ++ xb cA 2 f3)) H := hP
  have hD : va_D A ((h0, .inr (5, [.ref (f1 0), .ref (f2 0), .ref (f3 0), .null, .null, .null, .null, .null, .int 0, .int 0])) :: (((xb cA 1 f1) ++ xb cA 4 f2) ++ xb cA 2 f3)) := hD
  refine lv_aload_n hx hb dX5_init_37 rfl (lv_at hl 0 rfl) ?_
  have hc_4 : 16 + 1 ≤ 102 := by decide
  have hs_4 : 490 + 3 ≤ 2399 := by decide
  refine va_new (D := D) (cl := vwCl) (ci := 0) (fs := [.null, .null, .null]) (C := RX0) (T := TX0) (N := 3) hx hb hts inX5_X0 tyX0 tyX0_ok hown (hts (.classLink RX5 30 RX0) (by decide +kernel)) (hts (.instantiable RX0 3) (by decide +kernel)) (hts (.initialized RX0) (by decide +kernel)) hK hP hD hS hA rfl dfX0 hc_4 hs_4 dX5_init_38 (fun q4 H hP hD hS => ?_)
  refine W.widen (k := 17) (n := 493) (by decide) (by decide) ?_
  refine lv_dup hx hb dX5_init_41 rfl ?_
  have hkc_4 : 17 + 16 ≤ 102 := by decide
  have hks_4 : 493 + 490 ≤ 2399 := by decide
  have hPc : va_P D vwCl [(q4, .inr (0, [.null, .null, .null]))] H := fun k x hx9 => by
    cases k with
    | zero => cases hx9; exact hP _ _ xw_lst
    | succ k => simp at hx9
  have hDc : va_D (fun _ => True) [(q4, .inr (0, [.null, .null, .null]))] := ⟨fun i j x y hx9 hy9 _ => by
    cases i with
    | zero =>
      cases j with
      | zero => rfl
      | succ j => simp at hy9
    | succ i => simp at hx9, fun _ _ _ => trivial⟩
  refine xw_call (cA := cA) (va_runIN (As := []) (rest := [.ref q4, .ref h0]) ⟨hx, hb, hml, hown, hts⟩ (i_X0 l D cA q4 H.size) ⟨va_cnB 0 hts gX5_init_X0_init_n32 rfl rfl rfl (hN (.methodLinkNest RX5 32 yX0_init RX5) (by decide +kernel)) (hts (.initialized RX0) (by decide +kernel)) (by decide +kernel) ⟨Nat.le_of_ble_eq_true rfl, Nat.le_of_ble_eq_true rfl⟩, rfl, hts (.instanceMethod yX0_init) (by decide +kernel)⟩ ⟨fun a U g mk q => by obtain ⟨q0, q1, qP, qK, qD, qN⟩ := q; exact ⟨q0, q1, qP, va_K.moved (u := U) (U := U.calling g mk a) (Vm.Alike.refl U.vm) qK, qD, xnest_same (s := U) (U := U.calling g mk a) rfl qN⟩, fun U hU hW => ⟨rfl, by rw [hU], by rw [hU]; exact hPc, va_K.moved hW.alike hK, hDc, xnest_warm hW hN⟩⟩ rfl rfl hl.1 rfl (lv_room (Nat.le_of_ble_eq_true rfl)) dX5_init_42 ⟨hkc_4, hks_4⟩) hP hD hS hA (fun f4 H1 locs1 hq hP1 hD1 hS1 => ?_)
  have hP : va_P D vwCl ((h0, .inr (5, [.ref (f1 0), .ref (f2 0), .ref (f3 0), .null, .null, .null, .null, .null, .int 0, .int 0])) :: ((((xb cA 1 f1) ++ xb cA 4 f2) ++ xb cA 2 f3) ++ xf0 cA q4 f4)) H1 := hP1
  have hD : va_D A ((h0, .inr (5, [.ref (f1 0), .ref (f2 0), .ref (f3 0), .null, .null, .null, .null, .null, .int 0, .int 0])) :: ((((xb cA 1 f1) ++ xb cA 4 f2) ++ xb cA 2 f3) ++ xf0 cA q4 f4)) := hD1
  have hS := hS1
  clear hPc hDc hP1 hD1 hS1
  refine W.widen (k := 33) (n := 983) (by decide) (by decide) ?_
  refine va_putF (D := D) (cl := vwCl) (ci := 5) (v := .ref q4) (ty := .object "RopedHalls$Forecast") (C := RX5) (T := TX5) (N := 10) hx hb hts inX5_X5 tyX5 tyX5_ok nmX5 hown hK hP hD hS 0 rfl rfl 3 (by decide) (hts (.fieldLink RX5 33 "RopedHalls" "forecast" "LRopedHalls$Forecast;") (by decide +kernel)) (fun _ h9 => h9) rfl hin rfl (by decide +kernel) rfl rfl (Nat.le_of_ble_eq_true rfl) dX5_init_45 (fun H locs hP hD hS => ?_)
  have hP : va_P D vwCl ((h0, .inr (5, [.ref (f1 0), .ref (f2 0), .ref (f3 0), .ref q4, .null, .null, .null, .null, .int 0, .int 0])) :: ((((xb cA 1 f1) ++ xb cA 4 f2) ++ xb cA 2 f3) ++ xf0 cA q4 f4)) H := hP
  have hD : va_D A ((h0, .inr (5, [.ref (f1 0), .ref (f2 0), .ref (f3 0), .ref q4, .null, .null, .null, .null, .int 0, .int 0])) :: ((((xb cA 1 f1) ++ xb cA 4 f2) ++ xb cA 2 f3) ++ xf0 cA q4 f4)) := hD
  refine lv_aload_n hx hb dX5_init_48 rfl (lv_at hl 0 rfl) ?_
  have hc_5 : 33 + 1 ≤ 102 := by decide
  have hs_5 : 983 + 2 ≤ 2399 := by decide
  refine va_new (D := D) (cl := vwCl) (ci := 3) (fs := [.int 0, .null]) (C := RX3) (T := TX3) (N := 2) hx hb hts inX5_X3 tyX3 tyX3_ok hown (hts (.classLink RX5 37 RX3) (by decide +kernel)) (hts (.instantiable RX3 2) (by decide +kernel)) (hts (.initialized RX3) (by decide +kernel)) hK hP hD hS hA rfl dfX3 hc_5 hs_5 dX5_init_49 (fun q5 H hP hD hS => ?_)
  refine W.widen (k := 34) (n := 985) (by decide) (by decide) ?_
  refine lv_dup hx hb dX5_init_52 rfl ?_
  have hkc_5 : 34 + 1 ≤ 102 := by decide
  have hks_5 : 985 + 60 ≤ 2399 := by decide
  have hPc : va_P D vwCl [(q5, .inr (3, [.int 0, .null]))] H := fun k x hx9 => by
    cases k with
    | zero => cases hx9; exact hP _ _ xw_lst
    | succ k => simp at hx9
  have hDc : va_D (fun _ => True) [(q5, .inr (3, [.int 0, .null]))] := ⟨fun i j x y hx9 hy9 _ => by
    cases i with
    | zero =>
      cases j with
      | zero => rfl
      | succ j => simp at hy9
    | succ i => simp at hx9, fun _ _ _ => trivial⟩
  refine xw_call (cA := cA) (va_runIN (As := []) (rest := [.ref q5, .ref h0]) ⟨hx, hb, hml, hown, hts⟩ (i_X3 l D cA q5 H.size) ⟨va_cnB 0 hts gX5_init_X3_init_n39 rfl rfl rfl (hN (.methodLinkNest RX5 39 yX3_init RX5) (by decide +kernel)) (hts (.initialized RX3) (by decide +kernel)) (by decide +kernel) ⟨Nat.le_of_ble_eq_true rfl, Nat.le_of_ble_eq_true rfl⟩, rfl, hts (.instanceMethod yX3_init) (by decide +kernel)⟩ ⟨fun a U g mk q => by obtain ⟨q0, q1, qP, qK, qD⟩ := q; exact ⟨q0, q1, qP, va_K.moved (u := U) (U := U.calling g mk a) (Vm.Alike.refl U.vm) qK, qD⟩, fun U hU hW => ⟨rfl, by rw [hU], by rw [hU]; exact hPc, va_K.moved hW.alike hK, hDc⟩⟩ rfl rfl hl.1 rfl (lv_room (Nat.le_of_ble_eq_true rfl)) dX5_init_53 ⟨hkc_5, hks_5⟩) hP hD hS hA (fun f5 H1 locs1 hq hP1 hD1 hS1 => ?_)
  have hq : f5 0 = q5 := hq
  subst hq
  have hP : va_P D vwCl ((h0, .inr (5, [.ref (f1 0), .ref (f2 0), .ref (f3 0), .ref q4, .null, .null, .null, .null, .int 0, .int 0])) :: (((((xb cA 1 f1) ++ xb cA 4 f2) ++ xb cA 2 f3) ++ xf0 cA q4 f4) ++ xb cA 3 f5)) H1 := hP1
  have hD : va_D A ((h0, .inr (5, [.ref (f1 0), .ref (f2 0), .ref (f3 0), .ref q4, .null, .null, .null, .null, .int 0, .int 0])) :: (((((xb cA 1 f1) ++ xb cA 4 f2) ++ xb cA 2 f3) ++ xf0 cA q4 f4) ++ xb cA 3 f5)) := hD1
  have hS := hS1
  clear hPc hDc hP1 hD1 hS1
  refine W.widen (k := 35) (n := 1045) (by decide) (by decide) ?_
  refine va_putF (D := D) (cl := vwCl) (ci := 5) (v := .ref (f5 0)) (ty := .object "RopedHalls$Pad") (C := RX5) (T := TX5) (N := 10) hx hb hts inX5_X5 tyX5 tyX5_ok nmX5 hown hK hP hD hS 0 rfl rfl 4 (by decide) (hts (.fieldLink RX5 40 "RopedHalls" "pad" "LRopedHalls$Pad;") (by decide +kernel)) (fun _ h9 => h9) rfl hin rfl (by decide +kernel) rfl rfl (Nat.le_of_ble_eq_true rfl) dX5_init_56 (fun H locs hP hD hS => ?_)
  have hP : va_P D vwCl ((h0, .inr (5, [.ref (f1 0), .ref (f2 0), .ref (f3 0), .ref q4, .ref (f5 0), .null, .null, .null, .int 0, .int 0])) :: (((((xb cA 1 f1) ++ xb cA 4 f2) ++ xb cA 2 f3) ++ xf0 cA q4 f4) ++ xb cA 3 f5)) H := hP
  have hD : va_D A ((h0, .inr (5, [.ref (f1 0), .ref (f2 0), .ref (f3 0), .ref q4, .ref (f5 0), .null, .null, .null, .int 0, .int 0])) :: (((((xb cA 1 f1) ++ xb cA 4 f2) ++ xb cA 2 f3) ++ xf0 cA q4 f4) ++ xb cA 3 f5)) := hD
  refine lv_aload_n hx hb dX5_init_59 rfl (lv_at hl 0 rfl) ?_
  refine lv_bipush (v := nI 6) hx hb dX5_init_60 (by decide +kernel) ?_
  have hc_qh : 35 + 1 ≤ 102 := by decide
  have hs_qh : 1045 + 6 ≤ 2399 := by decide
  refine va_newq (D := D) (cl := vwCl) (C := "RopedHalls$Hall") (N' := 6) hx hb hown (hts (.classLink RX5 9 RX1) (by decide +kernel)) hAO hK hP hD hS hA (nI_pos (by omega)) (nI_clamp (by omega)) (by decide) hc_qh hs_qh dX5_init_62 (fun qh c1 H hK1 hP hD hS => ?_)
  have hc := va_c2 hK1 hK
  subst hc
  have hP := va_P.swap (a := [(h0, .inr (5, [.ref (f1 0), .ref (f2 0), .ref (f3 0), .ref q4, .ref (f5 0), .null, .null, .null, .int 0, .int 0]))]) (b := ((((xb cA 1 f1) ++ xb cA 4 f2) ++ xb cA 2 f3) ++ xf0 cA q4 f4) ++ xb cA 3 f5) (c := [(qh, .inl (cA 2, 6, .inr (.inr (.inr (.inr (fun _ => none))))))]) hP
  have hD := va_D.swap (a := [(h0, .inr (5, [.ref (f1 0), .ref (f2 0), .ref (f3 0), .ref q4, .ref (f5 0), .null, .null, .null, .int 0, .int 0]))]) (b := ((((xb cA 1 f1) ++ xb cA 4 f2) ++ xb cA 2 f3) ++ xf0 cA q4 f4) ++ xb cA 3 f5) (c := [(qh, .inl (cA 2, 6, .inr (.inr (.inr (.inr (fun _ => none))))))]) hD
  have hP : va_P D vwCl ((h0, .inr (5, [.ref (f1 0), .ref (f2 0), .ref (f3 0), .ref q4, .ref (f5 0), .null, .null, .null, .int 0, .int 0])) :: (qh, .inl (cA 2, 6, .inr (.inr (.inr (.inr (fun _ => none)))))) :: (((((xb cA 1 f1) ++ xb cA 4 f2) ++ xb cA 2 f3) ++ xf0 cA q4 f4) ++ xb cA 3 f5)) H := hP
  have hD : va_D A ((h0, .inr (5, [.ref (f1 0), .ref (f2 0), .ref (f3 0), .ref q4, .ref (f5 0), .null, .null, .null, .int 0, .int 0])) :: (qh, .inl (cA 2, 6, .inr (.inr (.inr (.inr (fun _ => none)))))) :: (((((xb cA 1 f1) ++ xb cA 4 f2) ++ xb cA 2 f3) ++ xf0 cA q4 f4) ++ xb cA 3 f5)) := hD
  refine W.widen (k := 36) (n := 1051) (by decide) (by decide) ?_
  refine va_putF (D := D) (cl := vwCl) (ci := 5) (v := .ref qh) (ty := .array (.object "RopedHalls$Hall")) (C := RX5) (T := TX5) (N := 10) hx hb hts inX5_X5 tyX5 tyX5_ok nmX5 hown hK hP hD hS 0 rfl rfl 5 (by decide) (hts (.fieldLink RX5 44 "RopedHalls" "history" "[LRopedHalls$Hall;") (by decide +kernel)) (fun _ h9 => h9) rfl hin rfl (by decide +kernel) rfl rfl (Nat.le_of_ble_eq_true rfl) dX5_init_65 (fun H locs hP hD hS => ?_)
  have hP : va_P D vwCl ((h0, .inr (5, [.ref (f1 0), .ref (f2 0), .ref (f3 0), .ref q4, .ref (f5 0), .ref qh, .null, .null, .int 0, .int 0])) :: (qh, .inl (cA 2, 6, .inr (.inr (.inr (.inr (fun _ => none)))))) :: (((((xb cA 1 f1) ++ xb cA 4 f2) ++ xb cA 2 f3) ++ xf0 cA q4 f4) ++ xb cA 3 f5)) H := hP
  have hD : va_D A ((h0, .inr (5, [.ref (f1 0), .ref (f2 0), .ref (f3 0), .ref q4, .ref (f5 0), .ref qh, .null, .null, .int 0, .int 0])) :: (qh, .inl (cA 2, 6, .inr (.inr (.inr (.inr (fun _ => none)))))) :: (((((xb cA 1 f1) ++ xb cA 4 f2) ++ xb cA 2 f3) ++ xf0 cA q4 f4) ++ xb cA 3 f5)) := hD
  refine lv_aload_n hx hb dX5_init_68 rfl (lv_at hl 0 rfl) ?_
  refine lv_iconst (v := nI 2) hx hb dX5_init_69 (by decide +kernel) ?_
  have hc_qs : 36 + 1 ≤ 102 := by decide
  have hs_qs : 1051 + 2 ≤ 2399 := by decide
  refine va_newq (D := D) (cl := vwCl) (C := "RopedHalls$Hall") (N' := 2) hx hb hown (hts (.classLink RX5 9 RX1) (by decide +kernel)) hAO hK hP hD hS hA (nI_pos (by omega)) (nI_clamp (by omega)) (by decide) hc_qs hs_qs dX5_init_70 (fun qs c1 H hK1 hP hD hS => ?_)
  have hc := va_c2 hK1 hK
  subst hc
  have hP := va_P.swap (a := [(h0, .inr (5, [.ref (f1 0), .ref (f2 0), .ref (f3 0), .ref q4, .ref (f5 0), .ref qh, .null, .null, .int 0, .int 0])), (qh, .inl (cA 2, 6, .inr (.inr (.inr (.inr (fun _ => none))))))]) (b := ((((xb cA 1 f1) ++ xb cA 4 f2) ++ xb cA 2 f3) ++ xf0 cA q4 f4) ++ xb cA 3 f5) (c := [(qs, .inl (cA 2, 2, .inr (.inr (.inr (.inr (fun _ => none))))))]) hP
  have hD := va_D.swap (a := [(h0, .inr (5, [.ref (f1 0), .ref (f2 0), .ref (f3 0), .ref q4, .ref (f5 0), .ref qh, .null, .null, .int 0, .int 0])), (qh, .inl (cA 2, 6, .inr (.inr (.inr (.inr (fun _ => none))))))]) (b := ((((xb cA 1 f1) ++ xb cA 4 f2) ++ xb cA 2 f3) ++ xf0 cA q4 f4) ++ xb cA 3 f5) (c := [(qs, .inl (cA 2, 2, .inr (.inr (.inr (.inr (fun _ => none))))))]) hD
  have hP : va_P D vwCl ((h0, .inr (5, [.ref (f1 0), .ref (f2 0), .ref (f3 0), .ref q4, .ref (f5 0), .ref qh, .null, .null, .int 0, .int 0])) :: (qh, .inl (cA 2, 6, .inr (.inr (.inr (.inr (fun _ => none)))))) :: (qs, .inl (cA 2, 2, .inr (.inr (.inr (.inr (fun _ => none)))))) :: (((((xb cA 1 f1) ++ xb cA 4 f2) ++ xb cA 2 f3) ++ xf0 cA q4 f4) ++ xb cA 3 f5)) H := hP
  have hD : va_D A ((h0, .inr (5, [.ref (f1 0), .ref (f2 0), .ref (f3 0), .ref q4, .ref (f5 0), .ref qh, .null, .null, .int 0, .int 0])) :: (qh, .inl (cA 2, 6, .inr (.inr (.inr (.inr (fun _ => none)))))) :: (qs, .inl (cA 2, 2, .inr (.inr (.inr (.inr (fun _ => none)))))) :: (((((xb cA 1 f1) ++ xb cA 4 f2) ++ xb cA 2 f3) ++ xf0 cA q4 f4) ++ xb cA 3 f5)) := hD
  refine W.widen (k := 37) (n := 1053) (by decide) (by decide) ?_
  refine va_putF (D := D) (cl := vwCl) (ci := 5) (v := .ref qs) (ty := .array (.object "RopedHalls$Hall")) (C := RX5) (T := TX5) (N := 10) hx hb hts inX5_X5 tyX5 tyX5_ok nmX5 hown hK hP hD hS 0 rfl rfl 6 (by decide) (hts (.fieldLink RX5 48 "RopedHalls" "slots" "[LRopedHalls$Hall;") (by decide +kernel)) (fun _ h9 => h9) rfl hin rfl (by decide +kernel) rfl rfl (Nat.le_of_ble_eq_true rfl) dX5_init_73 (fun H locs hP hD hS => ?_)
  have hP : va_P D vwCl ((h0, .inr (5, [.ref (f1 0), .ref (f2 0), .ref (f3 0), .ref q4, .ref (f5 0), .ref qh, .ref qs, .null, .int 0, .int 0])) :: (qh, .inl (cA 2, 6, .inr (.inr (.inr (.inr (fun _ => none)))))) :: (qs, .inl (cA 2, 2, .inr (.inr (.inr (.inr (fun _ => none)))))) :: (((((xb cA 1 f1) ++ xb cA 4 f2) ++ xb cA 2 f3) ++ xf0 cA q4 f4) ++ xb cA 3 f5)) H := hP
  have hD : va_D A ((h0, .inr (5, [.ref (f1 0), .ref (f2 0), .ref (f3 0), .ref q4, .ref (f5 0), .ref qh, .ref qs, .null, .int 0, .int 0])) :: (qh, .inl (cA 2, 6, .inr (.inr (.inr (.inr (fun _ => none)))))) :: (qs, .inl (cA 2, 2, .inr (.inr (.inr (.inr (fun _ => none)))))) :: (((((xb cA 1 f1) ++ xb cA 4 f2) ++ xb cA 2 f3) ++ xf0 cA q4 f4) ++ xb cA 3 f5)) := hD
  refine lv_aload_n hx hb dX5_init_76 rfl (lv_at hl 0 rfl) ?_
  refine lv_iconst (v := nI 2) hx hb dX5_init_77 (by decide +kernel) ?_
  have hc_qz : 37 + 1 ≤ 102 := by decide
  have hs_qz : 1053 + 2 ≤ 2399 := by decide
  have hy_qz : 2 * componentBytes .boolean ≤ 536870912 := by decide
  refine va_newa (D := D) (cl := vwCl) (atype := .boolean) (ty := .boolean) (a0 := (2, .inl (fun _ => 0))) (N' := 2) hx hb (hts (.arrayClass .boolean) (by decide +kernel)) rfl hK hP hD hS hA (fun cA => rfl) (nI_pos (by omega)) (nI_clamp (by omega)) hy_qz hc_qz hs_qz dX5_init_78 (fun qz c1 H hK1 hP hD hS => ?_)
  have hc := va_c1 hK1 hK
  subst hc
  have hP := va_P.swap (a := [(h0, .inr (5, [.ref (f1 0), .ref (f2 0), .ref (f3 0), .ref q4, .ref (f5 0), .ref qh, .ref qs, .null, .int 0, .int 0])), (qh, .inl (cA 2, 6, .inr (.inr (.inr (.inr (fun _ => none)))))), (qs, .inl (cA 2, 2, .inr (.inr (.inr (.inr (fun _ => none))))))]) (b := ((((xb cA 1 f1) ++ xb cA 4 f2) ++ xb cA 2 f3) ++ xf0 cA q4 f4) ++ xb cA 3 f5) (c := [(qz, .inl (cA 1, 2, .inl (fun _ => 0)))]) hP
  have hD := va_D.swap (a := [(h0, .inr (5, [.ref (f1 0), .ref (f2 0), .ref (f3 0), .ref q4, .ref (f5 0), .ref qh, .ref qs, .null, .int 0, .int 0])), (qh, .inl (cA 2, 6, .inr (.inr (.inr (.inr (fun _ => none)))))), (qs, .inl (cA 2, 2, .inr (.inr (.inr (.inr (fun _ => none))))))]) (b := ((((xb cA 1 f1) ++ xb cA 4 f2) ++ xb cA 2 f3) ++ xf0 cA q4 f4) ++ xb cA 3 f5) (c := [(qz, .inl (cA 1, 2, .inl (fun _ => 0)))]) hD
  have hP : va_P D vwCl ((h0, .inr (5, [.ref (f1 0), .ref (f2 0), .ref (f3 0), .ref q4, .ref (f5 0), .ref qh, .ref qs, .null, .int 0, .int 0])) :: (qh, .inl (cA 2, 6, .inr (.inr (.inr (.inr (fun _ => none)))))) :: (qs, .inl (cA 2, 2, .inr (.inr (.inr (.inr (fun _ => none)))))) :: (qz, .inl (cA 1, 2, .inl (fun _ => 0))) :: (((((xb cA 1 f1) ++ xb cA 4 f2) ++ xb cA 2 f3) ++ xf0 cA q4 f4) ++ xb cA 3 f5)) H := hP
  have hD : va_D A ((h0, .inr (5, [.ref (f1 0), .ref (f2 0), .ref (f3 0), .ref q4, .ref (f5 0), .ref qh, .ref qs, .null, .int 0, .int 0])) :: (qh, .inl (cA 2, 6, .inr (.inr (.inr (.inr (fun _ => none)))))) :: (qs, .inl (cA 2, 2, .inr (.inr (.inr (.inr (fun _ => none)))))) :: (qz, .inl (cA 1, 2, .inl (fun _ => 0))) :: (((((xb cA 1 f1) ++ xb cA 4 f2) ++ xb cA 2 f3) ++ xf0 cA q4 f4) ++ xb cA 3 f5)) := hD
  refine W.widen (k := 38) (n := 1055) (by decide) (by decide) ?_
  refine va_putF (D := D) (cl := vwCl) (ci := 5) (v := .ref qz) (ty := .array .boolean) (C := RX5) (T := TX5) (N := 10) hx hb hts inX5_X5 tyX5 tyX5_ok nmX5 hown hK hP hD hS 0 rfl rfl 7 (by decide) (hts (.fieldLink RX5 51 "RopedHalls" "isSaved" "[Z") (by decide +kernel)) (fun _ h9 => h9) rfl hin rfl (by decide +kernel) rfl rfl (Nat.le_of_ble_eq_true rfl) dX5_init_80 (fun H locs hP hD hS => ?_)
  have hP : va_P D vwCl ((h0, .inr (5, [.ref (f1 0), .ref (f2 0), .ref (f3 0), .ref q4, .ref (f5 0), .ref qh, .ref qs, .ref qz, .int 0, .int 0])) :: (qh, .inl (cA 2, 6, .inr (.inr (.inr (.inr (fun _ => none)))))) :: (qs, .inl (cA 2, 2, .inr (.inr (.inr (.inr (fun _ => none)))))) :: (qz, .inl (cA 1, 2, .inl (fun _ => 0))) :: (((((xb cA 1 f1) ++ xb cA 4 f2) ++ xb cA 2 f3) ++ xf0 cA q4 f4) ++ xb cA 3 f5)) H := hP
  have hD : va_D A ((h0, .inr (5, [.ref (f1 0), .ref (f2 0), .ref (f3 0), .ref q4, .ref (f5 0), .ref qh, .ref qs, .ref qz, .int 0, .int 0])) :: (qh, .inl (cA 2, 6, .inr (.inr (.inr (.inr (fun _ => none)))))) :: (qs, .inl (cA 2, 2, .inr (.inr (.inr (.inr (fun _ => none)))))) :: (qz, .inl (cA 1, 2, .inl (fun _ => 0))) :: (((((xb cA 1 f1) ++ xb cA 4 f2) ++ xb cA 2 f3) ++ xf0 cA q4 f4) ++ xb cA 3 f5)) := hD
  refine lv_iconst (v := nI 0) hx hb dX5_init_83 (by decide +kernel) ?_
  refine lv_istore_n (lv' := [(1, .int (nI 0)), (0, .ref h0)]) hx hb dX5_init_84 rfl hl (by decide) rfl (fun ls hl => ?_)
  refine lv_iload_n hx hb dX5_init_85 rfl (lv_at hl 0 rfl) ?_
  refine lv_bipush (v := nI 6) hx hb dX5_init_86 (by decide +kernel) ?_
  refine lv_icmp_ge hx hb dX5_init_88 (tgt := 110) (by decide) (fun h => absurd h (by decide)) (fun _ => ?_)
  refine lv_aload_n hx hb dX5_init_91 rfl (lv_at hl 1 rfl) ?_
  refine va_get (D := D) (cl := vwCl) (ci := 5) (v := .ref qh) (C := RX5) (T := TX5) (N := 10) hx hb hts inX5_X5 hown hK hP 0 rfl rfl 5 (by decide) (hts (.fieldLink RX5 44 "RopedHalls" "history" "[LRopedHalls$Hall;") (by decide +kernel)) (fun _ h9 => h9) rfl dX5_init_92 ?_
  refine lv_iload_n hx hb dX5_init_95 rfl (lv_at hl 0 rfl) ?_
  have hc_6 : 38 + 1 ≤ 102 := by decide
  have hs_6 : 1055 + 12 ≤ 2399 := by decide
  refine va_new (D := D) (cl := vwCl) (ci := 1) (fs := [.int 0, .int 0, .int 0, .int 0, .int 0, .null, .null, .null, .null, .null, .null, .null]) (C := RX1) (T := TX1) (N := 12) hx hb hts inX5_X1 tyX1 tyX1_ok hown (hts (.classLink RX5 9 RX1) (by decide +kernel)) (hts (.instantiable RX1 12) (by decide +kernel)) (hts (.initialized RX1) (by decide +kernel)) hK hP hD hS hA rfl dfX1 hc_6 hs_6 dX5_init_96 (fun q6 H hP hD hS => ?_)
  refine W.widen (k := 39) (n := 1067) (by decide) (by decide) ?_
  refine lv_dup hx hb dX5_init_99 rfl ?_
  have hkc_6 : 39 + 7 ≤ 102 := by decide
  have hks_6 : 1067 + 156 ≤ 2399 := by decide
  have hPc : va_P D vwCl [(q6, .inr (1, [.int 0, .int 0, .int 0, .int 0, .int 0, .null, .null, .null, .null, .null, .null, .null]))] H := fun k x hx9 => by
    cases k with
    | zero => cases hx9; exact hP _ _ xw_lst
    | succ k => simp at hx9
  have hDc : va_D (fun _ => True) [(q6, .inr (1, [.int 0, .int 0, .int 0, .int 0, .int 0, .null, .null, .null, .null, .null, .null, .null]))] := ⟨fun i j x y hx9 hy9 _ => by
    cases i with
    | zero =>
      cases j with
      | zero => rfl
      | succ j => simp at hy9
    | succ i => simp at hx9, fun _ _ _ => trivial⟩
  refine xw_call (cA := cA) (va_runI (As := []) (rest := [.ref q6, .int (nI 0), .ref qh]) ⟨hx, hb, hml, hown, hts⟩ (i_X1 l D cA q6 H.size) (cwI 0 hts gX5_init_X1_init rfl rfl rfl (hts (.initialized RX1) (by decide +kernel)) (hts (.methodLink RX5 11 yX1_init) (by decide +kernel)) (hts (.instanceMethod yX1_init) (by decide +kernel)) rfl (by decide +kernel) ⟨Nat.le_of_ble_eq_true rfl, Nat.le_of_ble_eq_true rfl⟩) ⟨fun a U g mk q => by obtain ⟨q0, q1, qP, qK, qD⟩ := q; exact ⟨q0, q1, qP, va_K.moved (u := U) (U := U.calling g mk a) (Vm.Alike.refl U.vm) qK, qD⟩, fun U hU hW => ⟨rfl, by rw [hU], by rw [hU]; exact hPc, va_K.moved hW.alike hK, hDc⟩⟩ rfl rfl hl.1 rfl (lv_room (Nat.le_of_ble_eq_true rfl)) dX5_init_100 ⟨hkc_6, hks_6⟩) hP hD hS hA (fun f6 H1 locs1 hq hP1 hD1 hS1 => ?_)
  have hq : f6 0 = q6 := hq
  subst hq
  have hP : va_P D vwCl ((h0, .inr (5, [.ref (f1 0), .ref (f2 0), .ref (f3 0), .ref q4, .ref (f5 0), .ref qh, .ref qs, .ref qz, .int 0, .int 0])) :: (qh, .inl (cA 2, 6, .inr (.inr (.inr (.inr (fun _ => none)))))) :: (qs, .inl (cA 2, 2, .inr (.inr (.inr (.inr (fun _ => none)))))) :: (qz, .inl (cA 1, 2, .inl (fun _ => 0))) :: ((((((xb cA 1 f1) ++ xb cA 4 f2) ++ xb cA 2 f3) ++ xf0 cA q4 f4) ++ xb cA 3 f5) ++ xb cA 1 f6)) H1 := hP1
  have hD : va_D A ((h0, .inr (5, [.ref (f1 0), .ref (f2 0), .ref (f3 0), .ref q4, .ref (f5 0), .ref qh, .ref qs, .ref qz, .int 0, .int 0])) :: (qh, .inl (cA 2, 6, .inr (.inr (.inr (.inr (fun _ => none)))))) :: (qs, .inl (cA 2, 2, .inr (.inr (.inr (.inr (fun _ => none)))))) :: (qz, .inl (cA 1, 2, .inl (fun _ => 0))) :: ((((((xb cA 1 f1) ++ xb cA 4 f2) ++ xb cA 2 f3) ++ xf0 cA q4 f4) ++ xb cA 3 f5) ++ xb cA 1 f6)) := hD1
  have hS := hS1
  clear hPc hDc hP1 hD1 hS1
  refine W.widen (k := 46) (n := 1223) (by decide) (by decide) ?_
  refine va_astq (D := D) (cl := vwCl) (r := (RX1, TX1, 12)) hx hb hK hP hD hS 1 2 _ 1 rfl rfl (xw_at (f := f6) (X := [(h0, .inr (5, [.ref (f1 0), .ref (f2 0), .ref (f3 0), .ref q4, .ref (f5 0), .ref qh, .ref qs, .ref qz, .int 0, .int 0])), (qh, .inl (cA 2, 6, .inr (.inr (.inr (.inr (fun _ => none)))))), (qs, .inl (cA 2, 2, .inr (.inr (.inr (.inr (fun _ => none)))))), (qz, .inl (cA 1, 2, .inl (fun _ => 0)))] ++ (((((xb cA 1 f1) ++ xb cA 4 f2) ++ xb cA 2 f3) ++ xf0 cA q4 f4) ++ xb cA 3 f5))) rfl (vp_in_nI (by omega) (by omega)) dX5_init_103 (fun H locs hP hD hS => ?_)
  rw [nI_clamp (by omega)] at hP hD
  have hP : va_P D vwCl ((h0, .inr (5, [.ref (f1 0), .ref (f2 0), .ref (f3 0), .ref q4, .ref (f5 0), .ref qh, .ref qs, .ref qz, .int 0, .int 0])) :: (qh, .inl (cA 2, 6, .inr (.inr (.inr (.inr (va_up (fun _ => none) 0 (some (f6 0)))))))) :: (qs, .inl (cA 2, 2, .inr (.inr (.inr (.inr (fun _ => none)))))) :: (qz, .inl (cA 1, 2, .inl (fun _ => 0))) :: ((((((xb cA 1 f1) ++ xb cA 4 f2) ++ xb cA 2 f3) ++ xf0 cA q4 f4) ++ xb cA 3 f5) ++ xb cA 1 f6)) H := hP
  have hD : va_D A ((h0, .inr (5, [.ref (f1 0), .ref (f2 0), .ref (f3 0), .ref q4, .ref (f5 0), .ref qh, .ref qs, .ref qz, .int 0, .int 0])) :: (qh, .inl (cA 2, 6, .inr (.inr (.inr (.inr (va_up (fun _ => none) 0 (some (f6 0)))))))) :: (qs, .inl (cA 2, 2, .inr (.inr (.inr (.inr (fun _ => none)))))) :: (qz, .inl (cA 1, 2, .inl (fun _ => 0))) :: ((((((xb cA 1 f1) ++ xb cA 4 f2) ++ xb cA 2 f3) ++ xf0 cA q4 f4) ++ xb cA 3 f5) ++ xb cA 1 f6)) := hD
  refine lv_iinc (v := nI 1) (lv' := [(1, .int (nI 1)), (0, .ref h0)]) (k := 0) hx hb dX5_init_104 hl rfl (by decide) (by decide) rfl (fun ls hl => ?_)
  refine lv_goto hx hb dX5_init_107 (tgt := 85) (by decide) ?_
  refine lv_iload_n hx hb dX5_init_85 rfl (lv_at hl 0 rfl) ?_
  refine lv_bipush (v := nI 6) hx hb dX5_init_86 (by decide +kernel) ?_
  refine lv_icmp_ge hx hb dX5_init_88 (tgt := 110) (by decide) (fun h => absurd h (by decide)) (fun _ => ?_)
  refine lv_aload_n hx hb dX5_init_91 rfl (lv_at hl 1 rfl) ?_
  refine va_get (D := D) (cl := vwCl) (ci := 5) (v := .ref qh) (C := RX5) (T := TX5) (N := 10) hx hb hts inX5_X5 hown hK hP 0 rfl rfl 5 (by decide) (hts (.fieldLink RX5 44 "RopedHalls" "history" "[LRopedHalls$Hall;") (by decide +kernel)) (fun _ h9 => h9) rfl dX5_init_92 ?_
  refine lv_iload_n hx hb dX5_init_95 rfl (lv_at hl 0 rfl) ?_
  have hc_7 : 46 + 1 ≤ 102 := by decide
  have hs_7 : 1223 + 12 ≤ 2399 := by decide
  refine va_new (D := D) (cl := vwCl) (ci := 1) (fs := [.int 0, .int 0, .int 0, .int 0, .int 0, .null, .null, .null, .null, .null, .null, .null]) (C := RX1) (T := TX1) (N := 12) hx hb hts inX5_X1 tyX1 tyX1_ok hown (hts (.classLink RX5 9 RX1) (by decide +kernel)) (hts (.instantiable RX1 12) (by decide +kernel)) (hts (.initialized RX1) (by decide +kernel)) hK hP hD hS hA rfl dfX1 hc_7 hs_7 dX5_init_96 (fun q7 H hP hD hS => ?_)
  refine W.widen (k := 47) (n := 1235) (by decide) (by decide) ?_
  refine lv_dup hx hb dX5_init_99 rfl ?_
  have hkc_7 : 47 + 7 ≤ 102 := by decide
  have hks_7 : 1235 + 156 ≤ 2399 := by decide
  have hPc : va_P D vwCl [(q7, .inr (1, [.int 0, .int 0, .int 0, .int 0, .int 0, .null, .null, .null, .null, .null, .null, .null]))] H := fun k x hx9 => by
    cases k with
    | zero => cases hx9; exact hP _ _ xw_lst
    | succ k => simp at hx9
  have hDc : va_D (fun _ => True) [(q7, .inr (1, [.int 0, .int 0, .int 0, .int 0, .int 0, .null, .null, .null, .null, .null, .null, .null]))] := ⟨fun i j x y hx9 hy9 _ => by
    cases i with
    | zero =>
      cases j with
      | zero => rfl
      | succ j => simp at hy9
    | succ i => simp at hx9, fun _ _ _ => trivial⟩
  refine xw_call (cA := cA) (va_runI (As := []) (rest := [.ref q7, .int (nI 1), .ref qh]) ⟨hx, hb, hml, hown, hts⟩ (i_X1 l D cA q7 H.size) (cwI 0 hts gX5_init_X1_init rfl rfl rfl (hts (.initialized RX1) (by decide +kernel)) (hts (.methodLink RX5 11 yX1_init) (by decide +kernel)) (hts (.instanceMethod yX1_init) (by decide +kernel)) rfl (by decide +kernel) ⟨Nat.le_of_ble_eq_true rfl, Nat.le_of_ble_eq_true rfl⟩) ⟨fun a U g mk q => by obtain ⟨q0, q1, qP, qK, qD⟩ := q; exact ⟨q0, q1, qP, va_K.moved (u := U) (U := U.calling g mk a) (Vm.Alike.refl U.vm) qK, qD⟩, fun U hU hW => ⟨rfl, by rw [hU], by rw [hU]; exact hPc, va_K.moved hW.alike hK, hDc⟩⟩ rfl rfl hl.1 rfl (lv_room (Nat.le_of_ble_eq_true rfl)) dX5_init_100 ⟨hkc_7, hks_7⟩) hP hD hS hA (fun f7 H1 locs1 hq hP1 hD1 hS1 => ?_)
  have hq : f7 0 = q7 := hq
  subst hq
  have hP : va_P D vwCl ((h0, .inr (5, [.ref (f1 0), .ref (f2 0), .ref (f3 0), .ref q4, .ref (f5 0), .ref qh, .ref qs, .ref qz, .int 0, .int 0])) :: (qh, .inl (cA 2, 6, .inr (.inr (.inr (.inr (va_up (fun _ => none) 0 (some (f6 0)))))))) :: (qs, .inl (cA 2, 2, .inr (.inr (.inr (.inr (fun _ => none)))))) :: (qz, .inl (cA 1, 2, .inl (fun _ => 0))) :: (((((((xb cA 1 f1) ++ xb cA 4 f2) ++ xb cA 2 f3) ++ xf0 cA q4 f4) ++ xb cA 3 f5) ++ xb cA 1 f6) ++ xb cA 1 f7)) H1 := hP1
  have hD : va_D A ((h0, .inr (5, [.ref (f1 0), .ref (f2 0), .ref (f3 0), .ref q4, .ref (f5 0), .ref qh, .ref qs, .ref qz, .int 0, .int 0])) :: (qh, .inl (cA 2, 6, .inr (.inr (.inr (.inr (va_up (fun _ => none) 0 (some (f6 0)))))))) :: (qs, .inl (cA 2, 2, .inr (.inr (.inr (.inr (fun _ => none)))))) :: (qz, .inl (cA 1, 2, .inl (fun _ => 0))) :: (((((((xb cA 1 f1) ++ xb cA 4 f2) ++ xb cA 2 f3) ++ xf0 cA q4 f4) ++ xb cA 3 f5) ++ xb cA 1 f6) ++ xb cA 1 f7)) := hD1
  have hS := hS1
  clear hPc hDc hP1 hD1 hS1
  refine W.widen (k := 54) (n := 1391) (by decide) (by decide) ?_
  refine va_astq (D := D) (cl := vwCl) (r := (RX1, TX1, 12)) hx hb hK hP hD hS 1 2 _ 1 rfl rfl (xw_at (f := f7) (X := [(h0, .inr (5, [.ref (f1 0), .ref (f2 0), .ref (f3 0), .ref q4, .ref (f5 0), .ref qh, .ref qs, .ref qz, .int 0, .int 0])), (qh, .inl (cA 2, 6, .inr (.inr (.inr (.inr (va_up (fun _ => none) 0 (some (f6 0)))))))), (qs, .inl (cA 2, 2, .inr (.inr (.inr (.inr (fun _ => none)))))), (qz, .inl (cA 1, 2, .inl (fun _ => 0)))] ++ ((((((xb cA 1 f1) ++ xb cA 4 f2) ++ xb cA 2 f3) ++ xf0 cA q4 f4) ++ xb cA 3 f5) ++ xb cA 1 f6))) rfl (vp_in_nI (by omega) (by omega)) dX5_init_103 (fun H locs hP hD hS => ?_)
  rw [nI_clamp (by omega)] at hP hD
  have hP : va_P D vwCl ((h0, .inr (5, [.ref (f1 0), .ref (f2 0), .ref (f3 0), .ref q4, .ref (f5 0), .ref qh, .ref qs, .ref qz, .int 0, .int 0])) :: (qh, .inl (cA 2, 6, .inr (.inr (.inr (.inr (va_up (va_up (fun _ => none) 0 (some (f6 0))) 1 (some (f7 0)))))))) :: (qs, .inl (cA 2, 2, .inr (.inr (.inr (.inr (fun _ => none)))))) :: (qz, .inl (cA 1, 2, .inl (fun _ => 0))) :: (((((((xb cA 1 f1) ++ xb cA 4 f2) ++ xb cA 2 f3) ++ xf0 cA q4 f4) ++ xb cA 3 f5) ++ xb cA 1 f6) ++ xb cA 1 f7)) H := hP
  have hD : va_D A ((h0, .inr (5, [.ref (f1 0), .ref (f2 0), .ref (f3 0), .ref q4, .ref (f5 0), .ref qh, .ref qs, .ref qz, .int 0, .int 0])) :: (qh, .inl (cA 2, 6, .inr (.inr (.inr (.inr (va_up (va_up (fun _ => none) 0 (some (f6 0))) 1 (some (f7 0)))))))) :: (qs, .inl (cA 2, 2, .inr (.inr (.inr (.inr (fun _ => none)))))) :: (qz, .inl (cA 1, 2, .inl (fun _ => 0))) :: (((((((xb cA 1 f1) ++ xb cA 4 f2) ++ xb cA 2 f3) ++ xf0 cA q4 f4) ++ xb cA 3 f5) ++ xb cA 1 f6) ++ xb cA 1 f7)) := hD
  refine lv_iinc (v := nI 2) (lv' := [(1, .int (nI 2)), (0, .ref h0)]) (k := 0) hx hb dX5_init_104 hl rfl (by decide) (by decide) rfl (fun ls hl => ?_)
  refine lv_goto hx hb dX5_init_107 (tgt := 85) (by decide) ?_
  refine lv_iload_n hx hb dX5_init_85 rfl (lv_at hl 0 rfl) ?_
  refine lv_bipush (v := nI 6) hx hb dX5_init_86 (by decide +kernel) ?_
  refine lv_icmp_ge hx hb dX5_init_88 (tgt := 110) (by decide) (fun h => absurd h (by decide)) (fun _ => ?_)
  refine lv_aload_n hx hb dX5_init_91 rfl (lv_at hl 1 rfl) ?_
  refine va_get (D := D) (cl := vwCl) (ci := 5) (v := .ref qh) (C := RX5) (T := TX5) (N := 10) hx hb hts inX5_X5 hown hK hP 0 rfl rfl 5 (by decide) (hts (.fieldLink RX5 44 "RopedHalls" "history" "[LRopedHalls$Hall;") (by decide +kernel)) (fun _ h9 => h9) rfl dX5_init_92 ?_
  refine lv_iload_n hx hb dX5_init_95 rfl (lv_at hl 0 rfl) ?_
  have hc_8 : 54 + 1 ≤ 102 := by decide
  have hs_8 : 1391 + 12 ≤ 2399 := by decide
  refine va_new (D := D) (cl := vwCl) (ci := 1) (fs := [.int 0, .int 0, .int 0, .int 0, .int 0, .null, .null, .null, .null, .null, .null, .null]) (C := RX1) (T := TX1) (N := 12) hx hb hts inX5_X1 tyX1 tyX1_ok hown (hts (.classLink RX5 9 RX1) (by decide +kernel)) (hts (.instantiable RX1 12) (by decide +kernel)) (hts (.initialized RX1) (by decide +kernel)) hK hP hD hS hA rfl dfX1 hc_8 hs_8 dX5_init_96 (fun q8 H hP hD hS => ?_)
  refine W.widen (k := 55) (n := 1403) (by decide) (by decide) ?_
  refine lv_dup hx hb dX5_init_99 rfl ?_
  have hkc_8 : 55 + 7 ≤ 102 := by decide
  have hks_8 : 1403 + 156 ≤ 2399 := by decide
  have hPc : va_P D vwCl [(q8, .inr (1, [.int 0, .int 0, .int 0, .int 0, .int 0, .null, .null, .null, .null, .null, .null, .null]))] H := fun k x hx9 => by
    cases k with
    | zero => cases hx9; exact hP _ _ xw_lst
    | succ k => simp at hx9
  have hDc : va_D (fun _ => True) [(q8, .inr (1, [.int 0, .int 0, .int 0, .int 0, .int 0, .null, .null, .null, .null, .null, .null, .null]))] := ⟨fun i j x y hx9 hy9 _ => by
    cases i with
    | zero =>
      cases j with
      | zero => rfl
      | succ j => simp at hy9
    | succ i => simp at hx9, fun _ _ _ => trivial⟩
  refine xw_call (cA := cA) (va_runI (As := []) (rest := [.ref q8, .int (nI 2), .ref qh]) ⟨hx, hb, hml, hown, hts⟩ (i_X1 l D cA q8 H.size) (cwI 0 hts gX5_init_X1_init rfl rfl rfl (hts (.initialized RX1) (by decide +kernel)) (hts (.methodLink RX5 11 yX1_init) (by decide +kernel)) (hts (.instanceMethod yX1_init) (by decide +kernel)) rfl (by decide +kernel) ⟨Nat.le_of_ble_eq_true rfl, Nat.le_of_ble_eq_true rfl⟩) ⟨fun a U g mk q => by obtain ⟨q0, q1, qP, qK, qD⟩ := q; exact ⟨q0, q1, qP, va_K.moved (u := U) (U := U.calling g mk a) (Vm.Alike.refl U.vm) qK, qD⟩, fun U hU hW => ⟨rfl, by rw [hU], by rw [hU]; exact hPc, va_K.moved hW.alike hK, hDc⟩⟩ rfl rfl hl.1 rfl (lv_room (Nat.le_of_ble_eq_true rfl)) dX5_init_100 ⟨hkc_8, hks_8⟩) hP hD hS hA (fun f8 H1 locs1 hq hP1 hD1 hS1 => ?_)
  have hq : f8 0 = q8 := hq
  subst hq
  have hP : va_P D vwCl ((h0, .inr (5, [.ref (f1 0), .ref (f2 0), .ref (f3 0), .ref q4, .ref (f5 0), .ref qh, .ref qs, .ref qz, .int 0, .int 0])) :: (qh, .inl (cA 2, 6, .inr (.inr (.inr (.inr (va_up (va_up (fun _ => none) 0 (some (f6 0))) 1 (some (f7 0)))))))) :: (qs, .inl (cA 2, 2, .inr (.inr (.inr (.inr (fun _ => none)))))) :: (qz, .inl (cA 1, 2, .inl (fun _ => 0))) :: ((((((((xb cA 1 f1) ++ xb cA 4 f2) ++ xb cA 2 f3) ++ xf0 cA q4 f4) ++ xb cA 3 f5) ++ xb cA 1 f6) ++ xb cA 1 f7) ++ xb cA 1 f8)) H1 := hP1
  have hD : va_D A ((h0, .inr (5, [.ref (f1 0), .ref (f2 0), .ref (f3 0), .ref q4, .ref (f5 0), .ref qh, .ref qs, .ref qz, .int 0, .int 0])) :: (qh, .inl (cA 2, 6, .inr (.inr (.inr (.inr (va_up (va_up (fun _ => none) 0 (some (f6 0))) 1 (some (f7 0)))))))) :: (qs, .inl (cA 2, 2, .inr (.inr (.inr (.inr (fun _ => none)))))) :: (qz, .inl (cA 1, 2, .inl (fun _ => 0))) :: ((((((((xb cA 1 f1) ++ xb cA 4 f2) ++ xb cA 2 f3) ++ xf0 cA q4 f4) ++ xb cA 3 f5) ++ xb cA 1 f6) ++ xb cA 1 f7) ++ xb cA 1 f8)) := hD1
  have hS := hS1
  clear hPc hDc hP1 hD1 hS1
  refine W.widen (k := 62) (n := 1559) (by decide) (by decide) ?_
  refine va_astq (D := D) (cl := vwCl) (r := (RX1, TX1, 12)) hx hb hK hP hD hS 1 2 _ 1 rfl rfl (xw_at (f := f8) (X := [(h0, .inr (5, [.ref (f1 0), .ref (f2 0), .ref (f3 0), .ref q4, .ref (f5 0), .ref qh, .ref qs, .ref qz, .int 0, .int 0])), (qh, .inl (cA 2, 6, .inr (.inr (.inr (.inr (va_up (va_up (fun _ => none) 0 (some (f6 0))) 1 (some (f7 0)))))))), (qs, .inl (cA 2, 2, .inr (.inr (.inr (.inr (fun _ => none)))))), (qz, .inl (cA 1, 2, .inl (fun _ => 0)))] ++ (((((((xb cA 1 f1) ++ xb cA 4 f2) ++ xb cA 2 f3) ++ xf0 cA q4 f4) ++ xb cA 3 f5) ++ xb cA 1 f6) ++ xb cA 1 f7))) rfl (vp_in_nI (by omega) (by omega)) dX5_init_103 (fun H locs hP hD hS => ?_)
  rw [nI_clamp (by omega)] at hP hD
  have hP : va_P D vwCl ((h0, .inr (5, [.ref (f1 0), .ref (f2 0), .ref (f3 0), .ref q4, .ref (f5 0), .ref qh, .ref qs, .ref qz, .int 0, .int 0])) :: (qh, .inl (cA 2, 6, .inr (.inr (.inr (.inr (va_up (va_up (va_up (fun _ => none) 0 (some (f6 0))) 1 (some (f7 0))) 2 (some (f8 0)))))))) :: (qs, .inl (cA 2, 2, .inr (.inr (.inr (.inr (fun _ => none)))))) :: (qz, .inl (cA 1, 2, .inl (fun _ => 0))) :: ((((((((xb cA 1 f1) ++ xb cA 4 f2) ++ xb cA 2 f3) ++ xf0 cA q4 f4) ++ xb cA 3 f5) ++ xb cA 1 f6) ++ xb cA 1 f7) ++ xb cA 1 f8)) H := hP
  have hD : va_D A ((h0, .inr (5, [.ref (f1 0), .ref (f2 0), .ref (f3 0), .ref q4, .ref (f5 0), .ref qh, .ref qs, .ref qz, .int 0, .int 0])) :: (qh, .inl (cA 2, 6, .inr (.inr (.inr (.inr (va_up (va_up (va_up (fun _ => none) 0 (some (f6 0))) 1 (some (f7 0))) 2 (some (f8 0)))))))) :: (qs, .inl (cA 2, 2, .inr (.inr (.inr (.inr (fun _ => none)))))) :: (qz, .inl (cA 1, 2, .inl (fun _ => 0))) :: ((((((((xb cA 1 f1) ++ xb cA 4 f2) ++ xb cA 2 f3) ++ xf0 cA q4 f4) ++ xb cA 3 f5) ++ xb cA 1 f6) ++ xb cA 1 f7) ++ xb cA 1 f8)) := hD
  refine lv_iinc (v := nI 3) (lv' := [(1, .int (nI 3)), (0, .ref h0)]) (k := 0) hx hb dX5_init_104 hl rfl (by decide) (by decide) rfl (fun ls hl => ?_)
  refine lv_goto hx hb dX5_init_107 (tgt := 85) (by decide) ?_
  refine lv_iload_n hx hb dX5_init_85 rfl (lv_at hl 0 rfl) ?_
  refine lv_bipush (v := nI 6) hx hb dX5_init_86 (by decide +kernel) ?_
  refine lv_icmp_ge hx hb dX5_init_88 (tgt := 110) (by decide) (fun h => absurd h (by decide)) (fun _ => ?_)
  refine lv_aload_n hx hb dX5_init_91 rfl (lv_at hl 1 rfl) ?_
  refine va_get (D := D) (cl := vwCl) (ci := 5) (v := .ref qh) (C := RX5) (T := TX5) (N := 10) hx hb hts inX5_X5 hown hK hP 0 rfl rfl 5 (by decide) (hts (.fieldLink RX5 44 "RopedHalls" "history" "[LRopedHalls$Hall;") (by decide +kernel)) (fun _ h9 => h9) rfl dX5_init_92 ?_
  refine lv_iload_n hx hb dX5_init_95 rfl (lv_at hl 0 rfl) ?_
  have hc_9 : 62 + 1 ≤ 102 := by decide
  have hs_9 : 1559 + 12 ≤ 2399 := by decide
  refine va_new (D := D) (cl := vwCl) (ci := 1) (fs := [.int 0, .int 0, .int 0, .int 0, .int 0, .null, .null, .null, .null, .null, .null, .null]) (C := RX1) (T := TX1) (N := 12) hx hb hts inX5_X1 tyX1 tyX1_ok hown (hts (.classLink RX5 9 RX1) (by decide +kernel)) (hts (.instantiable RX1 12) (by decide +kernel)) (hts (.initialized RX1) (by decide +kernel)) hK hP hD hS hA rfl dfX1 hc_9 hs_9 dX5_init_96 (fun q9 H hP hD hS => ?_)
  refine W.widen (k := 63) (n := 1571) (by decide) (by decide) ?_
  refine lv_dup hx hb dX5_init_99 rfl ?_
  have hkc_9 : 63 + 7 ≤ 102 := by decide
  have hks_9 : 1571 + 156 ≤ 2399 := by decide
  have hPc : va_P D vwCl [(q9, .inr (1, [.int 0, .int 0, .int 0, .int 0, .int 0, .null, .null, .null, .null, .null, .null, .null]))] H := fun k x hx9 => by
    cases k with
    | zero => cases hx9; exact hP _ _ xw_lst
    | succ k => simp at hx9
  have hDc : va_D (fun _ => True) [(q9, .inr (1, [.int 0, .int 0, .int 0, .int 0, .int 0, .null, .null, .null, .null, .null, .null, .null]))] := ⟨fun i j x y hx9 hy9 _ => by
    cases i with
    | zero =>
      cases j with
      | zero => rfl
      | succ j => simp at hy9
    | succ i => simp at hx9, fun _ _ _ => trivial⟩
  refine xw_call (cA := cA) (va_runI (As := []) (rest := [.ref q9, .int (nI 3), .ref qh]) ⟨hx, hb, hml, hown, hts⟩ (i_X1 l D cA q9 H.size) (cwI 0 hts gX5_init_X1_init rfl rfl rfl (hts (.initialized RX1) (by decide +kernel)) (hts (.methodLink RX5 11 yX1_init) (by decide +kernel)) (hts (.instanceMethod yX1_init) (by decide +kernel)) rfl (by decide +kernel) ⟨Nat.le_of_ble_eq_true rfl, Nat.le_of_ble_eq_true rfl⟩) ⟨fun a U g mk q => by obtain ⟨q0, q1, qP, qK, qD⟩ := q; exact ⟨q0, q1, qP, va_K.moved (u := U) (U := U.calling g mk a) (Vm.Alike.refl U.vm) qK, qD⟩, fun U hU hW => ⟨rfl, by rw [hU], by rw [hU]; exact hPc, va_K.moved hW.alike hK, hDc⟩⟩ rfl rfl hl.1 rfl (lv_room (Nat.le_of_ble_eq_true rfl)) dX5_init_100 ⟨hkc_9, hks_9⟩) hP hD hS hA (fun f9 H1 locs1 hq hP1 hD1 hS1 => ?_)
  have hq : f9 0 = q9 := hq
  subst hq
  have hP : va_P D vwCl ((h0, .inr (5, [.ref (f1 0), .ref (f2 0), .ref (f3 0), .ref q4, .ref (f5 0), .ref qh, .ref qs, .ref qz, .int 0, .int 0])) :: (qh, .inl (cA 2, 6, .inr (.inr (.inr (.inr (va_up (va_up (va_up (fun _ => none) 0 (some (f6 0))) 1 (some (f7 0))) 2 (some (f8 0)))))))) :: (qs, .inl (cA 2, 2, .inr (.inr (.inr (.inr (fun _ => none)))))) :: (qz, .inl (cA 1, 2, .inl (fun _ => 0))) :: (((((((((xb cA 1 f1) ++ xb cA 4 f2) ++ xb cA 2 f3) ++ xf0 cA q4 f4) ++ xb cA 3 f5) ++ xb cA 1 f6) ++ xb cA 1 f7) ++ xb cA 1 f8) ++ xb cA 1 f9)) H1 := hP1
  have hD : va_D A ((h0, .inr (5, [.ref (f1 0), .ref (f2 0), .ref (f3 0), .ref q4, .ref (f5 0), .ref qh, .ref qs, .ref qz, .int 0, .int 0])) :: (qh, .inl (cA 2, 6, .inr (.inr (.inr (.inr (va_up (va_up (va_up (fun _ => none) 0 (some (f6 0))) 1 (some (f7 0))) 2 (some (f8 0)))))))) :: (qs, .inl (cA 2, 2, .inr (.inr (.inr (.inr (fun _ => none)))))) :: (qz, .inl (cA 1, 2, .inl (fun _ => 0))) :: (((((((((xb cA 1 f1) ++ xb cA 4 f2) ++ xb cA 2 f3) ++ xf0 cA q4 f4) ++ xb cA 3 f5) ++ xb cA 1 f6) ++ xb cA 1 f7) ++ xb cA 1 f8) ++ xb cA 1 f9)) := hD1
  have hS := hS1
  clear hPc hDc hP1 hD1 hS1
  refine W.widen (k := 70) (n := 1727) (by decide) (by decide) ?_
  refine va_astq (D := D) (cl := vwCl) (r := (RX1, TX1, 12)) hx hb hK hP hD hS 1 2 _ 1 rfl rfl (xw_at (f := f9) (X := [(h0, .inr (5, [.ref (f1 0), .ref (f2 0), .ref (f3 0), .ref q4, .ref (f5 0), .ref qh, .ref qs, .ref qz, .int 0, .int 0])), (qh, .inl (cA 2, 6, .inr (.inr (.inr (.inr (va_up (va_up (va_up (fun _ => none) 0 (some (f6 0))) 1 (some (f7 0))) 2 (some (f8 0)))))))), (qs, .inl (cA 2, 2, .inr (.inr (.inr (.inr (fun _ => none)))))), (qz, .inl (cA 1, 2, .inl (fun _ => 0)))] ++ ((((((((xb cA 1 f1) ++ xb cA 4 f2) ++ xb cA 2 f3) ++ xf0 cA q4 f4) ++ xb cA 3 f5) ++ xb cA 1 f6) ++ xb cA 1 f7) ++ xb cA 1 f8))) rfl (vp_in_nI (by omega) (by omega)) dX5_init_103 (fun H locs hP hD hS => ?_)
  rw [nI_clamp (by omega)] at hP hD
  have hP : va_P D vwCl ((h0, .inr (5, [.ref (f1 0), .ref (f2 0), .ref (f3 0), .ref q4, .ref (f5 0), .ref qh, .ref qs, .ref qz, .int 0, .int 0])) :: (qh, .inl (cA 2, 6, .inr (.inr (.inr (.inr (va_up (va_up (va_up (va_up (fun _ => none) 0 (some (f6 0))) 1 (some (f7 0))) 2 (some (f8 0))) 3 (some (f9 0)))))))) :: (qs, .inl (cA 2, 2, .inr (.inr (.inr (.inr (fun _ => none)))))) :: (qz, .inl (cA 1, 2, .inl (fun _ => 0))) :: (((((((((xb cA 1 f1) ++ xb cA 4 f2) ++ xb cA 2 f3) ++ xf0 cA q4 f4) ++ xb cA 3 f5) ++ xb cA 1 f6) ++ xb cA 1 f7) ++ xb cA 1 f8) ++ xb cA 1 f9)) H := hP
  have hD : va_D A ((h0, .inr (5, [.ref (f1 0), .ref (f2 0), .ref (f3 0), .ref q4, .ref (f5 0), .ref qh, .ref qs, .ref qz, .int 0, .int 0])) :: (qh, .inl (cA 2, 6, .inr (.inr (.inr (.inr (va_up (va_up (va_up (va_up (fun _ => none) 0 (some (f6 0))) 1 (some (f7 0))) 2 (some (f8 0))) 3 (some (f9 0)))))))) :: (qs, .inl (cA 2, 2, .inr (.inr (.inr (.inr (fun _ => none)))))) :: (qz, .inl (cA 1, 2, .inl (fun _ => 0))) :: (((((((((xb cA 1 f1) ++ xb cA 4 f2) ++ xb cA 2 f3) ++ xf0 cA q4 f4) ++ xb cA 3 f5) ++ xb cA 1 f6) ++ xb cA 1 f7) ++ xb cA 1 f8) ++ xb cA 1 f9)) := hD
  refine lv_iinc (v := nI 4) (lv' := [(1, .int (nI 4)), (0, .ref h0)]) (k := 0) hx hb dX5_init_104 hl rfl (by decide) (by decide) rfl (fun ls hl => ?_)
  refine lv_goto hx hb dX5_init_107 (tgt := 85) (by decide) ?_
  refine lv_iload_n hx hb dX5_init_85 rfl (lv_at hl 0 rfl) ?_
  refine lv_bipush (v := nI 6) hx hb dX5_init_86 (by decide +kernel) ?_
  refine lv_icmp_ge hx hb dX5_init_88 (tgt := 110) (by decide) (fun h => absurd h (by decide)) (fun _ => ?_)
  refine lv_aload_n hx hb dX5_init_91 rfl (lv_at hl 1 rfl) ?_
  refine va_get (D := D) (cl := vwCl) (ci := 5) (v := .ref qh) (C := RX5) (T := TX5) (N := 10) hx hb hts inX5_X5 hown hK hP 0 rfl rfl 5 (by decide) (hts (.fieldLink RX5 44 "RopedHalls" "history" "[LRopedHalls$Hall;") (by decide +kernel)) (fun _ h9 => h9) rfl dX5_init_92 ?_
  refine lv_iload_n hx hb dX5_init_95 rfl (lv_at hl 0 rfl) ?_
  have hc_10 : 70 + 1 ≤ 102 := by decide
  have hs_10 : 1727 + 12 ≤ 2399 := by decide
  refine va_new (D := D) (cl := vwCl) (ci := 1) (fs := [.int 0, .int 0, .int 0, .int 0, .int 0, .null, .null, .null, .null, .null, .null, .null]) (C := RX1) (T := TX1) (N := 12) hx hb hts inX5_X1 tyX1 tyX1_ok hown (hts (.classLink RX5 9 RX1) (by decide +kernel)) (hts (.instantiable RX1 12) (by decide +kernel)) (hts (.initialized RX1) (by decide +kernel)) hK hP hD hS hA rfl dfX1 hc_10 hs_10 dX5_init_96 (fun q10 H hP hD hS => ?_)
  refine W.widen (k := 71) (n := 1739) (by decide) (by decide) ?_
  refine lv_dup hx hb dX5_init_99 rfl ?_
  have hkc_10 : 71 + 7 ≤ 102 := by decide
  have hks_10 : 1739 + 156 ≤ 2399 := by decide
  have hPc : va_P D vwCl [(q10, .inr (1, [.int 0, .int 0, .int 0, .int 0, .int 0, .null, .null, .null, .null, .null, .null, .null]))] H := fun k x hx9 => by
    cases k with
    | zero => cases hx9; exact hP _ _ xw_lst
    | succ k => simp at hx9
  have hDc : va_D (fun _ => True) [(q10, .inr (1, [.int 0, .int 0, .int 0, .int 0, .int 0, .null, .null, .null, .null, .null, .null, .null]))] := ⟨fun i j x y hx9 hy9 _ => by
    cases i with
    | zero =>
      cases j with
      | zero => rfl
      | succ j => simp at hy9
    | succ i => simp at hx9, fun _ _ _ => trivial⟩
  refine xw_call (cA := cA) (va_runI (As := []) (rest := [.ref q10, .int (nI 4), .ref qh]) ⟨hx, hb, hml, hown, hts⟩ (i_X1 l D cA q10 H.size) (cwI 0 hts gX5_init_X1_init rfl rfl rfl (hts (.initialized RX1) (by decide +kernel)) (hts (.methodLink RX5 11 yX1_init) (by decide +kernel)) (hts (.instanceMethod yX1_init) (by decide +kernel)) rfl (by decide +kernel) ⟨Nat.le_of_ble_eq_true rfl, Nat.le_of_ble_eq_true rfl⟩) ⟨fun a U g mk q => by obtain ⟨q0, q1, qP, qK, qD⟩ := q; exact ⟨q0, q1, qP, va_K.moved (u := U) (U := U.calling g mk a) (Vm.Alike.refl U.vm) qK, qD⟩, fun U hU hW => ⟨rfl, by rw [hU], by rw [hU]; exact hPc, va_K.moved hW.alike hK, hDc⟩⟩ rfl rfl hl.1 rfl (lv_room (Nat.le_of_ble_eq_true rfl)) dX5_init_100 ⟨hkc_10, hks_10⟩) hP hD hS hA (fun f10 H1 locs1 hq hP1 hD1 hS1 => ?_)
  have hq : f10 0 = q10 := hq
  subst hq
  have hP : va_P D vwCl ((h0, .inr (5, [.ref (f1 0), .ref (f2 0), .ref (f3 0), .ref q4, .ref (f5 0), .ref qh, .ref qs, .ref qz, .int 0, .int 0])) :: (qh, .inl (cA 2, 6, .inr (.inr (.inr (.inr (va_up (va_up (va_up (va_up (fun _ => none) 0 (some (f6 0))) 1 (some (f7 0))) 2 (some (f8 0))) 3 (some (f9 0)))))))) :: (qs, .inl (cA 2, 2, .inr (.inr (.inr (.inr (fun _ => none)))))) :: (qz, .inl (cA 1, 2, .inl (fun _ => 0))) :: ((((((((((xb cA 1 f1) ++ xb cA 4 f2) ++ xb cA 2 f3) ++ xf0 cA q4 f4) ++ xb cA 3 f5) ++ xb cA 1 f6) ++ xb cA 1 f7) ++ xb cA 1 f8) ++ xb cA 1 f9) ++ xb cA 1 f10)) H1 := hP1
  have hD : va_D A ((h0, .inr (5, [.ref (f1 0), .ref (f2 0), .ref (f3 0), .ref q4, .ref (f5 0), .ref qh, .ref qs, .ref qz, .int 0, .int 0])) :: (qh, .inl (cA 2, 6, .inr (.inr (.inr (.inr (va_up (va_up (va_up (va_up (fun _ => none) 0 (some (f6 0))) 1 (some (f7 0))) 2 (some (f8 0))) 3 (some (f9 0)))))))) :: (qs, .inl (cA 2, 2, .inr (.inr (.inr (.inr (fun _ => none)))))) :: (qz, .inl (cA 1, 2, .inl (fun _ => 0))) :: ((((((((((xb cA 1 f1) ++ xb cA 4 f2) ++ xb cA 2 f3) ++ xf0 cA q4 f4) ++ xb cA 3 f5) ++ xb cA 1 f6) ++ xb cA 1 f7) ++ xb cA 1 f8) ++ xb cA 1 f9) ++ xb cA 1 f10)) := hD1
  have hS := hS1
  clear hPc hDc hP1 hD1 hS1
  refine W.widen (k := 78) (n := 1895) (by decide) (by decide) ?_
  refine va_astq (D := D) (cl := vwCl) (r := (RX1, TX1, 12)) hx hb hK hP hD hS 1 2 _ 1 rfl rfl (xw_at (f := f10) (X := [(h0, .inr (5, [.ref (f1 0), .ref (f2 0), .ref (f3 0), .ref q4, .ref (f5 0), .ref qh, .ref qs, .ref qz, .int 0, .int 0])), (qh, .inl (cA 2, 6, .inr (.inr (.inr (.inr (va_up (va_up (va_up (va_up (fun _ => none) 0 (some (f6 0))) 1 (some (f7 0))) 2 (some (f8 0))) 3 (some (f9 0)))))))), (qs, .inl (cA 2, 2, .inr (.inr (.inr (.inr (fun _ => none)))))), (qz, .inl (cA 1, 2, .inl (fun _ => 0)))] ++ (((((((((xb cA 1 f1) ++ xb cA 4 f2) ++ xb cA 2 f3) ++ xf0 cA q4 f4) ++ xb cA 3 f5) ++ xb cA 1 f6) ++ xb cA 1 f7) ++ xb cA 1 f8) ++ xb cA 1 f9))) rfl (vp_in_nI (by omega) (by omega)) dX5_init_103 (fun H locs hP hD hS => ?_)
  rw [nI_clamp (by omega)] at hP hD
  have hP : va_P D vwCl ((h0, .inr (5, [.ref (f1 0), .ref (f2 0), .ref (f3 0), .ref q4, .ref (f5 0), .ref qh, .ref qs, .ref qz, .int 0, .int 0])) :: (qh, .inl (cA 2, 6, .inr (.inr (.inr (.inr (va_up (va_up (va_up (va_up (va_up (fun _ => none) 0 (some (f6 0))) 1 (some (f7 0))) 2 (some (f8 0))) 3 (some (f9 0))) 4 (some (f10 0)))))))) :: (qs, .inl (cA 2, 2, .inr (.inr (.inr (.inr (fun _ => none)))))) :: (qz, .inl (cA 1, 2, .inl (fun _ => 0))) :: ((((((((((xb cA 1 f1) ++ xb cA 4 f2) ++ xb cA 2 f3) ++ xf0 cA q4 f4) ++ xb cA 3 f5) ++ xb cA 1 f6) ++ xb cA 1 f7) ++ xb cA 1 f8) ++ xb cA 1 f9) ++ xb cA 1 f10)) H := hP
  have hD : va_D A ((h0, .inr (5, [.ref (f1 0), .ref (f2 0), .ref (f3 0), .ref q4, .ref (f5 0), .ref qh, .ref qs, .ref qz, .int 0, .int 0])) :: (qh, .inl (cA 2, 6, .inr (.inr (.inr (.inr (va_up (va_up (va_up (va_up (va_up (fun _ => none) 0 (some (f6 0))) 1 (some (f7 0))) 2 (some (f8 0))) 3 (some (f9 0))) 4 (some (f10 0)))))))) :: (qs, .inl (cA 2, 2, .inr (.inr (.inr (.inr (fun _ => none)))))) :: (qz, .inl (cA 1, 2, .inl (fun _ => 0))) :: ((((((((((xb cA 1 f1) ++ xb cA 4 f2) ++ xb cA 2 f3) ++ xf0 cA q4 f4) ++ xb cA 3 f5) ++ xb cA 1 f6) ++ xb cA 1 f7) ++ xb cA 1 f8) ++ xb cA 1 f9) ++ xb cA 1 f10)) := hD
  refine lv_iinc (v := nI 5) (lv' := [(1, .int (nI 5)), (0, .ref h0)]) (k := 0) hx hb dX5_init_104 hl rfl (by decide) (by decide) rfl (fun ls hl => ?_)
  refine lv_goto hx hb dX5_init_107 (tgt := 85) (by decide) ?_
  refine lv_iload_n hx hb dX5_init_85 rfl (lv_at hl 0 rfl) ?_
  refine lv_bipush (v := nI 6) hx hb dX5_init_86 (by decide +kernel) ?_
  refine lv_icmp_ge hx hb dX5_init_88 (tgt := 110) (by decide) (fun h => absurd h (by decide)) (fun _ => ?_)
  refine lv_aload_n hx hb dX5_init_91 rfl (lv_at hl 1 rfl) ?_
  refine va_get (D := D) (cl := vwCl) (ci := 5) (v := .ref qh) (C := RX5) (T := TX5) (N := 10) hx hb hts inX5_X5 hown hK hP 0 rfl rfl 5 (by decide) (hts (.fieldLink RX5 44 "RopedHalls" "history" "[LRopedHalls$Hall;") (by decide +kernel)) (fun _ h9 => h9) rfl dX5_init_92 ?_
  refine lv_iload_n hx hb dX5_init_95 rfl (lv_at hl 0 rfl) ?_
  have hc_11 : 78 + 1 ≤ 102 := by decide
  have hs_11 : 1895 + 12 ≤ 2399 := by decide
  refine va_new (D := D) (cl := vwCl) (ci := 1) (fs := [.int 0, .int 0, .int 0, .int 0, .int 0, .null, .null, .null, .null, .null, .null, .null]) (C := RX1) (T := TX1) (N := 12) hx hb hts inX5_X1 tyX1 tyX1_ok hown (hts (.classLink RX5 9 RX1) (by decide +kernel)) (hts (.instantiable RX1 12) (by decide +kernel)) (hts (.initialized RX1) (by decide +kernel)) hK hP hD hS hA rfl dfX1 hc_11 hs_11 dX5_init_96 (fun q11 H hP hD hS => ?_)
  refine W.widen (k := 79) (n := 1907) (by decide) (by decide) ?_
  refine lv_dup hx hb dX5_init_99 rfl ?_
  have hkc_11 : 79 + 7 ≤ 102 := by decide
  have hks_11 : 1907 + 156 ≤ 2399 := by decide
  have hPc : va_P D vwCl [(q11, .inr (1, [.int 0, .int 0, .int 0, .int 0, .int 0, .null, .null, .null, .null, .null, .null, .null]))] H := fun k x hx9 => by
    cases k with
    | zero => cases hx9; exact hP _ _ xw_lst
    | succ k => simp at hx9
  have hDc : va_D (fun _ => True) [(q11, .inr (1, [.int 0, .int 0, .int 0, .int 0, .int 0, .null, .null, .null, .null, .null, .null, .null]))] := ⟨fun i j x y hx9 hy9 _ => by
    cases i with
    | zero =>
      cases j with
      | zero => rfl
      | succ j => simp at hy9
    | succ i => simp at hx9, fun _ _ _ => trivial⟩
  refine xw_call (cA := cA) (va_runI (As := []) (rest := [.ref q11, .int (nI 5), .ref qh]) ⟨hx, hb, hml, hown, hts⟩ (i_X1 l D cA q11 H.size) (cwI 0 hts gX5_init_X1_init rfl rfl rfl (hts (.initialized RX1) (by decide +kernel)) (hts (.methodLink RX5 11 yX1_init) (by decide +kernel)) (hts (.instanceMethod yX1_init) (by decide +kernel)) rfl (by decide +kernel) ⟨Nat.le_of_ble_eq_true rfl, Nat.le_of_ble_eq_true rfl⟩) ⟨fun a U g mk q => by obtain ⟨q0, q1, qP, qK, qD⟩ := q; exact ⟨q0, q1, qP, va_K.moved (u := U) (U := U.calling g mk a) (Vm.Alike.refl U.vm) qK, qD⟩, fun U hU hW => ⟨rfl, by rw [hU], by rw [hU]; exact hPc, va_K.moved hW.alike hK, hDc⟩⟩ rfl rfl hl.1 rfl (lv_room (Nat.le_of_ble_eq_true rfl)) dX5_init_100 ⟨hkc_11, hks_11⟩) hP hD hS hA (fun f11 H1 locs1 hq hP1 hD1 hS1 => ?_)
  have hq : f11 0 = q11 := hq
  subst hq
  have hP : va_P D vwCl ((h0, .inr (5, [.ref (f1 0), .ref (f2 0), .ref (f3 0), .ref q4, .ref (f5 0), .ref qh, .ref qs, .ref qz, .int 0, .int 0])) :: (qh, .inl (cA 2, 6, .inr (.inr (.inr (.inr (va_up (va_up (va_up (va_up (va_up (fun _ => none) 0 (some (f6 0))) 1 (some (f7 0))) 2 (some (f8 0))) 3 (some (f9 0))) 4 (some (f10 0)))))))) :: (qs, .inl (cA 2, 2, .inr (.inr (.inr (.inr (fun _ => none)))))) :: (qz, .inl (cA 1, 2, .inl (fun _ => 0))) :: (((((((((((xb cA 1 f1) ++ xb cA 4 f2) ++ xb cA 2 f3) ++ xf0 cA q4 f4) ++ xb cA 3 f5) ++ xb cA 1 f6) ++ xb cA 1 f7) ++ xb cA 1 f8) ++ xb cA 1 f9) ++ xb cA 1 f10) ++ xb cA 1 f11)) H1 := hP1
  have hD : va_D A ((h0, .inr (5, [.ref (f1 0), .ref (f2 0), .ref (f3 0), .ref q4, .ref (f5 0), .ref qh, .ref qs, .ref qz, .int 0, .int 0])) :: (qh, .inl (cA 2, 6, .inr (.inr (.inr (.inr (va_up (va_up (va_up (va_up (va_up (fun _ => none) 0 (some (f6 0))) 1 (some (f7 0))) 2 (some (f8 0))) 3 (some (f9 0))) 4 (some (f10 0)))))))) :: (qs, .inl (cA 2, 2, .inr (.inr (.inr (.inr (fun _ => none)))))) :: (qz, .inl (cA 1, 2, .inl (fun _ => 0))) :: (((((((((((xb cA 1 f1) ++ xb cA 4 f2) ++ xb cA 2 f3) ++ xf0 cA q4 f4) ++ xb cA 3 f5) ++ xb cA 1 f6) ++ xb cA 1 f7) ++ xb cA 1 f8) ++ xb cA 1 f9) ++ xb cA 1 f10) ++ xb cA 1 f11)) := hD1
  have hS := hS1
  clear hPc hDc hP1 hD1 hS1
  refine W.widen (k := 86) (n := 2063) (by decide) (by decide) ?_
  refine va_astq (D := D) (cl := vwCl) (r := (RX1, TX1, 12)) hx hb hK hP hD hS 1 2 _ 1 rfl rfl (xw_at (f := f11) (X := [(h0, .inr (5, [.ref (f1 0), .ref (f2 0), .ref (f3 0), .ref q4, .ref (f5 0), .ref qh, .ref qs, .ref qz, .int 0, .int 0])), (qh, .inl (cA 2, 6, .inr (.inr (.inr (.inr (va_up (va_up (va_up (va_up (va_up (fun _ => none) 0 (some (f6 0))) 1 (some (f7 0))) 2 (some (f8 0))) 3 (some (f9 0))) 4 (some (f10 0)))))))), (qs, .inl (cA 2, 2, .inr (.inr (.inr (.inr (fun _ => none)))))), (qz, .inl (cA 1, 2, .inl (fun _ => 0)))] ++ ((((((((((xb cA 1 f1) ++ xb cA 4 f2) ++ xb cA 2 f3) ++ xf0 cA q4 f4) ++ xb cA 3 f5) ++ xb cA 1 f6) ++ xb cA 1 f7) ++ xb cA 1 f8) ++ xb cA 1 f9) ++ xb cA 1 f10))) rfl (vp_in_nI (by omega) (by omega)) dX5_init_103 (fun H locs hP hD hS => ?_)
  rw [nI_clamp (by omega)] at hP hD
  have hP : va_P D vwCl ((h0, .inr (5, [.ref (f1 0), .ref (f2 0), .ref (f3 0), .ref q4, .ref (f5 0), .ref qh, .ref qs, .ref qz, .int 0, .int 0])) :: (qh, .inl (cA 2, 6, .inr (.inr (.inr (.inr (va_up (va_up (va_up (va_up (va_up (va_up (fun _ => none) 0 (some (f6 0))) 1 (some (f7 0))) 2 (some (f8 0))) 3 (some (f9 0))) 4 (some (f10 0))) 5 (some (f11 0)))))))) :: (qs, .inl (cA 2, 2, .inr (.inr (.inr (.inr (fun _ => none)))))) :: (qz, .inl (cA 1, 2, .inl (fun _ => 0))) :: (((((((((((xb cA 1 f1) ++ xb cA 4 f2) ++ xb cA 2 f3) ++ xf0 cA q4 f4) ++ xb cA 3 f5) ++ xb cA 1 f6) ++ xb cA 1 f7) ++ xb cA 1 f8) ++ xb cA 1 f9) ++ xb cA 1 f10) ++ xb cA 1 f11)) H := hP
  have hD : va_D A ((h0, .inr (5, [.ref (f1 0), .ref (f2 0), .ref (f3 0), .ref q4, .ref (f5 0), .ref qh, .ref qs, .ref qz, .int 0, .int 0])) :: (qh, .inl (cA 2, 6, .inr (.inr (.inr (.inr (va_up (va_up (va_up (va_up (va_up (va_up (fun _ => none) 0 (some (f6 0))) 1 (some (f7 0))) 2 (some (f8 0))) 3 (some (f9 0))) 4 (some (f10 0))) 5 (some (f11 0)))))))) :: (qs, .inl (cA 2, 2, .inr (.inr (.inr (.inr (fun _ => none)))))) :: (qz, .inl (cA 1, 2, .inl (fun _ => 0))) :: (((((((((((xb cA 1 f1) ++ xb cA 4 f2) ++ xb cA 2 f3) ++ xf0 cA q4 f4) ++ xb cA 3 f5) ++ xb cA 1 f6) ++ xb cA 1 f7) ++ xb cA 1 f8) ++ xb cA 1 f9) ++ xb cA 1 f10) ++ xb cA 1 f11)) := hD
  refine lv_iinc (v := nI 6) (lv' := [(1, .int (nI 6)), (0, .ref h0)]) (k := 0) hx hb dX5_init_104 hl rfl (by decide) (by decide) rfl (fun ls hl => ?_)
  refine lv_goto hx hb dX5_init_107 (tgt := 85) (by decide) ?_
  refine lv_iload_n hx hb dX5_init_85 rfl (lv_at hl 0 rfl) ?_
  refine lv_bipush (v := nI 6) hx hb dX5_init_86 (by decide +kernel) ?_
  refine lv_icmp_ge hx hb dX5_init_88 (tgt := 110) (by decide) (fun _ => ?_) (fun h => absurd (by decide) h)
  refine lv_iconst (v := nI 0) hx hb dX5_init_110 (by decide +kernel) ?_
  refine lv_istore_n (lv' := [(1, .int (nI 0)), (0, .ref h0)]) hx hb dX5_init_111 rfl hl (by decide) rfl (fun ls hl => ?_)
  refine lv_iload_n hx hb dX5_init_112 rfl (lv_at hl 0 rfl) ?_
  refine lv_iconst (v := nI 2) hx hb dX5_init_113 (by decide +kernel) ?_
  refine lv_icmp_ge hx hb dX5_init_114 (tgt := 136) (by decide) (fun h => absurd h (by decide)) (fun _ => ?_)
  refine lv_aload_n hx hb dX5_init_117 rfl (lv_at hl 1 rfl) ?_
  refine va_get (D := D) (cl := vwCl) (ci := 5) (v := .ref qs) (C := RX5) (T := TX5) (N := 10) hx hb hts inX5_X5 hown hK hP 0 rfl rfl 6 (by decide) (hts (.fieldLink RX5 48 "RopedHalls" "slots" "[LRopedHalls$Hall;") (by decide +kernel)) (fun _ h9 => h9) rfl dX5_init_118 ?_
  refine lv_iload_n hx hb dX5_init_121 rfl (lv_at hl 0 rfl) ?_
  have hc_12 : 86 + 1 ≤ 102 := by decide
  have hs_12 : 2063 + 12 ≤ 2399 := by decide
  refine va_new (D := D) (cl := vwCl) (ci := 1) (fs := [.int 0, .int 0, .int 0, .int 0, .int 0, .null, .null, .null, .null, .null, .null, .null]) (C := RX1) (T := TX1) (N := 12) hx hb hts inX5_X1 tyX1 tyX1_ok hown (hts (.classLink RX5 9 RX1) (by decide +kernel)) (hts (.instantiable RX1 12) (by decide +kernel)) (hts (.initialized RX1) (by decide +kernel)) hK hP hD hS hA rfl dfX1 hc_12 hs_12 dX5_init_122 (fun q12 H hP hD hS => ?_)
  refine W.widen (k := 87) (n := 2075) (by decide) (by decide) ?_
  refine lv_dup hx hb dX5_init_125 rfl ?_
  have hkc_12 : 87 + 7 ≤ 102 := by decide
  have hks_12 : 2075 + 156 ≤ 2399 := by decide
  have hPc : va_P D vwCl [(q12, .inr (1, [.int 0, .int 0, .int 0, .int 0, .int 0, .null, .null, .null, .null, .null, .null, .null]))] H := fun k x hx9 => by
    cases k with
    | zero => cases hx9; exact hP _ _ xw_lst
    | succ k => simp at hx9
  have hDc : va_D (fun _ => True) [(q12, .inr (1, [.int 0, .int 0, .int 0, .int 0, .int 0, .null, .null, .null, .null, .null, .null, .null]))] := ⟨fun i j x y hx9 hy9 _ => by
    cases i with
    | zero =>
      cases j with
      | zero => rfl
      | succ j => simp at hy9
    | succ i => simp at hx9, fun _ _ _ => trivial⟩
  refine xw_call (cA := cA) (va_runI (As := []) (rest := [.ref q12, .int (nI 0), .ref qs]) ⟨hx, hb, hml, hown, hts⟩ (i_X1 l D cA q12 H.size) (cwI 0 hts gX5_init_X1_init rfl rfl rfl (hts (.initialized RX1) (by decide +kernel)) (hts (.methodLink RX5 11 yX1_init) (by decide +kernel)) (hts (.instanceMethod yX1_init) (by decide +kernel)) rfl (by decide +kernel) ⟨Nat.le_of_ble_eq_true rfl, Nat.le_of_ble_eq_true rfl⟩) ⟨fun a U g mk q => by obtain ⟨q0, q1, qP, qK, qD⟩ := q; exact ⟨q0, q1, qP, va_K.moved (u := U) (U := U.calling g mk a) (Vm.Alike.refl U.vm) qK, qD⟩, fun U hU hW => ⟨rfl, by rw [hU], by rw [hU]; exact hPc, va_K.moved hW.alike hK, hDc⟩⟩ rfl rfl hl.1 rfl (lv_room (Nat.le_of_ble_eq_true rfl)) dX5_init_126 ⟨hkc_12, hks_12⟩) hP hD hS hA (fun f12 H1 locs1 hq hP1 hD1 hS1 => ?_)
  have hq : f12 0 = q12 := hq
  subst hq
  have hP : va_P D vwCl ((h0, .inr (5, [.ref (f1 0), .ref (f2 0), .ref (f3 0), .ref q4, .ref (f5 0), .ref qh, .ref qs, .ref qz, .int 0, .int 0])) :: (qh, .inl (cA 2, 6, .inr (.inr (.inr (.inr (va_up (va_up (va_up (va_up (va_up (va_up (fun _ => none) 0 (some (f6 0))) 1 (some (f7 0))) 2 (some (f8 0))) 3 (some (f9 0))) 4 (some (f10 0))) 5 (some (f11 0)))))))) :: (qs, .inl (cA 2, 2, .inr (.inr (.inr (.inr (fun _ => none)))))) :: (qz, .inl (cA 1, 2, .inl (fun _ => 0))) :: ((((((((((((xb cA 1 f1) ++ xb cA 4 f2) ++ xb cA 2 f3) ++ xf0 cA q4 f4) ++ xb cA 3 f5) ++ xb cA 1 f6) ++ xb cA 1 f7) ++ xb cA 1 f8) ++ xb cA 1 f9) ++ xb cA 1 f10) ++ xb cA 1 f11) ++ xb cA 1 f12)) H1 := hP1
  have hD : va_D A ((h0, .inr (5, [.ref (f1 0), .ref (f2 0), .ref (f3 0), .ref q4, .ref (f5 0), .ref qh, .ref qs, .ref qz, .int 0, .int 0])) :: (qh, .inl (cA 2, 6, .inr (.inr (.inr (.inr (va_up (va_up (va_up (va_up (va_up (va_up (fun _ => none) 0 (some (f6 0))) 1 (some (f7 0))) 2 (some (f8 0))) 3 (some (f9 0))) 4 (some (f10 0))) 5 (some (f11 0)))))))) :: (qs, .inl (cA 2, 2, .inr (.inr (.inr (.inr (fun _ => none)))))) :: (qz, .inl (cA 1, 2, .inl (fun _ => 0))) :: ((((((((((((xb cA 1 f1) ++ xb cA 4 f2) ++ xb cA 2 f3) ++ xf0 cA q4 f4) ++ xb cA 3 f5) ++ xb cA 1 f6) ++ xb cA 1 f7) ++ xb cA 1 f8) ++ xb cA 1 f9) ++ xb cA 1 f10) ++ xb cA 1 f11) ++ xb cA 1 f12)) := hD1
  have hS := hS1
  clear hPc hDc hP1 hD1 hS1
  refine W.widen (k := 94) (n := 2231) (by decide) (by decide) ?_
  refine va_astq (D := D) (cl := vwCl) (r := (RX1, TX1, 12)) hx hb hK hP hD hS 2 2 _ 1 rfl rfl (xw_at (f := f12) (X := [(h0, .inr (5, [.ref (f1 0), .ref (f2 0), .ref (f3 0), .ref q4, .ref (f5 0), .ref qh, .ref qs, .ref qz, .int 0, .int 0])), (qh, .inl (cA 2, 6, .inr (.inr (.inr (.inr (va_up (va_up (va_up (va_up (va_up (va_up (fun _ => none) 0 (some (f6 0))) 1 (some (f7 0))) 2 (some (f8 0))) 3 (some (f9 0))) 4 (some (f10 0))) 5 (some (f11 0)))))))), (qs, .inl (cA 2, 2, .inr (.inr (.inr (.inr (fun _ => none)))))), (qz, .inl (cA 1, 2, .inl (fun _ => 0)))] ++ (((((((((((xb cA 1 f1) ++ xb cA 4 f2) ++ xb cA 2 f3) ++ xf0 cA q4 f4) ++ xb cA 3 f5) ++ xb cA 1 f6) ++ xb cA 1 f7) ++ xb cA 1 f8) ++ xb cA 1 f9) ++ xb cA 1 f10) ++ xb cA 1 f11))) rfl (vp_in_nI (by omega) (by omega)) dX5_init_129 (fun H locs hP hD hS => ?_)
  rw [nI_clamp (by omega)] at hP hD
  have hP : va_P D vwCl ((h0, .inr (5, [.ref (f1 0), .ref (f2 0), .ref (f3 0), .ref q4, .ref (f5 0), .ref qh, .ref qs, .ref qz, .int 0, .int 0])) :: (qh, .inl (cA 2, 6, .inr (.inr (.inr (.inr (va_up (va_up (va_up (va_up (va_up (va_up (fun _ => none) 0 (some (f6 0))) 1 (some (f7 0))) 2 (some (f8 0))) 3 (some (f9 0))) 4 (some (f10 0))) 5 (some (f11 0)))))))) :: (qs, .inl (cA 2, 2, .inr (.inr (.inr (.inr (va_up (fun _ => none) 0 (some (f12 0)))))))) :: (qz, .inl (cA 1, 2, .inl (fun _ => 0))) :: ((((((((((((xb cA 1 f1) ++ xb cA 4 f2) ++ xb cA 2 f3) ++ xf0 cA q4 f4) ++ xb cA 3 f5) ++ xb cA 1 f6) ++ xb cA 1 f7) ++ xb cA 1 f8) ++ xb cA 1 f9) ++ xb cA 1 f10) ++ xb cA 1 f11) ++ xb cA 1 f12)) H := hP
  have hD : va_D A ((h0, .inr (5, [.ref (f1 0), .ref (f2 0), .ref (f3 0), .ref q4, .ref (f5 0), .ref qh, .ref qs, .ref qz, .int 0, .int 0])) :: (qh, .inl (cA 2, 6, .inr (.inr (.inr (.inr (va_up (va_up (va_up (va_up (va_up (va_up (fun _ => none) 0 (some (f6 0))) 1 (some (f7 0))) 2 (some (f8 0))) 3 (some (f9 0))) 4 (some (f10 0))) 5 (some (f11 0)))))))) :: (qs, .inl (cA 2, 2, .inr (.inr (.inr (.inr (va_up (fun _ => none) 0 (some (f12 0)))))))) :: (qz, .inl (cA 1, 2, .inl (fun _ => 0))) :: ((((((((((((xb cA 1 f1) ++ xb cA 4 f2) ++ xb cA 2 f3) ++ xf0 cA q4 f4) ++ xb cA 3 f5) ++ xb cA 1 f6) ++ xb cA 1 f7) ++ xb cA 1 f8) ++ xb cA 1 f9) ++ xb cA 1 f10) ++ xb cA 1 f11) ++ xb cA 1 f12)) := hD
  refine lv_iinc (v := nI 1) (lv' := [(1, .int (nI 1)), (0, .ref h0)]) (k := 0) hx hb dX5_init_130 hl rfl (by decide) (by decide) rfl (fun ls hl => ?_)
  refine lv_goto hx hb dX5_init_133 (tgt := 112) (by decide) ?_
  refine lv_iload_n hx hb dX5_init_112 rfl (lv_at hl 0 rfl) ?_
  refine lv_iconst (v := nI 2) hx hb dX5_init_113 (by decide +kernel) ?_
  refine lv_icmp_ge hx hb dX5_init_114 (tgt := 136) (by decide) (fun h => absurd h (by decide)) (fun _ => ?_)
  refine lv_aload_n hx hb dX5_init_117 rfl (lv_at hl 1 rfl) ?_
  refine va_get (D := D) (cl := vwCl) (ci := 5) (v := .ref qs) (C := RX5) (T := TX5) (N := 10) hx hb hts inX5_X5 hown hK hP 0 rfl rfl 6 (by decide) (hts (.fieldLink RX5 48 "RopedHalls" "slots" "[LRopedHalls$Hall;") (by decide +kernel)) (fun _ h9 => h9) rfl dX5_init_118 ?_
  refine lv_iload_n hx hb dX5_init_121 rfl (lv_at hl 0 rfl) ?_
  have hc_13 : 94 + 1 ≤ 102 := by decide
  have hs_13 : 2231 + 12 ≤ 2399 := by decide
  refine va_new (D := D) (cl := vwCl) (ci := 1) (fs := [.int 0, .int 0, .int 0, .int 0, .int 0, .null, .null, .null, .null, .null, .null, .null]) (C := RX1) (T := TX1) (N := 12) hx hb hts inX5_X1 tyX1 tyX1_ok hown (hts (.classLink RX5 9 RX1) (by decide +kernel)) (hts (.instantiable RX1 12) (by decide +kernel)) (hts (.initialized RX1) (by decide +kernel)) hK hP hD hS hA rfl dfX1 hc_13 hs_13 dX5_init_122 (fun q13 H hP hD hS => ?_)
  refine W.widen (k := 95) (n := 2243) (by decide) (by decide) ?_
  refine lv_dup hx hb dX5_init_125 rfl ?_
  have hkc_13 : 95 + 7 ≤ 102 := by decide
  have hks_13 : 2243 + 156 ≤ 2399 := by decide
  have hPc : va_P D vwCl [(q13, .inr (1, [.int 0, .int 0, .int 0, .int 0, .int 0, .null, .null, .null, .null, .null, .null, .null]))] H := fun k x hx9 => by
    cases k with
    | zero => cases hx9; exact hP _ _ xw_lst
    | succ k => simp at hx9
  have hDc : va_D (fun _ => True) [(q13, .inr (1, [.int 0, .int 0, .int 0, .int 0, .int 0, .null, .null, .null, .null, .null, .null, .null]))] := ⟨fun i j x y hx9 hy9 _ => by
    cases i with
    | zero =>
      cases j with
      | zero => rfl
      | succ j => simp at hy9
    | succ i => simp at hx9, fun _ _ _ => trivial⟩
  refine xw_call (cA := cA) (va_runI (As := []) (rest := [.ref q13, .int (nI 1), .ref qs]) ⟨hx, hb, hml, hown, hts⟩ (i_X1 l D cA q13 H.size) (cwI 0 hts gX5_init_X1_init rfl rfl rfl (hts (.initialized RX1) (by decide +kernel)) (hts (.methodLink RX5 11 yX1_init) (by decide +kernel)) (hts (.instanceMethod yX1_init) (by decide +kernel)) rfl (by decide +kernel) ⟨Nat.le_of_ble_eq_true rfl, Nat.le_of_ble_eq_true rfl⟩) ⟨fun a U g mk q => by obtain ⟨q0, q1, qP, qK, qD⟩ := q; exact ⟨q0, q1, qP, va_K.moved (u := U) (U := U.calling g mk a) (Vm.Alike.refl U.vm) qK, qD⟩, fun U hU hW => ⟨rfl, by rw [hU], by rw [hU]; exact hPc, va_K.moved hW.alike hK, hDc⟩⟩ rfl rfl hl.1 rfl (lv_room (Nat.le_of_ble_eq_true rfl)) dX5_init_126 ⟨hkc_13, hks_13⟩) hP hD hS hA (fun f13 H1 locs1 hq hP1 hD1 hS1 => ?_)
  have hq : f13 0 = q13 := hq
  subst hq
  have hP : va_P D vwCl ((h0, .inr (5, [.ref (f1 0), .ref (f2 0), .ref (f3 0), .ref q4, .ref (f5 0), .ref qh, .ref qs, .ref qz, .int 0, .int 0])) :: (qh, .inl (cA 2, 6, .inr (.inr (.inr (.inr (va_up (va_up (va_up (va_up (va_up (va_up (fun _ => none) 0 (some (f6 0))) 1 (some (f7 0))) 2 (some (f8 0))) 3 (some (f9 0))) 4 (some (f10 0))) 5 (some (f11 0)))))))) :: (qs, .inl (cA 2, 2, .inr (.inr (.inr (.inr (va_up (fun _ => none) 0 (some (f12 0)))))))) :: (qz, .inl (cA 1, 2, .inl (fun _ => 0))) :: (((((((((((((xb cA 1 f1) ++ xb cA 4 f2) ++ xb cA 2 f3) ++ xf0 cA q4 f4) ++ xb cA 3 f5) ++ xb cA 1 f6) ++ xb cA 1 f7) ++ xb cA 1 f8) ++ xb cA 1 f9) ++ xb cA 1 f10) ++ xb cA 1 f11) ++ xb cA 1 f12) ++ xb cA 1 f13)) H1 := hP1
  have hD : va_D A ((h0, .inr (5, [.ref (f1 0), .ref (f2 0), .ref (f3 0), .ref q4, .ref (f5 0), .ref qh, .ref qs, .ref qz, .int 0, .int 0])) :: (qh, .inl (cA 2, 6, .inr (.inr (.inr (.inr (va_up (va_up (va_up (va_up (va_up (va_up (fun _ => none) 0 (some (f6 0))) 1 (some (f7 0))) 2 (some (f8 0))) 3 (some (f9 0))) 4 (some (f10 0))) 5 (some (f11 0)))))))) :: (qs, .inl (cA 2, 2, .inr (.inr (.inr (.inr (va_up (fun _ => none) 0 (some (f12 0)))))))) :: (qz, .inl (cA 1, 2, .inl (fun _ => 0))) :: (((((((((((((xb cA 1 f1) ++ xb cA 4 f2) ++ xb cA 2 f3) ++ xf0 cA q4 f4) ++ xb cA 3 f5) ++ xb cA 1 f6) ++ xb cA 1 f7) ++ xb cA 1 f8) ++ xb cA 1 f9) ++ xb cA 1 f10) ++ xb cA 1 f11) ++ xb cA 1 f12) ++ xb cA 1 f13)) := hD1
  have hS := hS1
  clear hPc hDc hP1 hD1 hS1
  refine W.widen (k := 102) (n := 2399) (by decide) (by decide) ?_
  refine va_astq (D := D) (cl := vwCl) (r := (RX1, TX1, 12)) hx hb hK hP hD hS 2 2 _ 1 rfl rfl (xw_at (f := f13) (X := [(h0, .inr (5, [.ref (f1 0), .ref (f2 0), .ref (f3 0), .ref q4, .ref (f5 0), .ref qh, .ref qs, .ref qz, .int 0, .int 0])), (qh, .inl (cA 2, 6, .inr (.inr (.inr (.inr (va_up (va_up (va_up (va_up (va_up (va_up (fun _ => none) 0 (some (f6 0))) 1 (some (f7 0))) 2 (some (f8 0))) 3 (some (f9 0))) 4 (some (f10 0))) 5 (some (f11 0)))))))), (qs, .inl (cA 2, 2, .inr (.inr (.inr (.inr (va_up (fun _ => none) 0 (some (f12 0)))))))), (qz, .inl (cA 1, 2, .inl (fun _ => 0)))] ++ ((((((((((((xb cA 1 f1) ++ xb cA 4 f2) ++ xb cA 2 f3) ++ xf0 cA q4 f4) ++ xb cA 3 f5) ++ xb cA 1 f6) ++ xb cA 1 f7) ++ xb cA 1 f8) ++ xb cA 1 f9) ++ xb cA 1 f10) ++ xb cA 1 f11) ++ xb cA 1 f12))) rfl (vp_in_nI (by omega) (by omega)) dX5_init_129 (fun H locs hP hD hS => ?_)
  rw [nI_clamp (by omega)] at hP hD
  have hP : va_P D vwCl ((h0, .inr (5, [.ref (f1 0), .ref (f2 0), .ref (f3 0), .ref q4, .ref (f5 0), .ref qh, .ref qs, .ref qz, .int 0, .int 0])) :: (qh, .inl (cA 2, 6, .inr (.inr (.inr (.inr (va_up (va_up (va_up (va_up (va_up (va_up (fun _ => none) 0 (some (f6 0))) 1 (some (f7 0))) 2 (some (f8 0))) 3 (some (f9 0))) 4 (some (f10 0))) 5 (some (f11 0)))))))) :: (qs, .inl (cA 2, 2, .inr (.inr (.inr (.inr (va_up (va_up (fun _ => none) 0 (some (f12 0))) 1 (some (f13 0)))))))) :: (qz, .inl (cA 1, 2, .inl (fun _ => 0))) :: (((((((((((((xb cA 1 f1) ++ xb cA 4 f2) ++ xb cA 2 f3) ++ xf0 cA q4 f4) ++ xb cA 3 f5) ++ xb cA 1 f6) ++ xb cA 1 f7) ++ xb cA 1 f8) ++ xb cA 1 f9) ++ xb cA 1 f10) ++ xb cA 1 f11) ++ xb cA 1 f12) ++ xb cA 1 f13)) H := hP
  have hD : va_D A ((h0, .inr (5, [.ref (f1 0), .ref (f2 0), .ref (f3 0), .ref q4, .ref (f5 0), .ref qh, .ref qs, .ref qz, .int 0, .int 0])) :: (qh, .inl (cA 2, 6, .inr (.inr (.inr (.inr (va_up (va_up (va_up (va_up (va_up (va_up (fun _ => none) 0 (some (f6 0))) 1 (some (f7 0))) 2 (some (f8 0))) 3 (some (f9 0))) 4 (some (f10 0))) 5 (some (f11 0)))))))) :: (qs, .inl (cA 2, 2, .inr (.inr (.inr (.inr (va_up (va_up (fun _ => none) 0 (some (f12 0))) 1 (some (f13 0)))))))) :: (qz, .inl (cA 1, 2, .inl (fun _ => 0))) :: (((((((((((((xb cA 1 f1) ++ xb cA 4 f2) ++ xb cA 2 f3) ++ xf0 cA q4 f4) ++ xb cA 3 f5) ++ xb cA 1 f6) ++ xb cA 1 f7) ++ xb cA 1 f8) ++ xb cA 1 f9) ++ xb cA 1 f10) ++ xb cA 1 f11) ++ xb cA 1 f12) ++ xb cA 1 f13)) := hD
  refine lv_iinc (v := nI 2) (lv' := [(1, .int (nI 2)), (0, .ref h0)]) (k := 0) hx hb dX5_init_130 hl rfl (by decide) (by decide) rfl (fun ls hl => ?_)
  refine lv_goto hx hb dX5_init_133 (tgt := 112) (by decide) ?_
  refine lv_iload_n hx hb dX5_init_112 rfl (lv_at hl 0 rfl) ?_
  refine lv_iconst (v := nI 2) hx hb dX5_init_113 (by decide +kernel) ?_
  refine lv_icmp_ge hx hb dX5_init_114 (tgt := 136) (by decide) (fun _ => ?_) (fun h => absurd (by decide) h)
  have hP := hP.set hD (p := 1) (e := .inl (cA 2, 6, .inr (.inr (.inr (.inr (fun i => some (((fun n => match n with | 0 => f1 | 1 => f6 | 2 => f7 | 3 => f8 | 4 => f9 | 5 => f10 | 6 => f11 | 7 => f12 | 8 => f13 | _ => f4.1) : Nat → Nat → Nat) (1 + i) 0))))))) rfl (by
    have h9 := hP 1 _ rfl
    show H[qh]? = some (vp_cell _ _)
    refine Eq.trans (show H[qh]? = some (vp_cell _ _) from h9) ?_
    rw [vp_cell_q, vp_cell_q]
    refine congrArg some (arrV_ext (fun i hi => ?_))
    rcases i with _ | _ | _ | _ | _ | _ | i <;> first | rfl | omega) (fun _ _ => rfl)
  have hD := hD.set (p := 1) (e := .inl (cA 2, 6, .inr (.inr (.inr (.inr (fun i => some (((fun n => match n with | 0 => f1 | 1 => f6 | 2 => f7 | 3 => f8 | 4 => f9 | 5 => f10 | 6 => f11 | 7 => f12 | 8 => f13 | _ => f4.1) : Nat → Nat → Nat) (1 + i) 0))))))) rfl
  have hP : va_P D vwCl ((h0, .inr (5, [.ref (f1 0), .ref (f2 0), .ref (f3 0), .ref q4, .ref (f5 0), .ref qh, .ref qs, .ref qz, .int 0, .int 0])) :: (qh, .inl (cA 2, 6, .inr (.inr (.inr (.inr (fun i => some (((fun n => match n with | 0 => f1 | 1 => f6 | 2 => f7 | 3 => f8 | 4 => f9 | 5 => f10 | 6 => f11 | 7 => f12 | 8 => f13 | _ => f4.1) : Nat → Nat → Nat) (1 + i) 0))))))) :: (qs, .inl (cA 2, 2, .inr (.inr (.inr (.inr (va_up (va_up (fun _ => none) 0 (some (f12 0))) 1 (some (f13 0)))))))) :: (qz, .inl (cA 1, 2, .inl (fun _ => 0))) :: (((((((((((((xb cA 1 f1) ++ xb cA 4 f2) ++ xb cA 2 f3) ++ xf0 cA q4 f4) ++ xb cA 3 f5) ++ xb cA 1 f6) ++ xb cA 1 f7) ++ xb cA 1 f8) ++ xb cA 1 f9) ++ xb cA 1 f10) ++ xb cA 1 f11) ++ xb cA 1 f12) ++ xb cA 1 f13)) H := hP
  have hD : va_D A ((h0, .inr (5, [.ref (f1 0), .ref (f2 0), .ref (f3 0), .ref q4, .ref (f5 0), .ref qh, .ref qs, .ref qz, .int 0, .int 0])) :: (qh, .inl (cA 2, 6, .inr (.inr (.inr (.inr (fun i => some (((fun n => match n with | 0 => f1 | 1 => f6 | 2 => f7 | 3 => f8 | 4 => f9 | 5 => f10 | 6 => f11 | 7 => f12 | 8 => f13 | _ => f4.1) : Nat → Nat → Nat) (1 + i) 0))))))) :: (qs, .inl (cA 2, 2, .inr (.inr (.inr (.inr (va_up (va_up (fun _ => none) 0 (some (f12 0))) 1 (some (f13 0)))))))) :: (qz, .inl (cA 1, 2, .inl (fun _ => 0))) :: (((((((((((((xb cA 1 f1) ++ xb cA 4 f2) ++ xb cA 2 f3) ++ xf0 cA q4 f4) ++ xb cA 3 f5) ++ xb cA 1 f6) ++ xb cA 1 f7) ++ xb cA 1 f8) ++ xb cA 1 f9) ++ xb cA 1 f10) ++ xb cA 1 f11) ++ xb cA 1 f12) ++ xb cA 1 f13)) := hD
  have hP := hP.set hD (p := 2) (e := .inl (cA 2, 2, .inr (.inr (.inr (.inr (fun i => some (((fun n => match n with | 0 => f1 | 1 => f6 | 2 => f7 | 3 => f8 | 4 => f9 | 5 => f10 | 6 => f11 | 7 => f12 | 8 => f13 | _ => f4.1) : Nat → Nat → Nat) (7 + i) 0))))))) rfl (by
    have h9 := hP 2 _ rfl
    show H[qs]? = some (vp_cell _ _)
    refine Eq.trans (show H[qs]? = some (vp_cell _ _) from h9) ?_
    rw [vp_cell_q, vp_cell_q]
    refine congrArg some (arrV_ext (fun i hi => ?_))
    rcases i with _ | _ | i <;> first | rfl | omega) (fun _ _ => rfl)
  have hD := hD.set (p := 2) (e := .inl (cA 2, 2, .inr (.inr (.inr (.inr (fun i => some (((fun n => match n with | 0 => f1 | 1 => f6 | 2 => f7 | 3 => f8 | 4 => f9 | 5 => f10 | 6 => f11 | 7 => f12 | 8 => f13 | _ => f4.1) : Nat → Nat → Nat) (7 + i) 0))))))) rfl
  have hP : va_P D vwCl ((h0, .inr (5, [.ref (f1 0), .ref (f2 0), .ref (f3 0), .ref q4, .ref (f5 0), .ref qh, .ref qs, .ref qz, .int 0, .int 0])) :: (qh, .inl (cA 2, 6, .inr (.inr (.inr (.inr (fun i => some (((fun n => match n with | 0 => f1 | 1 => f6 | 2 => f7 | 3 => f8 | 4 => f9 | 5 => f10 | 6 => f11 | 7 => f12 | 8 => f13 | _ => f4.1) : Nat → Nat → Nat) (1 + i) 0))))))) :: (qs, .inl (cA 2, 2, .inr (.inr (.inr (.inr (fun i => some (((fun n => match n with | 0 => f1 | 1 => f6 | 2 => f7 | 3 => f8 | 4 => f9 | 5 => f10 | 6 => f11 | 7 => f12 | 8 => f13 | _ => f4.1) : Nat → Nat → Nat) (7 + i) 0))))))) :: (qz, .inl (cA 1, 2, .inl (fun _ => 0))) :: (((((((((((((xb cA 1 f1) ++ xb cA 4 f2) ++ xb cA 2 f3) ++ xf0 cA q4 f4) ++ xb cA 3 f5) ++ xb cA 1 f6) ++ xb cA 1 f7) ++ xb cA 1 f8) ++ xb cA 1 f9) ++ xb cA 1 f10) ++ xb cA 1 f11) ++ xb cA 1 f12) ++ xb cA 1 f13)) H := hP
  have hD : va_D A ((h0, .inr (5, [.ref (f1 0), .ref (f2 0), .ref (f3 0), .ref q4, .ref (f5 0), .ref qh, .ref qs, .ref qz, .int 0, .int 0])) :: (qh, .inl (cA 2, 6, .inr (.inr (.inr (.inr (fun i => some (((fun n => match n with | 0 => f1 | 1 => f6 | 2 => f7 | 3 => f8 | 4 => f9 | 5 => f10 | 6 => f11 | 7 => f12 | 8 => f13 | _ => f4.1) : Nat → Nat → Nat) (1 + i) 0))))))) :: (qs, .inl (cA 2, 2, .inr (.inr (.inr (.inr (fun i => some (((fun n => match n with | 0 => f1 | 1 => f6 | 2 => f7 | 3 => f8 | 4 => f9 | 5 => f10 | 6 => f11 | 7 => f12 | 8 => f13 | _ => f4.1) : Nat → Nat → Nat) (7 + i) 0))))))) :: (qz, .inl (cA 1, 2, .inl (fun _ => 0))) :: (((((((((((((xb cA 1 f1) ++ xb cA 4 f2) ++ xb cA 2 f3) ++ xf0 cA q4 f4) ++ xb cA 3 f5) ++ xb cA 1 f6) ++ xb cA 1 f7) ++ xb cA 1 f8) ++ xb cA 1 f9) ++ xb cA 1 f10) ++ xb cA 1 f11) ++ xb cA 1 f12) ++ xb cA 1 f13)) := hD
  have e8 : (fun _ => 0 : Nat → Int32) = je_arr je_Gi 5 0 2 7 0 := xarr (by decide +kernel) (fun _ _ => rfl)
  have hP := hP.set hD (p := 3) (e := .inl (cA 1, 2, .inl (je_arr je_Gi 5 0 2 7 0))) rfl (by rw [← e8]; exact hP 3 _ rfl) (fun _ _ => rfl)
  have hD := hD.set (p := 3) (e := .inl (cA 1, 2, .inl (je_arr je_Gi 5 0 2 7 0))) rfl
  have hP : va_P D vwCl ((h0, .inr (5, [.ref (f1 0), .ref (f2 0), .ref (f3 0), .ref q4, .ref (f5 0), .ref qh, .ref qs, .ref qz, .int 0, .int 0])) :: (qh, .inl (cA 2, 6, .inr (.inr (.inr (.inr (fun i => some (((fun n => match n with | 0 => f1 | 1 => f6 | 2 => f7 | 3 => f8 | 4 => f9 | 5 => f10 | 6 => f11 | 7 => f12 | 8 => f13 | _ => f4.1) : Nat → Nat → Nat) (1 + i) 0))))))) :: (qs, .inl (cA 2, 2, .inr (.inr (.inr (.inr (fun i => some (((fun n => match n with | 0 => f1 | 1 => f6 | 2 => f7 | 3 => f8 | 4 => f9 | 5 => f10 | 6 => f11 | 7 => f12 | 8 => f13 | _ => f4.1) : Nat → Nat → Nat) (7 + i) 0))))))) :: (qz, .inl (cA 1, 2, .inl (je_arr je_Gi 5 0 2 7 0))) :: (((((((((((((xb cA 1 f1) ++ xb cA 4 f2) ++ xb cA 2 f3) ++ xf0 cA q4 f4) ++ xb cA 3 f5) ++ xb cA 1 f6) ++ xb cA 1 f7) ++ xb cA 1 f8) ++ xb cA 1 f9) ++ xb cA 1 f10) ++ xb cA 1 f11) ++ xb cA 1 f12) ++ xb cA 1 f13)) H := hP
  have hD : va_D A ((h0, .inr (5, [.ref (f1 0), .ref (f2 0), .ref (f3 0), .ref q4, .ref (f5 0), .ref qh, .ref qs, .ref qz, .int 0, .int 0])) :: (qh, .inl (cA 2, 6, .inr (.inr (.inr (.inr (fun i => some (((fun n => match n with | 0 => f1 | 1 => f6 | 2 => f7 | 3 => f8 | 4 => f9 | 5 => f10 | 6 => f11 | 7 => f12 | 8 => f13 | _ => f4.1) : Nat → Nat → Nat) (1 + i) 0))))))) :: (qs, .inl (cA 2, 2, .inr (.inr (.inr (.inr (fun i => some (((fun n => match n with | 0 => f1 | 1 => f6 | 2 => f7 | 3 => f8 | 4 => f9 | 5 => f10 | 6 => f11 | 7 => f12 | 8 => f13 | _ => f4.1) : Nat → Nat → Nat) (7 + i) 0))))))) :: (qz, .inl (cA 1, 2, .inl (je_arr je_Gi 5 0 2 7 0))) :: (((((((((((((xb cA 1 f1) ++ xb cA 4 f2) ++ xb cA 2 f3) ++ xf0 cA q4 f4) ++ xb cA 3 f5) ++ xb cA 1 f6) ++ xb cA 1 f7) ++ xb cA 1 f8) ++ xb cA 1 f9) ++ xb cA 1 f10) ++ xb cA 1 f11) ++ xb cA 1 f12) ++ xb cA 1 f13)) := hD
  have hE : ids5.map (xF (xad q4 (fun k => match k with | 0 => h0 | 6 => qh | 7 => qs | 8 => qz | _ => 0) (fun n => match n with | 0 => f1 | 1 => f6 | 2 => f7 | 3 => f8 | 4 => f9 | 5 => f10 | 6 => f11 | 7 => f12 | 8 => f13 | _ => f4.1) (fun n => match n with | 0 => f2 | _ => f4.2.1) (fun n => match n with | 0 => f3 | _ => f4.2.2) f5) cA) = ((h0, .inr (5, [.ref (f1 0), .ref (f2 0), .ref (f3 0), .ref q4, .ref (f5 0), .ref qh, .ref qs, .ref qz, .int 0, .int 0])) :: (qh, .inl (cA 2, 6, .inr (.inr (.inr (.inr (fun i => some (((fun n => match n with | 0 => f1 | 1 => f6 | 2 => f7 | 3 => f8 | 4 => f9 | 5 => f10 | 6 => f11 | 7 => f12 | 8 => f13 | _ => f4.1) : Nat → Nat → Nat) (1 + i) 0))))))) :: (qs, .inl (cA 2, 2, .inr (.inr (.inr (.inr (fun i => some (((fun n => match n with | 0 => f1 | 1 => f6 | 2 => f7 | 3 => f8 | 4 => f9 | 5 => f10 | 6 => f11 | 7 => f12 | 8 => f13 | _ => f4.1) : Nat → Nat → Nat) (7 + i) 0))))))) :: (qz, .inl (cA 1, 2, .inl (je_arr je_Gi 5 0 2 7 0))) :: (((((((((((((xb cA 1 f1) ++ xb cA 4 f2) ++ xb cA 2 f3) ++ xf0 cA q4 f4) ++ xb cA 3 f5) ++ xb cA 1 f6) ++ xb cA 1 f7) ++ xb cA 1 f8) ++ xb cA 1 f9) ++ xb cA 1 f10) ++ xb cA 1 f11) ++ xb cA 1 f12) ++ xb cA 1 f13)) := by
    unfold ids5
    simp only [List.map_cons, List.map_append, xb1_eq, xb2_eq, xb3_eq, xb4_eq]
    rfl
  rw [← hE] at hP hD
  exact W.vret hx hb hr (fun t ht hW => ⟨⟨(xad q4 (fun k => match k with | 0 => h0 | 6 => qh | 7 => qs | 8 => qz | _ => 0) (fun n => match n with | 0 => f1 | 1 => f6 | 2 => f7 | 3 => f8 | 4 => f9 | 5 => f10 | 6 => f11 | 7 => f12 | 8 => f13 | _ => f4.1) (fun n => match n with | 0 => f2 | _ => f4.2.1) (fun n => match n with | 0 => f3 | _ => f4.2.2) f5), rfl, rfl, by rw [ht]; exact hP, va_K.moved hW.alike hK, hD⟩, hS.F ht⟩) hS.2.2 dX5_init_136
