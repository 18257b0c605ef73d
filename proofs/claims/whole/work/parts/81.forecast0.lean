/-! CONSTRUCTOR of the forecast (laid by wip/whole/gen/gen_cons2.py) -/
theorem xw_lst {ws : va_W} {x : Nat × va_E} : (ws ++ [x])[ws.length]? = some x := by
  rw [List.getElem?_append_right (Nat.le_refl _), Nat.sub_self]
  rfl
set_option maxHeartbeats 4000000 in
set_option maxRecDepth 100000 in
theorem i_X0 (l : Launch) (D : va_G) (cA : Nat → ClassId) (h0 sz : Nat) : Met l yX0_init wsX0_init ({ frames := 2, cells := 16, slots := 490, locals := 33 }) (va_Pc [.ref h0] (fun U => U.heap.size = sz ∧ va_P D vwCl [(h0, .inr (0, [.null, .null, .null]))] U.heap ∧ va_K D vwCl (je_T cA) U ∧ va_D (fun _ => True) [(h0, .inr (0, [.null, .null, .null]))] ∧ ∀ w ∈ xnest, va_Nw w U)) (va_Qv (fun _ : (Nat → Nat) × (Nat → Nat) × (Nat → Nat) => True) (fun u t => va_P D vwCl (xf0 cA h0 u) t.heap ∧ va_K D vwCl (je_T cA) t ∧ va_D (va_A [(h0, .inr (0, [.null, .null, .null]))] sz) (xf0 cA h0 u)) (va_A [(h0, .inr (0, [.null, .null, .null]))] sz)) 16 490 (va_A [(h0, .inr (0, [.null, .null, .null]))] sz) := by
  refine Met.ofW (cc := cX0_init) (maxL := 1) (ret := none) (by decide) rfl ?_
  intro p e s m args below meth c s₁ B hml hv
  obtain ⟨rfl, hsz, hP, hK, hD0, hN⟩ := hv
  have hx := B.exec
  have hb := B.bytes
  have hr := B.returns
  have hts := atoms_spec (ws := wsX0_init) B.pre
  have hown : s.vm.findClass RX0 = some m.cls := findClass_of_methodNamed B.named
  have hin : meth.name = "<init>" := (name_of_methodNamed B.named B.method).1
  subst hsz
  have hD := hD0.self (sz := s.heap.size)
  generalize hAe : va_A [(h0, .inr (0, [.null, .null, .null]))] s.heap.size = A at hD ⊢
  have hA : ∀ q : Nat, s.heap.size ≤ q → A q := fun q h => by rw [← hAe]; exact Or.inr h
  have hS : va_S A s.heap s.heap [] := va_S.rf
  have hl := lv_entry ([.ref h0]) (n := 1) (Nat.le_of_ble_eq_true rfl)
  rw [lg_entry_eq]
  generalize (lg_sl ([.ref h0]) ++ List.replicate (1 - (lg_sl ([.ref h0])).length) Slot.unset).toArray = ls at hl ⊢
  have hl : lv_has ls 1 [(0, .ref h0)] := hl
  refine lv_aload_n hx hb dX0_init_0 rfl (lv_at hl 0 rfl) ?_
  refine W.objInit hx hb hown (hts (.methodLink RX0 3 objectInit) (by decide +kernel)) (hts (.instanceMethod objectInit) (by decide +kernel)) (hts (.code objectInit ⟨#[0xb1]⟩ 1 none) (List.mem_of_getElem? (i := 3) rfl)) rfl (by rw [hml]; exact hl.1) rfl dX0_init_1 (Nat.le_of_ble_eq_true rfl) (Nat.le_of_ble_eq_true rfl) ?_
  refine W.eq (g2 := F0 m 4 ls []) rfl ?_
  refine lv_aload_n hx hb dX0_init_4 rfl (lv_at hl 0 rfl) ?_
  have hc_1 : 0 + 1 ≤ 16 := by decide
  have hs_1 : 0 + 12 ≤ 490 := by decide
  refine va_new (D := D) (cl := vwCl) (ci := 1) (fs := [.int 0, .int 0, .int 0, .int 0, .int 0, .null, .null, .null, .null, .null, .null, .null]) (C := RX1) (T := TX1) (N := 12) hx hb hts inX0_X1 tyX1 tyX1_ok hown (hts (.classLink RX0 9 RX1) (by decide +kernel)) (hts (.instantiable RX1 12) (by decide +kernel)) (hts (.initialized RX1) (by decide +kernel)) hK hP hD hS hA rfl dfX1 hc_1 hs_1 dX0_init_5 (fun q1 H hP hD hS => ?_)
  refine W.widen (k := 1) (n := 12) (by decide) (by decide) ?_
  refine lv_dup hx hb dX0_init_8 rfl ?_
  have hkc_1 : 1 + 7 ≤ 16 := by decide
  have hks_1 : 12 + 156 ≤ 490 := by decide
  have hPc : va_P D vwCl [(q1, .inr (1, [.int 0, .int 0, .int 0, .int 0, .int 0, .null, .null, .null, .null, .null, .null, .null]))] H := fun k x hx9 => by
    cases k with
    | zero => cases hx9; exact hP _ _ xw_lst
    | succ k => simp at hx9
  have hDc : va_D (fun _ => True) [(q1, .inr (1, [.int 0, .int 0, .int 0, .int 0, .int 0, .null, .null, .null, .null, .null, .null, .null]))] := ⟨fun i j x y hx9 hy9 _ => by
    cases i with
    | zero =>
      cases j with
      | zero => rfl
      | succ j => simp at hy9
    | succ i => simp at hx9, fun _ _ _ => trivial⟩
  refine xw_call (cA := cA) (va_runI (As := []) (rest := [.ref q1, .ref h0]) ⟨hx, hb, hml, hown, hts⟩ (i_X1 l D cA q1 H.size) (cwI 0 hts gX0_init_X1_init rfl rfl rfl (hts (.initialized RX1) (by decide +kernel)) (hts (.methodLink RX0 11 yX1_init) (by decide +kernel)) (hts (.instanceMethod yX1_init) (by decide +kernel)) rfl (by decide +kernel) ⟨Nat.le_of_ble_eq_true rfl, Nat.le_of_ble_eq_true rfl⟩) ⟨fun a U g mk q => by obtain ⟨q0, q1, qP, qK, qD⟩ := q; exact ⟨q0, q1, qP, va_K.moved (u := U) (U := U.calling g mk a) (Vm.Alike.refl U.vm) qK, qD⟩, fun U hU hW => ⟨rfl, by rw [hU], by rw [hU]; exact hPc, va_K.moved hW.alike hK, hDc⟩⟩ rfl rfl hl.1 rfl (lv_room (Nat.le_of_ble_eq_true rfl)) dX0_init_9 ⟨hkc_1, hks_1⟩) hP hD hS hA (fun f1 H1 locs1 hq hP1 hD1 hS1 => ?_)
  have hq : f1 0 = q1 := hq
  subst hq
  have hP : va_P D vwCl ((h0, .inr (0, [.null, .null, .null])) :: (xb cA 1 f1)) H1 := hP1
  have hD : va_D A ((h0, .inr (0, [.null, .null, .null])) :: (xb cA 1 f1)) := hD1
  have hS := hS1
  clear hPc hDc hP1 hD1 hS1
  refine W.widen (k := 8) (n := 168) (by decide) (by decide) ?_
  refine va_putF (D := D) (cl := vwCl) (ci := 0) (v := .ref (f1 0)) (ty := .object "RopedHalls$Hall") (C := RX0) (T := TX0) (N := 3) hx hb hts inX0_X0 tyX0 tyX0_ok nmX0 hown hK hP hD hS 0 rfl rfl 0 (by decide) (hts (.fieldLink RX0 12 "RopedHalls$Forecast" "trial" "LRopedHalls$Hall;") (by decide +kernel)) (fun _ h9 => h9) rfl hin rfl (by decide +kernel) rfl rfl (Nat.le_of_ble_eq_true rfl) dX0_init_12 (fun H locs hP hD hS => ?_)
  have hP : va_P D vwCl ((h0, .inr (0, [.ref (f1 0), .null, .null])) :: (xb cA 1 f1)) H := hP
  have hD : va_D A ((h0, .inr (0, [.ref (f1 0), .null, .null])) :: (xb cA 1 f1)) := hD
  refine lv_aload_n hx hb dX0_init_15 rfl (lv_at hl 0 rfl) ?_
  have hc_2 : 8 + 1 ≤ 16 := by decide
  have hs_2 : 168 + 6 ≤ 490 := by decide
  refine va_new (D := D) (cl := vwCl) (ci := 4) (fs := [.null, .null, .null, .null, .null, .int 0]) (C := RX4) (T := TX4) (N := 6) hx hb hts inX0_X4 tyX4 tyX4_ok hown (hts (.classLink RX0 18 RX4) (by decide +kernel)) (hts (.instantiable RX4 6) (by decide +kernel)) (hts (.initialized RX4) (by decide +kernel)) hK hP hD hS hA rfl dfX4 hc_2 hs_2 dX0_init_16 (fun q2 H hP hD hS => ?_)
  refine W.widen (k := 9) (n := 174) (by decide) (by decide) ?_
  refine lv_dup hx hb dX0_init_19 rfl ?_
  have hkc_2 : 9 + 5 ≤ 16 := by decide
  have hks_2 : 174 + 280 ≤ 490 := by decide
  have hPc : va_P D vwCl [(q2, .inr (4, [.null, .null, .null, .null, .null, .int 0]))] H := fun k x hx9 => by
    cases k with
    | zero => cases hx9; exact hP _ _ xw_lst
    | succ k => simp at hx9
  have hDc : va_D (fun _ => True) [(q2, .inr (4, [.null, .null, .null, .null, .null, .int 0]))] := ⟨fun i j x y hx9 hy9 _ => by
    cases i with
    | zero =>
      cases j with
      | zero => rfl
      | succ j => simp at hy9
    | succ i => simp at hx9, fun _ _ _ => trivial⟩
  refine xw_call (cA := cA) (va_runIN (As := []) (rest := [.ref q2, .ref h0]) ⟨hx, hb, hml, hown, hts⟩ (i_X4 l D cA q2 H.size) ⟨va_cnB 0 hts gX0_init_X4_init_n20 rfl rfl rfl (hN (.methodLinkNest RX0 20 yX4_init RX5) (by decide +kernel)) (hts (.initialized RX4) (by decide +kernel)) (by decide +kernel) ⟨Nat.le_of_ble_eq_true rfl, Nat.le_of_ble_eq_true rfl⟩, rfl, hts (.instanceMethod yX4_init) (by decide +kernel)⟩ ⟨fun a U g mk q => by obtain ⟨q0, q1, qP, qK, qD⟩ := q; exact ⟨q0, q1, qP, va_K.moved (u := U) (U := U.calling g mk a) (Vm.Alike.refl U.vm) qK, qD⟩, fun U hU hW => ⟨rfl, by rw [hU], by rw [hU]; exact hPc, va_K.moved hW.alike hK, hDc⟩⟩ rfl rfl hl.1 rfl (lv_room (Nat.le_of_ble_eq_true rfl)) dX0_init_20 ⟨hkc_2, hks_2⟩) hP hD hS hA (fun f2 H1 locs1 hq hP1 hD1 hS1 => ?_)
  have hq : f2 0 = q2 := hq
  subst hq
  have hP : va_P D vwCl ((h0, .inr (0, [.ref (f1 0), .null, .null])) :: ((xb cA 1 f1) ++ xb cA 4 f2)) H1 := hP1
  have hD : va_D A ((h0, .inr (0, [.ref (f1 0), .null, .null])) :: ((xb cA 1 f1) ++ xb cA 4 f2)) := hD1
  have hS := hS1
  clear hPc hDc hP1 hD1 hS1
  refine W.widen (k := 14) (n := 454) (by decide) (by decide) ?_
  refine va_putF (D := D) (cl := vwCl) (ci := 0) (v := .ref (f2 0)) (ty := .object "RopedHalls$Routes") (C := RX0) (T := TX0) (N := 3) hx hb hts inX0_X0 tyX0 tyX0_ok nmX0 hown hK hP hD hS 0 rfl rfl 1 (by decide) (hts (.fieldLink RX0 21 "RopedHalls$Forecast" "routes" "LRopedHalls$Routes;") (by decide +kernel)) (fun _ h9 => h9) rfl hin rfl (by decide +kernel) rfl rfl (Nat.le_of_ble_eq_true rfl) dX0_init_23 (fun H locs hP hD hS => ?_)
  have hP : va_P D vwCl ((h0, .inr (0, [.ref (f1 0), .ref (f2 0), .null])) :: ((xb cA 1 f1) ++ xb cA 4 f2)) H := hP
  have hD : va_D A ((h0, .inr (0, [.ref (f1 0), .ref (f2 0), .null])) :: ((xb cA 1 f1) ++ xb cA 4 f2)) := hD
  refine lv_aload_n hx hb dX0_init_26 rfl (lv_at hl 0 rfl) ?_
  have hc_3 : 14 + 1 ≤ 16 := by decide
  have hs_3 : 454 + 1 ≤ 490 := by decide
  refine va_new (D := D) (cl := vwCl) (ci := 2) (fs := [.null]) (C := RX2) (T := TX2) (N := 1) hx hb hts inX0_X2 tyX2 tyX2_ok hown (hts (.classLink RX0 25 RX2) (by decide +kernel)) (hts (.instantiable RX2 1) (by decide +kernel)) (hts (.initialized RX2) (by decide +kernel)) hK hP hD hS hA rfl dfX2 hc_3 hs_3 dX0_init_27 (fun q3 H hP hD hS => ?_)
  refine W.widen (k := 15) (n := 455) (by decide) (by decide) ?_
  refine lv_dup hx hb dX0_init_30 rfl ?_
  have hkc_3 : 15 + 1 ≤ 16 := by decide
  have hks_3 : 455 + 35 ≤ 490 := by decide
  have hPc : va_P D vwCl [(q3, .inr (2, [.null]))] H := fun k x hx9 => by
    cases k with
    | zero => cases hx9; exact hP _ _ xw_lst
    | succ k => simp at hx9
  have hDc : va_D (fun _ => True) [(q3, .inr (2, [.null]))] := ⟨fun i j x y hx9 hy9 _ => by
    cases i with
    | zero =>
      cases j with
      | zero => rfl
      | succ j => simp at hy9
    | succ i => simp at hx9, fun _ _ _ => trivial⟩
  refine xw_call (cA := cA) (va_runIN (As := []) (rest := [.ref q3, .ref h0]) ⟨hx, hb, hml, hown, hts⟩ (i_X2 l D cA q3 H.size) ⟨va_cnB 0 hts gX0_init_X2_init_n27 rfl rfl rfl (hN (.methodLinkNest RX0 27 yX2_init RX5) (by decide +kernel)) (hts (.initialized RX2) (by decide +kernel)) (by decide +kernel) ⟨Nat.le_of_ble_eq_true rfl, Nat.le_of_ble_eq_true rfl⟩, rfl, hts (.instanceMethod yX2_init) (by decide +kernel)⟩ ⟨fun a U g mk q => by obtain ⟨q0, q1, qP, qK, qD⟩ := q; exact ⟨q0, q1, qP, va_K.moved (u := U) (U := U.calling g mk a) (Vm.Alike.refl U.vm) qK, qD⟩, fun U hU hW => ⟨rfl, by rw [hU], by rw [hU]; exact hPc, va_K.moved hW.alike hK, hDc⟩⟩ rfl rfl hl.1 rfl (lv_room (Nat.le_of_ble_eq_true rfl)) dX0_init_31 ⟨hkc_3, hks_3⟩) hP hD hS hA (fun f3 H1 locs1 hq hP1 hD1 hS1 => ?_)
  have hq : f3 0 = q3 := hq
  subst hq
  have hP : va_P D vwCl ((h0, .inr (0, [.ref (f1 0), .ref (f2 0), .null])) :: (((xb cA 1 f1) ++ xb cA 4 f2) ++ xb cA 2 f3)) H1 := hP1
  have hD : va_D A ((h0, .inr (0, [.ref (f1 0), .ref (f2 0), .null])) :: (((xb cA 1 f1) ++ xb cA 4 f2) ++ xb cA 2 f3)) := hD1
  have hS := hS1
  clear hPc hDc hP1 hD1 hS1
  refine W.widen (k := 16) (n := 490) (by decide) (by decide) ?_
  refine va_putF (D := D) (cl := vwCl) (ci := 0) (v := .ref (f3 0)) (ty := .object "RopedHalls$Minute") (C := RX0) (T := TX0) (N := 3) hx hb hts inX0_X0 tyX0 tyX0_ok nmX0 hown hK hP hD hS 0 rfl rfl 2 (by decide) (hts (.fieldLink RX0 28 "RopedHalls$Forecast" "minute" "LRopedHalls$Minute;") (by decide +kernel)) (fun _ h9 => h9) rfl hin rfl (by decide +kernel) rfl rfl (Nat.le_of_ble_eq_true rfl) dX0_init_34 (fun H locs hP hD hS => ?_)
  have hP : va_P D vwCl ((h0, .inr (0, [.ref (f1 0), .ref (f2 0), .ref (f3 0)])) :: (((xb cA 1 f1) ++ xb cA 4 f2) ++ xb cA 2 f3)) H := hP
  have hD : va_D A ((h0, .inr (0, [.ref (f1 0), .ref (f2 0), .ref (f3 0)])) :: (((xb cA 1 f1) ++ xb cA 4 f2) ++ xb cA 2 f3)) := hD
  exact W.vret hx hb hr (fun t ht hW => ⟨⟨(f1, f2, f3), rfl, trivial, by rw [ht]; exact hP, va_K.moved hW.alike hK, hD⟩, hS.F ht⟩) hS.2.2 dX0_init_37
