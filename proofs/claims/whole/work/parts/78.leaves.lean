/-! CONSTRUCTORS of the leaves: Minute, Pad, Routes, Hall (laid by wip/whole/gen/gen_cons.py) -/
set_option maxHeartbeats 4000000 in
set_option maxRecDepth 100000 in
theorem i_X2 (l : Launch) (D : va_G) (cA : Nat → ClassId) (h0 sz : Nat) : Met l yX2_init wsX2_init ({ frames := 1, cells := 1, slots := 35, locals := 12 }) (va_Pc [.ref h0] (fun U => U.heap.size = sz ∧ va_P D vwCl [(h0, .inr (2, [.null]))] U.heap ∧ va_K D vwCl (je_T cA) U ∧ va_D (fun _ => True) [(h0, .inr (2, [.null]))])) (va_Qv (fun f : Nat → Nat => f 0 = h0) (fun f t => va_P D vwCl (xb cA 2 f) t.heap ∧ va_K D vwCl (je_T cA) t ∧ va_D (va_A [(h0, .inr (2, [.null]))] sz) (xb cA 2 f)) (va_A [(h0, .inr (2, [.null]))] sz)) 1 35 (va_A [(h0, .inr (2, [.null]))] sz) := by
  refine Met.ofW (cc := cX2_init) (maxL := 1) (ret := none) (by decide) rfl ?_
  intro p e s m args below meth c s₁ B hml hv
  obtain ⟨rfl, hsz, hP, hK, hD0⟩ := hv
  have hx := B.exec
  have hb := B.bytes
  have hr := B.returns
  have hts := atoms_spec (ws := wsX2_init) B.pre
  have hown : s.vm.findClass RX2 = some m.cls := findClass_of_methodNamed B.named
  have hin : meth.name = "<init>" := (name_of_methodNamed B.named B.method).1
  subst hsz
  have hD := hD0.self (sz := s.heap.size)
  generalize hAe : va_A [(h0, .inr (2, [.null]))] s.heap.size = A at hD ⊢
  have hA : ∀ q : Nat, s.heap.size ≤ q → A q := fun q h => by rw [← hAe]; exact Or.inr h
  have hS : va_S A s.heap s.heap [] := va_S.rf
  have hl := lv_entry ([.ref h0]) (n := 1) (Nat.le_of_ble_eq_true rfl)
  rw [lg_entry_eq]
  generalize (lg_sl ([.ref h0]) ++ List.replicate (1 - (lg_sl ([.ref h0])).length) Slot.unset).toArray = ls at hl ⊢
  have hl : lv_has ls 1 [(0, .ref h0)] := hl
  refine lv_aload_n hx hb dX2_init_0 rfl (lv_at hl 0 rfl) ?_
  refine W.objInit hx hb hown (hts (.methodLink RX2 3 objectInit) (by decide +kernel)) (hts (.instanceMethod objectInit) (by decide +kernel)) (hts _ (List.mem_of_getElem? (i := 3) rfl)) rfl (by rw [hml]; exact hl.1) rfl dX2_init_1 (Nat.le_of_ble_eq_true rfl) (Nat.le_of_ble_eq_true rfl) ?_
  refine W.eq (g2 := F0 m 4 ls []) rfl ?_
  refine lv_aload_n hx hb dX2_init_4 rfl (lv_at hl 0 rfl) ?_
  refine lv_bipush (v := nI 35) hx hb dX2_init_5 (by decide +kernel) ?_
  have hc_1 : 0 + 1 ≤ 1 := by decide
  have hs_1 : 0 + 35 ≤ 35 := by decide
  have hy_1 : 35 * componentBytes .int ≤ 536870912 := by decide
  refine va_newa (D := D) (cl := vwCl) (atype := .int) (ty := .int) (pc := 7) (a0 := (35, .inl (fun _ => 0))) (N' := 35) hx hb (hts (.arrayClass .int) (by decide +kernel)) rfl hK hP hD hS hA (fun cA => rfl) (nI_pos (by omega)) (nI_clamp (by omega)) hy_1 hc_1 hs_1 dX2_init_7 (fun q1 c1 H hK1 hP hD hS => ?_)
  have hc := va_c0 hK1 hK
  subst hc
  have hP : va_P D vwCl [(h0, .inr (2, [.null])), (q1, .inl (cA 0, 35, .inl (fun _ => 0)))] H := hP
  have hD : va_D A [(h0, .inr (2, [.null])), (q1, .inl (cA 0, 35, .inl (fun _ => 0)))] := hD
  refine va_putF (D := D) (cl := vwCl) (ci := 2) (v := .ref q1) (ty := .array .int) (C := RX2) (T := TX2) (N := 1) hx hb hts (by decide +kernel) tyX2 tyX2_ok nmX2 hown hK hP hD hS 0 rfl rfl 0 (by decide) (hts (.fieldLink RX2 9 "RopedHalls$Minute" "arrived" "[I") (by decide +kernel)) (fun _ h9 => h9) rfl hin rfl (by decide +kernel) rfl rfl (Nat.le_of_ble_eq_true rfl) dX2_init_9 (fun H locs hP hD hS => ?_)
  have hP : va_P D vwCl [(h0, .inr (2, [.ref q1])), (q1, .inl (cA 0, 35, .inl (fun _ => 0)))] H := hP
  have hD : va_D A [(h0, .inr (2, [.ref q1])), (q1, .inl (cA 0, 35, .inl (fun _ => 0)))] := hD
  rw [xe_X2 (xarr (by decide +kernel) (fun _ _ => rfl))] at hP hD
  exact W.vret hx hb hr (fun t ht hW => ⟨⟨_, rfl, rfl, by rw [ht]; exact hP, va_K.moved hW.alike hK, hD⟩, hS.F ht⟩) hS.2.2 dX2_init_12
set_option maxHeartbeats 4000000 in
set_option maxRecDepth 100000 in
theorem i_X3 (l : Launch) (D : va_G) (cA : Nat → ClassId) (h0 sz : Nat) : Met l yX3_init wsX3_init ({ frames := 1, cells := 1, slots := 60, locals := 12 }) (va_Pc [.ref h0] (fun U => U.heap.size = sz ∧ va_P D vwCl [(h0, .inr (3, [.int 0, .null]))] U.heap ∧ va_K D vwCl (je_T cA) U ∧ va_D (fun _ => True) [(h0, .inr (3, [.int 0, .null]))])) (va_Qv (fun f : Nat → Nat => f 0 = h0) (fun f t => va_P D vwCl (xb cA 3 f) t.heap ∧ va_K D vwCl (je_T cA) t ∧ va_D (va_A [(h0, .inr (3, [.int 0, .null]))] sz) (xb cA 3 f)) (va_A [(h0, .inr (3, [.int 0, .null]))] sz)) 1 60 (va_A [(h0, .inr (3, [.int 0, .null]))] sz) := by
  refine Met.ofW (cc := cX3_init) (maxL := 1) (ret := none) (by decide) rfl ?_
  intro p e s m args below meth c s₁ B hml hv
  obtain ⟨rfl, hsz, hP, hK, hD0⟩ := hv
  have hx := B.exec
  have hb := B.bytes
  have hr := B.returns
  have hts := atoms_spec (ws := wsX3_init) B.pre
  have hown : s.vm.findClass RX3 = some m.cls := findClass_of_methodNamed B.named
  have hin : meth.name = "<init>" := (name_of_methodNamed B.named B.method).1
  subst hsz
  have hD := hD0.self (sz := s.heap.size)
  generalize hAe : va_A [(h0, .inr (3, [.int 0, .null]))] s.heap.size = A at hD ⊢
  have hA : ∀ q : Nat, s.heap.size ≤ q → A q := fun q h => by rw [← hAe]; exact Or.inr h
  have hS : va_S A s.heap s.heap [] := va_S.rf
  have hl := lv_entry ([.ref h0]) (n := 1) (Nat.le_of_ble_eq_true rfl)
  rw [lg_entry_eq]
  generalize (lg_sl ([.ref h0]) ++ List.replicate (1 - (lg_sl ([.ref h0])).length) Slot.unset).toArray = ls at hl ⊢
  have hl : lv_has ls 1 [(0, .ref h0)] := hl
  refine lv_aload_n hx hb dX3_init_0 rfl (lv_at hl 0 rfl) ?_
  refine W.objInit hx hb hown (hts (.methodLink RX3 3 objectInit) (by decide +kernel)) (hts (.instanceMethod objectInit) (by decide +kernel)) (hts _ (List.mem_of_getElem? (i := 3) rfl)) rfl (by rw [hml]; exact hl.1) rfl dX3_init_1 (Nat.le_of_ble_eq_true rfl) (Nat.le_of_ble_eq_true rfl) ?_
  refine W.eq (g2 := F0 m 4 ls []) rfl ?_
  refine lv_aload_n hx hb dX3_init_4 rfl (lv_at hl 0 rfl) ?_
  refine lv_bipush (v := nI 60) hx hb dX3_init_5 (by decide +kernel) ?_
  have hc_1 : 0 + 1 ≤ 1 := by decide
  have hs_1 : 0 + 60 ≤ 60 := by decide
  have hy_1 : 60 * componentBytes .int ≤ 536870912 := by decide
  refine va_newa (D := D) (cl := vwCl) (atype := .int) (ty := .int) (pc := 7) (a0 := (60, .inl (fun _ => 0))) (N' := 60) hx hb (hts (.arrayClass .int) (by decide +kernel)) rfl hK hP hD hS hA (fun cA => rfl) (nI_pos (by omega)) (nI_clamp (by omega)) hy_1 hc_1 hs_1 dX3_init_7 (fun q1 c1 H hK1 hP hD hS => ?_)
  have hc := va_c0 hK1 hK
  subst hc
  have hP : va_P D vwCl [(h0, .inr (3, [.int 0, .null])), (q1, .inl (cA 0, 60, .inl (fun _ => 0)))] H := hP
  have hD : va_D A [(h0, .inr (3, [.int 0, .null])), (q1, .inl (cA 0, 60, .inl (fun _ => 0)))] := hD
  refine va_putF (D := D) (cl := vwCl) (ci := 3) (v := .ref q1) (ty := .array .int) (C := RX3) (T := TX3) (N := 2) hx hb hts (by decide +kernel) tyX3 tyX3_ok nmX3 hown hK hP hD hS 0 rfl rfl 1 (by decide) (hts (.fieldLink RX3 9 "RopedHalls$Pad" "codes" "[I") (by decide +kernel)) (fun _ h9 => h9) rfl hin rfl (by decide +kernel) rfl rfl (Nat.le_of_ble_eq_true rfl) dX3_init_9 (fun H locs hP hD hS => ?_)
  have hP : va_P D vwCl [(h0, .inr (3, [.int 0, .ref q1])), (q1, .inl (cA 0, 60, .inl (fun _ => 0)))] H := hP
  have hD : va_D A [(h0, .inr (3, [.int 0, .ref q1])), (q1, .inl (cA 0, 60, .inl (fun _ => 0)))] := hD
  rw [xe_X3 (xarr (by decide +kernel) (fun _ _ => rfl))] at hP hD
  exact W.vret hx hb hr (fun t ht hW => ⟨⟨_, rfl, rfl, by rw [ht]; exact hP, va_K.moved hW.alike hK, hD⟩, hS.F ht⟩) hS.2.2 dX3_init_12
set_option maxHeartbeats 4000000 in
set_option maxRecDepth 100000 in
theorem i_X4 (l : Launch) (D : va_G) (cA : Nat → ClassId) (h0 sz : Nat) : Met l yX4_init wsX4_init ({ frames := 1, cells := 5, slots := 280, locals := 12 }) (va_Pc [.ref h0] (fun U => U.heap.size = sz ∧ va_P D vwCl [(h0, .inr (4, [.null, .null, .null, .null, .null, .int 0]))] U.heap ∧ va_K D vwCl (je_T cA) U ∧ va_D (fun _ => True) [(h0, .inr (4, [.null, .null, .null, .null, .null, .int 0]))])) (va_Qv (fun f : Nat → Nat => f 0 = h0) (fun f t => va_P D vwCl (xb cA 4 f) t.heap ∧ va_K D vwCl (je_T cA) t ∧ va_D (va_A [(h0, .inr (4, [.null, .null, .null, .null, .null, .int 0]))] sz) (xb cA 4 f)) (va_A [(h0, .inr (4, [.null, .null, .null, .null, .null, .int 0]))] sz)) 5 280 (va_A [(h0, .inr (4, [.null, .null, .null, .null, .null, .int 0]))] sz) := by
  refine Met.ofW (cc := cX4_init) (maxL := 1) (ret := none) (by decide) rfl ?_
  intro p e s m args below meth c s₁ B hml hv
  obtain ⟨rfl, hsz, hP, hK, hD0⟩ := hv
  have hx := B.exec
  have hb := B.bytes
  have hr := B.returns
  have hts := atoms_spec (ws := wsX4_init) B.pre
  have hown : s.vm.findClass RX4 = some m.cls := findClass_of_methodNamed B.named
  have hin : meth.name = "<init>" := (name_of_methodNamed B.named B.method).1
  subst hsz
  have hD := hD0.self (sz := s.heap.size)
  generalize hAe : va_A [(h0, .inr (4, [.null, .null, .null, .null, .null, .int 0]))] s.heap.size = A at hD ⊢
  have hA : ∀ q : Nat, s.heap.size ≤ q → A q := fun q h => by rw [← hAe]; exact Or.inr h
  have hS : va_S A s.heap s.heap [] := va_S.rf
  have hl := lv_entry ([.ref h0]) (n := 1) (Nat.le_of_ble_eq_true rfl)
  rw [lg_entry_eq]
  generalize (lg_sl ([.ref h0]) ++ List.replicate (1 - (lg_sl ([.ref h0])).length) Slot.unset).toArray = ls at hl ⊢
  have hl : lv_has ls 1 [(0, .ref h0)] := hl
  refine lv_aload_n hx hb dX4_init_0 rfl (lv_at hl 0 rfl) ?_
  refine W.objInit hx hb hown (hts (.methodLink RX4 3 objectInit) (by decide +kernel)) (hts (.instanceMethod objectInit) (by decide +kernel)) (hts _ (List.mem_of_getElem? (i := 3) rfl)) rfl (by rw [hml]; exact hl.1) rfl dX4_init_1 (Nat.le_of_ble_eq_true rfl) (Nat.le_of_ble_eq_true rfl) ?_
  refine W.eq (g2 := F0 m 4 ls []) rfl ?_
  refine lv_aload_n hx hb dX4_init_4 rfl (lv_at hl 0 rfl) ?_
  refine lv_sipush (v := nI 140) hx hb dX4_init_5 (by decide +kernel) ?_
  have hc_1 : 0 + 1 ≤ 5 := by decide
  have hs_1 : 0 + 140 ≤ 280 := by decide
  have hy_1 : 140 * componentBytes .int ≤ 536870912 := by decide
  refine va_newa (D := D) (cl := vwCl) (atype := .int) (ty := .int) (pc := 8) (a0 := (140, .inl (fun _ => 0))) (N' := 140) hx hb (hts (.arrayClass .int) (by decide +kernel)) rfl hK hP hD hS hA (fun cA => rfl) (nI_pos (by omega)) (nI_clamp (by omega)) hy_1 hc_1 hs_1 dX4_init_8 (fun q1 c1 H hK1 hP hD hS => ?_)
  have hc := va_c0 hK1 hK
  subst hc
  have hP : va_P D vwCl [(h0, .inr (4, [.null, .null, .null, .null, .null, .int 0])), (q1, .inl (cA 0, 140, .inl (fun _ => 0)))] H := hP
  have hD : va_D A [(h0, .inr (4, [.null, .null, .null, .null, .null, .int 0])), (q1, .inl (cA 0, 140, .inl (fun _ => 0)))] := hD
  refine va_putF (D := D) (cl := vwCl) (ci := 4) (v := .ref q1) (ty := .array .int) (C := RX4) (T := TX4) (N := 6) hx hb hts (by decide +kernel) tyX4 tyX4_ok nmX4 hown hK hP hD hS 0 rfl rfl 0 (by decide) (hts (.fieldLink RX4 9 "RopedHalls$Routes" "steps" "[I") (by decide +kernel)) (fun _ h9 => h9) rfl hin rfl (by decide +kernel) rfl rfl (Nat.le_of_ble_eq_true rfl) dX4_init_10 (fun H locs hP hD hS => ?_)
  have hP : va_P D vwCl [(h0, .inr (4, [.ref q1, .null, .null, .null, .null, .int 0])), (q1, .inl (cA 0, 140, .inl (fun _ => 0)))] H := hP
  have hD : va_D A [(h0, .inr (4, [.ref q1, .null, .null, .null, .null, .int 0])), (q1, .inl (cA 0, 140, .inl (fun _ => 0)))] := hD
  refine lv_aload_n hx hb dX4_init_13 rfl (lv_at hl 0 rfl) ?_
  refine lv_bipush (v := nI 35) hx hb dX4_init_14 (by decide +kernel) ?_
  have hc_2 : 1 + 1 ≤ 5 := by decide
  have hs_2 : 140 + 35 ≤ 280 := by decide
  have hy_2 : 35 * componentBytes .int ≤ 536870912 := by decide
  refine va_newa (D := D) (cl := vwCl) (atype := .int) (ty := .int) (pc := 16) (a0 := (35, .inl (fun _ => 0))) (N' := 35) hx hb (hts (.arrayClass .int) (by decide +kernel)) rfl hK hP hD hS hA (fun cA => rfl) (nI_pos (by omega)) (nI_clamp (by omega)) hy_2 hc_2 hs_2 dX4_init_16 (fun q2 c1 H hK1 hP hD hS => ?_)
  have hc := va_c0 hK1 hK
  subst hc
  have hP : va_P D vwCl [(h0, .inr (4, [.ref q1, .null, .null, .null, .null, .int 0])), (q1, .inl (cA 0, 140, .inl (fun _ => 0))), (q2, .inl (cA 0, 35, .inl (fun _ => 0)))] H := hP
  have hD : va_D A [(h0, .inr (4, [.ref q1, .null, .null, .null, .null, .int 0])), (q1, .inl (cA 0, 140, .inl (fun _ => 0))), (q2, .inl (cA 0, 35, .inl (fun _ => 0)))] := hD
  refine va_putF (D := D) (cl := vwCl) (ci := 4) (v := .ref q2) (ty := .array .int) (C := RX4) (T := TX4) (N := 6) hx hb hts (by decide +kernel) tyX4 tyX4_ok nmX4 hown hK hP hD hS 0 rfl rfl 1 (by decide) (hts (.fieldLink RX4 15 "RopedHalls$Routes" "queue" "[I") (by decide +kernel)) (fun _ h9 => h9) rfl hin rfl (by decide +kernel) rfl rfl (Nat.le_of_ble_eq_true rfl) dX4_init_18 (fun H locs hP hD hS => ?_)
  have hP : va_P D vwCl [(h0, .inr (4, [.ref q1, .ref q2, .null, .null, .null, .int 0])), (q1, .inl (cA 0, 140, .inl (fun _ => 0))), (q2, .inl (cA 0, 35, .inl (fun _ => 0)))] H := hP
  have hD : va_D A [(h0, .inr (4, [.ref q1, .ref q2, .null, .null, .null, .int 0])), (q1, .inl (cA 0, 140, .inl (fun _ => 0))), (q2, .inl (cA 0, 35, .inl (fun _ => 0)))] := hD
  refine lv_aload_n hx hb dX4_init_21 rfl (lv_at hl 0 rfl) ?_
  refine lv_bipush (v := nI 35) hx hb dX4_init_22 (by decide +kernel) ?_
  have hc_3 : 2 + 1 ≤ 5 := by decide
  have hs_3 : 175 + 35 ≤ 280 := by decide
  have hy_3 : 35 * componentBytes .int ≤ 536870912 := by decide
  refine va_newa (D := D) (cl := vwCl) (atype := .int) (ty := .int) (pc := 24) (a0 := (35, .inl (fun _ => 0))) (N' := 35) hx hb (hts (.arrayClass .int) (by decide +kernel)) rfl hK hP hD hS hA (fun cA => rfl) (nI_pos (by omega)) (nI_clamp (by omega)) hy_3 hc_3 hs_3 dX4_init_24 (fun q3 c1 H hK1 hP hD hS => ?_)
  have hc := va_c0 hK1 hK
  subst hc
  have hP : va_P D vwCl [(h0, .inr (4, [.ref q1, .ref q2, .null, .null, .null, .int 0])), (q1, .inl (cA 0, 140, .inl (fun _ => 0))), (q2, .inl (cA 0, 35, .inl (fun _ => 0))), (q3, .inl (cA 0, 35, .inl (fun _ => 0)))] H := hP
  have hD : va_D A [(h0, .inr (4, [.ref q1, .ref q2, .null, .null, .null, .int 0])), (q1, .inl (cA 0, 140, .inl (fun _ => 0))), (q2, .inl (cA 0, 35, .inl (fun _ => 0))), (q3, .inl (cA 0, 35, .inl (fun _ => 0)))] := hD
  refine va_putF (D := D) (cl := vwCl) (ci := 4) (v := .ref q3) (ty := .array .int) (C := RX4) (T := TX4) (N := 6) hx hb hts (by decide +kernel) tyX4 tyX4_ok nmX4 hown hK hP hD hS 0 rfl rfl 2 (by decide) (hts (.fieldLink RX4 18 "RopedHalls$Routes" "goals" "[I") (by decide +kernel)) (fun _ h9 => h9) rfl hin rfl (by decide +kernel) rfl rfl (Nat.le_of_ble_eq_true rfl) dX4_init_26 (fun H locs hP hD hS => ?_)
  have hP : va_P D vwCl [(h0, .inr (4, [.ref q1, .ref q2, .ref q3, .null, .null, .int 0])), (q1, .inl (cA 0, 140, .inl (fun _ => 0))), (q2, .inl (cA 0, 35, .inl (fun _ => 0))), (q3, .inl (cA 0, 35, .inl (fun _ => 0)))] H := hP
  have hD : va_D A [(h0, .inr (4, [.ref q1, .ref q2, .ref q3, .null, .null, .int 0])), (q1, .inl (cA 0, 140, .inl (fun _ => 0))), (q2, .inl (cA 0, 35, .inl (fun _ => 0))), (q3, .inl (cA 0, 35, .inl (fun _ => 0)))] := hD
  refine lv_aload_n hx hb dX4_init_29 rfl (lv_at hl 0 rfl) ?_
  refine lv_bipush (v := nI 35) hx hb dX4_init_30 (by decide +kernel) ?_
  have hc_4 : 3 + 1 ≤ 5 := by decide
  have hs_4 : 210 + 35 ≤ 280 := by decide
  have hy_4 : 35 * componentBytes .int ≤ 536870912 := by decide
  refine va_newa (D := D) (cl := vwCl) (atype := .int) (ty := .int) (pc := 32) (a0 := (35, .inl (fun _ => 0))) (N' := 35) hx hb (hts (.arrayClass .int) (by decide +kernel)) rfl hK hP hD hS hA (fun cA => rfl) (nI_pos (by omega)) (nI_clamp (by omega)) hy_4 hc_4 hs_4 dX4_init_32 (fun q4 c1 H hK1 hP hD hS => ?_)
  have hc := va_c0 hK1 hK
  subst hc
  have hP : va_P D vwCl [(h0, .inr (4, [.ref q1, .ref q2, .ref q3, .null, .null, .int 0])), (q1, .inl (cA 0, 140, .inl (fun _ => 0))), (q2, .inl (cA 0, 35, .inl (fun _ => 0))), (q3, .inl (cA 0, 35, .inl (fun _ => 0))), (q4, .inl (cA 0, 35, .inl (fun _ => 0)))] H := hP
  have hD : va_D A [(h0, .inr (4, [.ref q1, .ref q2, .ref q3, .null, .null, .int 0])), (q1, .inl (cA 0, 140, .inl (fun _ => 0))), (q2, .inl (cA 0, 35, .inl (fun _ => 0))), (q3, .inl (cA 0, 35, .inl (fun _ => 0))), (q4, .inl (cA 0, 35, .inl (fun _ => 0)))] := hD
  refine va_putF (D := D) (cl := vwCl) (ci := 4) (v := .ref q4) (ty := .array .int) (C := RX4) (T := TX4) (N := 6) hx hb hts (by decide +kernel) tyX4 tyX4_ok nmX4 hown hK hP hD hS 0 rfl rfl 3 (by decide) (hts (.fieldLink RX4 21 "RopedHalls$Routes" "nexts" "[I") (by decide +kernel)) (fun _ h9 => h9) rfl hin rfl (by decide +kernel) rfl rfl (Nat.le_of_ble_eq_true rfl) dX4_init_34 (fun H locs hP hD hS => ?_)
  have hP : va_P D vwCl [(h0, .inr (4, [.ref q1, .ref q2, .ref q3, .ref q4, .null, .int 0])), (q1, .inl (cA 0, 140, .inl (fun _ => 0))), (q2, .inl (cA 0, 35, .inl (fun _ => 0))), (q3, .inl (cA 0, 35, .inl (fun _ => 0))), (q4, .inl (cA 0, 35, .inl (fun _ => 0)))] H := hP
  have hD : va_D A [(h0, .inr (4, [.ref q1, .ref q2, .ref q3, .ref q4, .null, .int 0])), (q1, .inl (cA 0, 140, .inl (fun _ => 0))), (q2, .inl (cA 0, 35, .inl (fun _ => 0))), (q3, .inl (cA 0, 35, .inl (fun _ => 0))), (q4, .inl (cA 0, 35, .inl (fun _ => 0)))] := hD
  refine lv_aload_n hx hb dX4_init_37 rfl (lv_at hl 0 rfl) ?_
  refine lv_bipush (v := nI 35) hx hb dX4_init_38 (by decide +kernel) ?_
  have hc_5 : 4 + 1 ≤ 5 := by decide
  have hs_5 : 245 + 35 ≤ 280 := by decide
  have hy_5 : 35 * componentBytes .int ≤ 536870912 := by decide
  refine va_newa (D := D) (cl := vwCl) (atype := .int) (ty := .int) (pc := 40) (a0 := (35, .inl (fun _ => 0))) (N' := 35) hx hb (hts (.arrayClass .int) (by decide +kernel)) rfl hK hP hD hS hA (fun cA => rfl) (nI_pos (by omega)) (nI_clamp (by omega)) hy_5 hc_5 hs_5 dX4_init_40 (fun q5 c1 H hK1 hP hD hS => ?_)
  have hc := va_c0 hK1 hK
  subst hc
  have hP : va_P D vwCl [(h0, .inr (4, [.ref q1, .ref q2, .ref q3, .ref q4, .null, .int 0])), (q1, .inl (cA 0, 140, .inl (fun _ => 0))), (q2, .inl (cA 0, 35, .inl (fun _ => 0))), (q3, .inl (cA 0, 35, .inl (fun _ => 0))), (q4, .inl (cA 0, 35, .inl (fun _ => 0))), (q5, .inl (cA 0, 35, .inl (fun _ => 0)))] H := hP
  have hD : va_D A [(h0, .inr (4, [.ref q1, .ref q2, .ref q3, .ref q4, .null, .int 0])), (q1, .inl (cA 0, 140, .inl (fun _ => 0))), (q2, .inl (cA 0, 35, .inl (fun _ => 0))), (q3, .inl (cA 0, 35, .inl (fun _ => 0))), (q4, .inl (cA 0, 35, .inl (fun _ => 0))), (q5, .inl (cA 0, 35, .inl (fun _ => 0)))] := hD
  refine va_putF (D := D) (cl := vwCl) (ci := 4) (v := .ref q5) (ty := .array .int) (C := RX4) (T := TX4) (N := 6) hx hb hts (by decide +kernel) tyX4 tyX4_ok nmX4 hown hK hP hD hS 0 rfl rfl 4 (by decide) (hts (.fieldLink RX4 24 "RopedHalls$Routes" "turns" "[I") (by decide +kernel)) (fun _ h9 => h9) rfl hin rfl (by decide +kernel) rfl rfl (Nat.le_of_ble_eq_true rfl) dX4_init_42 (fun H locs hP hD hS => ?_)
  have hP : va_P D vwCl [(h0, .inr (4, [.ref q1, .ref q2, .ref q3, .ref q4, .ref q5, .int 0])), (q1, .inl (cA 0, 140, .inl (fun _ => 0))), (q2, .inl (cA 0, 35, .inl (fun _ => 0))), (q3, .inl (cA 0, 35, .inl (fun _ => 0))), (q4, .inl (cA 0, 35, .inl (fun _ => 0))), (q5, .inl (cA 0, 35, .inl (fun _ => 0)))] H := hP
  have hD : va_D A [(h0, .inr (4, [.ref q1, .ref q2, .ref q3, .ref q4, .ref q5, .int 0])), (q1, .inl (cA 0, 140, .inl (fun _ => 0))), (q2, .inl (cA 0, 35, .inl (fun _ => 0))), (q3, .inl (cA 0, 35, .inl (fun _ => 0))), (q4, .inl (cA 0, 35, .inl (fun _ => 0))), (q5, .inl (cA 0, 35, .inl (fun _ => 0)))] := hD
  rw [xe_X4 (xarr (by decide +kernel) (fun _ _ => rfl)) (xarr (by decide +kernel) (fun _ _ => rfl)) (xarr (by decide +kernel) (fun _ _ => rfl)) (xarr (by decide +kernel) (fun _ _ => rfl)) (xarr (by decide +kernel) (fun _ _ => rfl))] at hP hD
  exact W.vret hx hb hr (fun t ht hW => ⟨⟨_, rfl, rfl, by rw [ht]; exact hP, va_K.moved hW.alike hK, hD⟩, hS.F ht⟩) hS.2.2 dX4_init_45
section LP1
variable {p : Program} {l : Launch} {e : Env} {R : Room} {s : State} {m : MethodId} {args : Array Value} {below : List Frame} {meth : Method} {c : Code} {cells slots : Nat} {Q : State → Prop} {D : va_G} {cA : Nat → ClassId} {A : Nat → Prop} {H0 : Heap}
def gdX (g : Nat → Int32) (b i : Nat) : Nat → Int32 := fun j => if b ≤ j ∧ j < b + i then -1 else g j
theorem gdX_upd {g : Nat → Int32} {b i : Nat} : upd (gdX g b i) (b + i) (-1) = gdX g b (i + 1) := by
  funext j
  unfold upd gdX
  by_cases h : j = b + i
  · rw [if_pos h, if_pos (by omega)]
  · rw [if_neg h]
    by_cases h2 : b ≤ j ∧ j < b + i
    · rw [if_pos h2, if_pos (by omega)]
    · rw [if_neg h2, if_neg (by omega)]
theorem gdX_0 {g : Nat → Int32} {b : Nat} : gdX g b 0 = g := by
  funext j
  unfold gdX
  rw [if_neg (by omega)]
set_option maxHeartbeats 4000000 in
set_option maxRecDepth 100000 in
theorem lp_X1 (hx : p.tables.exec = Jvm.exec) (hb : c.code = cX1_init) (hts : ∀ w ∈ wsX1_init, w.before args s = true) (hown : s.vm.findClass RX1 = some m.cls) (hK : va_K D vwCl (je_T cA) s) {h0 q1 q2 : Nat} {e1 : va_E} {rest : va_W} {fs : List Value} (hfs : fs[6]? = some (.ref q2)) {g : Nat → Int32}
    (fin : ∀ (H : Heap) (locs : List Loc) (ls : Array Slot), va_P D vwCl ((h0, .inr (1, fs)) :: (q1, e1) :: (q2, .inl (cA 0, 35, .inl (gdX g 0 35))) :: rest) H → va_D A ((h0, .inr (1, fs)) :: (q1, e1) :: (q2, .inl (cA 0, 35, .inl (gdX g 0 35))) :: rest) → va_S A H0 H locs → W p l e R s m args below meth c H locs cells slots Q (F0 m 134 ls [])) :
    ∀ (d i : Nat), i + d = 35 → ∀ (H : Heap) (locs : List Loc) (ls : Array Slot), lv_has ls 2 [(1, .int (nI i)), (0, .ref h0)] → va_P D vwCl ((h0, .inr (1, fs)) :: (q1, e1) :: (q2, .inl (cA 0, 35, .inl (gdX g 0 i))) :: rest) H → va_D A ((h0, .inr (1, fs)) :: (q1, e1) :: (q2, .inl (cA 0, 35, .inl (gdX g 0 i))) :: rest) → va_S A H0 H locs → W p l e R s m args below meth c H locs cells slots Q (F0 m 115 ls []) := by
  intro d
  induction d with
  | zero =>
    intro i hi H locs ls hl hP hD hS
    have hi : i = 35 := by omega
    subst hi
    refine lv_iload_n hx hb dX1_init_115 rfl (lv_at hl 0 rfl) ?_
    refine lv_bipush (v := nI 35) hx hb dX1_init_116 (by decide +kernel) ?_
    exact lv_icmp_ge hx hb dX1_init_118 (tgt := 134) (by decide) (fun _ => fin H locs ls hP hD hS) (fun h => absurd ((nI_leI (by omega) (by omega)).mpr (Nat.le_refl 35)) h)
  | succ d ih =>
    intro i hi H locs ls hl hP hD hS
    refine lv_iload_n hx hb dX1_init_115 rfl (lv_at hl 0 rfl) ?_
    refine lv_bipush (v := nI 35) hx hb dX1_init_116 (by decide +kernel) ?_
    refine lv_icmp_ge hx hb dX1_init_118 (tgt := 134) (by decide) (fun h => absurd ((nI_leI (by omega) (by omega)).mp h) (by omega)) (fun _ => ?_)
    refine lv_aload_n hx hb dX1_init_121 rfl (lv_at hl 1 rfl) ?_
    refine va_get (D := D) (cl := vwCl) (ci := 1) (v := .ref q2) (C := RX1) (T := TX1) (N := 12) hx hb hts (by decide +kernel) hown hK hP 0 rfl rfl 6 (by decide) (hts (.fieldLink RX1 19 "RopedHalls$Hall" "guards" "[I") (by decide +kernel)) (fun _ h9 => h9) hfs dX1_init_122 ?_
    refine lv_iload_n hx hb dX1_init_125 rfl (lv_at hl 0 rfl) ?_
    refine lv_iconst (v := -1) hx hb dX1_init_126 (by decide +kernel) ?_
    refine va_iast (D := D) (cl := vwCl) hx hb hK hP hD hS 2 0 rfl rfl (vp_in_nI (by omega) (by omega)) dX1_init_127 (fun H locs hP hD hS => ?_)
    have e9 : upd (gdX g 0 i) (nI i).toNatClampNeg (-1) = gdX g 0 (i + 1) := by
      rw [nI_clamp (by omega), ← gdX_upd, Nat.zero_add]
    rw [e9] at hP hD
    refine lv_iinc (v := nI (i + 1)) (lv' := [(1, .int (nI (i + 1))), (0, .ref h0)]) (k := 0) hx hb dX1_init_128 hl rfl (nI_add i 1) (by decide) rfl (fun ls hl => ?_)
    exact lv_goto hx hb dX1_init_131 (tgt := 115) (by decide) (ih (i + 1) (by omega) H locs ls hl hP hD hS)
end LP1
set_option maxHeartbeats 4000000 in
set_option maxRecDepth 100000 in
theorem i_X1 (l : Launch) (D : va_G) (cA : Nat → ClassId) (h0 sz : Nat) : Met l yX1_init wsX1_init ({ frames := 1, cells := 7, slots := 156, locals := 12 }) (va_Pc [.ref h0] (fun U => U.heap.size = sz ∧ va_P D vwCl [(h0, .inr (1, [.int 0, .int 0, .int 0, .int 0, .int 0, .null, .null, .null, .null, .null, .null, .null]))] U.heap ∧ va_K D vwCl (je_T cA) U ∧ va_D (fun _ => True) [(h0, .inr (1, [.int 0, .int 0, .int 0, .int 0, .int 0, .null, .null, .null, .null, .null, .null, .null]))])) (va_Qv (fun f : Nat → Nat => f 0 = h0) (fun f t => va_P D vwCl (xb cA 1 f) t.heap ∧ va_K D vwCl (je_T cA) t ∧ va_D (va_A [(h0, .inr (1, [.int 0, .int 0, .int 0, .int 0, .int 0, .null, .null, .null, .null, .null, .null, .null]))] sz) (xb cA 1 f)) (va_A [(h0, .inr (1, [.int 0, .int 0, .int 0, .int 0, .int 0, .null, .null, .null, .null, .null, .null, .null]))] sz)) 7 156 (va_A [(h0, .inr (1, [.int 0, .int 0, .int 0, .int 0, .int 0, .null, .null, .null, .null, .null, .null, .null]))] sz) := by
  refine Met.ofW (cc := cX1_init) (maxL := 2) (ret := none) (by decide) rfl ?_
  intro p e s m args below meth c s₁ B hml hv
  obtain ⟨rfl, hsz, hP, hK, hD0⟩ := hv
  have hx := B.exec
  have hb := B.bytes
  have hr := B.returns
  have hts := atoms_spec (ws := wsX1_init) B.pre
  have hown : s.vm.findClass RX1 = some m.cls := findClass_of_methodNamed B.named
  have hin : meth.name = "<init>" := (name_of_methodNamed B.named B.method).1
  subst hsz
  have hD := hD0.self (sz := s.heap.size)
  generalize hAe : va_A [(h0, .inr (1, [.int 0, .int 0, .int 0, .int 0, .int 0, .null, .null, .null, .null, .null, .null, .null]))] s.heap.size = A at hD ⊢
  have hA : ∀ q : Nat, s.heap.size ≤ q → A q := fun q h => by rw [← hAe]; exact Or.inr h
  have hS : va_S A s.heap s.heap [] := va_S.rf
  have hl := lv_entry ([.ref h0]) (n := 2) (Nat.le_of_ble_eq_true rfl)
  rw [lg_entry_eq]
  generalize (lg_sl ([.ref h0]) ++ List.replicate (2 - (lg_sl ([.ref h0])).length) Slot.unset).toArray = ls at hl ⊢
  have hl : lv_has ls 2 [(0, .ref h0)] := hl
  refine lv_aload_n hx hb dX1_init_0 rfl (lv_at hl 0 rfl) ?_
  refine W.objInit hx hb hown (hts (.methodLink RX1 3 objectInit) (by decide +kernel)) (hts (.instanceMethod objectInit) (by decide +kernel)) (hts _ (List.mem_of_getElem? (i := 3) rfl)) rfl (by rw [hml]; exact hl.1) rfl dX1_init_1 (Nat.le_of_ble_eq_true rfl) (Nat.le_of_ble_eq_true rfl) ?_
  refine W.eq (g2 := F0 m 4 ls []) rfl ?_
  refine lv_aload_n hx hb dX1_init_4 rfl (lv_at hl 0 rfl) ?_
  refine lv_bipush (v := nI 6) hx hb dX1_init_5 (by decide +kernel) ?_
  refine va_put (D := D) (cl := vwCl) (ci := 1) (v := .int (nI 6)) (ty := .int) (C := RX1) (T := TX1) (N := 12) hx hb hts (by decide +kernel) tyX1 tyX1_ok nmX1 hown hK hP hD hS 0 rfl rfl 0 (by decide) (hts (.fieldLink RX1 9 "RopedHalls$Hall" "room" "I") (by decide +kernel)) (fun _ h9 => h9) rfl (by decide +kernel) rfl rfl (Nat.le_of_ble_eq_true rfl) dX1_init_7 (fun H locs hP hD hS => ?_)
  have hP : va_P D vwCl [(h0, .inr (1, [.int (nI 6), .int 0, .int 0, .int 0, .int 0, .null, .null, .null, .null, .null, .null, .null]))] H := hP
  have hD : va_D A [(h0, .inr (1, [.int (nI 6), .int 0, .int 0, .int 0, .int 0, .null, .null, .null, .null, .null, .null, .null]))] := hD
  refine lv_aload_n hx hb dX1_init_10 rfl (lv_at hl 0 rfl) ?_
  refine lv_bipush (v := nI 35) hx hb dX1_init_11 (by decide +kernel) ?_
  have hc_1 : 0 + 1 ≤ 7 := by decide
  have hs_1 : 0 + 35 ≤ 156 := by decide
  have hy_1 : 35 * componentBytes .int ≤ 536870912 := by decide
  refine va_newa (D := D) (cl := vwCl) (atype := .int) (ty := .int) (pc := 13) (a0 := (35, .inl (fun _ => 0))) (N' := 35) hx hb (hts (.arrayClass .int) (by decide +kernel)) rfl hK hP hD hS hA (fun cA => rfl) (nI_pos (by omega)) (nI_clamp (by omega)) hy_1 hc_1 hs_1 dX1_init_13 (fun q1 c1 H hK1 hP hD hS => ?_)
  have hc := va_c0 hK1 hK
  subst hc
  have hP : va_P D vwCl [(h0, .inr (1, [.int (nI 6), .int 0, .int 0, .int 0, .int 0, .null, .null, .null, .null, .null, .null, .null])), (q1, .inl (cA 0, 35, .inl (fun _ => 0)))] H := hP
  have hD : va_D A [(h0, .inr (1, [.int (nI 6), .int 0, .int 0, .int 0, .int 0, .null, .null, .null, .null, .null, .null, .null])), (q1, .inl (cA 0, 35, .inl (fun _ => 0)))] := hD
  refine va_putF (D := D) (cl := vwCl) (ci := 1) (v := .ref q1) (ty := .array .int) (C := RX1) (T := TX1) (N := 12) hx hb hts (by decide +kernel) tyX1 tyX1_ok nmX1 hown hK hP hD hS 0 rfl rfl 5 (by decide) (hts (.fieldLink RX1 15 "RopedHalls$Hall" "people" "[I") (by decide +kernel)) (fun _ h9 => h9) rfl hin rfl (by decide +kernel) rfl rfl (Nat.le_of_ble_eq_true rfl) dX1_init_15 (fun H locs hP hD hS => ?_)
  have hP : va_P D vwCl [(h0, .inr (1, [.int (nI 6), .int 0, .int 0, .int 0, .int 0, .ref q1, .null, .null, .null, .null, .null, .null])), (q1, .inl (cA 0, 35, .inl (fun _ => 0)))] H := hP
  have hD : va_D A [(h0, .inr (1, [.int (nI 6), .int 0, .int 0, .int 0, .int 0, .ref q1, .null, .null, .null, .null, .null, .null])), (q1, .inl (cA 0, 35, .inl (fun _ => 0)))] := hD
  refine lv_aload_n hx hb dX1_init_18 rfl (lv_at hl 0 rfl) ?_
  refine lv_bipush (v := nI 35) hx hb dX1_init_19 (by decide +kernel) ?_
  have hc_2 : 1 + 1 ≤ 7 := by decide
  have hs_2 : 35 + 35 ≤ 156 := by decide
  have hy_2 : 35 * componentBytes .int ≤ 536870912 := by decide
  refine va_newa (D := D) (cl := vwCl) (atype := .int) (ty := .int) (pc := 21) (a0 := (35, .inl (fun _ => 0))) (N' := 35) hx hb (hts (.arrayClass .int) (by decide +kernel)) rfl hK hP hD hS hA (fun cA => rfl) (nI_pos (by omega)) (nI_clamp (by omega)) hy_2 hc_2 hs_2 dX1_init_21 (fun q2 c1 H hK1 hP hD hS => ?_)
  have hc := va_c0 hK1 hK
  subst hc
  have hP : va_P D vwCl [(h0, .inr (1, [.int (nI 6), .int 0, .int 0, .int 0, .int 0, .ref q1, .null, .null, .null, .null, .null, .null])), (q1, .inl (cA 0, 35, .inl (fun _ => 0))), (q2, .inl (cA 0, 35, .inl (fun _ => 0)))] H := hP
  have hD : va_D A [(h0, .inr (1, [.int (nI 6), .int 0, .int 0, .int 0, .int 0, .ref q1, .null, .null, .null, .null, .null, .null])), (q1, .inl (cA 0, 35, .inl (fun _ => 0))), (q2, .inl (cA 0, 35, .inl (fun _ => 0)))] := hD
  refine va_putF (D := D) (cl := vwCl) (ci := 1) (v := .ref q2) (ty := .array .int) (C := RX1) (T := TX1) (N := 12) hx hb hts (by decide +kernel) tyX1 tyX1_ok nmX1 hown hK hP hD hS 0 rfl rfl 6 (by decide) (hts (.fieldLink RX1 19 "RopedHalls$Hall" "guards" "[I") (by decide +kernel)) (fun _ h9 => h9) rfl hin rfl (by decide +kernel) rfl rfl (Nat.le_of_ble_eq_true rfl) dX1_init_23 (fun H locs hP hD hS => ?_)
  have hP : va_P D vwCl [(h0, .inr (1, [.int (nI 6), .int 0, .int 0, .int 0, .int 0, .ref q1, .ref q2, .null, .null, .null, .null, .null])), (q1, .inl (cA 0, 35, .inl (fun _ => 0))), (q2, .inl (cA 0, 35, .inl (fun _ => 0)))] H := hP
  have hD : va_D A [(h0, .inr (1, [.int (nI 6), .int 0, .int 0, .int 0, .int 0, .ref q1, .ref q2, .null, .null, .null, .null, .null])), (q1, .inl (cA 0, 35, .inl (fun _ => 0))), (q2, .inl (cA 0, 35, .inl (fun _ => 0)))] := hD
  refine lv_aload_n hx hb dX1_init_26 rfl (lv_at hl 0 rfl) ?_
  refine lv_bipush (v := nI 70) hx hb dX1_init_27 (by decide +kernel) ?_
  have hc_3 : 2 + 1 ≤ 7 := by decide
  have hs_3 : 70 + 70 ≤ 156 := by decide
  have hy_3 : 70 * componentBytes .boolean ≤ 536870912 := by decide
  refine va_newa (D := D) (cl := vwCl) (atype := .boolean) (ty := .boolean) (pc := 29) (a0 := (70, .inl (fun _ => 0))) (N' := 70) hx hb (hts (.arrayClass .boolean) (by decide +kernel)) rfl hK hP hD hS hA (fun cA => rfl) (nI_pos (by omega)) (nI_clamp (by omega)) hy_3 hc_3 hs_3 dX1_init_29 (fun q3 c1 H hK1 hP hD hS => ?_)
  have hc := va_c1 hK1 hK
  subst hc
  have hP : va_P D vwCl [(h0, .inr (1, [.int (nI 6), .int 0, .int 0, .int 0, .int 0, .ref q1, .ref q2, .null, .null, .null, .null, .null])), (q1, .inl (cA 0, 35, .inl (fun _ => 0))), (q2, .inl (cA 0, 35, .inl (fun _ => 0))), (q3, .inl (cA 1, 70, .inl (fun _ => 0)))] H := hP
  have hD : va_D A [(h0, .inr (1, [.int (nI 6), .int 0, .int 0, .int 0, .int 0, .ref q1, .ref q2, .null, .null, .null, .null, .null])), (q1, .inl (cA 0, 35, .inl (fun _ => 0))), (q2, .inl (cA 0, 35, .inl (fun _ => 0))), (q3, .inl (cA 1, 70, .inl (fun _ => 0)))] := hD
  refine va_putF (D := D) (cl := vwCl) (ci := 1) (v := .ref q3) (ty := .array .boolean) (C := RX1) (T := TX1) (N := 12) hx hb hts (by decide +kernel) tyX1 tyX1_ok nmX1 hown hK hP hD hS 0 rfl rfl 7 (by decide) (hts (.fieldLink RX1 22 "RopedHalls$Hall" "ropes" "[Z") (by decide +kernel)) (fun _ h9 => h9) rfl hin rfl (by decide +kernel) rfl rfl (Nat.le_of_ble_eq_true rfl) dX1_init_31 (fun H locs hP hD hS => ?_)
  have hP : va_P D vwCl [(h0, .inr (1, [.int (nI 6), .int 0, .int 0, .int 0, .int 0, .ref q1, .ref q2, .ref q3, .null, .null, .null, .null])), (q1, .inl (cA 0, 35, .inl (fun _ => 0))), (q2, .inl (cA 0, 35, .inl (fun _ => 0))), (q3, .inl (cA 1, 70, .inl (fun _ => 0)))] H := hP
  have hD : va_D A [(h0, .inr (1, [.int (nI 6), .int 0, .int 0, .int 0, .int 0, .ref q1, .ref q2, .ref q3, .null, .null, .null, .null])), (q1, .inl (cA 0, 35, .inl (fun _ => 0))), (q2, .inl (cA 0, 35, .inl (fun _ => 0))), (q3, .inl (cA 1, 70, .inl (fun _ => 0)))] := hD
  refine lv_aload_n hx hb dX1_init_34 rfl (lv_at hl 0 rfl) ?_
  refine lv_iconst (v := nI 4) hx hb dX1_init_35 (by decide +kernel) ?_
  have hc_4 : 3 + 1 ≤ 7 := by decide
  have hs_4 : 140 + 4 ≤ 156 := by decide
  have hy_4 : 4 * componentBytes .int ≤ 536870912 := by decide
  refine va_newa (D := D) (cl := vwCl) (atype := .int) (ty := .int) (pc := 36) (a0 := (4, .inl (fun _ => 0))) (N' := 4) hx hb (hts (.arrayClass .int) (by decide +kernel)) rfl hK hP hD hS hA (fun cA => rfl) (nI_pos (by omega)) (nI_clamp (by omega)) hy_4 hc_4 hs_4 dX1_init_36 (fun q4 c1 H hK1 hP hD hS => ?_)
  have hc := va_c0 hK1 hK
  subst hc
  have hP : va_P D vwCl [(h0, .inr (1, [.int (nI 6), .int 0, .int 0, .int 0, .int 0, .ref q1, .ref q2, .ref q3, .null, .null, .null, .null])), (q1, .inl (cA 0, 35, .inl (fun _ => 0))), (q2, .inl (cA 0, 35, .inl (fun _ => 0))), (q3, .inl (cA 1, 70, .inl (fun _ => 0))), (q4, .inl (cA 0, 4, .inl (fun _ => 0)))] H := hP
  have hD : va_D A [(h0, .inr (1, [.int (nI 6), .int 0, .int 0, .int 0, .int 0, .ref q1, .ref q2, .ref q3, .null, .null, .null, .null])), (q1, .inl (cA 0, 35, .inl (fun _ => 0))), (q2, .inl (cA 0, 35, .inl (fun _ => 0))), (q3, .inl (cA 1, 70, .inl (fun _ => 0))), (q4, .inl (cA 0, 4, .inl (fun _ => 0)))] := hD
  refine lv_dup hx hb dX1_init_38 rfl ?_
  refine lv_iconst (v := nI 0) hx hb dX1_init_39 (by decide +kernel) ?_
  refine lv_iconst (v := nI 0) hx hb dX1_init_40 (by decide +kernel) ?_
  refine va_iast (D := D) (cl := vwCl) hx hb hK hP hD hS 4 0 rfl rfl (vp_in_nI (by omega) (by omega)) dX1_init_41 (fun H locs hP hD hS => ?_)
  rw [nI_clamp (by omega)] at hP hD
  have hP : va_P D vwCl [(h0, .inr (1, [.int (nI 6), .int 0, .int 0, .int 0, .int 0, .ref q1, .ref q2, .ref q3, .null, .null, .null, .null])), (q1, .inl (cA 0, 35, .inl (fun _ => 0))), (q2, .inl (cA 0, 35, .inl (fun _ => 0))), (q3, .inl (cA 1, 70, .inl (fun _ => 0))), (q4, .inl (cA 0, 4, .inl (upd (fun _ => 0) 0 (nI 0))))] H := hP
  have hD : va_D A [(h0, .inr (1, [.int (nI 6), .int 0, .int 0, .int 0, .int 0, .ref q1, .ref q2, .ref q3, .null, .null, .null, .null])), (q1, .inl (cA 0, 35, .inl (fun _ => 0))), (q2, .inl (cA 0, 35, .inl (fun _ => 0))), (q3, .inl (cA 1, 70, .inl (fun _ => 0))), (q4, .inl (cA 0, 4, .inl (upd (fun _ => 0) 0 (nI 0))))] := hD
  refine lv_dup hx hb dX1_init_42 rfl ?_
  refine lv_iconst (v := nI 1) hx hb dX1_init_43 (by decide +kernel) ?_
  refine lv_bipush (v := nI 6) hx hb dX1_init_44 (by decide +kernel) ?_
  refine va_iast (D := D) (cl := vwCl) hx hb hK hP hD hS 4 0 rfl rfl (vp_in_nI (by omega) (by omega)) dX1_init_46 (fun H locs hP hD hS => ?_)
  rw [nI_clamp (by omega)] at hP hD
  have hP : va_P D vwCl [(h0, .inr (1, [.int (nI 6), .int 0, .int 0, .int 0, .int 0, .ref q1, .ref q2, .ref q3, .null, .null, .null, .null])), (q1, .inl (cA 0, 35, .inl (fun _ => 0))), (q2, .inl (cA 0, 35, .inl (fun _ => 0))), (q3, .inl (cA 1, 70, .inl (fun _ => 0))), (q4, .inl (cA 0, 4, .inl (upd (upd (fun _ => 0) 0 (nI 0)) 1 (nI 6))))] H := hP
  have hD : va_D A [(h0, .inr (1, [.int (nI 6), .int 0, .int 0, .int 0, .int 0, .ref q1, .ref q2, .ref q3, .null, .null, .null, .null])), (q1, .inl (cA 0, 35, .inl (fun _ => 0))), (q2, .inl (cA 0, 35, .inl (fun _ => 0))), (q3, .inl (cA 1, 70, .inl (fun _ => 0))), (q4, .inl (cA 0, 4, .inl (upd (upd (fun _ => 0) 0 (nI 0)) 1 (nI 6))))] := hD
  refine lv_dup hx hb dX1_init_47 rfl ?_
  refine lv_iconst (v := nI 2) hx hb dX1_init_48 (by decide +kernel) ?_
  refine lv_bipush (v := nI 28) hx hb dX1_init_49 (by decide +kernel) ?_
  refine va_iast (D := D) (cl := vwCl) hx hb hK hP hD hS 4 0 rfl rfl (vp_in_nI (by omega) (by omega)) dX1_init_51 (fun H locs hP hD hS => ?_)
  rw [nI_clamp (by omega)] at hP hD
  have hP : va_P D vwCl [(h0, .inr (1, [.int (nI 6), .int 0, .int 0, .int 0, .int 0, .ref q1, .ref q2, .ref q3, .null, .null, .null, .null])), (q1, .inl (cA 0, 35, .inl (fun _ => 0))), (q2, .inl (cA 0, 35, .inl (fun _ => 0))), (q3, .inl (cA 1, 70, .inl (fun _ => 0))), (q4, .inl (cA 0, 4, .inl (upd (upd (upd (fun _ => 0) 0 (nI 0)) 1 (nI 6)) 2 (nI 28))))] H := hP
  have hD : va_D A [(h0, .inr (1, [.int (nI 6), .int 0, .int 0, .int 0, .int 0, .ref q1, .ref q2, .ref q3, .null, .null, .null, .null])), (q1, .inl (cA 0, 35, .inl (fun _ => 0))), (q2, .inl (cA 0, 35, .inl (fun _ => 0))), (q3, .inl (cA 1, 70, .inl (fun _ => 0))), (q4, .inl (cA 0, 4, .inl (upd (upd (upd (fun _ => 0) 0 (nI 0)) 1 (nI 6)) 2 (nI 28))))] := hD
  refine lv_dup hx hb dX1_init_52 rfl ?_
  refine lv_iconst (v := nI 3) hx hb dX1_init_53 (by decide +kernel) ?_
  refine lv_bipush (v := nI 34) hx hb dX1_init_54 (by decide +kernel) ?_
  refine va_iast (D := D) (cl := vwCl) hx hb hK hP hD hS 4 0 rfl rfl (vp_in_nI (by omega) (by omega)) dX1_init_56 (fun H locs hP hD hS => ?_)
  rw [nI_clamp (by omega)] at hP hD
  have hP : va_P D vwCl [(h0, .inr (1, [.int (nI 6), .int 0, .int 0, .int 0, .int 0, .ref q1, .ref q2, .ref q3, .null, .null, .null, .null])), (q1, .inl (cA 0, 35, .inl (fun _ => 0))), (q2, .inl (cA 0, 35, .inl (fun _ => 0))), (q3, .inl (cA 1, 70, .inl (fun _ => 0))), (q4, .inl (cA 0, 4, .inl (upd (upd (upd (upd (fun _ => 0) 0 (nI 0)) 1 (nI 6)) 2 (nI 28)) 3 (nI 34))))] H := hP
  have hD : va_D A [(h0, .inr (1, [.int (nI 6), .int 0, .int 0, .int 0, .int 0, .ref q1, .ref q2, .ref q3, .null, .null, .null, .null])), (q1, .inl (cA 0, 35, .inl (fun _ => 0))), (q2, .inl (cA 0, 35, .inl (fun _ => 0))), (q3, .inl (cA 1, 70, .inl (fun _ => 0))), (q4, .inl (cA 0, 4, .inl (upd (upd (upd (upd (fun _ => 0) 0 (nI 0)) 1 (nI 6)) 2 (nI 28)) 3 (nI 34))))] := hD
  refine va_putF (D := D) (cl := vwCl) (ci := 1) (v := .ref q4) (ty := .array .int) (C := RX1) (T := TX1) (N := 12) hx hb hts (by decide +kernel) tyX1 tyX1_ok nmX1 hown hK hP hD hS 0 rfl rfl 8 (by decide) (hts (.fieldLink RX1 26 "RopedHalls$Hall" "doorCell" "[I") (by decide +kernel)) (fun _ h9 => h9) rfl hin rfl (by decide +kernel) rfl rfl (Nat.le_of_ble_eq_true rfl) dX1_init_57 (fun H locs hP hD hS => ?_)
  have hP : va_P D vwCl [(h0, .inr (1, [.int (nI 6), .int 0, .int 0, .int 0, .int 0, .ref q1, .ref q2, .ref q3, .ref q4, .null, .null, .null])), (q1, .inl (cA 0, 35, .inl (fun _ => 0))), (q2, .inl (cA 0, 35, .inl (fun _ => 0))), (q3, .inl (cA 1, 70, .inl (fun _ => 0))), (q4, .inl (cA 0, 4, .inl (upd (upd (upd (upd (fun _ => 0) 0 (nI 0)) 1 (nI 6)) 2 (nI 28)) 3 (nI 34))))] H := hP
  have hD : va_D A [(h0, .inr (1, [.int (nI 6), .int 0, .int 0, .int 0, .int 0, .ref q1, .ref q2, .ref q3, .ref q4, .null, .null, .null])), (q1, .inl (cA 0, 35, .inl (fun _ => 0))), (q2, .inl (cA 0, 35, .inl (fun _ => 0))), (q3, .inl (cA 1, 70, .inl (fun _ => 0))), (q4, .inl (cA 0, 4, .inl (upd (upd (upd (upd (fun _ => 0) 0 (nI 0)) 1 (nI 6)) 2 (nI 28)) 3 (nI 34))))] := hD
  refine lv_aload_n hx hb dX1_init_60 rfl (lv_at hl 0 rfl) ?_
  refine lv_iconst (v := nI 4) hx hb dX1_init_61 (by decide +kernel) ?_
  have hc_5 : 4 + 1 ≤ 7 := by decide
  have hs_5 : 144 + 4 ≤ 156 := by decide
  have hy_5 : 4 * componentBytes .int ≤ 536870912 := by decide
  refine va_newa (D := D) (cl := vwCl) (atype := .int) (ty := .int) (pc := 62) (a0 := (4, .inl (fun _ => 0))) (N' := 4) hx hb (hts (.arrayClass .int) (by decide +kernel)) rfl hK hP hD hS hA (fun cA => rfl) (nI_pos (by omega)) (nI_clamp (by omega)) hy_5 hc_5 hs_5 dX1_init_62 (fun q5 c1 H hK1 hP hD hS => ?_)
  have hc := va_c0 hK1 hK
  subst hc
  have hP : va_P D vwCl [(h0, .inr (1, [.int (nI 6), .int 0, .int 0, .int 0, .int 0, .ref q1, .ref q2, .ref q3, .ref q4, .null, .null, .null])), (q1, .inl (cA 0, 35, .inl (fun _ => 0))), (q2, .inl (cA 0, 35, .inl (fun _ => 0))), (q3, .inl (cA 1, 70, .inl (fun _ => 0))), (q4, .inl (cA 0, 4, .inl (upd (upd (upd (upd (fun _ => 0) 0 (nI 0)) 1 (nI 6)) 2 (nI 28)) 3 (nI 34)))), (q5, .inl (cA 0, 4, .inl (fun _ => 0)))] H := hP
  have hD : va_D A [(h0, .inr (1, [.int (nI 6), .int 0, .int 0, .int 0, .int 0, .ref q1, .ref q2, .ref q3, .ref q4, .null, .null, .null])), (q1, .inl (cA 0, 35, .inl (fun _ => 0))), (q2, .inl (cA 0, 35, .inl (fun _ => 0))), (q3, .inl (cA 1, 70, .inl (fun _ => 0))), (q4, .inl (cA 0, 4, .inl (upd (upd (upd (upd (fun _ => 0) 0 (nI 0)) 1 (nI 6)) 2 (nI 28)) 3 (nI 34)))), (q5, .inl (cA 0, 4, .inl (fun _ => 0)))] := hD
  refine lv_dup hx hb dX1_init_64 rfl ?_
  refine lv_iconst (v := nI 0) hx hb dX1_init_65 (by decide +kernel) ?_
  refine lv_iconst (v := nI 1) hx hb dX1_init_66 (by decide +kernel) ?_
  refine va_iast (D := D) (cl := vwCl) hx hb hK hP hD hS 5 0 rfl rfl (vp_in_nI (by omega) (by omega)) dX1_init_67 (fun H locs hP hD hS => ?_)
  rw [nI_clamp (by omega)] at hP hD
  have hP : va_P D vwCl [(h0, .inr (1, [.int (nI 6), .int 0, .int 0, .int 0, .int 0, .ref q1, .ref q2, .ref q3, .ref q4, .null, .null, .null])), (q1, .inl (cA 0, 35, .inl (fun _ => 0))), (q2, .inl (cA 0, 35, .inl (fun _ => 0))), (q3, .inl (cA 1, 70, .inl (fun _ => 0))), (q4, .inl (cA 0, 4, .inl (upd (upd (upd (upd (fun _ => 0) 0 (nI 0)) 1 (nI 6)) 2 (nI 28)) 3 (nI 34)))), (q5, .inl (cA 0, 4, .inl (upd (fun _ => 0) 0 (nI 1))))] H := hP
  have hD : va_D A [(h0, .inr (1, [.int (nI 6), .int 0, .int 0, .int 0, .int 0, .ref q1, .ref q2, .ref q3, .ref q4, .null, .null, .null])), (q1, .inl (cA 0, 35, .inl (fun _ => 0))), (q2, .inl (cA 0, 35, .inl (fun _ => 0))), (q3, .inl (cA 1, 70, .inl (fun _ => 0))), (q4, .inl (cA 0, 4, .inl (upd (upd (upd (upd (fun _ => 0) 0 (nI 0)) 1 (nI 6)) 2 (nI 28)) 3 (nI 34)))), (q5, .inl (cA 0, 4, .inl (upd (fun _ => 0) 0 (nI 1))))] := hD
  refine lv_dup hx hb dX1_init_68 rfl ?_
  refine lv_iconst (v := nI 1) hx hb dX1_init_69 (by decide +kernel) ?_
  refine lv_iconst (v := nI 1) hx hb dX1_init_70 (by decide +kernel) ?_
  refine va_iast (D := D) (cl := vwCl) hx hb hK hP hD hS 5 0 rfl rfl (vp_in_nI (by omega) (by omega)) dX1_init_71 (fun H locs hP hD hS => ?_)
  rw [nI_clamp (by omega)] at hP hD
  have hP : va_P D vwCl [(h0, .inr (1, [.int (nI 6), .int 0, .int 0, .int 0, .int 0, .ref q1, .ref q2, .ref q3, .ref q4, .null, .null, .null])), (q1, .inl (cA 0, 35, .inl (fun _ => 0))), (q2, .inl (cA 0, 35, .inl (fun _ => 0))), (q3, .inl (cA 1, 70, .inl (fun _ => 0))), (q4, .inl (cA 0, 4, .inl (upd (upd (upd (upd (fun _ => 0) 0 (nI 0)) 1 (nI 6)) 2 (nI 28)) 3 (nI 34)))), (q5, .inl (cA 0, 4, .inl (upd (upd (fun _ => 0) 0 (nI 1)) 1 (nI 1))))] H := hP
  have hD : va_D A [(h0, .inr (1, [.int (nI 6), .int 0, .int 0, .int 0, .int 0, .ref q1, .ref q2, .ref q3, .ref q4, .null, .null, .null])), (q1, .inl (cA 0, 35, .inl (fun _ => 0))), (q2, .inl (cA 0, 35, .inl (fun _ => 0))), (q3, .inl (cA 1, 70, .inl (fun _ => 0))), (q4, .inl (cA 0, 4, .inl (upd (upd (upd (upd (fun _ => 0) 0 (nI 0)) 1 (nI 6)) 2 (nI 28)) 3 (nI 34)))), (q5, .inl (cA 0, 4, .inl (upd (upd (fun _ => 0) 0 (nI 1)) 1 (nI 1))))] := hD
  refine lv_dup hx hb dX1_init_72 rfl ?_
  refine lv_iconst (v := nI 2) hx hb dX1_init_73 (by decide +kernel) ?_
  refine lv_iconst (v := nI 1) hx hb dX1_init_74 (by decide +kernel) ?_
  refine va_iast (D := D) (cl := vwCl) hx hb hK hP hD hS 5 0 rfl rfl (vp_in_nI (by omega) (by omega)) dX1_init_75 (fun H locs hP hD hS => ?_)
  rw [nI_clamp (by omega)] at hP hD
  have hP : va_P D vwCl [(h0, .inr (1, [.int (nI 6), .int 0, .int 0, .int 0, .int 0, .ref q1, .ref q2, .ref q3, .ref q4, .null, .null, .null])), (q1, .inl (cA 0, 35, .inl (fun _ => 0))), (q2, .inl (cA 0, 35, .inl (fun _ => 0))), (q3, .inl (cA 1, 70, .inl (fun _ => 0))), (q4, .inl (cA 0, 4, .inl (upd (upd (upd (upd (fun _ => 0) 0 (nI 0)) 1 (nI 6)) 2 (nI 28)) 3 (nI 34)))), (q5, .inl (cA 0, 4, .inl (upd (upd (upd (fun _ => 0) 0 (nI 1)) 1 (nI 1)) 2 (nI 1))))] H := hP
  have hD : va_D A [(h0, .inr (1, [.int (nI 6), .int 0, .int 0, .int 0, .int 0, .ref q1, .ref q2, .ref q3, .ref q4, .null, .null, .null])), (q1, .inl (cA 0, 35, .inl (fun _ => 0))), (q2, .inl (cA 0, 35, .inl (fun _ => 0))), (q3, .inl (cA 1, 70, .inl (fun _ => 0))), (q4, .inl (cA 0, 4, .inl (upd (upd (upd (upd (fun _ => 0) 0 (nI 0)) 1 (nI 6)) 2 (nI 28)) 3 (nI 34)))), (q5, .inl (cA 0, 4, .inl (upd (upd (upd (fun _ => 0) 0 (nI 1)) 1 (nI 1)) 2 (nI 1))))] := hD
  refine lv_dup hx hb dX1_init_76 rfl ?_
  refine lv_iconst (v := nI 3) hx hb dX1_init_77 (by decide +kernel) ?_
  refine lv_iconst (v := nI 1) hx hb dX1_init_78 (by decide +kernel) ?_
  refine va_iast (D := D) (cl := vwCl) hx hb hK hP hD hS 5 0 rfl rfl (vp_in_nI (by omega) (by omega)) dX1_init_79 (fun H locs hP hD hS => ?_)
  rw [nI_clamp (by omega)] at hP hD
  have hP : va_P D vwCl [(h0, .inr (1, [.int (nI 6), .int 0, .int 0, .int 0, .int 0, .ref q1, .ref q2, .ref q3, .ref q4, .null, .null, .null])), (q1, .inl (cA 0, 35, .inl (fun _ => 0))), (q2, .inl (cA 0, 35, .inl (fun _ => 0))), (q3, .inl (cA 1, 70, .inl (fun _ => 0))), (q4, .inl (cA 0, 4, .inl (upd (upd (upd (upd (fun _ => 0) 0 (nI 0)) 1 (nI 6)) 2 (nI 28)) 3 (nI 34)))), (q5, .inl (cA 0, 4, .inl (upd (upd (upd (upd (fun _ => 0) 0 (nI 1)) 1 (nI 1)) 2 (nI 1)) 3 (nI 1))))] H := hP
  have hD : va_D A [(h0, .inr (1, [.int (nI 6), .int 0, .int 0, .int 0, .int 0, .ref q1, .ref q2, .ref q3, .ref q4, .null, .null, .null])), (q1, .inl (cA 0, 35, .inl (fun _ => 0))), (q2, .inl (cA 0, 35, .inl (fun _ => 0))), (q3, .inl (cA 1, 70, .inl (fun _ => 0))), (q4, .inl (cA 0, 4, .inl (upd (upd (upd (upd (fun _ => 0) 0 (nI 0)) 1 (nI 6)) 2 (nI 28)) 3 (nI 34)))), (q5, .inl (cA 0, 4, .inl (upd (upd (upd (upd (fun _ => 0) 0 (nI 1)) 1 (nI 1)) 2 (nI 1)) 3 (nI 1))))] := hD
  refine va_putF (D := D) (cl := vwCl) (ci := 1) (v := .ref q5) (ty := .array .int) (C := RX1) (T := TX1) (N := 12) hx hb hts (by decide +kernel) tyX1 tyX1_ok nmX1 hown hK hP hD hS 0 rfl rfl 9 (by decide) (hts (.fieldLink RX1 29 "RopedHalls$Hall" "doorRate" "[I") (by decide +kernel)) (fun _ h9 => h9) rfl hin rfl (by decide +kernel) rfl rfl (Nat.le_of_ble_eq_true rfl) dX1_init_80 (fun H locs hP hD hS => ?_)
  have hP : va_P D vwCl [(h0, .inr (1, [.int (nI 6), .int 0, .int 0, .int 0, .int 0, .ref q1, .ref q2, .ref q3, .ref q4, .ref q5, .null, .null])), (q1, .inl (cA 0, 35, .inl (fun _ => 0))), (q2, .inl (cA 0, 35, .inl (fun _ => 0))), (q3, .inl (cA 1, 70, .inl (fun _ => 0))), (q4, .inl (cA 0, 4, .inl (upd (upd (upd (upd (fun _ => 0) 0 (nI 0)) 1 (nI 6)) 2 (nI 28)) 3 (nI 34)))), (q5, .inl (cA 0, 4, .inl (upd (upd (upd (upd (fun _ => 0) 0 (nI 1)) 1 (nI 1)) 2 (nI 1)) 3 (nI 1))))] H := hP
  have hD : va_D A [(h0, .inr (1, [.int (nI 6), .int 0, .int 0, .int 0, .int 0, .ref q1, .ref q2, .ref q3, .ref q4, .ref q5, .null, .null])), (q1, .inl (cA 0, 35, .inl (fun _ => 0))), (q2, .inl (cA 0, 35, .inl (fun _ => 0))), (q3, .inl (cA 1, 70, .inl (fun _ => 0))), (q4, .inl (cA 0, 4, .inl (upd (upd (upd (upd (fun _ => 0) 0 (nI 0)) 1 (nI 6)) 2 (nI 28)) 3 (nI 34)))), (q5, .inl (cA 0, 4, .inl (upd (upd (upd (upd (fun _ => 0) 0 (nI 1)) 1 (nI 1)) 2 (nI 1)) 3 (nI 1))))] := hD
  refine lv_aload_n hx hb dX1_init_83 rfl (lv_at hl 0 rfl) ?_
  refine lv_iconst (v := nI 4) hx hb dX1_init_84 (by decide +kernel) ?_
  have hc_6 : 5 + 1 ≤ 7 := by decide
  have hs_6 : 148 + 4 ≤ 156 := by decide
  have hy_6 : 4 * componentBytes .boolean ≤ 536870912 := by decide
  refine va_newa (D := D) (cl := vwCl) (atype := .boolean) (ty := .boolean) (pc := 85) (a0 := (4, .inl (fun _ => 0))) (N' := 4) hx hb (hts (.arrayClass .boolean) (by decide +kernel)) rfl hK hP hD hS hA (fun cA => rfl) (nI_pos (by omega)) (nI_clamp (by omega)) hy_6 hc_6 hs_6 dX1_init_85 (fun q6 c1 H hK1 hP hD hS => ?_)
  have hc := va_c1 hK1 hK
  subst hc
  have hP : va_P D vwCl [(h0, .inr (1, [.int (nI 6), .int 0, .int 0, .int 0, .int 0, .ref q1, .ref q2, .ref q3, .ref q4, .ref q5, .null, .null])), (q1, .inl (cA 0, 35, .inl (fun _ => 0))), (q2, .inl (cA 0, 35, .inl (fun _ => 0))), (q3, .inl (cA 1, 70, .inl (fun _ => 0))), (q4, .inl (cA 0, 4, .inl (upd (upd (upd (upd (fun _ => 0) 0 (nI 0)) 1 (nI 6)) 2 (nI 28)) 3 (nI 34)))), (q5, .inl (cA 0, 4, .inl (upd (upd (upd (upd (fun _ => 0) 0 (nI 1)) 1 (nI 1)) 2 (nI 1)) 3 (nI 1)))), (q6, .inl (cA 1, 4, .inl (fun _ => 0)))] H := hP
  have hD : va_D A [(h0, .inr (1, [.int (nI 6), .int 0, .int 0, .int 0, .int 0, .ref q1, .ref q2, .ref q3, .ref q4, .ref q5, .null, .null])), (q1, .inl (cA 0, 35, .inl (fun _ => 0))), (q2, .inl (cA 0, 35, .inl (fun _ => 0))), (q3, .inl (cA 1, 70, .inl (fun _ => 0))), (q4, .inl (cA 0, 4, .inl (upd (upd (upd (upd (fun _ => 0) 0 (nI 0)) 1 (nI 6)) 2 (nI 28)) 3 (nI 34)))), (q5, .inl (cA 0, 4, .inl (upd (upd (upd (upd (fun _ => 0) 0 (nI 1)) 1 (nI 1)) 2 (nI 1)) 3 (nI 1)))), (q6, .inl (cA 1, 4, .inl (fun _ => 0)))] := hD
  refine lv_dup hx hb dX1_init_87 rfl ?_
  refine lv_iconst (v := nI 0) hx hb dX1_init_88 (by decide +kernel) ?_
  refine lv_iconst (v := nI 1) hx hb dX1_init_89 (by decide +kernel) ?_
  refine va_zast (D := D) (cl := vwCl) hx hb hK hP hD hS 6 1 rfl rfl (vp_in_nI (by omega) (by omega)) dX1_init_90 (fun H locs hP hD hS => ?_)
  rw [nI_clamp (by omega)] at hP hD
  have hP : va_P D vwCl [(h0, .inr (1, [.int (nI 6), .int 0, .int 0, .int 0, .int 0, .ref q1, .ref q2, .ref q3, .ref q4, .ref q5, .null, .null])), (q1, .inl (cA 0, 35, .inl (fun _ => 0))), (q2, .inl (cA 0, 35, .inl (fun _ => 0))), (q3, .inl (cA 1, 70, .inl (fun _ => 0))), (q4, .inl (cA 0, 4, .inl (upd (upd (upd (upd (fun _ => 0) 0 (nI 0)) 1 (nI 6)) 2 (nI 28)) 3 (nI 34)))), (q5, .inl (cA 0, 4, .inl (upd (upd (upd (upd (fun _ => 0) 0 (nI 1)) 1 (nI 1)) 2 (nI 1)) 3 (nI 1)))), (q6, .inl (cA 1, 4, .inl (upd (fun _ => 0) 0 (nI 1))))] H := hP
  have hD : va_D A [(h0, .inr (1, [.int (nI 6), .int 0, .int 0, .int 0, .int 0, .ref q1, .ref q2, .ref q3, .ref q4, .ref q5, .null, .null])), (q1, .inl (cA 0, 35, .inl (fun _ => 0))), (q2, .inl (cA 0, 35, .inl (fun _ => 0))), (q3, .inl (cA 1, 70, .inl (fun _ => 0))), (q4, .inl (cA 0, 4, .inl (upd (upd (upd (upd (fun _ => 0) 0 (nI 0)) 1 (nI 6)) 2 (nI 28)) 3 (nI 34)))), (q5, .inl (cA 0, 4, .inl (upd (upd (upd (upd (fun _ => 0) 0 (nI 1)) 1 (nI 1)) 2 (nI 1)) 3 (nI 1)))), (q6, .inl (cA 1, 4, .inl (upd (fun _ => 0) 0 (nI 1))))] := hD
  refine lv_dup hx hb dX1_init_91 rfl ?_
  refine lv_iconst (v := nI 1) hx hb dX1_init_92 (by decide +kernel) ?_
  refine lv_iconst (v := nI 0) hx hb dX1_init_93 (by decide +kernel) ?_
  refine va_zast (D := D) (cl := vwCl) hx hb hK hP hD hS 6 1 rfl rfl (vp_in_nI (by omega) (by omega)) dX1_init_94 (fun H locs hP hD hS => ?_)
  rw [nI_clamp (by omega)] at hP hD
  have hP : va_P D vwCl [(h0, .inr (1, [.int (nI 6), .int 0, .int 0, .int 0, .int 0, .ref q1, .ref q2, .ref q3, .ref q4, .ref q5, .null, .null])), (q1, .inl (cA 0, 35, .inl (fun _ => 0))), (q2, .inl (cA 0, 35, .inl (fun _ => 0))), (q3, .inl (cA 1, 70, .inl (fun _ => 0))), (q4, .inl (cA 0, 4, .inl (upd (upd (upd (upd (fun _ => 0) 0 (nI 0)) 1 (nI 6)) 2 (nI 28)) 3 (nI 34)))), (q5, .inl (cA 0, 4, .inl (upd (upd (upd (upd (fun _ => 0) 0 (nI 1)) 1 (nI 1)) 2 (nI 1)) 3 (nI 1)))), (q6, .inl (cA 1, 4, .inl (upd (upd (fun _ => 0) 0 (nI 1)) 1 (nI 0))))] H := hP
  have hD : va_D A [(h0, .inr (1, [.int (nI 6), .int 0, .int 0, .int 0, .int 0, .ref q1, .ref q2, .ref q3, .ref q4, .ref q5, .null, .null])), (q1, .inl (cA 0, 35, .inl (fun _ => 0))), (q2, .inl (cA 0, 35, .inl (fun _ => 0))), (q3, .inl (cA 1, 70, .inl (fun _ => 0))), (q4, .inl (cA 0, 4, .inl (upd (upd (upd (upd (fun _ => 0) 0 (nI 0)) 1 (nI 6)) 2 (nI 28)) 3 (nI 34)))), (q5, .inl (cA 0, 4, .inl (upd (upd (upd (upd (fun _ => 0) 0 (nI 1)) 1 (nI 1)) 2 (nI 1)) 3 (nI 1)))), (q6, .inl (cA 1, 4, .inl (upd (upd (fun _ => 0) 0 (nI 1)) 1 (nI 0))))] := hD
  refine lv_dup hx hb dX1_init_95 rfl ?_
  refine lv_iconst (v := nI 2) hx hb dX1_init_96 (by decide +kernel) ?_
  refine lv_iconst (v := nI 0) hx hb dX1_init_97 (by decide +kernel) ?_
  refine va_zast (D := D) (cl := vwCl) hx hb hK hP hD hS 6 1 rfl rfl (vp_in_nI (by omega) (by omega)) dX1_init_98 (fun H locs hP hD hS => ?_)
  rw [nI_clamp (by omega)] at hP hD
  have hP : va_P D vwCl [(h0, .inr (1, [.int (nI 6), .int 0, .int 0, .int 0, .int 0, .ref q1, .ref q2, .ref q3, .ref q4, .ref q5, .null, .null])), (q1, .inl (cA 0, 35, .inl (fun _ => 0))), (q2, .inl (cA 0, 35, .inl (fun _ => 0))), (q3, .inl (cA 1, 70, .inl (fun _ => 0))), (q4, .inl (cA 0, 4, .inl (upd (upd (upd (upd (fun _ => 0) 0 (nI 0)) 1 (nI 6)) 2 (nI 28)) 3 (nI 34)))), (q5, .inl (cA 0, 4, .inl (upd (upd (upd (upd (fun _ => 0) 0 (nI 1)) 1 (nI 1)) 2 (nI 1)) 3 (nI 1)))), (q6, .inl (cA 1, 4, .inl (upd (upd (upd (fun _ => 0) 0 (nI 1)) 1 (nI 0)) 2 (nI 0))))] H := hP
  have hD : va_D A [(h0, .inr (1, [.int (nI 6), .int 0, .int 0, .int 0, .int 0, .ref q1, .ref q2, .ref q3, .ref q4, .ref q5, .null, .null])), (q1, .inl (cA 0, 35, .inl (fun _ => 0))), (q2, .inl (cA 0, 35, .inl (fun _ => 0))), (q3, .inl (cA 1, 70, .inl (fun _ => 0))), (q4, .inl (cA 0, 4, .inl (upd (upd (upd (upd (fun _ => 0) 0 (nI 0)) 1 (nI 6)) 2 (nI 28)) 3 (nI 34)))), (q5, .inl (cA 0, 4, .inl (upd (upd (upd (upd (fun _ => 0) 0 (nI 1)) 1 (nI 1)) 2 (nI 1)) 3 (nI 1)))), (q6, .inl (cA 1, 4, .inl (upd (upd (upd (fun _ => 0) 0 (nI 1)) 1 (nI 0)) 2 (nI 0))))] := hD
  refine lv_dup hx hb dX1_init_99 rfl ?_
  refine lv_iconst (v := nI 3) hx hb dX1_init_100 (by decide +kernel) ?_
  refine lv_iconst (v := nI 1) hx hb dX1_init_101 (by decide +kernel) ?_
  refine va_zast (D := D) (cl := vwCl) hx hb hK hP hD hS 6 1 rfl rfl (vp_in_nI (by omega) (by omega)) dX1_init_102 (fun H locs hP hD hS => ?_)
  rw [nI_clamp (by omega)] at hP hD
  have hP : va_P D vwCl [(h0, .inr (1, [.int (nI 6), .int 0, .int 0, .int 0, .int 0, .ref q1, .ref q2, .ref q3, .ref q4, .ref q5, .null, .null])), (q1, .inl (cA 0, 35, .inl (fun _ => 0))), (q2, .inl (cA 0, 35, .inl (fun _ => 0))), (q3, .inl (cA 1, 70, .inl (fun _ => 0))), (q4, .inl (cA 0, 4, .inl (upd (upd (upd (upd (fun _ => 0) 0 (nI 0)) 1 (nI 6)) 2 (nI 28)) 3 (nI 34)))), (q5, .inl (cA 0, 4, .inl (upd (upd (upd (upd (fun _ => 0) 0 (nI 1)) 1 (nI 1)) 2 (nI 1)) 3 (nI 1)))), (q6, .inl (cA 1, 4, .inl (upd (upd (upd (upd (fun _ => 0) 0 (nI 1)) 1 (nI 0)) 2 (nI 0)) 3 (nI 1))))] H := hP
  have hD : va_D A [(h0, .inr (1, [.int (nI 6), .int 0, .int 0, .int 0, .int 0, .ref q1, .ref q2, .ref q3, .ref q4, .ref q5, .null, .null])), (q1, .inl (cA 0, 35, .inl (fun _ => 0))), (q2, .inl (cA 0, 35, .inl (fun _ => 0))), (q3, .inl (cA 1, 70, .inl (fun _ => 0))), (q4, .inl (cA 0, 4, .inl (upd (upd (upd (upd (fun _ => 0) 0 (nI 0)) 1 (nI 6)) 2 (nI 28)) 3 (nI 34)))), (q5, .inl (cA 0, 4, .inl (upd (upd (upd (upd (fun _ => 0) 0 (nI 1)) 1 (nI 1)) 2 (nI 1)) 3 (nI 1)))), (q6, .inl (cA 1, 4, .inl (upd (upd (upd (upd (fun _ => 0) 0 (nI 1)) 1 (nI 0)) 2 (nI 0)) 3 (nI 1))))] := hD
  refine va_putF (D := D) (cl := vwCl) (ci := 1) (v := .ref q6) (ty := .array .boolean) (C := RX1) (T := TX1) (N := 12) hx hb hts (by decide +kernel) tyX1 tyX1_ok nmX1 hown hK hP hD hS 0 rfl rfl 10 (by decide) (hts (.fieldLink RX1 32 "RopedHalls$Hall" "doorOpen" "[Z") (by decide +kernel)) (fun _ h9 => h9) rfl hin rfl (by decide +kernel) rfl rfl (Nat.le_of_ble_eq_true rfl) dX1_init_103 (fun H locs hP hD hS => ?_)
  have hP : va_P D vwCl [(h0, .inr (1, [.int (nI 6), .int 0, .int 0, .int 0, .int 0, .ref q1, .ref q2, .ref q3, .ref q4, .ref q5, .ref q6, .null])), (q1, .inl (cA 0, 35, .inl (fun _ => 0))), (q2, .inl (cA 0, 35, .inl (fun _ => 0))), (q3, .inl (cA 1, 70, .inl (fun _ => 0))), (q4, .inl (cA 0, 4, .inl (upd (upd (upd (upd (fun _ => 0) 0 (nI 0)) 1 (nI 6)) 2 (nI 28)) 3 (nI 34)))), (q5, .inl (cA 0, 4, .inl (upd (upd (upd (upd (fun _ => 0) 0 (nI 1)) 1 (nI 1)) 2 (nI 1)) 3 (nI 1)))), (q6, .inl (cA 1, 4, .inl (upd (upd (upd (upd (fun _ => 0) 0 (nI 1)) 1 (nI 0)) 2 (nI 0)) 3 (nI 1))))] H := hP
  have hD : va_D A [(h0, .inr (1, [.int (nI 6), .int 0, .int 0, .int 0, .int 0, .ref q1, .ref q2, .ref q3, .ref q4, .ref q5, .ref q6, .null])), (q1, .inl (cA 0, 35, .inl (fun _ => 0))), (q2, .inl (cA 0, 35, .inl (fun _ => 0))), (q3, .inl (cA 1, 70, .inl (fun _ => 0))), (q4, .inl (cA 0, 4, .inl (upd (upd (upd (upd (fun _ => 0) 0 (nI 0)) 1 (nI 6)) 2 (nI 28)) 3 (nI 34)))), (q5, .inl (cA 0, 4, .inl (upd (upd (upd (upd (fun _ => 0) 0 (nI 1)) 1 (nI 1)) 2 (nI 1)) 3 (nI 1)))), (q6, .inl (cA 1, 4, .inl (upd (upd (upd (upd (fun _ => 0) 0 (nI 1)) 1 (nI 0)) 2 (nI 0)) 3 (nI 1))))] := hD
  refine lv_aload_n hx hb dX1_init_106 rfl (lv_at hl 0 rfl) ?_
  refine lv_iconst (v := nI 4) hx hb dX1_init_107 (by decide +kernel) ?_
  have hc_7 : 6 + 1 ≤ 7 := by decide
  have hs_7 : 152 + 4 ≤ 156 := by decide
  have hy_7 : 4 * componentBytes .int ≤ 536870912 := by decide
  refine va_newa (D := D) (cl := vwCl) (atype := .int) (ty := .int) (pc := 108) (a0 := (4, .inl (fun _ => 0))) (N' := 4) hx hb (hts (.arrayClass .int) (by decide +kernel)) rfl hK hP hD hS hA (fun cA => rfl) (nI_pos (by omega)) (nI_clamp (by omega)) hy_7 hc_7 hs_7 dX1_init_108 (fun q7 c1 H hK1 hP hD hS => ?_)
  have hc := va_c0 hK1 hK
  subst hc
  have hP : va_P D vwCl [(h0, .inr (1, [.int (nI 6), .int 0, .int 0, .int 0, .int 0, .ref q1, .ref q2, .ref q3, .ref q4, .ref q5, .ref q6, .null])), (q1, .inl (cA 0, 35, .inl (fun _ => 0))), (q2, .inl (cA 0, 35, .inl (fun _ => 0))), (q3, .inl (cA 1, 70, .inl (fun _ => 0))), (q4, .inl (cA 0, 4, .inl (upd (upd (upd (upd (fun _ => 0) 0 (nI 0)) 1 (nI 6)) 2 (nI 28)) 3 (nI 34)))), (q5, .inl (cA 0, 4, .inl (upd (upd (upd (upd (fun _ => 0) 0 (nI 1)) 1 (nI 1)) 2 (nI 1)) 3 (nI 1)))), (q6, .inl (cA 1, 4, .inl (upd (upd (upd (upd (fun _ => 0) 0 (nI 1)) 1 (nI 0)) 2 (nI 0)) 3 (nI 1)))), (q7, .inl (cA 0, 4, .inl (fun _ => 0)))] H := hP
  have hD : va_D A [(h0, .inr (1, [.int (nI 6), .int 0, .int 0, .int 0, .int 0, .ref q1, .ref q2, .ref q3, .ref q4, .ref q5, .ref q6, .null])), (q1, .inl (cA 0, 35, .inl (fun _ => 0))), (q2, .inl (cA 0, 35, .inl (fun _ => 0))), (q3, .inl (cA 1, 70, .inl (fun _ => 0))), (q4, .inl (cA 0, 4, .inl (upd (upd (upd (upd (fun _ => 0) 0 (nI 0)) 1 (nI 6)) 2 (nI 28)) 3 (nI 34)))), (q5, .inl (cA 0, 4, .inl (upd (upd (upd (upd (fun _ => 0) 0 (nI 1)) 1 (nI 1)) 2 (nI 1)) 3 (nI 1)))), (q6, .inl (cA 1, 4, .inl (upd (upd (upd (upd (fun _ => 0) 0 (nI 1)) 1 (nI 0)) 2 (nI 0)) 3 (nI 1)))), (q7, .inl (cA 0, 4, .inl (fun _ => 0)))] := hD
  refine va_putF (D := D) (cl := vwCl) (ci := 1) (v := .ref q7) (ty := .array .int) (C := RX1) (T := TX1) (N := 12) hx hb hts (by decide +kernel) tyX1 tyX1_ok nmX1 hown hK hP hD hS 0 rfl rfl 11 (by decide) (hts (.fieldLink RX1 35 "RopedHalls$Hall" "doorOut" "[I") (by decide +kernel)) (fun _ h9 => h9) rfl hin rfl (by decide +kernel) rfl rfl (Nat.le_of_ble_eq_true rfl) dX1_init_110 (fun H locs hP hD hS => ?_)
  have hP : va_P D vwCl [(h0, .inr (1, [.int (nI 6), .int 0, .int 0, .int 0, .int 0, .ref q1, .ref q2, .ref q3, .ref q4, .ref q5, .ref q6, .ref q7])), (q1, .inl (cA 0, 35, .inl (fun _ => 0))), (q2, .inl (cA 0, 35, .inl (fun _ => 0))), (q3, .inl (cA 1, 70, .inl (fun _ => 0))), (q4, .inl (cA 0, 4, .inl (upd (upd (upd (upd (fun _ => 0) 0 (nI 0)) 1 (nI 6)) 2 (nI 28)) 3 (nI 34)))), (q5, .inl (cA 0, 4, .inl (upd (upd (upd (upd (fun _ => 0) 0 (nI 1)) 1 (nI 1)) 2 (nI 1)) 3 (nI 1)))), (q6, .inl (cA 1, 4, .inl (upd (upd (upd (upd (fun _ => 0) 0 (nI 1)) 1 (nI 0)) 2 (nI 0)) 3 (nI 1)))), (q7, .inl (cA 0, 4, .inl (fun _ => 0)))] H := hP
  have hD : va_D A [(h0, .inr (1, [.int (nI 6), .int 0, .int 0, .int 0, .int 0, .ref q1, .ref q2, .ref q3, .ref q4, .ref q5, .ref q6, .ref q7])), (q1, .inl (cA 0, 35, .inl (fun _ => 0))), (q2, .inl (cA 0, 35, .inl (fun _ => 0))), (q3, .inl (cA 1, 70, .inl (fun _ => 0))), (q4, .inl (cA 0, 4, .inl (upd (upd (upd (upd (fun _ => 0) 0 (nI 0)) 1 (nI 6)) 2 (nI 28)) 3 (nI 34)))), (q5, .inl (cA 0, 4, .inl (upd (upd (upd (upd (fun _ => 0) 0 (nI 1)) 1 (nI 1)) 2 (nI 1)) 3 (nI 1)))), (q6, .inl (cA 1, 4, .inl (upd (upd (upd (upd (fun _ => 0) 0 (nI 1)) 1 (nI 0)) 2 (nI 0)) 3 (nI 1)))), (q7, .inl (cA 0, 4, .inl (fun _ => 0)))] := hD
  refine lv_iconst (v := nI 0) hx hb dX1_init_113 (by decide +kernel) ?_
  refine lv_istore_n (lv' := [(1, .int (nI 0)), (0, .ref h0)]) hx hb dX1_init_114 rfl hl (by decide) rfl (fun ls hl => ?_)
  have h00 : (fun _ => 0 : Nat → Int32) = gdX (fun _ => 0) 0 0 := gdX_0.symm
  have hP : va_P D vwCl [(h0, .inr (1, [.int (nI 6), .int 0, .int 0, .int 0, .int 0, .ref q1, .ref q2, .ref q3, .ref q4, .ref q5, .ref q6, .ref q7])), (q1, .inl (cA 0, 35, .inl (fun _ => 0))), (q2, .inl (cA 0, 35, .inl (gdX (fun _ => 0) 0 0))), (q3, .inl (cA 1, 70, .inl (fun _ => 0))), (q4, .inl (cA 0, 4, .inl (upd (upd (upd (upd (fun _ => 0) 0 (nI 0)) 1 (nI 6)) 2 (nI 28)) 3 (nI 34)))), (q5, .inl (cA 0, 4, .inl (upd (upd (upd (upd (fun _ => 0) 0 (nI 1)) 1 (nI 1)) 2 (nI 1)) 3 (nI 1)))), (q6, .inl (cA 1, 4, .inl (upd (upd (upd (upd (fun _ => 0) 0 (nI 1)) 1 (nI 0)) 2 (nI 0)) 3 (nI 1)))), (q7, .inl (cA 0, 4, .inl (fun _ => 0)))] H := by rw [← h00]; exact hP
  have hD : va_D A [(h0, .inr (1, [.int (nI 6), .int 0, .int 0, .int 0, .int 0, .ref q1, .ref q2, .ref q3, .ref q4, .ref q5, .ref q6, .ref q7])), (q1, .inl (cA 0, 35, .inl (fun _ => 0))), (q2, .inl (cA 0, 35, .inl (gdX (fun _ => 0) 0 0))), (q3, .inl (cA 1, 70, .inl (fun _ => 0))), (q4, .inl (cA 0, 4, .inl (upd (upd (upd (upd (fun _ => 0) 0 (nI 0)) 1 (nI 6)) 2 (nI 28)) 3 (nI 34)))), (q5, .inl (cA 0, 4, .inl (upd (upd (upd (upd (fun _ => 0) 0 (nI 1)) 1 (nI 1)) 2 (nI 1)) 3 (nI 1)))), (q6, .inl (cA 1, 4, .inl (upd (upd (upd (upd (fun _ => 0) 0 (nI 1)) 1 (nI 0)) 2 (nI 0)) 3 (nI 1)))), (q7, .inl (cA 0, 4, .inl (fun _ => 0)))] := by rw [← h00]; exact hD
  refine lp_X1 hx hb hts hown hK (h0 := h0) (q1 := q1) (q2 := q2) (rest := [(q3, .inl (cA 1, 70, .inl (fun _ => 0))), (q4, .inl (cA 0, 4, .inl (upd (upd (upd (upd (fun _ => 0) 0 (nI 0)) 1 (nI 6)) 2 (nI 28)) 3 (nI 34)))), (q5, .inl (cA 0, 4, .inl (upd (upd (upd (upd (fun _ => 0) 0 (nI 1)) 1 (nI 1)) 2 (nI 1)) 3 (nI 1)))), (q6, .inl (cA 1, 4, .inl (upd (upd (upd (upd (fun _ => 0) 0 (nI 1)) 1 (nI 0)) 2 (nI 0)) 3 (nI 1)))), (q7, .inl (cA 0, 4, .inl (fun _ => 0)))]) (fs := [.int (nI 6), .int 0, .int 0, .int 0, .int 0, .ref q1, .ref q2, .ref q3, .ref q4, .ref q5, .ref q6, .ref q7]) rfl (fun H locs ls hP hD hS => ?_) 35 0 rfl H locs ls hl hP hD hS
  rw [xe_X1 (xarr (by decide +kernel) (fun _ _ => rfl)) (xarr (by decide +kernel) (fun i hi => by unfold gdX; rw [if_neg (by omega)])) (xarr (by decide +kernel) (fun _ _ => rfl)) (xarr (by decide +kernel) (xz_upd (by omega) (xz_upd (by omega) (xz_upd (by omega) (xz_upd (by omega) (fun _ _ => rfl)))))) (xarr (by decide +kernel) (xz_upd (by omega) (xz_upd (by omega) (xz_upd (by omega) (xz_upd (by omega) (fun _ _ => rfl)))))) (xarr (by decide +kernel) (xz_upd (by omega) (xz_upd (by omega) (xz_upd (by omega) (xz_upd (by omega) (fun _ _ => rfl)))))) (xarr (by decide +kernel) (fun _ _ => rfl))] at hP hD
  exact W.vret hx hb hr (fun t ht hW => ⟨⟨_, rfl, rfl, by rw [ht]; exact hP, va_K.moved hW.alike hK, hD⟩, hS.F ht⟩) hS.2.2 dX1_init_134
