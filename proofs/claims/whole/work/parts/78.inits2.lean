/-! CONSTRUCTORS: Pad, Routes (laid by wip/whole/gen/gen_init.py) -/
theorem va_c0 {D : va_G} {cA : Nat → ClassId} {c1 : ClassId} {s : State} (hK1 : va_K D vwCl (je_T cA ++ [(c1, .int)]) s) (hK : va_K D vwCl (je_T cA) s) : c1 = cA 0 := by
  have e1 := (hK1.2 3 (c1, .int) rfl).2
  have e2 := (hK.2 0 (cA 0, .int) rfl).2
  exact Option.some.inj (Eq.trans (Eq.symm (show s.vm.findClass ("[" ++ FieldType.int.toString) = some c1 from e1)) (show s.vm.findClass ("[" ++ FieldType.int.toString) = some (cA 0) from e2))
set_option maxHeartbeats 4000000 in
set_option maxRecDepth 100000 in
theorem i_X3 (l : Launch) (D : va_G) (cA : Nat → ClassId) (h0 sz : Nat) : Met l yX3_init wsX3_init ({ frames := 1, cells := 1, slots := 60, locals := 12 }) (va_Pc [.ref h0] (fun U => U.heap.size = sz ∧ va_P D vwCl [(h0, .inr (3, [.int 0, .null]))] U.heap ∧ va_K D vwCl (je_T cA) U ∧ va_D (fun _ => True) [(h0, .inr (3, [.int 0, .null]))])) (va_Qv (fun _ : Nat => True) (fun u t => match u with | q1 => va_P D vwCl [(h0, .inr (3, [.int 0, .ref q1])), (q1, .inl (cA 0, 60, .inl (fun _ => 0)))] t.heap ∧ va_K D vwCl (je_T cA) t ∧ va_D (va_A [(h0, .inr (3, [.int 0, .null]))] sz) [(h0, .inr (3, [.int 0, .ref q1])), (q1, .inl (cA 0, 60, .inl (fun _ => 0)))]) (va_A [(h0, .inr (3, [.int 0, .null]))] sz)) 1 60 (va_A [(h0, .inr (3, [.int 0, .null]))] sz) := by
  refine Met.ofW (cc := cX3_init) (maxL := 1) (ret := none) (by decide) rfl ?_
  intro p e s m args below meth c s₁ B hml hv
  obtain ⟨rfl, hsz, hP, hK, hD0⟩ := hv
  have hx := B.exec
  have hb := B.bytes
  have hr := B.returns
  have hts := atoms_spec (ws := wsX3_init) B.pre
  have hown : s.vm.findClass RX3 = some m.cls := findClass_of_methodNamed B.named
  have hin : meth.name = "<init>" := (name_of_methodNamed B.named B.method).1
  subst hsz
  have hD := hD0.self (sz := s.heap.size)
  generalize hAe : va_A [(h0, .inr (3, [.int 0, .null]))] s.heap.size = A at hD ⊢
  have hA : ∀ q : Nat, s.heap.size ≤ q → A q := fun q h => by rw [← hAe]; exact Or.inr h
  have hS : va_S A s.heap s.heap [] := va_S.rf
  have hl := lv_entry ([.ref h0]) (n := 1) (Nat.le_of_ble_eq_true rfl)
  rw [lg_entry_eq]
  generalize (lg_sl ([.ref h0]) ++ List.replicate (1 - (lg_sl ([.ref h0])).length) Slot.unset).toArray = ls at hl ⊢
  have hl : lv_has ls 1 [(0, .ref h0)] := hl
  refine lv_aload_n hx hb dX3_init_0 rfl (lv_at hl 0 rfl) ?_
  refine W.objInit hx hb hown (hts (.methodLink RX3 3 objectInit) (by decide +kernel)) (hts (.instanceMethod objectInit) (by decide +kernel)) (hts _ (List.mem_of_getElem? (i := 3) rfl)) rfl (by rw [hml]; exact hl.1) rfl dX3_init_1 (Nat.le_of_ble_eq_true rfl) (Nat.le_of_ble_eq_true rfl) ?_
  refine W.eq (g2 := F0 m 4 ls []) rfl ?_
  refine lv_aload_n hx hb dX3_init_4 rfl (lv_at hl 0 rfl) ?_
  refine lv_bipush (v := nI 60) hx hb dX3_init_5 (by decide +kernel) ?_
  have hc_1 : 0 + 1 ≤ 1 := by decide
  have hs_1 : 0 + 60 ≤ 60 := by decide
  have hy_1 : 60 * componentBytes .int ≤ 536870912 := by decide
  refine va_newa (D := D) (cl := vwCl) (atype := .int) (ty := .int) (pc := 7) (a0 := (60, .inl (fun _ => 0))) (N' := 60) hx hb (hts (.arrayClass .int) (by decide +kernel)) rfl hK hP hD hS hA (fun cA => rfl) (nI_pos (by omega)) (nI_clamp (by omega)) hy_1 hc_1 hs_1 dX3_init_7 (fun q1 c1 H hK1 hP hD hS => ?_)
  have hc := va_c0 hK1 hK
  subst hc
  have hP : va_P D vwCl [(h0, .inr (3, [.int 0, .null])), (q1, .inl (cA 0, 60, .inl (fun _ => 0)))] H := hP
  have hD : va_D A [(h0, .inr (3, [.int 0, .null])), (q1, .inl (cA 0, 60, .inl (fun _ => 0)))] := hD
  refine va_putF (D := D) (cl := vwCl) (ci := 3) (v := .ref q1) (ty := .array .int) (C := RX3) (T := TX3) (N := 2) hx hb hts (by decide +kernel) tyX3 tyX3_ok nmX3 hown hK hP hD hS 0 rfl rfl 1 (by decide) (hts (.fieldLink RX3 9 "RopedHalls$Pad" "codes" "[I") (by decide +kernel)) (fun _ h9 => h9) rfl hin rfl (by decide +kernel) rfl rfl (Nat.le_of_ble_eq_true rfl) dX3_init_9 (fun H locs hP hD hS => ?_)
  have hP : va_P D vwCl [(h0, .inr (3, [.int 0, .ref q1])), (q1, .inl (cA 0, 60, .inl (fun _ => 0)))] H := hP
  have hD : va_D A [(h0, .inr (3, [.int 0, .ref q1])), (q1, .inl (cA 0, 60, .inl (fun _ => 0)))] := hD
  exact W.vret hx hb hr (fun t ht hW => ⟨⟨q1, rfl, trivial, by rw [ht]; exact hP, va_K.moved hW.alike hK, hD⟩, hS.F ht⟩) hS.2.2 dX3_init_12
set_option maxHeartbeats 4000000 in
set_option maxRecDepth 100000 in
theorem i_X4 (l : Launch) (D : va_G) (cA : Nat → ClassId) (h0 sz : Nat) : Met l yX4_init wsX4_init ({ frames := 1, cells := 5, slots := 280, locals := 12 }) (va_Pc [.ref h0] (fun U => U.heap.size = sz ∧ va_P D vwCl [(h0, .inr (4, [.null, .null, .null, .null, .null, .int 0]))] U.heap ∧ va_K D vwCl (je_T cA) U ∧ va_D (fun _ => True) [(h0, .inr (4, [.null, .null, .null, .null, .null, .int 0]))])) (va_Qv (fun _ : Nat × Nat × Nat × Nat × Nat => True) (fun u t => match u with | (q0, q1, q2, q3, q4) => va_P D vwCl [(h0, .inr (4, [.ref q0, .ref q1, .ref q2, .ref q3, .ref q4, .int 0])), (q0, .inl (cA 0, 140, .inl (fun _ => 0))), (q1, .inl (cA 0, 35, .inl (fun _ => 0))), (q2, .inl (cA 0, 35, .inl (fun _ => 0))), (q3, .inl (cA 0, 35, .inl (fun _ => 0))), (q4, .inl (cA 0, 35, .inl (fun _ => 0)))] t.heap ∧ va_K D vwCl (je_T cA) t ∧ va_D (va_A [(h0, .inr (4, [.null, .null, .null, .null, .null, .int 0]))] sz) [(h0, .inr (4, [.ref q0, .ref q1, .ref q2, .ref q3, .ref q4, .int 0])), (q0, .inl (cA 0, 140, .inl (fun _ => 0))), (q1, .inl (cA 0, 35, .inl (fun _ => 0))), (q2, .inl (cA 0, 35, .inl (fun _ => 0))), (q3, .inl (cA 0, 35, .inl (fun _ => 0))), (q4, .inl (cA 0, 35, .inl (fun _ => 0)))]) (va_A [(h0, .inr (4, [.null, .null, .null, .null, .null, .int 0]))] sz)) 5 280 (va_A [(h0, .inr (4, [.null, .null, .null, .null, .null, .int 0]))] sz) := by
  refine Met.ofW (cc := cX4_init) (maxL := 1) (ret := none) (by decide) rfl ?_
  intro p e s m args below meth c s₁ B hml hv
  obtain ⟨rfl, hsz, hP, hK, hD0⟩ := hv
  have hx := B.exec
  have hb := B.bytes
  have hr := B.returns
  have hts := atoms_spec (ws := wsX4_init) B.pre
  have hown : s.vm.findClass RX4 = some m.cls := findClass_of_methodNamed B.named
  have hin : meth.name = "<init>" := (name_of_methodNamed B.named B.method).1
  subst hsz
  have hD := hD0.self (sz := s.heap.size)
  generalize hAe : va_A [(h0, .inr (4, [.null, .null, .null, .null, .null, .int 0]))] s.heap.size = A at hD ⊢
  have hA : ∀ q : Nat, s.heap.size ≤ q → A q := fun q h => by rw [← hAe]; exact Or.inr h
  have hS : va_S A s.heap s.heap [] := va_S.rf
  have hl := lv_entry ([.ref h0]) (n := 1) (Nat.le_of_ble_eq_true rfl)
  rw [lg_entry_eq]
  generalize (lg_sl ([.ref h0]) ++ List.replicate (1 - (lg_sl ([.ref h0])).length) Slot.unset).toArray = ls at hl ⊢
  have hl : lv_has ls 1 [(0, .ref h0)] := hl
  refine lv_aload_n hx hb dX4_init_0 rfl (lv_at hl 0 rfl) ?_
  refine W.objInit hx hb hown (hts (.methodLink RX4 3 objectInit) (by decide +kernel)) (hts (.instanceMethod objectInit) (by decide +kernel)) (hts _ (List.mem_of_getElem? (i := 3) rfl)) rfl (by rw [hml]; exact hl.1) rfl dX4_init_1 (Nat.le_of_ble_eq_true rfl) (Nat.le_of_ble_eq_true rfl) ?_
  refine W.eq (g2 := F0 m 4 ls []) rfl ?_
  refine lv_aload_n hx hb dX4_init_4 rfl (lv_at hl 0 rfl) ?_
  refine lv_sipush (v := nI 140) hx hb dX4_init_5 (by decide +kernel) ?_
  have hc_0 : 0 + 1 ≤ 5 := by decide
  have hs_0 : 0 + 140 ≤ 280 := by decide
  have hy_0 : 140 * componentBytes .int ≤ 536870912 := by decide
  refine va_newa (D := D) (cl := vwCl) (atype := .int) (ty := .int) (pc := 8) (a0 := (140, .inl (fun _ => 0))) (N' := 140) hx hb (hts (.arrayClass .int) (by decide +kernel)) rfl hK hP hD hS hA (fun cA => rfl) (nI_pos (by omega)) (nI_clamp (by omega)) hy_0 hc_0 hs_0 dX4_init_8 (fun q0 c1 H hK1 hP hD hS => ?_)
  have hc := va_c0 hK1 hK
  subst hc
  have hP : va_P D vwCl [(h0, .inr (4, [.null, .null, .null, .null, .null, .int 0])), (q0, .inl (cA 0, 140, .inl (fun _ => 0)))] H := hP
  have hD : va_D A [(h0, .inr (4, [.null, .null, .null, .null, .null, .int 0])), (q0, .inl (cA 0, 140, .inl (fun _ => 0)))] := hD
  refine va_putF (D := D) (cl := vwCl) (ci := 4) (v := .ref q0) (ty := .array .int) (C := RX4) (T := TX4) (N := 6) hx hb hts (by decide +kernel) tyX4 tyX4_ok nmX4 hown hK hP hD hS 0 rfl rfl 0 (by decide) (hts (.fieldLink RX4 9 "RopedHalls$Routes" "steps" "[I") (by decide +kernel)) (fun _ h9 => h9) rfl hin rfl (by decide +kernel) rfl rfl (Nat.le_of_ble_eq_true rfl) dX4_init_10 (fun H locs hP hD hS => ?_)
  have hP : va_P D vwCl [(h0, .inr (4, [.ref q0, .null, .null, .null, .null, .int 0])), (q0, .inl (cA 0, 140, .inl (fun _ => 0)))] H := hP
  have hD : va_D A [(h0, .inr (4, [.ref q0, .null, .null, .null, .null, .int 0])), (q0, .inl (cA 0, 140, .inl (fun _ => 0)))] := hD
  refine lv_aload_n hx hb dX4_init_13 rfl (lv_at hl 0 rfl) ?_
  refine lv_bipush (v := nI 35) hx hb dX4_init_14 (by decide +kernel) ?_
  have hc_1 : 1 + 1 ≤ 5 := by decide
  have hs_1 : 140 + 35 ≤ 280 := by decide
  have hy_1 : 35 * componentBytes .int ≤ 536870912 := by decide
  refine va_newa (D := D) (cl := vwCl) (atype := .int) (ty := .int) (pc := 16) (a0 := (35, .inl (fun _ => 0))) (N' := 35) hx hb (hts (.arrayClass .int) (by decide +kernel)) rfl hK hP hD hS hA (fun cA => rfl) (nI_pos (by omega)) (nI_clamp (by omega)) hy_1 hc_1 hs_1 dX4_init_16 (fun q1 c1 H hK1 hP hD hS => ?_)
  have hc := va_c0 hK1 hK
  subst hc
  have hP : va_P D vwCl [(h0, .inr (4, [.ref q0, .null, .null, .null, .null, .int 0])), (q0, .inl (cA 0, 140, .inl (fun _ => 0))), (q1, .inl (cA 0, 35, .inl (fun _ => 0)))] H := hP
  have hD : va_D A [(h0, .inr (4, [.ref q0, .null, .null, .null, .null, .int 0])), (q0, .inl (cA 0, 140, .inl (fun _ => 0))), (q1, .inl (cA 0, 35, .inl (fun _ => 0)))] := hD
  refine va_putF (D := D) (cl := vwCl) (ci := 4) (v := .ref q1) (ty := .array .int) (C := RX4) (T := TX4) (N := 6) hx hb hts (by decide +kernel) tyX4 tyX4_ok nmX4 hown hK hP hD hS 0 rfl rfl 1 (by decide) (hts (.fieldLink RX4 15 "RopedHalls$Routes" "queue" "[I") (by decide +kernel)) (fun _ h9 => h9) rfl hin rfl (by decide +kernel) rfl rfl (Nat.le_of_ble_eq_true rfl) dX4_init_18 (fun H locs hP hD hS => ?_)
  have hP : va_P D vwCl [(h0, .inr (4, [.ref q0, .ref q1, .null, .null, .null, .int 0])), (q0, .inl (cA 0, 140, .inl (fun _ => 0))), (q1, .inl (cA 0, 35, .inl (fun _ => 0)))] H := hP
  have hD : va_D A [(h0, .inr (4, [.ref q0, .ref q1, .null, .null, .null, .int 0])), (q0, .inl (cA 0, 140, .inl (fun _ => 0))), (q1, .inl (cA 0, 35, .inl (fun _ => 0)))] := hD
  refine lv_aload_n hx hb dX4_init_21 rfl (lv_at hl 0 rfl) ?_
  refine lv_bipush (v := nI 35) hx hb dX4_init_22 (by decide +kernel) ?_
  have hc_2 : 2 + 1 ≤ 5 := by decide
  have hs_2 : 175 + 35 ≤ 280 := by decide
  have hy_2 : 35 * componentBytes .int ≤ 536870912 := by decide
  refine va_newa (D := D) (cl := vwCl) (atype := .int) (ty := .int) (pc := 24) (a0 := (35, .inl (fun _ => 0))) (N' := 35) hx hb (hts (.arrayClass .int) (by decide +kernel)) rfl hK hP hD hS hA (fun cA => rfl) (nI_pos (by omega)) (nI_clamp (by omega)) hy_2 hc_2 hs_2 dX4_init_24 (fun q2 c1 H hK1 hP hD hS => ?_)
  have hc := va_c0 hK1 hK
  subst hc
  have hP : va_P D vwCl [(h0, .inr (4, [.ref q0, .ref q1, .null, .null, .null, .int 0])), (q0, .inl (cA 0, 140, .inl (fun _ => 0))), (q1, .inl (cA 0, 35, .inl (fun _ => 0))), (q2, .inl (cA 0, 35, .inl (fun _ => 0)))] H := hP
  have hD : va_D A [(h0, .inr (4, [.ref q0, .ref q1, .null, .null, .null, .int 0])), (q0, .inl (cA 0, 140, .inl (fun _ => 0))), (q1, .inl (cA 0, 35, .inl (fun _ => 0))), (q2, .inl (cA 0, 35, .inl (fun _ => 0)))] := hD
  refine va_putF (D := D) (cl := vwCl) (ci := 4) (v := .ref q2) (ty := .array .int) (C := RX4) (T := TX4) (N := 6) hx hb hts (by decide +kernel) tyX4 tyX4_ok nmX4 hown hK hP hD hS 0 rfl rfl 2 (by decide) (hts (.fieldLink RX4 18 "RopedHalls$Routes" "goals" "[I") (by decide +kernel)) (fun _ h9 => h9) rfl hin rfl (by decide +kernel) rfl rfl (Nat.le_of_ble_eq_true rfl) dX4_init_26 (fun H locs hP hD hS => ?_)
  have hP : va_P D vwCl [(h0, .inr (4, [.ref q0, .ref q1, .ref q2, .null, .null, .int 0])), (q0, .inl (cA 0, 140, .inl (fun _ => 0))), (q1, .inl (cA 0, 35, .inl (fun _ => 0))), (q2, .inl (cA 0, 35, .inl (fun _ => 0)))] H := hP
  have hD : va_D A [(h0, .inr (4, [.ref q0, .ref q1, .ref q2, .null, .null, .int 0])), (q0, .inl (cA 0, 140, .inl (fun _ => 0))), (q1, .inl (cA 0, 35, .inl (fun _ => 0))), (q2, .inl (cA 0, 35, .inl (fun _ => 0)))] := hD
  refine lv_aload_n hx hb dX4_init_29 rfl (lv_at hl 0 rfl) ?_
  refine lv_bipush (v := nI 35) hx hb dX4_init_30 (by decide +kernel) ?_
  have hc_3 : 3 + 1 ≤ 5 := by decide
  have hs_3 : 210 + 35 ≤ 280 := by decide
  have hy_3 : 35 * componentBytes .int ≤ 536870912 := by decide
  refine va_newa (D := D) (cl := vwCl) (atype := .int) (ty := .int) (pc := 32) (a0 := (35, .inl (fun _ => 0))) (N' := 35) hx hb (hts (.arrayClass .int) (by decide +kernel)) rfl hK hP hD hS hA (fun cA => rfl) (nI_pos (by omega)) (nI_clamp (by omega)) hy_3 hc_3 hs_3 dX4_init_32 (fun q3 c1 H hK1 hP hD hS => ?_)
  have hc := va_c0 hK1 hK
  subst hc
  have hP : va_P D vwCl [(h0, .inr (4, [.ref q0, .ref q1, .ref q2, .null, .null, .int 0])), (q0, .inl (cA 0, 140, .inl (fun _ => 0))), (q1, .inl (cA 0, 35, .inl (fun _ => 0))), (q2, .inl (cA 0, 35, .inl (fun _ => 0))), (q3, .inl (cA 0, 35, .inl (fun _ => 0)))] H := hP
  have hD : va_D A [(h0, .inr (4, [.ref q0, .ref q1, .ref q2, .null, .null, .int 0])), (q0, .inl (cA 0, 140, .inl (fun _ => 0))), (q1, .inl (cA 0, 35, .inl (fun _ => 0))), (q2, .inl (cA 0, 35, .inl (fun _ => 0))), (q3, .inl (cA 0, 35, .inl (fun _ => 0)))] := hD
  refine va_putF (D := D) (cl := vwCl) (ci := 4) (v := .ref q3) (ty := .array .int) (C := RX4) (T := TX4) (N := 6) hx hb hts (by decide +kernel) tyX4 tyX4_ok nmX4 hown hK hP hD hS 0 rfl rfl 3 (by decide) (hts (.fieldLink RX4 21 "RopedHalls$Routes" "nexts" "[I") (by decide +kernel)) (fun _ h9 => h9) rfl hin rfl (by decide +kernel) rfl rfl (Nat.le_of_ble_eq_true rfl) dX4_init_34 (fun H locs hP hD hS => ?_)
  have hP : va_P D vwCl [(h0, .inr (4, [.ref q0, .ref q1, .ref q2, .ref q3, .null, .int 0])), (q0, .inl (cA 0, 140, .inl (fun _ => 0))), (q1, .inl (cA 0, 35, .inl (fun _ => 0))), (q2, .inl (cA 0, 35, .inl (fun _ => 0))), (q3, .inl (cA 0, 35, .inl (fun _ => 0)))] H := hP
  have hD : va_D A [(h0, .inr (4, [.ref q0, .ref q1, .ref q2, .ref q3, .null, .int 0])), (q0, .inl (cA 0, 140, .inl (fun _ => 0))), (q1, .inl (cA 0, 35, .inl (fun _ => 0))), (q2, .inl (cA 0, 35, .inl (fun _ => 0))), (q3, .inl (cA 0, 35, .inl (fun _ => 0)))] := hD
  refine lv_aload_n hx hb dX4_init_37 rfl (lv_at hl 0 rfl) ?_
  refine lv_bipush (v := nI 35) hx hb dX4_init_38 (by decide +kernel) ?_
  have hc_4 : 4 + 1 ≤ 5 := by decide
  have hs_4 : 245 + 35 ≤ 280 := by decide
  have hy_4 : 35 * componentBytes .int ≤ 536870912 := by decide
  refine va_newa (D := D) (cl := vwCl) (atype := .int) (ty := .int) (pc := 40) (a0 := (35, .inl (fun _ => 0))) (N' := 35) hx hb (hts (.arrayClass .int) (by decide +kernel)) rfl hK hP hD hS hA (fun cA => rfl) (nI_pos (by omega)) (nI_clamp (by omega)) hy_4 hc_4 hs_4 dX4_init_40 (fun q4 c1 H hK1 hP hD hS => ?_)
  have hc := va_c0 hK1 hK
  subst hc
  have hP : va_P D vwCl [(h0, .inr (4, [.ref q0, .ref q1, .ref q2, .ref q3, .null, .int 0])), (q0, .inl (cA 0, 140, .inl (fun _ => 0))), (q1, .inl (cA 0, 35, .inl (fun _ => 0))), (q2, .inl (cA 0, 35, .inl (fun _ => 0))), (q3, .inl (cA 0, 35, .inl (fun _ => 0))), (q4, .inl (cA 0, 35, .inl (fun _ => 0)))] H := hP
  have hD : va_D A [(h0, .inr (4, [.ref q0, .ref q1, .ref q2, .ref q3, .null, .int 0])), (q0, .inl (cA 0, 140, .inl (fun _ => 0))), (q1, .inl (cA 0, 35, .inl (fun _ => 0))), (q2, .inl (cA 0, 35, .inl (fun _ => 0))), (q3, .inl (cA 0, 35, .inl (fun _ => 0))), (q4, .inl (cA 0, 35, .inl (fun _ => 0)))] := hD
  refine va_putF (D := D) (cl := vwCl) (ci := 4) (v := .ref q4) (ty := .array .int) (C := RX4) (T := TX4) (N := 6) hx hb hts (by decide +kernel) tyX4 tyX4_ok nmX4 hown hK hP hD hS 0 rfl rfl 4 (by decide) (hts (.fieldLink RX4 24 "RopedHalls$Routes" "turns" "[I") (by decide +kernel)) (fun _ h9 => h9) rfl hin rfl (by decide +kernel) rfl rfl (Nat.le_of_ble_eq_true rfl) dX4_init_42 (fun H locs hP hD hS => ?_)
  have hP : va_P D vwCl [(h0, .inr (4, [.ref q0, .ref q1, .ref q2, .ref q3, .ref q4, .int 0])), (q0, .inl (cA 0, 140, .inl (fun _ => 0))), (q1, .inl (cA 0, 35, .inl (fun _ => 0))), (q2, .inl (cA 0, 35, .inl (fun _ => 0))), (q3, .inl (cA 0, 35, .inl (fun _ => 0))), (q4, .inl (cA 0, 35, .inl (fun _ => 0)))] H := hP
  have hD : va_D A [(h0, .inr (4, [.ref q0, .ref q1, .ref q2, .ref q3, .ref q4, .int 0])), (q0, .inl (cA 0, 140, .inl (fun _ => 0))), (q1, .inl (cA 0, 35, .inl (fun _ => 0))), (q2, .inl (cA 0, 35, .inl (fun _ => 0))), (q3, .inl (cA 0, 35, .inl (fun _ => 0))), (q4, .inl (cA 0, 35, .inl (fun _ => 0)))] := hD
  exact W.vret hx hb hr (fun t ht hW => ⟨⟨(q0, q1, q2, q3, q4), rfl, trivial, by rw [ht]; exact hP, va_K.moved hW.alike hK, hD⟩, hS.F ht⟩) hS.2.2 dX4_init_45
