/-! CONSTRUCTORS: Minute -/
set_option maxHeartbeats 4000000 in
set_option maxRecDepth 100000 in
theorem i_X2 (l : Launch) (D : va_G) (cA : Nat → ClassId) (h0 sz : Nat) : Met l yX2_init wsX2_init ({ frames := 1, cells := 1, slots := 35, locals := 12 }) (va_Pc [.ref h0] (fun U => U.heap.size = sz ∧ va_P D vwCl [(h0, .inr (2, [.null]))] U.heap ∧ va_K D vwCl (je_T cA) U ∧ va_D (fun _ => True) [(h0, .inr (2, [.null]))])) (va_Qv (fun _ : Nat => True) (fun q t => va_P D vwCl [(h0, .inr (2, [.ref q])), (q, .inl (cA 0, 35, .inl (fun _ => 0)))] t.heap ∧ va_K D vwCl (je_T cA) t ∧ va_D (va_A [(h0, .inr (2, [.null]))] sz) [(h0, .inr (2, [.ref q])), (q, .inl (cA 0, 35, .inl (fun _ => 0)))]) (va_A [(h0, .inr (2, [.null]))] sz)) 1 35 (va_A [(h0, .inr (2, [.null]))] sz) := by
  refine Met.ofW (cc := cX2_init) (maxL := 1) (ret := none) (by decide) rfl ?_
  intro p e s m args below meth c s₁ B hml hv
  obtain ⟨rfl, hsz, hP, hK, hD0⟩ := hv
  have hx := B.exec
  have hb := B.bytes
  have hr := B.returns
  have hts := atoms_spec (ws := wsX2_init) B.pre
  have hown : s.vm.findClass RX2 = some m.cls := findClass_of_methodNamed B.named
  have hin : meth.name = "<init>" := (name_of_methodNamed B.named B.method).1
  subst hsz
  have hD := hD0.self (sz := s.heap.size)
  generalize hAe : va_A [(h0, .inr (2, [.null]))] s.heap.size = A at hD ⊢
  have hA : ∀ q : Nat, s.heap.size ≤ q → A q := fun q h => by rw [← hAe]; exact Or.inr h
  have hS : va_S A s.heap s.heap [] := va_S.rf
  have hl := lv_entry ([.ref h0]) (n := 1) (Nat.le_of_ble_eq_true rfl)
  rw [lg_entry_eq]
  generalize (lg_sl ([.ref h0]) ++ List.replicate (1 - (lg_sl ([.ref h0])).length) Slot.unset).toArray = ls at hl ⊢
  have hl : lv_has ls 1 [(0, .ref h0)] := hl
  refine lv_aload_n hx hb dX2_init_0 rfl (lv_at hl 0 rfl) ?_
  refine W.objInit hx hb hown (hts (.methodLink RX2 3 objectInit) (by decide +kernel)) (hts (.instanceMethod objectInit) (by decide +kernel)) (hts _ (List.mem_of_getElem? (i := 3) rfl)) rfl (by rw [hml]; exact hl.1) rfl dX2_init_1 (Nat.le_of_ble_eq_true rfl) (Nat.le_of_ble_eq_true rfl) ?_
  refine W.eq (g2 := F0 m 4 ls []) rfl ?_
  refine lv_aload_n hx hb dX2_init_4 rfl (lv_at hl 0 rfl) ?_
  refine lv_bipush (v := nI 35) hx hb dX2_init_5 (by decide +kernel) ?_
  have h_1 : 0 + 1 ≤ 1 := by decide
  have h_2 : 0 + 35 ≤ 35 := by decide
  have h_3 : 35 * componentBytes .int ≤ 536870912 := by decide
  refine va_newa (D := D) (cl := vwCl) (atype := .int) (ty := .int) (pc := 7) (a0 := (35, .inl (fun _ => 0))) (N' := 35) hx hb (hts (.arrayClass .int) (by decide +kernel)) rfl hK hP hD hS hA (fun cA => rfl) (nI_pos (by omega)) (nI_clamp (by omega)) h_3 h_1 h_2 dX2_init_7 (fun q c1 H hK1 hP hD hS => ?_)
  have hc : c1 = cA 0 := by
    have e1 := (hK1.2 3 (c1, .int) rfl).2
    have e2 := (hK.2 0 (cA 0, .int) rfl).2
    exact Option.some.inj (Eq.trans (Eq.symm (show s.vm.findClass ("[" ++ FieldType.int.toString) = some c1 from e1)) (show s.vm.findClass ("[" ++ FieldType.int.toString) = some (cA 0) from e2))
  subst hc
  have hP : va_P D vwCl [(h0, .inr (2, [.null])), (q, .inl (cA 0, 35, .inl (fun _ => 0)))] H := hP
  have hD : va_D A [(h0, .inr (2, [.null])), (q, .inl (cA 0, 35, .inl (fun _ => 0)))] := hD
  refine va_putF (D := D) (cl := vwCl) (ci := 2) (v := .ref q) (ty := .array .int) (C := RX2) (T := TX2) (N := 1) hx hb hts (by decide +kernel) tyX2 tyX2_ok nmX2 hown hK hP hD hS 0 rfl rfl 0 (by decide) (hts (.fieldLink RX2 9 "RopedHalls$Minute" "arrived" "[I") (by decide +kernel)) (fun _ h9 => h9) rfl hin rfl (by decide +kernel) rfl rfl (Nat.le_of_ble_eq_true rfl) dX2_init_9 (fun H locs hP hD hS => ?_)
  have hP9 : va_P D vwCl [(h0, .inr (2, [.ref q])), (q, .inl (cA 0, 35, .inl (fun _ => 0)))] H := hP
  have hD9 : va_D A [(h0, .inr (2, [.ref q])), (q, .inl (cA 0, 35, .inl (fun _ => 0)))] := hD
  exact W.vret hx hb hr (fun t ht hW => ⟨⟨q, rfl, trivial, by rw [ht]; exact hP9, va_K.moved hW.alike hK, hD9⟩, hS.F ht⟩) hS.2.2 dX2_init_12
