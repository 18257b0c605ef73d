/-! THE CONSTRUCTORS: what they leave, object by object (laid by wip/whole/gen/gen_cons.py) -/
def hi0 : Nat → Int32 := fun i => if i = 0 ∨ i = 6 then nI 6 else if i = 7 then nI 28 else if i = 8 then nI 34 else if (9 ≤ i ∧ i ≤ 13) ∨ i = 16 then nI 1 else if 56 ≤ i ∧ i < 91 then -1 else 0
/-- the rows at the start -/
def je_Gi : je_G := fun c _ r => if (c = 1 ∨ c = 6) ∧ r = 0 then hi0 else fun _ => 0
/-- the sub-cells of an object -/
def xk (c : Nat) : List Nat := match c with
  | 1 => [0, 6, 7, 8, 9, 10, 11, 12]
  | 2 => [0, 1]
  | 3 => [0, 2]
  | 4 => [0, 1, 2, 3, 4, 5]
  | 6 => [0, 1, 2, 3, 5, 6, 7, 9, 10, 11, 12, 13, 14]
  | _ => [0]
/-- an object's cells, at addresses f -/
def xb (cA : Nat → ClassId) (c : Nat) (f : Nat → Nat) : va_W := (xk c).map (fun k => (f k, je_E (fun q => f q.2.2) cA je_Gi c 0 k))
theorem xarr {g : Nat → Int32} {c r b len : Nat} (h1 : ∀ i : Fin len, g i.val = je_Gi c 0 r (b + i.val)) (h2 : ∀ i, len ≤ i → g i = 0) : g = je_arr je_Gi c 0 len r b := by
  funext i
  unfold je_arr
  by_cases h : i < len
  · rw [if_pos h]
    exact h1 ⟨i, h⟩
  · rw [if_neg h]
    exact h2 i (by omega)
theorem xz_upd {f : Nat → Int32} {k n : Nat} {x : Int32} (hk : k < n) (h : ∀ i, n ≤ i → f i = 0) : ∀ i, n ≤ i → upd f k x i = 0 := fun i hi => by
  unfold upd
  rw [if_neg (by omega)]
  exact h i hi
theorem va_c0 {D : va_G} {cA : Nat → ClassId} {c1 : ClassId} {s : State} (hK1 : va_K D vwCl (je_T cA ++ [(c1, .int)]) s) (hK : va_K D vwCl (je_T cA) s) : c1 = cA 0 := by
  have e1 := (hK1.2 3 (c1, .int) rfl).2
  have e2 := (hK.2 0 (cA 0, .int) rfl).2
  exact Option.some.inj (Eq.trans (Eq.symm (show s.vm.findClass ("[" ++ FieldType.int.toString) = some c1 from e1)) (show s.vm.findClass ("[" ++ FieldType.int.toString) = some (cA 0) from e2))
theorem va_c1 {D : va_G} {cA : Nat → ClassId} {c1 : ClassId} {s : State} (hK1 : va_K D vwCl (je_T cA ++ [(c1, .boolean)]) s) (hK : va_K D vwCl (je_T cA) s) : c1 = cA 1 := by
  have e1 := (hK1.2 3 (c1, .boolean) rfl).2
  have e2 := (hK.2 1 (cA 1, .boolean) rfl).2
  exact Option.some.inj (Eq.trans (Eq.symm (show s.vm.findClass ("[" ++ FieldType.boolean.toString) = some c1 from e1)) (show s.vm.findClass ("[" ++ FieldType.boolean.toString) = some (cA 1) from e2))
theorem va_c2 {D : va_G} {cA : Nat → ClassId} {c1 : ClassId} {s : State} (hK1 : va_K D vwCl (je_T cA ++ [(c1, .object "RopedHalls$Hall")]) s) (hK : va_K D vwCl (je_T cA) s) : c1 = cA 2 := by
  obtain ⟨-, -, -, -, -, e1⟩ := (hK1.2 3 (c1, .object "RopedHalls$Hall") rfl).2
  obtain ⟨-, -, -, -, -, e2⟩ := (hK.2 2 (cA 2, .object "RopedHalls$Hall") rfl).2
  exact Option.some.inj (e1.symm.trans e2)
set_option maxRecDepth 100000 in
theorem xe_X2 {cA : Nat → ClassId} {h0 q1 : Nat} {g1 : Nat → Int32} (e1 : g1 = je_arr je_Gi 2 0 35 0 0) : [(h0, .inr (2, [.ref q1])), (q1, .inl (cA 0, 35, .inl g1))] = xb cA 2 (fun k => match k with | 0 => h0 | 1 => q1 | _ => 0) := by
  subst e1
  rfl
set_option maxRecDepth 100000 in
theorem xe_X3 {cA : Nat → ClassId} {h0 q1 : Nat} {g1 : Nat → Int32} (e1 : g1 = je_arr je_Gi 3 0 60 1 0) : [(h0, .inr (3, [.int 0, .ref q1])), (q1, .inl (cA 0, 60, .inl g1))] = xb cA 3 (fun k => match k with | 0 => h0 | 2 => q1 | _ => 0) := by
  subst e1
  rfl
set_option maxRecDepth 100000 in
theorem xe_X4 {cA : Nat → ClassId} {h0 q1 q2 q3 q4 q5 : Nat} {g1 g2 g3 g4 g5 : Nat → Int32} (e1 : g1 = je_arr je_Gi 4 0 140 0 0) (e2 : g2 = je_arr je_Gi 4 0 35 1 0) (e3 : g3 = je_arr je_Gi 4 0 35 2 0) (e4 : g4 = je_arr je_Gi 4 0 35 3 0) (e5 : g5 = je_arr je_Gi 4 0 35 4 0) : [(h0, .inr (4, [.ref q1, .ref q2, .ref q3, .ref q4, .ref q5, .int 0])), (q1, .inl (cA 0, 140, .inl g1)), (q2, .inl (cA 0, 35, .inl g2)), (q3, .inl (cA 0, 35, .inl g3)), (q4, .inl (cA 0, 35, .inl g4)), (q5, .inl (cA 0, 35, .inl g5))] = xb cA 4 (fun k => match k with | 0 => h0 | 1 => q1 | 2 => q2 | 3 => q3 | 4 => q4 | 5 => q5 | _ => 0) := by
  subst e1
  subst e2
  subst e3
  subst e4
  subst e5
  rfl
set_option maxRecDepth 100000 in
theorem xe_X1 {cA : Nat → ClassId} {h0 q1 q2 q3 q4 q5 q6 q7 : Nat} {g1 g2 g3 g4 g5 g6 g7 : Nat → Int32} (e1 : g1 = je_arr je_Gi 1 0 35 0 21) (e2 : g2 = je_arr je_Gi 1 0 35 0 56) (e3 : g3 = je_arr je_Gi 1 0 70 0 91) (e4 : g4 = je_arr je_Gi 1 0 4 0 5) (e5 : g5 = je_arr je_Gi 1 0 4 0 9) (e6 : g6 = je_arr je_Gi 1 0 4 0 13) (e7 : g7 = je_arr je_Gi 1 0 4 0 17) : [(h0, .inr (1, [.int (nI 6), .int 0, .int 0, .int 0, .int 0, .ref q1, .ref q2, .ref q3, .ref q4, .ref q5, .ref q6, .ref q7])), (q1, .inl (cA 0, 35, .inl g1)), (q2, .inl (cA 0, 35, .inl g2)), (q3, .inl (cA 1, 70, .inl g3)), (q4, .inl (cA 0, 4, .inl g4)), (q5, .inl (cA 0, 4, .inl g5)), (q6, .inl (cA 1, 4, .inl g6)), (q7, .inl (cA 0, 4, .inl g7))] = xb cA 1 (fun k => match k with | 0 => h0 | 6 => q1 | 7 => q2 | 8 => q3 | 9 => q4 | 10 => q5 | 11 => q6 | 12 => q7 | _ => 0) := by
  subst e1
  subst e2
  subst e3
  subst e4
  subst e5
  subst e6
  subst e7
  rfl
set_option maxRecDepth 100000 in
theorem xe_X6 {cA : Nat → ClassId} {h0 q1 q2 q3 q4 q5 q6 q7 q8 q9 q10 q11 q12 : Nat} {g1 g2 g3 g4 g5 g6 g7 g8 g9 g10 g11 g12 : Nat → Int32} (e1 : g1 = je_arr je_Gi 6 0 161 0 0) (e2 : g2 = je_arr je_Gi 6 0 161 1 0) (e3 : g3 = je_arr je_Gi 6 0 966 2 0) (e4 : g4 = je_arr je_Gi 6 0 322 4 0) (e5 : g5 = je_arr je_Gi 6 0 2 5 0) (e6 : g6 = je_arr je_Gi 6 0 60 6 0) (e7 : g7 = je_arr je_Gi 6 0 140 8 0) (e8 : g8 = je_arr je_Gi 6 0 35 9 0) (e9 : g9 = je_arr je_Gi 6 0 35 10 0) (e10 : g10 = je_arr je_Gi 6 0 35 11 0) (e11 : g11 = je_arr je_Gi 6 0 35 12 0) (e12 : g12 = je_arr je_Gi 6 0 3 13 0) : [(h0, .inr (6, [.ref q1, .ref q2, .ref q3, .int 0, .ref q4, .ref q5, .ref q6, .int 0, .ref q7, .ref q8, .ref q9, .ref q10, .ref q11, .ref q12, .int 0, .int 0])), (q1, .inl (cA 0, 161, .inl g1)), (q2, .inl (cA 0, 161, .inl g2)), (q3, .inl (cA 0, 966, .inl g3)), (q4, .inl (cA 0, 322, .inl g4)), (q5, .inl (cA 1, 2, .inl g5)), (q6, .inl (cA 0, 60, .inl g6)), (q7, .inl (cA 0, 140, .inl g7)), (q8, .inl (cA 0, 35, .inl g8)), (q9, .inl (cA 0, 35, .inl g9)), (q10, .inl (cA 0, 35, .inl g10)), (q11, .inl (cA 0, 35, .inl g11)), (q12, .inl (cA 0, 3, .inl g12))] = xb cA 6 (fun k => match k with | 0 => h0 | 1 => q1 | 2 => q2 | 3 => q3 | 5 => q4 | 6 => q5 | 7 => q6 | 9 => q7 | 10 => q8 | 11 => q9 | 12 => q10 | 13 => q11 | 14 => q12 | _ => 0) := by
  subst e1
  subst e2
  subst e3
  subst e4
  subst e5
  subst e6
  subst e7
  subst e8
  subst e9
  subst e10
  subst e11
  subst e12
  rfl
