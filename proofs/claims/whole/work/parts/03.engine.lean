/-! THE ENGINE: a world of cells by ids (class, instance, sub-cell), rows of numbers, one symbolic step of the machine as a proposition that computes. -/
abbrev je_C : Type := Nat × Nat × Nat
abbrev je_V : Type := Int32 ⊕ Int64 ⊕ Option je_C
abbrev jI (x : Int32) : je_V := Sum.inl x
abbrev jL (x : Int64) : je_V := Sum.inr (Sum.inl x)
abbrev jR (q : je_C) : je_V := Sum.inr (Sum.inr (some q))
abbrev jN : je_V := Sum.inr (Sum.inr none)
abbrev je_G : Type := Nat → Nat → Nat → Nat → Int32
def je_set (G : je_G) (c n r : Nat) (f : Nat → Int32) : je_G := fun c' n' r' => if (r' = r ∧ c' = c) ∧ n' = n then f else G c' n' r'
def je_e (ad : je_C → Nat) (v : je_V) : Value := match v with
  | .inl x => .int x
  | .inr (.inl x) => .long x
  | .inr (.inr (some q)) => .ref (ad q)
  | .inr (.inr none) => .null
def je_cat (v : je_V) : Nat := match v with
  | .inr (.inl _) => 2
  | _ => 1
def je_sm : List je_V → Nat
  | [] => 0
  | v :: t => je_cat v + je_sm t
/-- how many instances -/
def je_cnt (c : Nat) : Nat := match c with
  | 0 => 1
  | 1 => 10
  | 2 => 2
  | 3 => 1
  | 4 => 2
  | 5 => 1
  | 6 => 1
  | _ => 0
/-- the fields of an object, in the order of the slots: a number (row, place), or a cell -/
def je_F (c n : Nat) : List ((Nat × Nat) ⊕ je_C) := match c with
  | 0 => [.inr (1, 9, 0), .inr (4, 1, 0), .inr (2, 1, 0)]
  | 1 => [.inl (0, 0), .inl (0, 1), .inl (0, 2), .inl (0, 3), .inl (0, 4), .inr (1, n, 6), .inr (1, n, 7), .inr (1, n, 8), .inr (1, n, 9), .inr (1, n, 10), .inr (1, n, 11), .inr (1, n, 12)]
  | 2 => [.inr (2, n, 1)]
  | 3 => [.inl (0, 0), .inr (3, n, 2)]
  | 4 => [.inr (4, n, 1), .inr (4, n, 2), .inr (4, n, 3), .inr (4, n, 4), .inr (4, n, 5), .inl (5, 0)]
  | 5 => [.inr (1, 0, 0), .inr (4, 0, 0), .inr (2, 0, 0), .inr (0, 0, 0), .inr (3, 0, 0), .inr (5, 0, 6), .inr (5, 0, 7), .inr (5, 0, 8), .inl (8, 0), .inl (9, 0)]
  | 6 => [.inr (6, 0, 1), .inr (6, 0, 2), .inr (6, 0, 3), .inl (3, 0), .inr (6, 0, 5), .inr (6, 0, 6), .inr (6, 0, 7), .inl (7, 0), .inr (6, 0, 9), .inr (6, 0, 10), .inr (6, 0, 11), .inr (6, 0, 12), .inr (6, 0, 13), .inr (6, 0, 14), .inl (14, 0), .inl (15, 0)]
  | _ => []
/-- the array of numbers of a field: kind (0 int, 1 boolean), length, row, first place -/
def je_Ar (c j : Nat) : Option (Nat × Nat × Nat × Nat) := match c with
  | 1 => match j with
    | 5 => some (0, 35, 0, 21)
    | 6 => some (0, 35, 0, 56)
    | 7 => some (1, 70, 0, 91)
    | 8 => some (0, 4, 0, 5)
    | 9 => some (0, 4, 0, 9)
    | 10 => some (1, 4, 0, 13)
    | 11 => some (0, 4, 0, 17)
    | _ => none
  | 2 => match j with
    | 0 => some (0, 35, 0, 0)
    | _ => none
  | 3 => match j with
    | 1 => some (0, 60, 1, 0)
    | _ => none
  | 4 => match j with
    | 0 => some (0, 140, 0, 0)
    | 1 => some (0, 35, 1, 0)
    | 2 => some (0, 35, 2, 0)
    | 3 => some (0, 35, 3, 0)
    | 4 => some (0, 35, 4, 0)
    | _ => none
  | 5 => match j with
    | 7 => some (1, 2, 7, 0)
    | _ => none
  | 6 => match j with
    | 0 => some (0, 161, 0, 0)
    | 1 => some (0, 161, 1, 0)
    | 2 => some (0, 966, 2, 0)
    | 4 => some (0, 322, 4, 0)
    | 5 => some (1, 2, 5, 0)
    | 6 => some (0, 60, 6, 0)
    | 8 => some (0, 140, 8, 0)
    | 9 => some (0, 35, 9, 0)
    | 10 => some (0, 35, 10, 0)
    | 11 => some (0, 35, 11, 0)
    | 12 => some (0, 35, 12, 0)
    | 13 => some (0, 3, 13, 0)
    | _ => none
  | _ => none
/-- the array of halls of a field: length, first instance -/
def je_Ra (c j : Nat) : Option (Nat × Nat) := match c with
  | 5 => match j with
    | 5 => some (6, 1)
    | 6 => some (2, 7)
    | _ => none
  | _ => none
def je_kd (c k : Nat) : Bool := match k with
  | 0 => Nat.blt c 7
  | j + 1 => (je_Ar c j).isSome || (je_Ra c j).isSome
def je_ok (q : je_C) : Prop := q.2.1 < je_cnt q.1 ∧ je_kd q.1 q.2.2 = true
def je_fv (ad : je_C → Nat) (G : je_G) (c n : Nat) (f : (Nat × Nat) ⊕ je_C) : Value := match f with
  | .inl q => .int (G c n q.1 q.2)
  | .inr q => .ref (ad q)
def je_arr (G : je_G) (c n len r b : Nat) : Nat → Int32 := fun i => if i < len then G c n r (b + i) else 0
def je_E (ad : je_C → Nat) (cA : Nat → ClassId) (G : je_G) (c n k : Nat) : va_E := match k with
  | 0 => .inr (c, (je_F c n).map (je_fv ad G c n))
  | j + 1 => match je_Ar c j with
    | some (t, len, r, b) => .inl (cA t, len, .inl (je_arr G c n len r b))
    | none => match je_Ra c j with
      | some (len, b) => .inl (cA 2, len, .inr (.inr (.inr (.inr (fun i => some (ad (1, b + i, 0)))))))
      | none => .inl (cA 0, 0, .inl (fun _ => 0))
def je_W (D : va_G) (ad : je_C → Nat) (cA : Nat → ClassId) (G : je_G) (H : Heap) : Prop := ∀ q : je_C, je_ok q → va_at D vwCl (ad q, je_E ad cA G q.1 q.2.1 q.2.2) H
def je_inj (ad : je_C → Nat) : Prop := ∀ q q' : je_C, je_ok q → je_ok q' → ad q = ad q' → q = q'
def je_A (ad : je_C → Nat) : Nat → Prop := fun a => ∃ q : je_C, je_ok q ∧ a = ad q
def je_T (cA : Nat → ClassId) : List (ClassId × FieldType) := [(cA 0, .int), (cA 1, .boolean), (cA 2, .object "RopedHalls$Hall")]
-- ===== locals =====
def je_get : List (Option je_V) → Nat → Option je_V
  | [], _ => none
  | v :: _, 0 => v
  | _ :: t, n + 1 => je_get t n
def je_put : List (Option je_V) → Nat → Option je_V → (List (Option je_V) → Prop) → Prop
  | [], _, _, _ => False
  | _ :: t, 0, v, F => F (v :: t)
  | w :: t, n + 1, v, F => je_put t n v (fun t' => F (w :: t'))
def je_nl (L : List (Option je_V)) (a : Nat) : Bool := match a with
  | 0 => true
  | b + 1 => match je_get L b with
    | some (.inr (.inl _)) => false
    | _ => true
def je_eL (ad : je_C → Nat) : Nat → List (Option je_V) → List (Nat × Value)
  | _, [] => []
  | i, none :: t => je_eL ad (i + 1) t
  | i, some v :: t => (i, je_e ad v) :: je_eL ad (i + 1) t
-- ===== one step =====
abbrev je_K : Type := je_G → Nat → List (Option je_V) → List je_V → Prop
/-- instruction, next place, two numbers (a jump's target; class and field; a local's place), a switch's targets, a constant -/
abbrev je_I : Type := Instr × Nat × Nat × Nat × List (Nat × Int32) × Int32
def je_i1 (S : List je_V) (F : Int32 → List je_V → Prop) : Prop := match S with
  | .inl x :: S' => F x S'
  | _ => False
def je_l1 (S : List je_V) (F : Int64 → List je_V → Prop) : Prop := match S with
  | .inr (.inl x) :: S' => F x S'
  | _ => False
def je_r1 (S : List je_V) (F : Option je_C → List je_V → Prop) : Prop := match S with
  | .inr (.inr x) :: S' => F x S'
  | _ => False
/-- a value of one word -/
def je_v1 (S : List je_V) (F : je_V → List je_V → Prop) : Prop := match S with
  | .inl x :: S' => F (.inl x) S'
  | .inr (.inr x) :: S' => F (.inr (.inr x)) S'
  | _ => False
def je_i2 (S : List je_V) (F : Int32 → Int32 → List je_V → Prop) : Prop := je_i1 S (fun y S1 => je_i1 S1 (fun x S2 => F y x S2))
def je_l2 (S : List je_V) (F : Int64 → Int64 → List je_V → Prop) : Prop := je_l1 S (fun y S1 => je_l1 S1 (fun x S2 => F y x S2))
/-- a cell, not null -/
def je_c1 (S : List je_V) (F : Nat → Nat → Nat → List je_V → Prop) : Prop := je_r1 S (fun r S1 => match r with
  | some q => F q.1 q.2.1 q.2.2 S1
  | none => False)
def je_gi (o : Option je_V) (F : Int32 → Prop) : Prop := match o with
  | some (.inl x) => F x
  | _ => False
def je_gl (o : Option je_V) (F : Int64 → Prop) : Prop := match o with
  | some (.inr (.inl x)) => F x
  | _ => False
def je_gr (o : Option je_V) (F : Option je_C → Prop) : Prop := match o with
  | some (.inr (.inr x)) => F x
  | _ => False
def je_bb (b : Bool) (P : Prop) : Prop := match b with
  | true => P
  | false => False
def je_nth {α : Type} : List α → Nat → Option α
  | [], _ => none
  | v :: _, 0 => some v
  | _ :: t, n + 1 => je_nth t n
def je_cond (op : ClassFile.Cond) (x y : Int32) (A B : Prop) : Prop := match op with
  | .eq => (x = y → A) ∧ (¬ x = y → B)
  | .ne => (¬ x = y → A) ∧ (x = y → B)
  | .lt => (x < y → A) ∧ (¬ x < y → B)
  | .ge => (y ≤ x → A) ∧ (¬ y ≤ x → B)
  | .gt => (y < x → A) ∧ (¬ y < x → B)
  | .le => (x ≤ y → A) ∧ (¬ x ≤ y → B)
def je_sw (x : Int32) : List (Nat × Int32) → (Nat → Prop) → Prop → Prop
  | [], _, B => B
  | (t, v) :: ts, A, B => (x = v → A t) ∧ (¬ x = v → je_sw x ts A B)
def je_isZ (c j : Nat) : Bool := match c with
  | 6 => Nat.beq j 15
  | _ => false
def je_zz (b : Bool) (x : Int32) (P : Prop) : Prop := match b with
  | true => (x = 0 ∨ x = 1) ∧ P
  | false => P
def je_ald (t : Nat) (S : List je_V) (F : Int32 → je_G → Nat → Nat → Nat → Nat → Nat → List je_V → Prop) (G : je_G) : Prop :=
  je_i1 S (fun i S1 => je_c1 S1 (fun c n k S2 => match k with
    | 0 => False
    | j + 1 => match je_Ar c j with
      | some (t', len, r, b) => je_bb (Nat.beq t t') (vp_in i len ∧ F i G c n len r b S2)
      | none => False))
def je_step (t : je_I) (rt : Nat) (K : je_K) (Rt : je_G → Option je_V → Prop) (G : je_G) (L : List (Option je_V)) (S : List je_V) : Prop :=
  match t with
  | (i, nx, a, b, tg, v) => match i with
    | .iconst _ => K G nx L (jI v :: S)
    | .bipush _ => K G nx L (jI v :: S)
    | .sipush _ => K G nx L (jI v :: S)
    | .ldc_w _ => K G nx L (jI v :: S)
    | .lconst _ => K G nx L (jL (Int64.ofNat a) :: S)
    | .ldc2_w _ => K G nx L (jL (Int64.ofNat a) :: S)
    | .aconst_null => K G nx L (jN :: S)
    | .iload_n _ => je_gi (je_get L a) (fun x => K G nx L (jI x :: S))
    | .iload _ => je_gi (je_get L a) (fun x => K G nx L (jI x :: S))
    | .lload_n _ => je_gl (je_get L a) (fun x => K G nx L (jL x :: S))
    | .aload_n _ => je_gr (je_get L a) (fun x => K G nx L (.inr (.inr x) :: S))
    | .istore_n _ => je_bb (je_nl L a) (je_i1 S (fun x S1 => je_put L a (some (jI x)) (fun L1 => K G nx L1 S1)))
    | .istore _ => je_bb (je_nl L a) (je_i1 S (fun x S1 => je_put L a (some (jI x)) (fun L1 => K G nx L1 S1)))
    | .lstore_n _ => je_bb (je_nl L a) (je_l1 S (fun x S1 => je_put L a (some (jL x)) (fun L1 => je_put L1 (a + 1) none (fun L2 => K G nx L2 S1))))
    | .iinc _ _ => je_bb (je_nl L a) (je_gi (je_get L a) (fun x => je_put L a (some (jI (x + v))) (fun L1 => K G nx L1 S)))
    | .iadd => je_i2 S (fun y x S1 => K G nx L (jI (x + y) :: S1))
    | .isub => je_i2 S (fun y x S1 => K G nx L (jI (x - y) :: S1))
    | .imul => je_i2 S (fun y x S1 => K G nx L (jI (x * y) :: S1))
    | .idiv => je_i2 S (fun y x S1 => ¬ y = 0 ∧ K G nx L (jI (x / y) :: S1))
    | .irem => je_i2 S (fun y x S1 => ¬ y = 0 ∧ K G nx L (jI (x - x / y * y) :: S1))
    | .iand => je_i2 S (fun y x S1 => K G nx L (jI (x &&& y) :: S1))
    | .ior => je_i2 S (fun y x S1 => K G nx L (jI (x ||| y) :: S1))
    | .ixor => je_i2 S (fun y x S1 => K G nx L (jI (x ^^^ y) :: S1))
    | .ishl => je_i2 S (fun y x S1 => K G nx L (jI (x <<< (y &&& 31)) :: S1))
    | .iushr => je_i2 S (fun y x S1 => K G nx L (jI (x.toUInt32 >>> (y.toUInt32 &&& Int32.toUInt32 31)).toInt32 :: S1))
    | .lushr => je_i1 S (fun y S1 => je_l1 S1 (fun x S2 => K G nx L (jL (x.toUInt64 >>> (y.toInt64.toUInt64 &&& Int64.toUInt64 63)).toInt64 :: S2)))
    | .lshl => je_i1 S (fun y S1 => je_l1 S1 (fun x S2 => K G nx L (jL (x <<< (y.toInt64 &&& 63)) :: S2)))
    | .land => je_l2 S (fun y x S1 => K G nx L (jL (x &&& y) :: S1))
    | .lor => je_l2 S (fun y x S1 => K G nx L (jL (x ||| y) :: S1))
    | .lcmp => je_l2 S (fun y x S1 => K G nx L (jI (lg_cmp x y) :: S1))
    | .i2l => je_i1 S (fun x S1 => K G nx L (jL x.toInt64 :: S1))
    | .l2i => je_l1 S (fun x S1 => K G nx L (jI x.toInt32 :: S1))
    | .dup => je_v1 S (fun x S1 => K G nx L (x :: x :: S1))
    | .dup2 => je_v1 S (fun x S1 => je_v1 S1 (fun y S2 => K G nx L (x :: y :: x :: y :: S2)))
    | .pop => je_v1 S (fun _ S1 => K G nx L S1)
    | .ifCond op _ => je_i1 S (fun x S1 => je_cond op x 0 (K G a L S1) (K G nx L S1))
    | .if_icmp op _ => je_i2 S (fun y x S1 => je_cond op x y (K G a L S1) (K G nx L S1))
    | .goto _ => K G a L S
    | .ifnull _ => je_r1 S (fun r S1 => match r with
      | none => K G a L S1
      | some _ => K G nx L S1)
    | .tableswitch _ _ _ _ => je_i1 S (fun x S1 => je_sw x tg (fun t => K G t L S1) (K G a L S1))
    | .getfield _ => je_c1 S (fun c n k S1 => je_bb (Nat.beq c a && Nat.beq k 0) (match je_nth (je_F a n) b with
      | some (.inl q) => K G nx L (jI (G a n q.1 q.2) :: S1)
      | some (.inr q) => K G nx L (jR q :: S1)
      | none => False))
    | .putfield _ => je_i1 S (fun x S1 => je_c1 S1 (fun c n k S2 => je_bb (Nat.beq c a && Nat.beq k 0) (match je_nth (je_F a n) b with
      | some (.inl q) => je_zz (je_isZ a b) x (K (je_set G a n q.1 (upd (G a n q.1) q.2 x)) nx L S2)
      | _ => False)))
    | .iaload => je_ald 0 S (fun i G c n _ r b S2 => K G nx L (jI (G c n r (b + i.toNatClampNeg)) :: S2)) G
    | .baload => je_ald 1 S (fun i G c n _ r b S2 => K G nx L (jI (G c n r (b + i.toNatClampNeg)) :: S2)) G
    | .iastore => je_i1 S (fun x S0 => je_ald 0 S0 (fun i G c n _ r b S2 => K (je_set G c n r (upd (G c n r) (b + i.toNatClampNeg) x)) nx L S2) G)
    | .bastore => je_i1 S (fun x S0 => je_ald 1 S0 (fun i G c n _ r b S2 => (x = 0 ∨ x = 1) ∧ K (je_set G c n r (upd (G c n r) (b + i.toNatClampNeg) x)) nx L S2) G)
    | .aaload => je_i1 S (fun i S1 => je_c1 S1 (fun c _ k S2 => match k with
      | 0 => False
      | j + 1 => match je_Ra c j with
        | some q => vp_in i q.1 ∧ K G nx L (jR (1, q.2 + i.toNatClampNeg, 0) :: S2)
        | none => False))
    | .invokestatic _ => match b with
      | 1 => je_i2 S (fun y x S1 => je_bb (Nat.ble (je_sm S1) 8) (K G nx L (jI (if x < y then y else x) :: S1)))
      | 2 => je_i2 S (fun y x S1 => je_bb (Nat.ble (je_sm S1) 8) (K G nx L (jI (if y < x then y else x) :: S1)))
      | _ => False
    | .ireturn => je_i1 S (fun x S1 => match S1 with
      | [] => je_zz (Nat.beq rt 2) x (je_bb (Nat.blt 0 rt && Nat.blt rt 3) (Rt G (some (jI x))))
      | _ => False)
    | .areturn => je_r1 S (fun x S1 => match S1 with
      | [] => je_bb (Nat.beq rt 3) (Rt G (some (.inr (.inr x))))
      | _ => False)
    | .return_ => match S with
      | [] => je_bb (Nat.beq rt 0) (Rt G none)
      | _ => False
    | _ => False
def je_look : List (Nat × je_I) → Nat → Option je_I
  | [], _ => none
  | q :: t, pc => match Nat.beq q.1 pc with
    | true => some q.2
    | false => je_look t pc
/-- n steps; where the table says nothing (a call) the walk stands -/
def je_run (tbl : List (Nat × je_I)) (rt : Nat) (J : je_K) (Rt : je_G → Option je_V → Prop) : Nat → je_K
  | 0, G, pc, L, S => J G pc L S
  | n + 1, G, pc, L, S => match je_look tbl pc with
    | none => J G pc L S
    | some t => je_step t rt (je_run tbl rt J Rt n) Rt G L S
