/-! ONE STEP IS SOUND: the propositional step gives the machine's -/
theorem je_i1_inv {S : List je_V} {F : Int32 → List je_V → Prop} (h : je_i1 S F) : ∃ x S', S = jI x :: S' ∧ F x S' := by
  unfold je_i1 at h
  split at h
  · exact ⟨_, _, rfl, h⟩
  · exact h.elim
theorem je_l1_inv {S : List je_V} {F : Int64 → List je_V → Prop} (h : je_l1 S F) : ∃ x S', S = jL x :: S' ∧ F x S' := by
  unfold je_l1 at h
  split at h
  · exact ⟨_, _, rfl, h⟩
  · exact h.elim
theorem je_r1_inv {S : List je_V} {F : Option je_C → List je_V → Prop} (h : je_r1 S F) : ∃ x S', S = .inr (.inr x) :: S' ∧ F x S' := by
  unfold je_r1 at h
  split at h
  · exact ⟨_, _, rfl, h⟩
  · exact h.elim
theorem je_v1_inv {S : List je_V} {F : je_V → List je_V → Prop} (h : je_v1 S F) : ∃ v S', S = v :: S' ∧ F v S' ∧ ∀ ad : je_C → Nat, (je_e ad v).category = 1 := by
  unfold je_v1 at h
  split at h
  · exact ⟨_, _, rfl, h, fun ad => rfl⟩
  · rename_i x S'
    exact ⟨_, _, rfl, h, fun ad => by cases x <;> rfl⟩
  · exact h.elim
theorem je_i2_inv {S : List je_V} {F : Int32 → Int32 → List je_V → Prop} (h : je_i2 S F) : ∃ y x S', S = jI y :: jI x :: S' ∧ F y x S' := by
  obtain ⟨y, S1, e, h⟩ := je_i1_inv h
  obtain ⟨x, S2, e2, h⟩ := je_i1_inv h
  subst e; subst e2
  exact ⟨y, x, S2, rfl, h⟩
theorem je_l2_inv {S : List je_V} {F : Int64 → Int64 → List je_V → Prop} (h : je_l2 S F) : ∃ y x S', S = jL y :: jL x :: S' ∧ F y x S' := by
  obtain ⟨y, S1, e, h⟩ := je_l1_inv h
  obtain ⟨x, S2, e2, h⟩ := je_l1_inv h
  subst e; subst e2
  exact ⟨y, x, S2, rfl, h⟩
theorem je_c1_inv {S : List je_V} {F : Nat → Nat → Nat → List je_V → Prop} (h : je_c1 S F) : ∃ c n k S', S = jR (c, n, k) :: S' ∧ F c n k S' := by
  obtain ⟨x, S1, e, h⟩ := je_r1_inv h
  cases x with
  | none => exact h.elim
  | some q => exact ⟨q.1, q.2.1, q.2.2, S1, e, h⟩
theorem je_gi_inv {o : Option je_V} {F : Int32 → Prop} (h : je_gi o F) : ∃ x, o = some (jI x) ∧ F x := by
  unfold je_gi at h
  split at h
  · exact ⟨_, rfl, h⟩
  · exact h.elim
theorem je_gl_inv {o : Option je_V} {F : Int64 → Prop} (h : je_gl o F) : ∃ x, o = some (jL x) ∧ F x := by
  unfold je_gl at h
  split at h
  · exact ⟨_, rfl, h⟩
  · exact h.elim
theorem je_gr_inv {o : Option je_V} {F : Option je_C → Prop} (h : je_gr o F) : ∃ x, o = some (.inr (.inr x)) ∧ F x := by
  unfold je_gr at h
  split at h
  · exact ⟨_, rfl, h⟩
  · exact h.elim
theorem je_bb_inv {b : Bool} {P : Prop} (h : je_bb b P) : b = true ∧ P := by
  cases b with
  | true => exact ⟨rfl, h⟩
  | false => exact h.elim
theorem je_zz_inv {b : Bool} {x : Int32} {P : Prop} (h : je_zz b x P) : (b = true → x = 0 ∨ x = 1) ∧ P := by
  cases b with
  | true => exact ⟨fun _ => h.1, h.2⟩
  | false => exact ⟨fun h => (by cases h), h⟩
theorem je_ald_inv {t : Nat} {S : List je_V} {F : Int32 → je_G → Nat → Nat → Nat → Nat → Nat → List je_V → Prop} {G : je_G} (h : je_ald t S F G) : ∃ i c n j len r b S', S = jI i :: jR (c, n, j + 1) :: S' ∧ je_Ar c j = some (t, len, r, b) ∧ vp_in i len ∧ F i G c n len r b S' := by
  obtain ⟨i, S1, e, h⟩ := je_i1_inv h
  obtain ⟨c, n, k, S2, e2, h⟩ := je_c1_inv h
  cases k with
  | zero => exact h.elim
  | succ j =>
    try dsimp only at h
    cases hx : je_Ar c j with
    | none => rw [hx] at h; exact h.elim
    | some x =>
      obtain ⟨t', len, r, b⟩ := x
      rw [hx] at h
      have h5 : je_bb (Nat.beq t t') (vp_in i len ∧ F i G c n len r b S2) := h
      obtain ⟨hb, h6⟩ := je_bb_inv h5
      have ht : t = t' := Nat.eq_of_beq_eq_true hb
      subst ht; subst e; subst e2
      exact ⟨i, c, n, j, len, r, b, S2, rfl, hx, h6.1, h6.2⟩
/-- what the instruction of a row is, and what it links -/
def je_okI (own : String) (cc : ByteArray) (Ts : List Jvm.Cond) (pc : Nat) (t : je_I) : Prop :=
  match t with
  | (i, nx, a, b, tg, v) => decode cc pc = .ok (i, nx - pc) ∧ match i with
    | .iconst n => nx = pc + 1 ∧ Int32.ofInt n = v
    | .bipush n => nx = pc + 2 ∧ (Int8.ofInt n).toInt32 = v
    | .sipush n => nx = pc + 3 ∧ (Int16.ofInt n).toInt32 = v
    | .ldc_w k => nx = pc + 3 ∧ Jvm.Cond.constant own k v ∈ Ts
    | .lconst n => nx = pc + 1 ∧ (n : Nat) = a
    | .ldc2_w k => nx = pc + 3 ∧ Jvm.Cond.constantLong own k (Int64.ofNat a) ∈ Ts
    | .iload_n k => nx = pc + 1 ∧ (k : Nat) = a
    | .iload k => nx = pc + 2 ∧ k = a
    | .lload_n k => nx = pc + 1 ∧ (k : Nat) = a
    | .aload_n k => nx = pc + 1 ∧ (k : Nat) = a
    | .istore_n k => nx = pc + 1 ∧ (k : Nat) = a
    | .istore k => nx = pc + 2 ∧ k = a
    | .lstore_n k => nx = pc + 1 ∧ (k : Nat) = a
    | .iinc k n => nx = pc + 3 ∧ k = a ∧ Int32.ofInt n = v
    | .ifCond _ off => nx = pc + 3 ∧ (pc : Int) + off = (a : Int)
    | .if_icmp _ off => nx = pc + 3 ∧ (pc : Int) + off = (a : Int)
    | .goto off => (nx = pc + 3) ∧ (pc : Int) + off = (a : Int)
    | .ifnull off => nx = pc + 3 ∧ (pc : Int) + off = (a : Int)
    | .tableswitch d lo hi offs => pc < nx ∧ (pc : Int) + d = (a : Int) ∧ (tg.length : Int) = hi - lo + 1 ∧ -1000 < lo ∧ hi < 1000 ∧ ∀ j : Fin tg.length, (tg[j.val]).2 = Int32.ofInt (lo + (j.val : Int)) ∧ ∃ off : Int, offs[j.val]? = some off ∧ (pc : Int) + off = ((tg[j.val]).1 : Int)
    | .getfield k => nx = pc + 3 ∧ match vwCl[a]? with
      | some r => b < r.2.2 ∧ Jvm.Cond.fieldLink own k (r.2.1 b).1 (r.2.1 b).2.1 (r.2.1 b).2.2.1 ∈ Ts ∧ ∀ w ∈ u_ws r.1 r.2.1 r.2.2, w ∈ Ts
      | none => False
    | .putfield k => nx = pc + 3 ∧ match vwCl[a]? with
      | some r => b < r.2.2 ∧ Jvm.Cond.fieldLink own k (r.2.1 b).1 (r.2.1 b).2.1 (r.2.1 b).2.2.1 ∈ Ts ∧ (∀ w ∈ u_ws r.1 r.2.1 r.2.2, w ∈ Ts) ∧ (r.2.1 b).2.2.2 = false ∧ parseFieldDescriptor (r.2.1 b).2.2.1 = some (match je_isZ a b with | true => .boolean | false => .int)
      | none => False
    | .invokestatic k => nx = pc + 3 ∧ Jvm.Cond.initialized "java/lang/Math" ∈ Ts ∧ match b with
      | 1 => Jvm.Cond.methodLink own k Lib.Math.max.name ∈ Ts ∧ Jvm.Cond.static Lib.Math.max.name ∈ Ts ∧ Jvm.Cond.code Lib.Math.max.name Lib.Math.max.code 2 (some .int) ∈ Ts
      | 2 => Jvm.Cond.methodLink own k Lib.Math.min.name ∈ Ts ∧ Jvm.Cond.static Lib.Math.min.name ∈ Ts ∧ Jvm.Cond.code Lib.Math.min.name Lib.Math.min.code 2 (some .int) ∈ Ts
      | _ => False
    | _ => nx = pc + 1
def je_oks (S : List je_V) : Prop := ∀ q, jR q ∈ S → je_ok q
def je_okL (L : List (Option je_V)) : Prop := ∀ q, some (jR q) ∈ L → je_ok q
theorem je_oks_tl {v : je_V} {S : List je_V} (h : je_oks (v :: S)) : je_oks S := fun q hq => h q (List.mem_cons_of_mem _ hq)
theorem je_oks_hd {q : je_C} {S : List je_V} (h : je_oks (jR q :: S)) : je_ok q := h q List.mem_cons_self
theorem je_oks_i {x : Int32} {S : List je_V} (h : je_oks S) : je_oks (jI x :: S) := fun q hq => by
  rcases List.mem_cons.mp hq with h1 | h1
  · cases h1
  · exact h q h1
theorem je_oks_l {x : Int64} {S : List je_V} (h : je_oks S) : je_oks (jL x :: S) := fun q hq => by
  rcases List.mem_cons.mp hq with h1 | h1
  · cases h1
  · exact h q h1
theorem je_oks_r {p : je_C} {S : List je_V} (hp : je_ok p) (h : je_oks S) : je_oks (jR p :: S) := fun q hq => by
  rcases List.mem_cons.mp hq with h1 | h1
  · cases h1; exact hp
  · exact h q h1
theorem je_oks_n {S : List je_V} (h : je_oks S) : je_oks (jN :: S) := fun q hq => by
  rcases List.mem_cons.mp hq with h1 | h1
  · cases h1
  · exact h q h1
theorem je_okL_put {L L' : List (Option je_V)} {a : Nat} {v : Option je_V} (h : je_okL L) (hv : ∀ q, v = some (jR q) → je_ok q) (hg : ∀ j, je_get L' j = if j = a then v else je_get L j) : je_okL L' := by
  intro q hq
  obtain ⟨j, hj⟩ := je_in_get L' hq
  rw [hg j] at hj
  by_cases e : j = a
  · rw [if_pos e] at hj
    exact hv q hj
  · rw [if_neg e] at hj
    exact h q (je_get_in L j hj)
/-- the judgement: from here the machine comes to Q, whatever the heap is that holds the world, whatever the slots are that hold the locals -/
def je_J (p : Program) (l : Launch) (e : Env) (R : Room) (s : State) (m : MethodId) (args : Array Value) (below : List Frame) (meth : Method) (c : Code) (cells slots : Nat) (Q : State → Prop) (D : va_G) (ad : je_C → Nat) (cA : Nat → ClassId) (nL : Nat) (H0 : Heap) : je_K := fun G pc L S =>
  L.length ≤ nL → je_okL L → je_oks S → ∀ (H : Heap) (locs : List Loc) (ls : Array Slot), je_W D ad cA G H → va_S (je_A ad) H0 H locs → lv_has ls nL (je_eL ad 0 L) → W p l e R s m args below meth c H locs cells slots Q (F0 m pc ls (S.map (je_e ad)))
theorem je_cat_e (ad : je_C → Nat) (v : je_V) : (je_e ad v).category = je_cat v := by
  rcases v with x | x | x
  · rfl
  · rfl
  · cases x <;> rfl
theorem je_sm_e (ad : je_C → Nat) : ∀ S : List je_V, ((S.map (je_e ad)).map fun v => v.category).sum = je_sm S
  | [] => rfl
  | v :: t => by
    rw [List.map_cons, List.map_cons, List.sum_cons, je_sm_e ad t, je_cat_e]
    rfl
theorem je_look_mem : ∀ (tbl : List (Nat × je_I)) (pc : Nat) {t : je_I}, je_look tbl pc = some t → (pc, t) ∈ tbl
  | [], pc, t, h => by cases h
  | q :: tbl, pc, t, h => by
    unfold je_look at h
    split at h
    · rename_i hb
      have := Nat.eq_of_beq_eq_true hb
      cases h
      subst this
      exact List.mem_cons_self
    · exact List.mem_cons_of_mem _ (je_look_mem tbl pc h)
theorem je_tys {r : vw_C} {a : Nat} (h : vwCl[a]? = some r) : (∃ ty : Nat → FieldType, ∀ k, k < r.2.2 → parseFieldDescriptor (r.2.1 k).2.2.1 = some (ty k)) ∧ (∀ x, x < r.2.2 → ∀ y, y < r.2.2 → x ≠ y → (r.2.1 x).2.1 ≠ (r.2.1 y).2.1) := by
  match a, h with
  | 0, h => cases h; exact ⟨⟨tyX0, tyX0_ok⟩, nmX0⟩
  | 1, h => cases h; exact ⟨⟨tyX1, tyX1_ok⟩, nmX1⟩
  | 2, h => cases h; exact ⟨⟨tyX2, tyX2_ok⟩, nmX2⟩
  | 3, h => cases h; exact ⟨⟨tyX3, tyX3_ok⟩, nmX3⟩
  | 4, h => cases h; exact ⟨⟨tyX4, tyX4_ok⟩, nmX4⟩
  | 5, h => cases h; exact ⟨⟨tyX5, tyX5_ok⟩, nmX5⟩
  | 6, h => cases h; exact ⟨⟨tyX6, tyX6_ok⟩, nmX6⟩
  | a + 7, h => simp [vwCl] at h
theorem je_F_ok {c n j : Nat} {q : je_C} (hn : n < je_cnt c) (h : je_nth (je_F c n) j = some (.inr q)) : je_ok q := by
  unfold je_F at h
  split at h <;>
    (rcases j with _ | _ | _ | _ | _ | _ | _ | _ | _ | _ | _ | _ | _ | _ | _ | _ | j <;>
      first
        | (simp [je_nth] at h; done)
        | (simp only [je_nth, Option.some.injEq, Sum.inr.injEq] at h; subst h; first | exact ⟨hn, rfl⟩ | exact ⟨by decide, rfl⟩))
theorem je_Ra_ok {c j i : Nat} {q : Nat × Nat} (h : je_Ra c j = some q) (hi : i < q.1) : je_ok (1, q.2 + i, 0) := by
  unfold je_Ra at h
  split at h
  · split at h
    · cases h
      exact ⟨by show 1 + i < 10; dsimp only at hi; omega, rfl⟩
    · cases h
      exact ⟨by show 7 + i < 10; dsimp only at hi; omega, rfl⟩
    · cases h
  · cases h
theorem je_Ra_E {ad : je_C → Nat} {cA : Nat → ClassId} {G : je_G} {c n j : Nat} {q : Nat × Nat} (h : je_Ra c j = some q) : je_E ad cA G c n (j + 1) = .inl (cA 2, q.1, .inr (.inr (.inr (.inr (fun i => some (ad (1, q.2 + i, 0))))))) := by
  unfold je_Ra at h
  split at h
  · split at h
    · cases h; rfl
    · cases h; rfl
    · cases h
  · cases h
theorem je_Ar_E {ad : je_C → Nat} {cA : Nat → ClassId} {G : je_G} {c n j t len r b : Nat} (h : je_Ar c j = some (t, len, r, b)) : je_E ad cA G c n (j + 1) = .inl (cA t, len, .inl (je_arr G c n len r b)) := by
  simp only [je_E, h]
