/-! THE WORLD: cells lie apart; what a store changes -/
theorem je_Ar_lt {c j : Nat} {x : Nat × Nat × Nat × Nat} (h : je_Ar c j = some x) : c < 7 ∧ j < 16 := by
  unfold je_Ar at h
  split at h <;> (first | (cases h; done) | (split at h <;> first | (cases h; done) | exact ⟨by decide, by decide⟩))
def je_inA (c j r i : Nat) : Prop := ∃ t len b, je_Ar c j = some (t, len, r, b) ∧ b ≤ i ∧ i < b + len
def je_chA (c j j' : Nat) : Bool := (je_Ar c j).all fun x => (je_Ar c j').all fun y => decide (j' = j ∨ x.2.2.1 ≠ y.2.2.1 ∨ x.2.2.2 + x.2.1 ≤ y.2.2.2 ∨ y.2.2.2 + y.2.1 ≤ x.2.2.2)
theorem je_chA_all : ∀ c : Fin 7, ∀ j j' : Fin 16, je_chA c.val j.val j'.val = true := by decide +kernel
theorem je_apA {c j j' t len r b i : Nat} (h : je_Ar c j = some (t, len, r, b)) (hi : i < len) (h2 : je_inA c j' r (b + i)) : j' = j := by
  obtain ⟨hc, hj⟩ := je_Ar_lt h
  obtain ⟨t', len', b', hx, e1, e2⟩ := h2
  have hk := je_chA_all ⟨c, hc⟩ ⟨j, hj⟩ ⟨j', (je_Ar_lt hx).2⟩
  simp only [je_chA, h, hx, Option.all_some, decide_eq_true_eq] at hk
  rcases hk with hk | hk | hk | hk
  · exact hk
  · exact absurd rfl hk
  · omega
  · omega
/-- the places of an object's own numbers -/
def je_pF (c : Nat) : List (Option (Nat × Nat)) := match c with
  | 1 => [some (0, 0), some (0, 1), some (0, 2), some (0, 3), some (0, 4)]
  | 3 => [some (0, 0)]
  | 4 => [none, none, none, none, none, some (5, 0)]
  | 5 => [none, none, none, none, none, none, none, none, some (8, 0), some (9, 0)]
  | 6 => [none, none, none, some (3, 0), none, none, none, some (7, 0), none, none, none, none, none, none, some (14, 0), some (15, 0)]
  | _ => []
theorem je_pF_of {c n k : Nat} {q : Nat × Nat} (h : je_nth (je_F c n) k = some (.inl q)) : c < 7 ∧ k < 16 ∧ je_nth (je_pF c) k = some (some q) := by
  unfold je_F at h
  split at h <;>
    (rcases k with _ | _ | _ | _ | _ | _ | _ | _ | _ | _ | _ | _ | _ | _ | _ | _ | k <;>
      first
        | (simp [je_nth] at h; done)
        | (simp only [je_nth, Option.some.injEq, Sum.inl.injEq] at h; subst h; exact ⟨by decide, by decide, rfl⟩))
def je_chF (c k k' : Nat) : Bool := (je_nth (je_pF c) k).all fun x => (je_nth (je_pF c) k').all fun y => x.all fun x => y.all fun y => decide (k = k' ∨ x ≠ y)
theorem je_chF_all : ∀ c : Fin 7, ∀ k k' : Fin 16, je_chF c.val k.val k'.val = true := by decide +kernel
theorem je_apF {c n k k' : Nat} {q : Nat × Nat} (h : je_nth (je_F c n) k = some (.inl q)) (h2 : je_nth (je_F c n) k' = some (.inl q)) : k = k' := by
  obtain ⟨hc, hk, e⟩ := je_pF_of h
  obtain ⟨-, hk', e'⟩ := je_pF_of h2
  have hx := je_chF_all ⟨c, hc⟩ ⟨k, hk⟩ ⟨k', hk'⟩
  simp only [je_chF, e, e', Option.all_some, decide_eq_true_eq] at hx
  rcases hx with hx | hx
  · exact hx
  · exact absurd rfl hx
def je_chX (c k j : Nat) : Bool := (je_nth (je_pF c) k).all fun x => x.all fun x => (je_Ar c j).all fun y => decide (x.1 ≠ y.2.2.1 ∨ x.2 < y.2.2.2 ∨ y.2.2.2 + y.2.1 ≤ x.2)
theorem je_chX_all : ∀ c : Fin 7, ∀ k j : Fin 16, je_chX c.val k.val j.val = true := by decide +kernel
theorem je_apX {c n k j : Nat} {q : Nat × Nat} (h : je_nth (je_F c n) k = some (.inl q)) : ¬ je_inA c j q.1 q.2 := by
  intro ⟨t, len, b, hx, e1, e2⟩
  obtain ⟨hc, hk, e⟩ := je_pF_of h
  have hy := je_chX_all ⟨c, hc⟩ ⟨k, hk⟩ ⟨j, (je_Ar_lt hx).2⟩
  simp only [je_chX, e, hx, Option.all_some, decide_eq_true_eq] at hy
  rcases hy with hy | hy | hy
  · exact absurd rfl hy
  · omega
  · omega
theorem je_set_ne {G : je_G} {c n r c' n' r' : Nat} {f : Nat → Int32} (h : ¬ (c' = c ∧ n' = n ∧ r' = r)) : je_set G c n r f c' n' r' = G c' n' r' := by
  unfold je_set
  rw [if_neg]
  intro ⟨⟨h1, h2⟩, h3⟩
  exact h ⟨h2, h3, h1⟩
theorem je_set_eq {G : je_G} {c n r : Nat} {f : Nat → Int32} : je_set G c n r f c n r = f := by
  unfold je_set
  rw [if_pos ⟨⟨rfl, rfl⟩, rfl⟩]
/-- a store at one place -/
abbrev je_up (G : je_G) (c n r i : Nat) (x : Int32) : je_G := je_set G c n r (upd (G c n r) i x)
theorem je_up_ne {G : je_G} {c n r i c' n' r' i' : Nat} {x : Int32} (h : ¬ (c' = c ∧ n' = n ∧ r' = r ∧ i' = i)) : je_up G c n r i x c' n' r' i' = G c' n' r' i' := by
  by_cases h1 : c' = c ∧ n' = n ∧ r' = r
  · obtain ⟨rfl, rfl, rfl⟩ := h1
    show je_set _ _ _ _ _ _ _ _ _ = _
    rw [je_set_eq]
    unfold upd
    rw [if_neg (fun e => h ⟨rfl, rfl, rfl, e⟩)]
  · show je_set _ _ _ _ _ _ _ _ _ = _
    rw [je_set_ne h1]
theorem je_up_eq {G : je_G} {c n r i : Nat} {x : Int32} : je_up G c n r i x c n r i = x := by
  show je_set _ _ _ _ _ _ _ _ _ = _
  rw [je_set_eq]
  unfold upd
  rw [if_pos rfl]
/-- a cell's content rests on its own places alone -/
theorem je_E_ext {ad : je_C → Nat} {cA : Nat → ClassId} {G G' : je_G} {c n k : Nat} (hF : ∀ j q, k = 0 → je_nth (je_F c n) j = some (.inl q) → G c n q.1 q.2 = G' c n q.1 q.2) (hA : ∀ j r i, k = j + 1 → je_inA c j r i → G c n r i = G' c n r i) : je_E ad cA G c n k = je_E ad cA G' c n k := by
  cases k with
  | zero =>
    show (Sum.inr (c, (je_F c n).map (je_fv ad G c n)) : va_E) = Sum.inr (c, (je_F c n).map (je_fv ad G' c n))
    congr 2
    have key : ∀ (l : List ((Nat × Nat) ⊕ je_C)), (∀ j q, je_nth l j = some (.inl q) → G c n q.1 q.2 = G' c n q.1 q.2) → l.map (je_fv ad G c n) = l.map (je_fv ad G' c n) := by
      intro l
      induction l with
      | nil => intro _; rfl
      | cons a t ih =>
        intro h
        rw [List.map_cons, List.map_cons, ih (fun j q hq => h (j + 1) q hq)]
        congr 1
        cases a with
        | inl q =>
          show Value.int _ = Value.int _
          rw [h 0 q rfl]
        | inr q => rfl
    exact key _ (fun j q hq => hF j q rfl hq)
  | succ j =>
    simp only [je_E]
    cases hx : je_Ar c j with
    | none => rfl
    | some x =>
      obtain ⟨t, len, r, b⟩ := x
      have e : je_arr G c n len r b = je_arr G' c n len r b := by
        funext i
        unfold je_arr
        by_cases hi : i < len
        · rw [if_pos hi, if_pos hi]
          exact hA j r (b + i) rfl ⟨t, len, b, hx, by omega, by omega⟩
        · rw [if_neg hi, if_neg hi]
      simp only [e]
theorem je_W_ext {D : va_G} {ad : je_C → Nat} {cA : Nat → ClassId} {G G' : je_G} {H : Heap} (h : je_W D ad cA G H) (hF : ∀ c n j q, n < je_cnt c → je_nth (je_F c n) j = some (.inl q) → G c n q.1 q.2 = G' c n q.1 q.2) (hA : ∀ c n j r i, n < je_cnt c → je_inA c j r i → G c n r i = G' c n r i) : je_W D ad cA G' H := by
  intro q hq
  rw [← je_E_ext (G := G) (fun j p _ hp => hF _ _ j p hq.1 hp) (fun j r i _ hi => hA _ _ j r i hq.1 hi)]
  exact h q hq
/-- the world behind a store into one cell -/
theorem je_W_set {D : va_G} {ad : je_C → Nat} {cA : Nat → ClassId} {G G' : je_G} {H H1 : Heap} (hJ : je_inj ad) (h : je_W D ad cA G H) {q : je_C} (hq : je_ok q) (h1 : va_at D vwCl (ad q, je_E ad cA G' q.1 q.2.1 q.2.2) H1) (oq : ∀ a, a ≠ ad q → H1[a]? = H[a]?)
    (hE : ∀ q' : je_C, je_ok q' → q' ≠ q → je_E ad cA G q'.1 q'.2.1 q'.2.2 = je_E ad cA G' q'.1 q'.2.1 q'.2.2) : je_W D ad cA G' H1 := by
  intro q' hq'
  by_cases e : q' = q
  · subst e
    exact h1
  · rw [← hE q' hq' e]
    exact (h q' hq').kept (oq (ad q') (fun e2 => e (hJ q' q hq' hq e2)))
theorem je_upA_E {ad : je_C → Nat} {cA : Nat → ClassId} {G : je_G} {c n j t len r b i : Nat} {x : Int32} (h : je_Ar c j = some (t, len, r, b)) (hi : i < len) (q' : je_C) (hne : q' ≠ (c, n, j + 1)) : je_E ad cA G q'.1 q'.2.1 q'.2.2 = je_E ad cA (je_up G c n r (b + i) x) q'.1 q'.2.1 q'.2.2 := by
  obtain ⟨c', n', k'⟩ := q'
  refine je_E_ext (fun j' p hk hp => ?_) (fun j' r' i' hk hp => ?_)
  · refine (je_up_ne ?_).symm
    intro ⟨e1, e2, e3, e4⟩
    dsimp only at e1 e2 hp
    subst e1
    exact je_apX hp ⟨t, len, b, by rw [e3]; exact h, by omega, by omega⟩
  · refine (je_up_ne ?_).symm
    intro ⟨e1, e2, e3, e4⟩
    dsimp only at e1 e2 hp hk
    subst e1; subst e2; subst e3; subst e4
    have := je_apA h hi hp
    subst this
    exact hne (by rw [hk])
theorem je_upF_E {ad : je_C → Nat} {cA : Nat → ClassId} {G : je_G} {c n k : Nat} {q : Nat × Nat} {x : Int32} (h : je_nth (je_F c n) k = some (.inl q)) (q' : je_C) (hne : q' ≠ (c, n, 0)) : je_E ad cA G q'.1 q'.2.1 q'.2.2 = je_E ad cA (je_up G c n q.1 q.2 x) q'.1 q'.2.1 q'.2.2 := by
  obtain ⟨c', n', k'⟩ := q'
  refine je_E_ext (fun j' p hk hp => ?_) (fun j' r' i' hk hp => ?_)
  · refine (je_up_ne ?_).symm
    intro ⟨e1, e2, e3, e4⟩
    dsimp only at e1 e2 hp hk
    exact hne (by rw [e1, e2, hk])
  · refine (je_up_ne ?_).symm
    intro ⟨e1, e2, e3, e4⟩
    dsimp only at e1 e2 hp hk
    subst e1; subst e2; subst e3; subst e4
    exact je_apX h hp
theorem je_upF_fs {ad : je_C → Nat} {G : je_G} {c n k : Nat} {q : Nat × Nat} {x : Int32} (h : je_nth (je_F c n) k = some (.inl q)) : (je_F c n).map (je_fv ad (je_up G c n q.1 q.2 x) c n) = ((je_F c n).map (je_fv ad G c n)).set k (.int x) := by
  have key : ∀ (l : List ((Nat × Nat) ⊕ je_C)) (k : Nat), je_nth l k = some (.inl q) → (∀ j, je_nth l j = some (.inl q) → j = k) → l.map (je_fv ad (je_up G c n q.1 q.2 x) c n) = (l.map (je_fv ad G c n)).set k (.int x) := by
    intro l
    induction l with
    | nil => intro k h; cases h
    | cons a t ih =>
      intro k h hu
      cases k with
      | zero =>
        cases h
        rw [List.map_cons, List.map_cons, List.set_cons_zero]
        have e1 : je_fv ad (je_up G c n q.1 q.2 x) c n (.inl q) = .int x := by
          show Value.int _ = _
          rw [je_up_eq]
        rw [e1]
        congr 1
        refine List.map_congr_left (fun b hb => ?_)
        cases b with
        | inr z => rfl
        | inl z =>
          show Value.int _ = Value.int _
          rw [je_up_ne]
          intro ⟨_, _, e3, e4⟩
          have hz : z = q := Prod.ext e3 e4
          subst hz
          have : ∀ (t : List ((Nat × Nat) ⊕ je_C)), Sum.inl z ∈ t → ∃ j, je_nth t j = some (.inl z) := by
            intro t
            induction t with
            | nil => intro h; cases h
            | cons w t ih2 =>
              intro h
              rcases List.mem_cons.mp h with h | h
              · exact ⟨0, by rw [← h]; rfl⟩
              · obtain ⟨j, hj⟩ := ih2 h
                exact ⟨j + 1, hj⟩
          obtain ⟨j, hj⟩ := this t hb
          have := hu (j + 1) hj
          omega
      | succ k =>
        rw [List.map_cons, List.map_cons, List.set_cons_succ, ih k h (fun j hj => by have := hu (j + 1) hj; omega)]
        congr 1
        cases a with
        | inr z => rfl
        | inl z =>
          show Value.int _ = Value.int _
          rw [je_up_ne]
          intro ⟨_, _, e3, e4⟩
          have hz : z = q := Prod.ext e3 e4
          subst hz
          have := hu 0 rfl
          omega
  exact key _ k h (fun j hj => je_apF hj h)
theorem je_nth_map {α β : Type} (f : α → β) : ∀ (l : List α) (k : Nat) {v : α}, je_nth l k = some v → (l.map f)[k]? = some (f v)
  | [], k, v, h => by cases h
  | a :: t, 0, v, h => by cases h; rfl
  | a :: t, k + 1, v, h => by
    rw [List.map_cons, List.getElem?_cons_succ]
    exact je_nth_map f t k h
theorem je_P1 {D : va_G} {cl : List vw_C} {q : Nat × va_E} {H : Heap} (h : va_at D cl q H) : va_P D cl [q] H := by
  intro k q' hk
  cases k with
  | zero => cases hk; exact h
  | succ k => simp at hk
-- ===== locals =====
theorem je_get_mem {ad : je_C → Nat} {v : je_V} : ∀ (L : List (Option je_V)) (a i : Nat), je_get L a = some v → (i + a, je_e ad v) ∈ je_eL ad i L
  | [], a, i, h => by cases h
  | w :: t, 0, i, h => by
    cases (show w = some v from h)
    exact List.mem_cons_self
  | w :: t, a + 1, i, h => by
    have := je_get_mem (ad := ad) t a (i + 1) h
    rw [show i + (a + 1) = i + 1 + a by omega]
    cases w with
    | none => exact this
    | some w => exact List.mem_cons_of_mem _ this
theorem je_mem_get {ad : je_C → Nat} {q : Nat × Value} : ∀ (L : List (Option je_V)) (i : Nat), q ∈ je_eL ad i L → ∃ a v, je_get L a = some v ∧ q = (i + a, je_e ad v)
  | [], i, h => by cases h
  | none :: t, i, h => by
    obtain ⟨a, v, h1, h2⟩ := je_mem_get t (i + 1) h
    exact ⟨a + 1, v, h1, by rw [h2, show i + (a + 1) = i + 1 + a by omega]⟩
  | some w :: t, i, h => by
    rcases List.mem_cons.mp h with h | h
    · exact ⟨0, w, rfl, h⟩
    · obtain ⟨a, v, h1, h2⟩ := je_mem_get t (i + 1) h
      exact ⟨a + 1, v, h1, by rw [h2, show i + (a + 1) = i + 1 + a by omega]⟩
theorem je_get_in {v : je_V} : ∀ (L : List (Option je_V)) (a : Nat), je_get L a = some v → some v ∈ L
  | [], a, h => by cases h
  | w :: t, 0, h => by
    cases (show w = some v from h)
    exact List.mem_cons_self
  | w :: t, a + 1, h => List.mem_cons_of_mem _ (je_get_in t a h)
theorem je_in_get {v : je_V} : ∀ (L : List (Option je_V)), some v ∈ L → ∃ a, je_get L a = some v
  | [], h => by cases h
  | w :: t, h => by
    rcases List.mem_cons.mp h with h | h
    · exact ⟨0, h.symm⟩
    · obtain ⟨a, ha⟩ := je_in_get t h
      exact ⟨a + 1, ha⟩
theorem je_put_inv {v : Option je_V} : ∀ (L : List (Option je_V)) (a : Nat) (F : List (Option je_V) → Prop), je_put L a v F → ∃ L', F L' ∧ a < L.length ∧ L'.length = L.length ∧ ∀ j, je_get L' j = if j = a then v else je_get L j
  | [], a, F, h => by cases h
  | w :: t, 0, F, h => by
    refine ⟨v :: t, h, by simp, by simp, fun j => ?_⟩
    cases j with
    | zero => rfl
    | succ j => rw [if_neg (by omega)]; rfl
  | w :: t, a + 1, F, h => by
    obtain ⟨t', h1, h2, h3, h4⟩ := je_put_inv t a _ h
    refine ⟨w :: t', h1, by simp; exact h2, by simp [h3], fun j => ?_⟩
    cases j with
    | zero => rw [if_neg (by omega)]; rfl
    | succ j =>
      show je_get t' j = _
      rw [h4 j]
      by_cases hj : j = a
      · rw [if_pos hj, if_pos (by omega)]
      · rw [if_neg hj, if_neg (by omega)]; rfl
theorem je_nl_ok {L : List (Option je_V)} {a j : Nat} {v : je_V} (h : je_nl L a = true) (hj : j + 1 = a) (hg : je_get L j = some v) (ad : je_C → Nat) : ((je_e ad v).category == 2) = false := by
  subst hj
  unfold je_nl at h
  simp only [hg] at h
  rcases v with x | x | x
  · rfl
  · cases h
  · cases x <;> rfl
theorem lv_mono {ls : Array Slot} {n : Nat} {l l' : List (Nat × Value)} (h : lv_has ls n l) (hs : ∀ q ∈ l', q ∈ l) : lv_has ls n l' := ⟨h.1, h.2.1, fun q hq => h.2.2 q (hs q hq)⟩
theorem je_st1 {ad : je_C → Nat} {L L' : List (Option je_V)} {a : Nat} {v : je_V} (hn : je_nl L a = true) (hg : ∀ j, je_get L' j = if j = a then some v else je_get L j) : ∀ q ∈ je_eL ad 0 L', q ∈ (a, je_e ad v) :: (je_eL ad 0 L).filter (fun q => !(q.1 == a) && !(q.1 + 1 == a && q.2.category == 2)) := by
  intro q hq
  obtain ⟨j, w, h1, h2⟩ := je_mem_get L' 0 hq
  rw [hg j] at h1
  subst h2
  rw [Nat.zero_add]
  by_cases hj : j = a
  · rw [if_pos hj] at h1
    cases h1
    rw [hj]
    exact List.mem_cons_self
  · rw [if_neg hj] at h1
    refine List.mem_cons_of_mem _ (List.mem_filter.mpr ⟨by have := je_get_mem (ad := ad) L j 0 h1; rwa [Nat.zero_add] at this, ?_⟩)
    have e1 : (j == a) = false := by simp [hj]
    by_cases hj2 : j + 1 = a
    · have e2 := je_nl_ok hn hj2 h1 ad
      simp only [e1, e2, Bool.and_false, Bool.not_false, Bool.and_true]
    · have e2 : (j + 1 == a) = false := by simp [hj2]
      simp only [e1, e2, Bool.false_and, Bool.not_false, Bool.and_true]
theorem je_st2 {ad : je_C → Nat} {L L1 L2 : List (Option je_V)} {a : Nat} {v : je_V} (hn : je_nl L a = true) (hg : ∀ j, je_get L1 j = if j = a then some v else je_get L j) (hg2 : ∀ j, je_get L2 j = if j = a + 1 then none else je_get L1 j) : ∀ q ∈ je_eL ad 0 L2, q ∈ (a, je_e ad v) :: (je_eL ad 0 L).filter (fun q => !(q.1 == a) && (!(q.1 == a + 1) && !(q.1 + 1 == a && q.2.category == 2))) := by
  intro q hq
  obtain ⟨j, w, h1, h2⟩ := je_mem_get L2 0 hq
  rw [hg2 j] at h1
  subst h2
  rw [Nat.zero_add]
  by_cases hj3 : j = a + 1
  · rw [if_pos hj3] at h1
    cases h1
  rw [if_neg hj3, hg j] at h1
  by_cases hj : j = a
  · rw [if_pos hj] at h1
    cases h1
    rw [hj]
    exact List.mem_cons_self
  · rw [if_neg hj] at h1
    refine List.mem_cons_of_mem _ (List.mem_filter.mpr ⟨by have := je_get_mem (ad := ad) L j 0 h1; rwa [Nat.zero_add] at this, ?_⟩)
    have e1 : (j == a) = false := by simp [hj]
    have e3 : (j == a + 1) = false := by simp [hj3]
    by_cases hj2 : j + 1 = a
    · have e2 := je_nl_ok hn hj2 h1 ad
      simp only [e1, e2, e3, Bool.and_false, Bool.not_false, Bool.and_true]
    · have e2 : (j + 1 == a) = false := by simp [hj2]
      simp only [e1, e2, e3, Bool.false_and, Bool.not_false, Bool.and_true]
