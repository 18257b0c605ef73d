/-! THE WORLD AT THE START: what both constructors leave is the world of ids, and both sides hold the same state -/
theorem xb6_eq (ad : je_C → Nat) (cA : Nat → ClassId) : (blkc 6 0).map (xF ad cA) = xb cA 6 (fun k => ad (6, 0, k)) := rfl
def adW (ad : je_C → Nat) (f : Nat → Nat) : je_C → Nat := fun q => match q.1 with
  | 6 => f q.2.2
  | _ => ad q
theorem ids5_W (ad : je_C → Nat) (f : Nat → Nat) (cA : Nat → ClassId) : ids5.map (xF (adW ad f) cA) = ids5.map (xF ad cA) := rfl
def ids : List je_C := ids5 ++ blkc 6 0
theorem ids_W (ad : je_C → Nat) (f : Nat → Nat) (cA : Nat → ClassId) : ids.map (xF (adW ad f) cA) = ids5.map (xF ad cA) ++ xb cA 6 f := by
  unfold ids
  rw [List.map_append, ids5_W, xb6_eq]
  rfl
theorem ids_fin : ∀ c : Fin 7, ∀ n : Fin 10, ∀ k : Fin 17, n.val < je_cnt c.val → je_kd c.val k.val = true → (c.val, n.val, k.val) ∈ ids := by decide +kernel
theorem je_cnt_le {c n : Nat} (h : n < je_cnt c) : n < 10 ∧ c < 7 := by
  unfold je_cnt at h
  split at h <;> omega
theorem je_Ra_lt {c j : Nat} {q : Nat × Nat} (h : je_Ra c j = some q) : j < 16 := by
  unfold je_Ra at h
  split at h
  · split at h
    · omega
    · omega
    · cases h
  · cases h
theorem je_kd_lt {c k : Nat} (h : je_kd c k = true) : k < 17 := by
  cases k with
  | zero => omega
  | succ j =>
    have h1 : ((je_Ar c j).isSome || (je_Ra c j).isSome) = true := h
    cases hx : je_Ar c j with
    | some x =>
      have := (je_Ar_lt hx).2
      omega
    | none =>
      cases hy : je_Ra c j with
      | some y =>
        have := je_Ra_lt hy
        omega
      | none =>
        rw [hx, hy] at h1
        cases h1
theorem ids_all (q : je_C) (h : je_ok q) : q ∈ ids := by
  obtain ⟨c, n, k⟩ := q
  obtain ⟨h1, h2⟩ := h
  have hn := je_cnt_le h1
  exact ids_fin ⟨c, hn.2⟩ ⟨n, hn.1⟩ ⟨k, je_kd_lt h2⟩ h1 h2
theorem wd_W {D : va_G} {ad : je_C → Nat} {cA : Nat → ClassId} {H : Heap} (h : va_P D vwCl (ids.map (xF ad cA)) H) : je_W D ad cA je_Gi H := by
  intro q hq
  obtain ⟨i, hi⟩ := List.getElem?_of_mem (ids_all q hq)
  exact h i (xF ad cA q) (by rw [List.getElem?_map, hi]; rfl)
theorem wd_inj {A : Nat → Prop} {ad : je_C → Nat} {cA : Nat → ClassId} (h : va_D A (ids.map (xF ad cA))) : je_inj ad := by
  intro q q' hq hq' e
  obtain ⟨i, hi⟩ := List.getElem?_of_mem (ids_all q hq)
  obtain ⟨j, hj⟩ := List.getElem?_of_mem (ids_all q' hq')
  have := h.1 i j (xF ad cA q) (xF ad cA q') (by rw [List.getElem?_map, hi]; rfl) (by rw [List.getElem?_map, hj]; rfl) e
  subst this
  exact Option.some.inj (hi.symm.trans hj)
theorem wd_A {A : Nat → Prop} {ad : je_C → Nat} {cA : Nat → ClassId} (h : va_D A (ids.map (xF ad cA))) : ∀ q, je_ok q → A (ad q) := by
  intro q hq
  obtain ⟨i, hi⟩ := List.getElem?_of_mem (ids_all q hq)
  exact h.2 i (xF ad cA q) (by rw [List.getElem?_map, hi]; rfl)
-- ===== the state at the start =====
def S0 : jS := (hi0, 0, fun _ => hi0, fun _ => false, fun _ => hi0, 0, fun _ => 0)
theorem Gi1 : je_Gi 1 0 0 = hi0 := if_pos ⟨Or.inl rfl, rfl⟩
theorem Gi6 : je_Gi 6 0 0 = hi0 := if_pos ⟨Or.inr rfl, rfl⟩
theorem GiZ {c n r i : Nat} (h : ¬ ((c = 1 ∨ c = 6) ∧ r = 0)) : je_Gi c n r i = nI 0 := by
  unfold je_Gi
  rw [if_neg h]
  rfl
theorem CR_0 : CR je_Gi S0 := ⟨Gi1, ⟨0, by omega, GiZ (by omega), GiZ (by omega), by omega, fun i hi => absurd hi (by omega)⟩, fun i hi => ⟨GiZ (by omega), fun h => by cases h⟩, GiZ (by omega), by omega, fun j hj => absurd hj (by omega)⟩
theorem MR_0 : MR je_Gi S0 := ⟨Gi6, ⟨GiZ (by omega), by omega, fun i hi => absurd hi (by omega)⟩, fun i hi => ⟨GiZ (by omega), fun h => by cases h⟩, GiZ (by omega), by omega, fun j hj => absurd hj (by omega)⟩
theorem hi_p : ∀ c : Fin 35, hi0 (21 + c.val) = nI 0 := by decide +kernel
theorem hi_d : ∀ d : Fin 4, ¬ (hi0 (5 + d.val) < 0 ∨ 35 ≤ (hi0 (5 + d.val)).toNatClampNeg) := by decide +kernel
theorem hi_r : ∀ d : Fin 4, hi0 (9 + d.val) = nI 1 := by decide +kernel
theorem hi_o : ∀ d : Fin 4, hi0 (13 + d.val) = 0 ∨ hi0 (13 + d.val) = 1 := by decide +kernel
theorem hi_u : ∀ d : Fin 4, hi0 (17 + d.val) = nI 0 := by decide +kernel
theorem hi_g : ∀ c : Fin 35, hi0 (56 + c.val) = -1 := by decide +kernel
theorem hi_e : ∀ e : Fin 70, hi0 (91 + e.val) = 0 := by decide +kernel
theorem hi_rps : rps hi0 = nI 0 := by decide +kernel
theorem Good_0 : Good hi0 := ⟨⟨6, 0, fun _ => 0, fun _ => 0, ⟨by omega, by omega, rfl⟩, ⟨rfl, by omega⟩, fun c hc => ⟨hi_p ⟨c, hc⟩, Nat.zero_le _⟩, fun d hd => hi_d ⟨d, hd⟩, fun d hd => ⟨1, hi_r ⟨d, hd⟩, by omega, by omega⟩, fun d hd => hi_o ⟨d, hd⟩, fun d hd => ⟨hi_u ⟨d, hd⟩, Nat.zero_le _⟩, fun c hc => Or.inl (hi_g ⟨c, hc⟩), fun e he => Or.inl (hi_e ⟨e, he⟩)⟩, 0, by omega, hi_rps⟩
theorem Inv_0 : Inv S0 := ⟨Good_0, fun i hi => absurd hi (by show ¬ i < 0; omega), fun i _ h => by cases h⟩
