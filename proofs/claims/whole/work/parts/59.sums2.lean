/-! SUMS: what a minute does to the people -/
theorem i_sw {x y z : Int32} : x + y + z = x + z + y := by rw [Int32.add_assoc, Int32.add_comm y z, ← Int32.add_assoc]
theorem i_as {x y : Int32} : x + (y - x) = y := by rw [Int32.add_comm, Int32.sub_add_cancel]
theorem isum_upd {f : Nat → Int32} {a : Nat} {v : Int32} : ∀ n, a < n → isum (fun c => if c = a then v else f c) n = isum f n + (v - f a)
  | 0, h => absurd h (Nat.not_lt_zero a)
  | n + 1, h => by
    show isum (fun c => if c = a then v else f c) n + (if n = a then v else f n) = isum f n + f n + (v - f a)
    by_cases e : n = a
    · subst e
      rw [if_pos rfl, isum_cong (g := f) (fun k hk => if_neg (by omega)), Int32.add_assoc, i_as]
    · rw [if_neg e, isum_upd n (by omega), i_sw]
theorem ppl_c {s : Sg} {c : Nat} {v : Int32} (hc : c < 35) : ppl (upd s (21 + c) v) = ppl s + (v - s (21 + c)) := by
  unfold ppl
  rw [← isum_upd (f := fun c => s (21 + c)) 35 hc]
  refine isum_cong (fun k hk => ?_)
  unfold upd
  by_cases e : k = c
  · rw [if_pos e, if_pos (by omega)]
  · rw [if_neg e, if_neg (by omega)]
theorem ppl_i {s : Sg} {i : Nat} {v : Int32} (hi : i < 21 ∨ 56 ≤ i) : ppl (upd s i v) = ppl s := by
  unfold ppl
  exact isum_cong (fun k hk => upd_ne (by omega))
theorem shu_c {g s : Sg} {c : Nat} {v : Int32} (hg : g c ≠ -6) : shu g (upd s (21 + c) v) = shu g s := by
  unfold shu
  refine isum_cong (fun k hk => ?_)
  by_cases e : k = c
  · subst e; rw [if_neg hg, if_neg hg]
  · rw [upd_ne (by omega)]
theorem shu_i {g s : Sg} {i : Nat} {v : Int32} (hi : i < 21 ∨ 56 ≤ i) : shu g (upd s i v) = shu g s := by
  unfold shu
  exact isum_cong (fun k hk => by rw [upd_ne (by omega)])
theorem i_z1 {x m : Int32} : x - m - x = - m := by
  rw [Int32.sub_eq_add_neg, Int32.sub_eq_add_neg, Int32.add_comm, ← Int32.add_assoc, Int32.add_left_neg, Int32.zero_add]
theorem i_z2 {x m : Int32} : x + m - x = m := by
  rw [Int32.add_comm, Int32.add_sub_cancel]
theorem ppl_go1 {q : Sg × Sg} {c o : Nat} (hc : c < 35) (ho : o < 35) (hne : o ≠ c) : ppl (go1 q c o).1 = ppl q.1 := by
  simp only [go1]
  generalize (if q.1 0 - q.1 (21 + o) < q.1 (21 + c) - q.2 c then q.1 0 - q.1 (21 + o) else q.1 (21 + c) - q.2 c) = m
  have key : ppl (upd (upd q.1 (21 + c) (q.1 (21 + c) - m)) (21 + o) (upd q.1 (21 + c) (q.1 (21 + c) - m) (21 + o) + m)) = ppl q.1 := by
    rw [ppl_c ho, ppl_c hc, i_z1, i_z2, Int32.add_assoc, Int32.add_left_neg, Int32.add_zero]
  split
  · exact key
  · show ppl (upd (upd _ _ _) _ _) = _
    rw [ppl_i (by omega), ppl_i (by omega)]
    exact key
theorem shu_go1 {g : Sg} {q : Sg × Sg} {c o : Nat} (hc : g c ≠ -6) (ho : g o ≠ -6) : shu g (go1 q c o).1 = shu g q.1 := by
  simp only [go1]
  generalize (if q.1 0 - q.1 (21 + o) < q.1 (21 + c) - q.2 c then q.1 0 - q.1 (21 + o) else q.1 (21 + c) - q.2 c) = m
  split
  · show shu g (upd (upd _ _ _) _ _) = _
    rw [shu_c ho, shu_c hc]
  · show shu g (upd (upd (upd (upd _ _ _) _ _) _ _) _ _) = _
    rw [shu_i (by omega), shu_i (by omega), shu_c ho, shu_c hc]
theorem ppl_los {σ : Sg} {d : Nat} (hd : d < 4) (hc : dcell σ d < 35) : ppl (los σ d) = ppl σ - lom σ d := by
  unfold los
  by_cases h : σ (13 + d) = 0
  · rw [if_pos h]
    unfold lom
    rw [if_pos h]
    exact (Int32.sub_zero _).symm
  · rw [if_neg h, ppl_i (by omega), ppl_c hc, i_z1, Int32.sub_eq_add_neg]
theorem shu_los {g σ : Sg} {d : Nat} (hd : d < 4) (hc : ¬ σ (13 + d) = 0 → g (dcell σ d) ≠ -6) : shu g (los σ d) = shu g σ := by
  unfold los
  by_cases h : σ (13 + d) = 0
  · rw [if_pos h]
  · rw [if_neg h, shu_i (by omega), shu_c (hc h)]
theorem ppl_ds {σ : Sg} (hs : ∀ d, d < 4 → dcell σ d < 35) : ∀ d, d ≤ 4 → ppl (ds σ d).1 = ppl σ - (ds σ d).2
  | 0, _ => (Int32.sub_zero _).symm
  | d + 1, hd => by
    have ih := ppl_ds hs d (by omega)
    have e := (ds_at hs (i := 0) (by omega) d (by omega)).2 d (by omega)
    show ppl (los (ds σ d).1 d) = ppl σ - ((ds σ d).2 + lom (ds σ d).1 d)
    rw [ppl_los (by omega) (by rw [e]; exact hs d (by omega)), ih]
    simp only [Int32.sub_eq_add_neg, Int32.neg_add, Int32.add_assoc]
theorem shu_ds {g σ : Sg} (hs : ∀ d, d < 4 → dcell σ d < 35) (hg : ∀ d, d < 4 → ¬ σ (13 + d) = 0 → g (dcell σ d) ≠ -6) : ∀ d, d ≤ 4 → shu g (ds σ d).1 = shu g σ
  | 0, _ => rfl
  | d + 1, hd => by
    have ih := shu_ds hs hg d (by omega)
    have e := ds_at hs (i := 13 + d) (by omega) d (by omega)
    show shu g (los (ds σ d).1 d) = _
    rw [shu_los (by omega) (by rw [e.1, e.2 d (by omega)]; exact hg d (by omega)), ih]
theorem ppl_trs {ν : Nat → Nat} : ∀ (L : List Nat) (q : Sg × Sg), (∀ c ∈ L, c < 35 ∧ ν c < 35 ∧ ν c ≠ c) → ppl (L.foldl (fun q c => go1 q c (ν c)) q).1 = ppl q.1
  | [], q, _ => rfl
  | c :: L, q, h => by
    obtain ⟨h1, h2, h3⟩ := h c List.mem_cons_self
    rw [List.foldl_cons, ppl_trs L _ (fun c hc => h c (List.mem_cons_of_mem _ hc)), ppl_go1 h1 h2 h3]
theorem shu_trs {g : Sg} {ν : Nat → Nat} : ∀ (L : List Nat) (q : Sg × Sg), (∀ c ∈ L, g c ≠ -6 ∧ g (ν c) ≠ -6) → shu g (L.foldl (fun q c => go1 q c (ν c)) q).1 = shu g q.1
  | [], q, _ => rfl
  | c :: L, q, h => by
    obtain ⟨h1, h2⟩ := h c List.mem_cons_self
    rw [List.foldl_cons, shu_trs L _ (fun c hc => h c (List.mem_cons_of_mem _ hc)), shu_go1 h1 h2]
theorem dc_tick {σ : Sg} {d : Nat} (hd : d < 4) : dcell (tick σ) d = dcell σ d := by
  unfold dcell
  rw [tick_ne (by omega)]
theorem ppl_mnt {σ : Sg} {ν : Nat → Nat} {L : List Nat} (hs : ∀ d, d < 4 → dcell σ d < 35) (h : ∀ c ∈ L, c < 35 ∧ ν c < 35 ∧ ν c ≠ c) : ppl (mnt ν L σ) = ppl σ - outs σ := by
  unfold mnt trs
  rw [ppl_trs L _ h, ppl_ds (fun d hd => by rw [dc_tick hd]; exact hs d hd) 4 (Nat.le_refl _)]
  unfold tick
  rw [ppl_i (by omega)]
  rfl
theorem shu_mnt {g σ : Sg} {ν : Nat → Nat} {L : List Nat} (hs : ∀ d, d < 4 → dcell σ d < 35) (h : ∀ c ∈ L, g c ≠ -6 ∧ g (ν c) ≠ -6) (hg : ∀ d, d < 4 → ¬ σ (13 + d) = 0 → g (dcell σ d) ≠ -6) : shu g (mnt ν L σ) = shu g σ := by
  unfold mnt trs
  rw [shu_trs L _ h]
  show shu g (ds (tick σ) 4).1 = _
  rw [shu_ds (fun d hd => by rw [dc_tick hd]; exact hs d hd) (fun d hd => by rw [dc_tick hd, tick_ne (by omega)]; exact hg d hd) 4 (Nat.le_refl _)]
  unfold tick
  rw [shu_i (by omega)]
