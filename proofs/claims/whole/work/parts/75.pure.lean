/-! WHAT EVERY OPERATION KEEPS -/
def Good (σ : Sg) : Prop := InvS 9999 σ ∧ InvR σ
def Inv (S : jS) : Prop := Good S.1 ∧ (∀ i, i < S.2.1 → Good (S.2.2.1 i)) ∧ ∀ i, i < 2 → S.2.2.2.1 i = true → Good (S.2.2.2.2.1 i)
theorem Inv_rec {S : jS} (h : Inv S) : Inv (rec6 S) := by
  obtain ⟨σ, k, hs, sv, sl, len, pad⟩ := S
  obtain ⟨h1, h2, h3⟩ := h
  refine ⟨h1, fun i hi => ?_, h3⟩
  show Good (if i = 0 then σ else hs (i - 1))
  have hi2 : i < if k < 6 then k + 1 else 6 := hi
  by_cases h0 : i = 0
  · rw [if_pos h0]; exact h1
  · rw [if_neg h0]
    exact h2 (i - 1) (show i - 1 < k by split at hi2 <;> omega)
theorem Inv_wS {S : jS} {σ : Sg} (h : Inv S) (hσ : Good σ) : Inv (wS S σ) := ⟨hσ, h.2.1, h.2.2⟩
theorem Inv_undo {S : jS} (h : Inv S) : Inv (F_undo S).2 := by
  obtain ⟨σ, k, hs, sv, sl, len, pad⟩ := S
  unfold F_undo
  dsimp only
  by_cases h0 : k = 0
  · rw [if_pos h0]; exact h
  · rw [if_neg h0]
    exact ⟨h.2.1 0 (show 0 < k by omega), fun i hi => h.2.1 (i + 1) (show i + 1 < k by have : i < k - 1 := hi; omega), h.2.2⟩
theorem Inv_save {S : jS} (h : Inv S) (x : Int32) : Inv (F_save S x).2 := by
  obtain ⟨σ, k, hs, sv, sl, len, pad⟩ := S
  unfold F_save
  dsimp only
  split
  · refine ⟨h.1, h.2.1, fun i hi hs => ?_⟩
    show Good (if i = x.toNatClampNeg then σ else sl i)
    by_cases e : i = x.toNatClampNeg
    · rw [if_pos e]; exact h.1
    · rw [if_neg e]
      refine h.2.2 i hi ?_
      have h2 : (if i = x.toNatClampNeg then true else sv i) = true := hs
      rw [if_neg e] at h2
      exact h2
  · exact h
theorem Inv_restore {S : jS} (h : Inv S) (x : Int32) : Inv (F_restore S x).2 := by
  unfold F_restore
  split
  · rename_i hv
    split
    · rename_i hs
      obtain ⟨i, hi, rfl⟩ := vp_in_of hv (by omega)
      have hcl : (nI i).toNatClampNeg = i := nI_clamp (by omega)
      rw [hcl] at hs ⊢
      exact Inv_wS (Inv_rec h) (h.2.2 i hi hs)
    · exact h
  · exact h
theorem Inv_wipe {S : jS} (h : Inv S) : Inv (F_wipe S).2 := by
  obtain ⟨σ, k, hs, sv, sl, len, pad⟩ := S
  exact h
theorem Inv_put {S : jS} (h : Inv S) (x : Int64) : Inv (F_put S x).2 := by
  obtain ⟨σ, k, hs, sv, sl, len, pad⟩ := S
  unfold F_put
  dsimp only
  split
  · exact h
  · split <;> exact h
theorem rps_ne {σ : Sg} {i : Nat} {v : Int32} (h : i < 91) : rps (upd σ i v) = rps σ := by
  unfold rps
  exact isum_cong (fun k hk => by rw [upd_ne (by omega)])
theorem InvR_ne {σ : Sg} {i : Nat} {v : Int32} (h : i < 91) (hI : InvR σ) : InvR (upd σ i v) := by
  obtain ⟨r, h1, h2⟩ := hI
  exact ⟨r, h1, by rw [rps_ne h]; exact h2⟩
theorem nI_rng {x : Int32} {a b : Nat} (h1 : ¬ x < nI a) (h2 : x ≤ nI b) (hb : b < 2 ^ 31) (hab : a ≤ b) : ∃ n, x = nI n ∧ a ≤ n ∧ n ≤ b := by
  have h0 : ¬ x < nI 0 := fun h => h1 (fa_trans h (by exact (nI_leI (by omega) (by omega)).mpr (Nat.zero_le _)))
  obtain ⟨n, hn, rfl⟩ := nI_of h0
  refine ⟨n, rfl, ?_, (nI_leI hn hb).mp h2⟩
  by_cases h : a ≤ n
  · exact h
  · exact absurd ((nI_ltI hn (by omega)).mpr (by omega)) h1
theorem Inv_setRoom {S : jS} (h : Inv S) (x : Int32) : Inv (F_setRoom S x).2 := by
  unfold F_setRoom
  split
  · exact h
  · rename_i h1
    split
    · exact h
    · rename_i h2
      obtain ⟨n, rfl, hn1, hn2⟩ := nI_rng (fun h => h1 (Or.inl h)) (Classical.byContradiction fun h => h1 (Or.inr h)) (by omega) (by omega)
      have h3 := ((imax_le 35).mp (Classical.byContradiction fun h => h2 h)).2
      refine Inv_wS (Inv_rec h) ⟨?_, InvR_ne (by omega) h.1.2⟩
      obtain ⟨rm, t, p, o, g1, g2, g3, g4, g5, g6, g7, g8, g9⟩ := h.1.1
      have hk : ∀ i, i ≠ 0 → upd S.1 0 (nI n) i = S.1 i := fun i hi => upd_ne hi
      refine ⟨n, t, p, o, ⟨hn1, hn2, upd_eq⟩, by rw [hk 1 (by omega)]; exact g2, fun c hc => ⟨by rw [hk _ (by omega)]; exact (g3 c hc).1, ?_⟩, fun d hd => by rw [hk _ (by omega)]; exact g4 d hd, fun d hd => by rw [hk _ (by omega)]; exact g5 d hd, fun d hd => by rw [hk _ (by omega)]; exact g6 d hd, fun d hd => by rw [hk _ (by omega)]; exact g7 d hd, fun d hd => by rw [hk _ (by omega)]; exact g8 d hd, fun d hd => by rw [hk _ (by omega)]; exact g9 d hd⟩
      have h4 := h3 c hc
      rw [(g3 c hc).1] at h4
      exact (nI_leI (by have := (g3 c hc).2; omega) (by omega)).mp h4
theorem Inv_door {S : jS} (h : Inv S) (x c ρ : Int32) : Inv (F_door S x c ρ).2 := by
  unfold F_door
  split
  · exact h
  · rename_i h1
    split
    · exact h
    · rename_i h2
      have hx : vp_in x 4 ∧ vp_in c 35 := Classical.byContradiction fun h => h1 h
      obtain ⟨d, hd, rfl⟩ := vp_in_of hx.1 (by omega)
      have hcl : (nI d).toNatClampNeg = d := nI_clamp (by omega)
      obtain ⟨n, rfl, hn1, hn2⟩ := nI_rng (fun h => h2 (Or.inl h)) (Classical.byContradiction fun h => h2 (Or.inr h)) (by omega) (by omega)
      rw [hcl]
      refine Inv_wS (Inv_rec h) ⟨?_, InvR_ne (by omega) (InvR_ne (by omega) h.1.2)⟩
      obtain ⟨rm, t, p, o, g1, g2, g3, g4, g5, g6, g7, g8, g9⟩ := h.1.1
      have hk : ∀ i, i ≠ 5 + d → i ≠ 9 + d → upd (upd S.1 (5 + d) c) (9 + d) (nI n) i = S.1 i := fun i hi h2 => by rw [upd_ne h2, upd_ne hi]
      refine ⟨rm, t, p, o, by rw [hk 0 (by omega) (by omega)]; exact g1, by rw [hk 1 (by omega) (by omega)]; exact g2, fun c hc => by rw [hk _ (by omega) (by omega)]; exact g3 c hc, fun e he => ?_, fun e he => ?_, fun d hd => by rw [hk _ (by omega) (by omega)]; exact g6 d hd, fun d hd => by rw [hk _ (by omega) (by omega)]; exact g7 d hd, fun d hd => by rw [hk _ (by omega) (by omega)]; exact g8 d hd, fun d hd => by rw [hk _ (by omega) (by omega)]; exact g9 d hd⟩
      · by_cases e1 : e = d
        · subst e1
          rw [upd_ne (by omega), upd_eq]
          exact hx.2
        · rw [hk _ (by omega) (by omega)]; exact g4 e he
      · by_cases e1 : e = d
        · subst e1
          rw [upd_eq]
          exact ⟨n, rfl, hn1, hn2⟩
        · rw [hk _ (by omega) (by omega)]; exact g5 e he
theorem Inv_open {S : jS} (h : Inv S) (x o : Int32) (h01 : o = 0 ∨ o = 1) : Inv (F_open S x o).2 := by
  unfold F_open
  split
  · exact h
  · rename_i h1
    split
    · exact h
    · have hx : vp_in x 4 := Classical.byContradiction fun h => h1 h
      obtain ⟨d, hd, rfl⟩ := vp_in_of hx (by omega)
      have hcl : (nI d).toNatClampNeg = d := nI_clamp (by omega)
      rw [hcl]
      refine Inv_wS (Inv_rec h) ⟨?_, InvR_ne (by omega) h.1.2⟩
      obtain ⟨rm, t, p, oo, g1, g2, g3, g4, g5, g6, g7, g8, g9⟩ := h.1.1
      have hk : ∀ i, i ≠ 13 + d → upd S.1 (13 + d) o i = S.1 i := fun i hi => upd_ne hi
      refine ⟨rm, t, p, oo, by rw [hk 0 (by omega)]; exact g1, by rw [hk 1 (by omega)]; exact g2, fun c hc => by rw [hk _ (by omega)]; exact g3 c hc, fun d hd => by rw [hk _ (by omega)]; exact g4 d hd, fun d hd => by rw [hk _ (by omega)]; exact g5 d hd, fun e he => ?_, fun d hd => by rw [hk _ (by omega)]; exact g7 d hd, fun d hd => by rw [hk _ (by omega)]; exact g8 d hd, fun d hd => by rw [hk _ (by omega)]; exact g9 d hd⟩
      by_cases e1 : e = d
      · subst e1
        rw [upd_eq]
        exact h01
      · rw [hk _ (by omega)]; exact g6 e he
theorem Inv_guard {S : jS} (h : Inv S) (x g : Int32) : Inv (F_guard S x g).2 := by
  unfold F_guard
  split
  · exact h
  · rename_i h1
    split
    · exact h
    · rename_i h2
      have hx : vp_in x 35 := Classical.byContradiction fun h => h1 h
      obtain ⟨c, hc, rfl⟩ := vp_in_of hx (by omega)
      have hcl : (nI c).toNatClampNeg = c := nI_clamp (by omega)
      rw [hcl]
      refine Inv_wS (Inv_rec h) ⟨?_, InvR_ne (by omega) h.1.2⟩
      obtain ⟨rm, t, p, oo, g1, g2, g3, g4, g5, g6, g7, g8, g9⟩ := h.1.1
      have hk : ∀ i, i ≠ 56 + c → upd S.1 (56 + c) g i = S.1 i := fun i hi => upd_ne hi
      refine ⟨rm, t, p, oo, by rw [hk 0 (by omega)]; exact g1, by rw [hk 1 (by omega)]; exact g2, fun c hc => by rw [hk _ (by omega)]; exact g3 c hc, fun d hd => by rw [hk _ (by omega)]; exact g4 d hd, fun d hd => by rw [hk _ (by omega)]; exact g5 d hd, fun d hd => by rw [hk _ (by omega)]; exact g6 d hd, fun d hd => by rw [hk _ (by omega)]; exact g7 d hd, fun e he => ?_, fun d hd => by rw [hk _ (by omega)]; exact g9 d hd⟩
      by_cases e1 : e = c
      · subst e1
        rw [upd_eq]
        exact Classical.byContradiction fun h => h2 h
      · rw [hk _ (by omega)]; exact g8 e he
/-- more people in a cell, as many as there is room -/
theorem InvS_in {T : Nat} {σ : Sg} {c k : Nat} {v : Int32} (hc : c < 35) (h : InvS T σ) (hk : ∀ p rm, σ (21 + c) = nI p → σ 0 = nI rm → p ≤ rm → rm ≤ 20 → p + k ≤ rm) : InvS T (upd (upd σ (21 + c) (σ (21 + c) + nI k)) 2 v) := by
  obtain ⟨rm, t, p, oo, g1, g2, g3, g4, g5, g6, g7, g8, g9⟩ := h
  have hn : ∀ i, i ≠ 21 + c → i ≠ 2 → upd (upd σ (21 + c) (σ (21 + c) + nI k)) 2 v i = σ i := fun i hi h2 => by rw [upd_ne h2, upd_ne hi]
  refine ⟨rm, t, fun e => if e = c then p c + k else p e, oo, by rw [hn 0 (by omega) (by omega)]; exact g1, by rw [hn 1 (by omega) (by omega)]; exact g2, fun e he => ?_, fun d hd => by rw [hn _ (by omega) (by omega)]; exact g4 d hd, fun d hd => by rw [hn _ (by omega) (by omega)]; exact g5 d hd, fun d hd => by rw [hn _ (by omega) (by omega)]; exact g6 d hd, fun d hd => by rw [hn _ (by omega) (by omega)]; exact g7 d hd, fun d hd => by rw [hn _ (by omega) (by omega)]; exact g8 d hd, fun d hd => by rw [hn _ (by omega) (by omega)]; exact g9 d hd⟩
  dsimp only
  by_cases e1 : e = c
  · subst e1
    rw [upd_ne (by omega), upd_eq, if_pos rfl, (g3 e he).1, nI_add]
    exact ⟨rfl, hk (p e) rm (g3 e he).1 g1.2.2 (g3 e he).2 g1.2.1⟩
  · rw [hn _ (by omega) (by omega), if_neg e1]
    exact g3 e he
theorem Inv_enter {S : jS} (h : Inv S) (x m : Int32) : Inv (F_enter S x m).2 := by
  unfold F_enter
  split
  · exact h
  · rename_i h1
    split
    · exact h
    · rename_i h2
      split
      · exact h
      · rename_i h3
        have hx : vp_in x 35 := Classical.byContradiction fun h => h1 h
        obtain ⟨c, hc, rfl⟩ := vp_in_of hx (by omega)
        have hcl : (nI c).toNatClampNeg = c := nI_clamp (by omega)
        obtain ⟨n, rfl, hn1, hn2⟩ := nI_rng (fun h => h2 (Or.inl h)) (Classical.byContradiction fun h => h2 (Or.inr h)) (by omega) (by omega)
        rw [hcl] at h3 ⊢
        have h4 : S.1 (21 + c) + nI n ≤ S.1 0 := Classical.byContradiction fun h => h3 h
        refine Inv_wS (Inv_rec h) ⟨InvS_in hc h.1.1 (fun p rm e1 e2 e3 e4 => ?_), InvR_ne (by omega) (InvR_ne (by omega) h.1.2)⟩
        rw [e1, e2, nI_add] at h4
        exact (nI_leI (by omega) (by omega)).mp h4
theorem Good_inl {σ : Sg} {c m : Nat} (hc : c < 35) (hm : m < 1000) (h : Good σ) : Good (inl σ (c, m)) := by
  have hI := h.1
  obtain ⟨rm, t, p, oo, g1, g2, g3, g4⟩ := hI
  have hpc := g3 c hc
  have hk : (if σ 0 - σ (21 + c) < nI m then σ 0 - σ (21 + c) else nI m) = nI (if rm - p c < m then rm - p c else m) := by
    rw [g1.2.2, hpc.1, pk_sub hpc.2]
    by_cases h2 : rm - p c < m
    · rw [if_pos h2, if_pos ((nI_ltI (by omega) (by omega)).mpr h2)]
    · rw [if_neg h2, if_neg (fun h => h2 ((nI_ltI (by omega) (by omega)).mp h))]
  have e : inl σ (c, m) = upd (upd σ (21 + c) (σ (21 + c) + nI (if rm - p c < m then rm - p c else m))) 2 (σ 2 + nI (if rm - p c < m then rm - p c else m)) := by
    rw [inl_2 hc, hk]
  rw [e]
  refine ⟨InvS_in hc h.1 (fun p' rm' e1 e2 e3 e4 => ?_), InvR_ne (by omega) (InvR_ne (by omega) h.2)⟩
  have a1 : rm = rm' := (nI_eq (by omega) (by omega)).mp (g1.2.2.symm.trans e2)
  have a2 : p c = p' := (nI_eq (by omega) (by omega)).mp (hpc.1.symm.trans e1)
  split <;> omega
