/-! RopedHalls$Hall: what a hall's methods answer and change -/
theorem je_for {P : Nat → Prop} (N : Nat) (h0 : P N) (hs : ∀ k, k < N → P (k + 1) → P k) : ∀ k, k ≤ N → P k := by
  have key : ∀ j k, k + j = N → P k := by
    intro j
    induction j with
    | zero => intro k hk; rw [show k = N by omega]; exact h0
    | succ j ih => intro k hk; exact hs k (by omega) (ih (k + 1) (by omega))
  exact fun k hk => key (N - k) k (by omega)
theorem je_set_set {G : je_G} {c n r : Nat} {f g : Nat → Int32} : je_set (je_set G c n r f) c n r g = je_set G c n r g := by
  funext c' n' r'
  unfold je_set
  by_cases h : (r' = r ∧ c' = c) ∧ n' = n
  · rw [if_pos h, if_pos h]
  · rw [if_neg h, if_neg h, if_neg h]
theorem je_set_id {G : je_G} {c n r : Nat} : je_set G c n r (G c n r) = G := by
  funext c' n' r'
  unfold je_set
  by_cases h : (r' = r ∧ c' = c) ∧ n' = n
  · rw [if_pos h]; obtain ⟨⟨rfl, rfl⟩, rfl⟩ := h; rfl
  · rw [if_neg h]
theorem je_rd {G : je_G} {c n r c' n' r' : Nat} {f : Nat → Int32} : je_set G c n r f c' n' r' = if (r' = r ∧ c' = c) ∧ n' = n then f else G c' n' r' := rfl
def isum (f : Nat → Int32) : Nat → Int32
  | 0 => nI 0
  | k + 1 => isum f k + f k
def imax (f : Nat → Int32) : Nat → Int32
  | 0 => nI 0
  | k + 1 => if imax f k < f k then f k else imax f k
def ior (f : Nat → Int32) : Nat → Int32
  | 0 => nI 0
  | k + 1 => ior f k ||| f k
set_option maxHeartbeats 4000000 in
set_option maxRecDepth 100000 in
theorem c_peopleInside (l : Launch) (G : je_G) (n : Nat) : je_Ci l yX1_peopleInside wsX1_peopleInside rmX1_peopleInside [jR (1, n, 0)] G (fun r G' => G' = G ∧ r = isum (fun c => G 1 n 0 (21 + c)) 35) := by
  refine je_met1 tbX1_peopleInside 1 okX1_peopleInside rfl (by decide +kernel) rfl (by unfold je_ret; simp) (by decide) (Nat.le_of_ble_eq_true rfl) ?_
  intro J hoks hR
  show J G 0 [some (jR (1, n, 0)), none, none] []
  refine hR.2 [4] 400 _ _ _ _ ?_
  conv => whnf
  refine je_for (P := fun k => J G 4 [some (jR (1, n, 0)), some (jI (isum (fun c => G 1 n 0 (21 + c)) k)), some (jI (nI k))] []) 35 ?_ ?_ 0 (Nat.zero_le _)
  · skip
    refine hR.2 [4] 400 _ _ _ _ ?_
    conv => whnf
    refine br_t ((nI_leI (by omega) (by omega)).mpr (by omega)) ?_
    conv => whnf
    exact ⟨_, rfl, rfl, rfl⟩
  · intro k hk ih
    refine hR.2 [4] 400 _ _ _ _ ?_
    conv => whnf
    refine br_f (fun h => absurd ((nI_leI (by omega) (by omega)).mp h) (by omega)) ?_
    conv => whnf
    refine ⟨vp_in_nI (by omega) (by omega), ?_⟩
    conv => whnf
    simp (disch := omega) only [nI_clamp, nI_add]
    exact ih
set_option maxHeartbeats 4000000 in
set_option maxRecDepth 100000 in
theorem c_peopleOut (l : Launch) (G : je_G) (n : Nat) : je_Ci l yX1_peopleOut wsX1_peopleOut rmX1_peopleOut [jR (1, n, 0)] G (fun r G' => G' = G ∧ r = isum (fun c => G 1 n 0 (17 + c)) 4) := by
  refine je_met1 tbX1_peopleOut 1 okX1_peopleOut rfl (by decide +kernel) rfl (by unfold je_ret; simp) (by decide) (Nat.le_of_ble_eq_true rfl) ?_
  intro J hoks hR
  show J G 0 [some (jR (1, n, 0)), none, none] []
  refine hR.2 [4] 400 _ _ _ _ ?_
  conv => whnf
  refine je_for (P := fun k => J G 4 [some (jR (1, n, 0)), some (jI (isum (fun c => G 1 n 0 (17 + c)) k)), some (jI (nI k))] []) 4 ?_ ?_ 0 (Nat.zero_le _)
  · skip
    refine hR.2 [4] 400 _ _ _ _ ?_
    conv => whnf
    refine br_t ((nI_leI (by omega) (by omega)).mpr (by omega)) ?_
    conv => whnf
    exact ⟨_, rfl, rfl, rfl⟩
  · intro k hk ih
    refine hR.2 [4] 400 _ _ _ _ ?_
    conv => whnf
    refine br_f (fun h => absurd ((nI_leI (by omega) (by omega)).mp h) (by omega)) ?_
    conv => whnf
    refine ⟨vp_in_nI (by omega) (by omega), ?_⟩
    conv => whnf
    simp (disch := omega) only [nI_clamp, nI_add]
    exact ih
set_option maxHeartbeats 4000000 in
set_option maxRecDepth 100000 in
theorem c_fullestCell (l : Launch) (G : je_G) (n : Nat) : je_Ci l yX1_fullestCell wsX1_fullestCell rmX1_fullestCell [jR (1, n, 0)] G (fun r G' => G' = G ∧ r = imax (fun c => G 1 n 0 (21 + c)) 35) := by
  refine je_met1 tbX1_fullestCell 1 okX1_fullestCell rfl (by decide +kernel) rfl (by unfold je_ret; simp) (by decide) (Nat.le_of_ble_eq_true rfl) ?_
  intro J hoks hR
  show J G 0 [some (jR (1, n, 0)), none, none] []
  refine hR.2 [4] 400 _ _ _ _ ?_
  conv => whnf
  refine je_for (P := fun k => J G 4 [some (jR (1, n, 0)), some (jI (imax (fun c => G 1 n 0 (21 + c)) k)), some (jI (nI k))] []) 35 ?_ ?_ 0 (Nat.zero_le _)
  · skip
    refine hR.2 [4] 400 _ _ _ _ ?_
    conv => whnf
    refine br_t ((nI_leI (by omega) (by omega)).mpr (by omega)) ?_
    conv => whnf
    exact ⟨_, rfl, rfl, rfl⟩
  · intro k hk ih
    refine hR.2 [4] 400 _ _ _ _ ?_
    conv => whnf
    refine br_f (fun h => absurd ((nI_leI (by omega) (by omega)).mp h) (by omega)) ?_
    conv => whnf
    refine ⟨vp_in_nI (by omega) (by omega), ?_⟩
    conv => whnf
    simp (disch := omega) only [nI_clamp, nI_add]
    exact ih
set_option maxHeartbeats 4000000 in
set_option maxRecDepth 100000 in
theorem c_ropeCount (l : Launch) (G : je_G) (n : Nat) : je_Ci l yX1_ropeCount wsX1_ropeCount rmX1_ropeCount [jR (1, n, 0)] G (fun r G' => G' = G ∧ r = isum (fun c => if G 1 n 0 (91 + c) = 0 then nI 0 else nI 1) 70) := by
  refine je_met1 tbX1_ropeCount 1 okX1_ropeCount rfl (by decide +kernel) rfl (by unfold je_ret; simp) (by decide) (Nat.le_of_ble_eq_true rfl) ?_
  intro J hoks hR
  show J G 0 [some (jR (1, n, 0)), none, none] []
  refine hR.2 [4] 400 _ _ _ _ ?_
  conv => whnf
  refine je_for (P := fun k => J G 4 [some (jR (1, n, 0)), some (jI (isum (fun c => if G 1 n 0 (91 + c) = 0 then nI 0 else nI 1) k)), some (jI (nI k))] []) 70 ?_ ?_ 0 (Nat.zero_le _)
  · skip
    refine hR.2 [4] 400 _ _ _ _ ?_
    conv => whnf
    refine br_t ((nI_leI (by omega) (by omega)).mpr (by omega)) ?_
    conv => whnf
    exact ⟨_, rfl, rfl, rfl⟩
  · intro k hk ih
    refine hR.2 [4] 400 _ _ _ _ ?_
    conv => whnf
    refine br_f (fun h => absurd ((nI_leI (by omega) (by omega)).mp h) (by omega)) ?_
    conv => whnf
    refine ⟨vp_in_nI (by omega) (by omega), ?_⟩
    conv => whnf
    rw [nI_clamp (by omega)]
    refine ⟨fun h => ?_, fun h => ?_⟩
    · conv => whnf
      simp only [isum, if_pos h] at ih
      simp (disch := omega) only [nI_clamp, nI_add]
      exact ih
    · conv => whnf
      simp only [isum, if_neg h] at ih
      simp (disch := omega) only [nI_clamp, nI_add]
      exact ih
set_option maxHeartbeats 4000000 in
set_option maxRecDepth 100000 in
theorem c_guardCount (l : Launch) (G : je_G) (n : Nat) : je_Ci l yX1_guardCount wsX1_guardCount rmX1_guardCount [jR (1, n, 0)] G (fun r G' => G' = G ∧ r = isum (fun c => if G 1 n 0 (56 + c) = -1 then nI 0 else nI 1) 35) := by
  refine je_met1 tbX1_guardCount 1 okX1_guardCount rfl (by decide +kernel) rfl (by unfold je_ret; simp) (by decide) (Nat.le_of_ble_eq_true rfl) ?_
  intro J hoks hR
  show J G 0 [some (jR (1, n, 0)), none, none] []
  refine hR.2 [4] 400 _ _ _ _ ?_
  conv => whnf
  refine je_for (P := fun k => J G 4 [some (jR (1, n, 0)), some (jI (isum (fun c => if G 1 n 0 (56 + c) = -1 then nI 0 else nI 1) k)), some (jI (nI k))] []) 35 ?_ ?_ 0 (Nat.zero_le _)
  · skip
    refine hR.2 [4] 400 _ _ _ _ ?_
    conv => whnf
    refine br_t ((nI_leI (by omega) (by omega)).mpr (by omega)) ?_
    conv => whnf
    exact ⟨_, rfl, rfl, rfl⟩
  · intro k hk ih
    refine hR.2 [4] 400 _ _ _ _ ?_
    conv => whnf
    refine br_f (fun h => absurd ((nI_leI (by omega) (by omega)).mp h) (by omega)) ?_
    conv => whnf
    refine ⟨vp_in_nI (by omega) (by omega), ?_⟩
    conv => whnf
    rw [nI_clamp (by omega)]
    refine ⟨fun h => ?_, fun h => ?_⟩
    · conv => whnf
      simp only [isum, if_neg h] at ih
      simp (disch := omega) only [nI_clamp, nI_add]
      exact ih
    · conv => whnf
      simp only [isum, if_pos h] at ih
      simp (disch := omega) only [nI_clamp, nI_add]
      exact ih
set_option maxHeartbeats 4000000 in
set_option maxRecDepth 100000 in
theorem c_openDoors (l : Launch) (G : je_G) (n : Nat) : je_Ci l yX1_openDoors wsX1_openDoors rmX1_openDoors [jR (1, n, 0)] G (fun r G' => G' = G ∧ r = ior (fun d => if G 1 n 0 (13 + d) = 0 then nI 0 else nI 1 <<< (nI d &&& 31)) 4) := by
  refine je_met1 tbX1_openDoors 1 okX1_openDoors rfl (by decide +kernel) rfl (by unfold je_ret; simp) (by decide) (Nat.le_of_ble_eq_true rfl) ?_
  intro J hoks hR
  show J G 0 [some (jR (1, n, 0)), none, none] []
  refine hR.2 [4] 400 _ _ _ _ ?_
  conv => whnf
  refine je_for (P := fun k => J G 4 [some (jR (1, n, 0)), some (jI (ior (fun d => if G 1 n 0 (13 + d) = 0 then nI 0 else nI 1 <<< (nI d &&& 31)) k)), some (jI (nI k))] []) 4 ?_ ?_ 0 (Nat.zero_le _)
  · skip
    refine hR.2 [4] 400 _ _ _ _ ?_
    conv => whnf
    refine br_t ((nI_leI (by omega) (by omega)).mpr (by omega)) ?_
    conv => whnf
    exact ⟨_, rfl, rfl, rfl⟩
  · intro k hk ih
    refine hR.2 [4] 400 _ _ _ _ ?_
    conv => whnf
    refine br_f (fun h => absurd ((nI_leI (by omega) (by omega)).mp h) (by omega)) ?_
    conv => whnf
    refine ⟨vp_in_nI (by omega) (by omega), ?_⟩
    conv => whnf
    rw [nI_clamp (by omega)]
    refine ⟨fun h => ?_, fun h => ?_⟩
    · conv => whnf
      simp only [ior, if_pos h] at ih
      simp (disch := omega) only [nI_clamp, nI_add]
      exact ih
    · conv => whnf
      simp only [ior, if_neg h] at ih
      simp (disch := omega) only [nI_clamp, nI_add]
      exact ih
/-- unevenness, as the class goes through the doors: most and fewest so far -/
def unv (σ : Sg) : Nat → Int32 × Int32
  | 0 => (-6, -6)
  | d + 1 => if σ (13 + d) = 0 then unv σ d else (if (unv σ d).1 = -6 then σ (17 + d) else if (unv σ d).1 < σ (17 + d) then σ (17 + d) else (unv σ d).1, if (unv σ d).2 = -6 then σ (17 + d) else if σ (17 + d) < (unv σ d).2 then σ (17 + d) else (unv σ d).2)
set_option maxHeartbeats 4000000 in
set_option maxRecDepth 100000 in
theorem c_unevenness (l : Launch) (G : je_G) (n : Nat) : je_Ci l yX1_unevenness wsX1_unevenness rmX1_unevenness [jR (1, n, 0)] G (fun r G' => G' = G ∧ r = (unv (G 1 n 0) 4).1 - (unv (G 1 n 0) 4).2) := by
  refine je_met1 tbX1_unevenness 1 okX1_unevenness rfl (by decide +kernel) rfl (by unfold je_ret; simp) (by decide) (Nat.le_of_ble_eq_true rfl) ?_
  intro J hoks hR
  show J G 0 [some (jR (1, n, 0)), none, none, none] []
  refine hR.2 [8] 400 _ _ _ _ ?_
  conv => whnf
  refine je_for (P := fun k => J G 8 [some (jR (1, n, 0)), some (jI (unv (G 1 n 0) k).1), some (jI (unv (G 1 n 0) k).2), some (jI (nI k))] []) 4 ?_ ?_ 0 (Nat.zero_le _)
  · skip
    refine hR.2 [8] 400 _ _ _ _ ?_
    conv => whnf
    refine br_t ((nI_leI (by omega) (by omega)).mpr (by omega)) ?_
    conv => whnf
    exact ⟨_, rfl, rfl, rfl⟩
  · intro k hk ih
    refine hR.2 [8] 400 _ _ _ _ ?_
    conv => whnf
    refine br_f (fun h => absurd ((nI_leI (by omega) (by omega)).mp h) (by omega)) ?_
    conv => whnf
    refine ⟨vp_in_nI (by omega) (by omega), ?_⟩
    conv => whnf
    rw [nI_clamp (by omega)]
    refine ⟨fun h => ?_, fun h => ?_⟩
    · conv => whnf
      simp only [unv, if_pos h] at ih
      simp (disch := omega) only [nI_clamp, nI_add]
      exact ih
    · conv => whnf
      simp only [unv, if_neg h] at ih
      refine ⟨fun h1 => ?_, fun h1 => ?_⟩
      · conv => whnf
        refine ⟨vp_in_nI (by omega) (by omega), ?_⟩
        conv => whnf
        rw [nI_clamp (by omega)]
        refine ⟨fun h2 => ?_, fun h2 => ?_⟩
        · conv => whnf
          refine ⟨vp_in_nI (by omega) (by omega), ?_⟩
          conv => whnf
          simp only [if_neg h1, if_neg h2] at ih
          simp (disch := omega) only [nI_clamp, nI_add]
          exact ih
        · conv => whnf
          refine ⟨vp_in_nI (by omega) (by omega), ?_⟩
          conv => whnf
          simp only [if_neg h1, if_pos h2] at ih
          simp (disch := omega) only [nI_clamp, nI_add]
          exact ih
      · conv => whnf
        refine ⟨vp_in_nI (by omega) (by omega), ?_⟩
        conv => whnf
        rw [nI_clamp (by omega)]
        refine ⟨fun h2 => ?_, fun h2 => ?_⟩
        · conv => whnf
          refine ⟨vp_in_nI (by omega) (by omega), ?_⟩
          conv => whnf
          simp only [if_pos h1, if_neg h2] at ih
          simp (disch := omega) only [nI_clamp, nI_add]
          exact ih
        · conv => whnf
          refine ⟨vp_in_nI (by omega) (by omega), ?_⟩
          conv => whnf
          simp only [if_pos h1, if_pos h2] at ih
          simp (disch := omega) only [nI_clamp, nI_add]
          exact ih
set_option maxHeartbeats 4000000 in
set_option maxRecDepth 100000 in
theorem c_roomIn (l : Launch) (G : je_G) (n c : Nat) (hc : c < 35) : je_Ci l yX1_roomIn wsX1_roomIn rmX1_roomIn [jR (1, n, 0), jI (nI c)] G (fun r G' => G' = G ∧ r = G 1 n 0 0 - G 1 n 0 (21 + c)) := by
  refine je_met1 tbX1_roomIn 1 okX1_roomIn rfl (by decide +kernel) rfl (by unfold je_ret; simp) (by decide) (Nat.le_of_ble_eq_true rfl) ?_
  intro J hoks hR
  show J G 0 [some (jR (1, n, 0)), some (jI (nI c))] []
  refine hR.2 [] 400 _ _ _ _ ?_
  conv => whnf
  refine je_s1i hR kX1_roomIn_1 rfl (c_isCell l G (nI c)) rfl ?_
  intro y G' hq
  obtain ⟨rfl, ⟨h1, rfl⟩ | ⟨h1, rfl⟩⟩ := hq
  · skip
    refine hR.2 [] 400 _ _ _ _ ?_
    conv => whnf
    refine br_f (by decide) ?_
    conv => whnf
    refine ⟨vp_in_nI (by omega) (by omega), ?_⟩
    conv => whnf
    rw [nI_clamp (by omega)]
    exact ⟨_, rfl, rfl, rfl⟩
  · exact absurd (vp_in_nI hc (by omega)) h1
set_option maxHeartbeats 4000000 in
set_option maxRecDepth 100000 in
theorem c_letIn (l : Launch) (G : je_G) (n c : Nat) (hc : c < 35) (m : Int32) : je_Cv l yX1_letIn wsX1_letIn rmX1_letIn [jR (1, n, 0), jI (nI c), jI m] G (fun G' => G' = je_set G 1 n 0 (upd (upd (G 1 n 0) (21 + c) (G 1 n 0 (21 + c) + m)) 2 (G 1 n 0 2 + m))) := by
  refine je_met1 tbX1_letIn 0 okX1_letIn rfl (by decide +kernel) rfl (by unfold je_ret; simp) (by decide) (Nat.le_of_ble_eq_true rfl) ?_
  intro J hoks hR
  show J G 0 [some (jR (1, n, 0)), some (jI (nI c)), some (jI m)] []
  refine hR.2 [] 400 _ _ _ _ ?_
  conv => whnf
  refine je_s1i hR kX1_letIn_1 rfl (c_isCell l G (nI c)) rfl ?_
  intro y G' hq
  obtain ⟨rfl, ⟨h1, rfl⟩ | ⟨h1, rfl⟩⟩ := hq
  · skip
    refine hR.2 [] 400 _ _ _ _ ?_
    conv => whnf
    refine br_f (by decide) ?_
    conv => whnf
    refine ⟨vp_in_nI (by omega) (by omega), ?_⟩
    conv => whnf
    refine ⟨vp_in_nI (by omega) (by omega), ?_⟩
    conv => whnf
    refine ⟨rfl, ?_⟩
    rw [nI_clamp (by omega)]
    simp only [je_set_set, je_set_eq]
    congr 2
    unfold upd
    rw [if_neg (by omega)]
  · exact absurd (vp_in_nI hc (by omega)) h1
