/-! THE REFERENCE: uneven, a door's people -/
def unm (σ : Sg) : Nat → Int32 × Int32
  | 0 => (-1, -1)
  | d + 1 => if σ (13 + d) = 1 then (if σ (17 + d) ≤ (unm σ d).1 then (unm σ d).1 else σ (17 + d), if (unm σ d).2 < 0 then σ (17 + d) else if (unm σ d).2 ≤ σ (17 + d) then (unm σ d).2 else σ (17 + d)) else unm σ d
set_option maxHeartbeats 4000000 in
set_option maxRecDepth 100000 in
theorem m_unevenX (l : Launch) (G : je_G) : je_Ci l yX6_uneven wsX6_uneven rmX6_uneven [jR (6, 0, 0)] G (fun r G' => G' = G ∧ r = (unm (G 6 0 0) 4).1 - (unm (G 6 0 0) 4).2) := by
  refine je_met1 tbX6_uneven 1 okX6_uneven rfl (by decide +kernel) rfl (by unfold je_ret; simp) (by decide) (Nat.le_of_ble_eq_true rfl) ?_
  intro J hoks hR
  show J G 0 [some (jR (6, 0, 0)), none, none, none] []
  refine hR.2 [6] 400 _ _ _ _ ?_
  conv => whnf
  refine je_for (P := fun k => J G 6 [some (jR (6, 0, 0)), some (jI (unm (G 6 0 0) k).1), some (jI (unm (G 6 0 0) k).2), some (jI (nI k))] []) 4 ?_ ?_ 0 (Nat.zero_le _)
  · skip
    refine hR.2 [6] 400 _ _ _ _ ?_
    conv => whnf
    refine br_t ((nI_leI (by omega) (by omega)).mpr (by omega)) ?_
    conv => whnf
    exact ⟨_, rfl, rfl, rfl⟩
  · intro k hk ih
    refine hR.2 [6] 400 _ _ _ _ ?_
    conv => whnf
    refine br_f (fun h => absurd ((nI_leI (by omega) (by omega)).mp h) (by omega)) ?_
    conv => whnf
    rw [nI_add]
    refine ⟨vp_in_nI (by omega) (by omega), ?_⟩
    conv => whnf
    simp (disch := omega) only [nI_clamp, Nat.zero_add]
    refine ⟨fun h => ?_, fun h => ?_⟩
    · conv => whnf
      have e : unm (G 6 0 0) (k + 1) = unm (G 6 0 0) k := by rw [unm]; exact if_neg h
      rw [e] at ih
      simp (disch := omega) only [nI_clamp, nI_add]
      exact ih
    · conv => whnf
      have e : unm (G 6 0 0) (k + 1) = (if G 6 0 0 (17 + k) ≤ (unm (G 6 0 0) k).1 then (unm (G 6 0 0) k).1 else G 6 0 0 (17 + k), if (unm (G 6 0 0) k).2 < 0 then G 6 0 0 (17 + k) else if (unm (G 6 0 0) k).2 ≤ G 6 0 0 (17 + k) then (unm (G 6 0 0) k).2 else G 6 0 0 (17 + k)) := by rw [unm]; exact if_pos h
      rw [e] at ih
      generalize unm (G 6 0 0) k = p at ih ⊢
      rw [nI_add]
      refine ⟨vp_in_nI (by omega) (by omega), ?_⟩
      conv => whnf
      simp (disch := omega) only [nI_clamp, Nat.zero_add]
      refine ⟨fun h1 => ?_, fun h1 => ?_⟩
      · conv => whnf
        rw [if_pos h1] at ih
        refine ⟨fun h2 => ?_, fun h2 => ?_⟩
        · conv => whnf
          rw [nI_add]
          refine ⟨vp_in_nI (by omega) (by omega), ?_⟩
          conv => whnf
          simp (disch := omega) only [nI_clamp, Nat.zero_add]
          rw [if_pos h2] at ih
          rw [nI_add]
          exact ih
        · conv => whnf
          rw [if_neg h2] at ih
          rw [nI_add]
          refine ⟨vp_in_nI (by omega) (by omega), ?_⟩
          conv => whnf
          simp (disch := omega) only [nI_clamp, Nat.zero_add]
          refine ⟨fun h3 => ?_, fun h3 => ?_⟩
          · conv => whnf
            rw [if_pos h3] at ih
            rw [nI_add]
            exact ih
          · conv => whnf
            rw [nI_add]
            refine ⟨vp_in_nI (by omega) (by omega), ?_⟩
            conv => whnf
            simp (disch := omega) only [nI_clamp, Nat.zero_add]
            rw [if_neg h3] at ih
            rw [nI_add]
            exact ih
      · conv => whnf
        rw [if_neg h1] at ih
        rw [nI_add]
        refine ⟨vp_in_nI (by omega) (by omega), ?_⟩
        conv => whnf
        simp (disch := omega) only [nI_clamp, Nat.zero_add]
        refine ⟨fun h2 => ?_, fun h2 => ?_⟩
        · conv => whnf
          rw [nI_add]
          refine ⟨vp_in_nI (by omega) (by omega), ?_⟩
          conv => whnf
          simp (disch := omega) only [nI_clamp, Nat.zero_add]
          rw [if_pos h2] at ih
          rw [nI_add]
          exact ih
        · conv => whnf
          rw [if_neg h2] at ih
          rw [nI_add]
          refine ⟨vp_in_nI (by omega) (by omega), ?_⟩
          conv => whnf
          simp (disch := omega) only [nI_clamp, Nat.zero_add]
          refine ⟨fun h3 => ?_, fun h3 => ?_⟩
          · conv => whnf
            rw [if_pos h3] at ih
            rw [nI_add]
            exact ih
          · conv => whnf
            rw [nI_add]
            refine ⟨vp_in_nI (by omega) (by omega), ?_⟩
            conv => whnf
            simp (disch := omega) only [nI_clamp, Nat.zero_add]
            rw [if_neg h3] at ih
            rw [nI_add]
            exact ih
