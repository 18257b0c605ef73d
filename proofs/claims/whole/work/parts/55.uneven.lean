/-! THE REFERENCE: uneven, a door's people -/
def unm (σ : Sg) : Nat → Int32 × Int32
  | 0 => (-1, -1)
  | d + 1 => if σ (13 + d) = 1 then (if σ (17 + d) ≤ (unm σ d).1 then (unm σ d).1 else σ (17 + d), if (unm σ d).2 < 0 then σ (17 + d) else if (unm σ d).2 ≤ σ (17 + d) then (unm σ d).2 else σ (17 + d)) else unm σ d
set_option maxHeartbeats 4000000 in
set_option maxRecDepth 100000 in
theorem m_unevenX (l : Launch) (G : je_G) : je_Ci l yX6_uneven wsX6_uneven rmX6_uneven [jR (6, 0, 0)] G (fun r G' => G' = G ∧ r = (unm (G 6 0 0) 4).1 - (unm (G 6 0 0) 4).2) := by
  refine je_met1 tbX6_uneven 1 okX6_uneven rfl (by decide +kernel) rfl (by unfold je_ret; simp) (by decide) (Nat.le_of_ble_eq_true rfl) ?_
  intro J hoks hR
  show J G 0 [some (jR (6, 0, 0)), none, none, none] []
  refine hR.2 [6] 400 _ _ _ _ ?_
  conv => whnf
  refine je_for (P := fun k => J G 6 [some (jR (6, 0, 0)), some (jI (unm (G 6 0 0) k).1), some (jI (unm (G 6 0 0) k).2), some (jI (nI k))] []) 4 ?_ ?_ 0 (Nat.zero_le _)
  · skip
    refine hR.2 [6] 400 _ _ _ _ ?_
    conv => whnf
    refine br_t ((nI_leI (by omega) (by omega)).mpr (by omega)) ?_
    conv => whnf
    exact ⟨_, rfl, rfl, rfl⟩
  · intro k hk ih
    refine hR.2 [6] 400 _ _ _ _ ?_
    conv => whnf
    refine br_f (fun h => absurd ((nI_leI (by omega) (by omega)).mp h) (by omega)) ?_
    conv => whnf
    rw [nI_add]
    refine ⟨vp_in_nI (by omega) (by omega), ?_⟩
    conv => whnf
    simp (disch := omega) only [nI_clamp, Nat.zero_add]
    refine ⟨fun h => ?_, fun h => ?_⟩
    · conv => whnf
      have e : unm (G 6 0 0) (k + 1) = unm (G 6 0 0) k := by rw [unm]; exact if_neg h
      rw [e] at ih
      simp (disch := omega) only [nI_clamp, nI_add]
      exact ih
    · conv => whnf
      have e : unm (G 6 0 0) (k + 1) = (if G 6 0 0 (17 + k) ≤ (unm (G 6 0 0) k).1 then (unm (G 6 0 0) k).1 else G 6 0 0 (17 + k), if (unm (G 6 0 0) k).2 < 0 then G 6 0 0 (17 + k) else if (unm (G 6 0 0) k).2 ≤ G 6 0 0 (17 + k) then (unm (G 6 0 0) k).2 else G 6 0 0 (17 + k)) := by rw [unm]; exact if_pos h
      rw [e] at ih
      generalize unm (G 6 0 0) k = p at ih ⊢
      rw [nI_add]
      refine ⟨vp_in_nI (by omega) (by omega), ?_⟩
      conv => whnf
      simp (disch := omega) only [nI_clamp, Nat.zero_add]
      refine ⟨fun h1 => ?_, fun h1 => ?_⟩
      · conv => whnf
        rw [if_pos h1] at ih
        refine ⟨fun h2 => ?_, fun h2 => ?_⟩
        · conv => whnf
          rw [nI_add]
          refine ⟨vp_in_nI (by omega) (by omega), ?_⟩
          conv => whnf
          simp (disch := omega) only [nI_clamp, Nat.zero_add]
          rw [if_pos h2] at ih
          rw [nI_add]
          exact ih
        · conv => whnf
          rw [if_neg h2] at ih
          rw [nI_add]
          refine ⟨vp_in_nI (by omega) (by omega), ?_⟩
          conv => whnf
          simp (disch := omega) only [nI_clamp, Nat.zero_add]
          refine ⟨fun h3 => ?_, fun h3 => ?_⟩
          · conv => whnf
            rw [if_pos h3] at ih
            rw [nI_add]
            exact ih
          · conv => whnf
            rw [nI_add]
            refine ⟨vp_in_nI (by omega) (by omega), ?_⟩
            conv => whnf
            simp (disch := omega) only [nI_clamp, Nat.zero_add]
            rw [if_neg h3] at ih
            rw [nI_add]
            exact ih
      · conv => whnf
        rw [if_neg h1] at ih
        rw [nI_add]
        refine ⟨vp_in_nI (by omega) (by omega), ?_⟩
        conv => whnf
        simp (disch := omega) only [nI_clamp, Nat.zero_add]
        refine ⟨fun h2 => ?_, fun h2 => ?_⟩
        · conv => whnf
          rw [nI_add]
          refine ⟨vp_in_nI (by omega) (by omega), ?_⟩
          conv => whnf
          simp (disch := omega) only [nI_clamp, Nat.zero_add]
          rw [if_pos h2] at ih
          rw [nI_add]
          exact ih
        · conv => whnf
          rw [if_neg h2] at ih
          rw [nI_add]
          refine ⟨vp_in_nI (by omega) (by omega), ?_⟩
          conv => whnf
          simp (disch := omega) only [nI_clamp, Nat.zero_add]
          refine ⟨fun h3 => ?_, fun h3 => ?_⟩
          · conv => whnf
            rw [if_pos h3] at ih
            rw [nI_add]
            exact ih
          · conv => whnf
            rw [nI_add]
            refine ⟨vp_in_nI (by omega) (by omega), ?_⟩
            conv => whnf
            simp (disch := omega) only [nI_clamp, Nat.zero_add]
            rw [if_neg h3] at ih
            rw [nI_add]
            exact ih
theorem i_n1 {n : Nat} (hn : n < 2 ^ 31) : ¬ nI n ≤ -1 := by
  intro h
  have h2 : nI n < nI 0 := by
    rw [Int32.le_iff_toInt_le] at h
    rw [Int32.lt_iff_toInt_lt]
    have e1 : (-1 : Int32).toInt = -1 := by decide
    have e2 : (nI 0).toInt = 0 := by decide
    omega
  exact nI_pos hn h2
theorem unm_unv {σ : Sg} (hb : bits σ) (ho : ∀ d, d < 4 → ∃ o, o < 2 ^ 31 ∧ σ (17 + d) = nI o) : ∀ d, d ≤ 4 → (unm σ d = (-1, -1) ∧ unv σ d = (-6, -6)) ∨ ∃ a b, a < 2 ^ 31 ∧ b < 2 ^ 31 ∧ unm σ d = (nI a, nI b) ∧ unv σ d = (nI a, nI b)
  | 0, _ => Or.inl ⟨rfl, rfl⟩
  | d + 1, hd => by
    have ih := unm_unv hb ho d (by omega)
    obtain ⟨o, ho1, ho2⟩ := ho d (by omega)
    rcases hb.2 d (by omega) with h | h
    · rw [unm, unv, if_neg (by rw [h]; decide), if_pos h]
      exact ih
    · rw [unm, unv, if_pos h, if_neg (show ¬ σ (13 + d) = 0 by rw [h]; decide), ho2]
      refine Or.inr ?_
      rcases ih with ⟨e1, e2⟩ | ⟨a, b, ha, hb2, e1, e2⟩
      · rw [e1, e2]
        dsimp only
        refine ⟨o, o, ho1, ho1, ?_, ?_⟩
        · rw [if_neg (i_n1 ho1), if_pos (by decide)]
        · rw [if_pos rfl, if_pos rfl]
      · rw [e1, e2]
        dsimp only
        refine ⟨if o ≤ a then a else o, if b ≤ o then b else o, by split <;> omega, by split <;> omega, ?_, ?_⟩
        · rw [if_neg (show ¬ nI b < 0 from nI_pos hb2)]
          congr 1
          · by_cases h1 : o ≤ a
            · rw [if_pos h1, if_pos ((nI_leI ho1 ha).mpr h1)]
            · rw [if_neg h1, if_neg (fun h => h1 ((nI_leI ho1 ha).mp h))]
          · by_cases h1 : b ≤ o
            · rw [if_pos h1, if_pos ((nI_leI hb2 ho1).mpr h1)]
            · rw [if_neg h1, if_neg (fun h => h1 ((nI_leI hb2 ho1).mp h))]
        · rw [if_neg (nI_ne6 ha), if_neg (nI_ne6 hb2)]
          congr 1
          · by_cases h1 : o ≤ a
            · rw [if_pos h1, if_neg (fun h => absurd ((nI_ltI ha ho1).mp h) (by omega))]
            · rw [if_neg h1, if_pos ((nI_ltI ha ho1).mpr (by omega))]
          · by_cases h1 : b ≤ o
            · rw [if_pos h1, if_neg (fun h => absurd ((nI_ltI ho1 hb2).mp h) (by omega))]
            · rw [if_neg h1, if_pos ((nI_ltI ho1 hb2).mpr (by omega))]
theorem unr_unm {σ : Sg} (hb : bits σ) (ho : ∀ d, d < 4 → ∃ o, o < 2 ^ 31 ∧ σ (17 + d) = nI o) : (unm σ 4).1 - (unm σ 4).2 = unr σ := by
  unfold unr
  rcases unm_unv hb ho 4 (Nat.le_refl _) with ⟨e1, e2⟩ | ⟨a, b, ha, hb2, e1, e2⟩
  · rw [e1, e2]; decide
  · rw [e1, e2]
theorem InvS.outs {T : Nat} {σ : Sg} (h : InvS T σ) (hT : T < 100000) : ∀ d, d < 4 → ∃ o, o < 2 ^ 31 ∧ σ (17 + d) = nI o := by
  obtain ⟨rm, t, p, o, h1, h2, h3, h4, h5, h6, h7, h8, h9⟩ := h
  exact fun d hd => ⟨o d, by have := (h7 d hd).2; have := h2.2; omega, (h7 d hd).1⟩
theorem m_uneven (l : Launch) (G : je_G) (hb : bits (G 6 0 0)) (ho : ∀ d, d < 4 → ∃ o, o < 2 ^ 31 ∧ G 6 0 0 (17 + d) = nI o) : je_Ci l yX6_uneven wsX6_uneven rmX6_uneven [jR (6, 0, 0)] G (fun r G' => G' = G ∧ r = unr (G 6 0 0)) := by
  have := m_unevenX l G
  rw [unr_unm hb ho] at this
  exact this
set_option maxHeartbeats 4000000 in
set_option maxRecDepth 100000 in
theorem m_letsOut (l : Launch) (G : je_G) (d : Nat) (hd : d < 4) (hs : vp_in (G 6 0 0 (5 + d)) 35) (h1 : ¬ G 6 0 0 (13 + d) = 0) : je_Cv l yX6_letsOut wsX6_letsOut rmX6_letsOut [jR (6, 0, 0), jI (nI d)] G (fun G' => G' = je_set G 6 0 0 (los (G 6 0 0) d)) := by
  refine je_met1 tbX6_letsOut 0 okX6_letsOut rfl (by decide +kernel) rfl (by unfold je_ret; simp) (by decide) (Nat.le_of_ble_eq_true rfl) ?_
  intro J hoks hR
  show J G 0 [some (jR (6, 0, 0)), some (jI (nI d)), none, none] []
  obtain ⟨hst, hse⟩ := dcell_nI hs
  have hlm : lom (G 6 0 0) d = if G 6 0 0 (21 + dcell (G 6 0 0) d) < G 6 0 0 (9 + d) then G 6 0 0 (21 + dcell (G 6 0 0) d) else G 6 0 0 (9 + d) := by unfold lom; exact if_neg h1
  have hlo : los (G 6 0 0) d = upd (upd (G 6 0 0) (21 + dcell (G 6 0 0) d) (G 6 0 0 (21 + dcell (G 6 0 0) d) - lom (G 6 0 0) d)) (17 + d) (G 6 0 0 (17 + d) + lom (G 6 0 0) d) := by unfold los; exact if_neg h1
  have fin : J G 52 [some (jR (6, 0, 0)), some (jI (nI d)), some (jI (nI (dcell (G 6 0 0) d))), some (jI (lom (G 6 0 0) d))] [] := by
    refine hR.2 [] 400 _ _ _ _ ?_
    conv => whnf
    rw [nI_add]
    refine ⟨vp_in_nI (by omega) (by omega), ?_⟩
    conv => whnf
    refine ⟨vp_in_nI (by omega) (by omega), ?_⟩
    conv => whnf
    rw [nI_add]
    refine ⟨vp_in_nI (by omega) (by omega), ?_⟩
    conv => whnf
    refine ⟨vp_in_nI (by omega) (by omega), ?_⟩
    conv => whnf
    refine ⟨rfl, ?_⟩
    simp only [je_set_set, je_set_eq]
    simp (disch := omega) only [nI_clamp, Nat.zero_add]
    rw [hlo]
    congr 2
    rw [upd_ne (by omega)]
  refine hR.2 [52] 400 _ _ _ _ ?_
  conv => whnf
  rw [nI_add]
  refine ⟨vp_in_nI (by omega) (by omega), ?_⟩
  conv => whnf
  simp (disch := omega) only [nI_clamp, Nat.zero_add]
  rw [hse, nI_add]
  refine ⟨vp_in_nI (by omega) (by omega), ?_⟩
  conv => whnf
  rw [nI_add]
  refine ⟨vp_in_nI (by omega) (by omega), ?_⟩
  conv => whnf
  simp (disch := omega) only [nI_clamp, Nat.zero_add]
  refine ⟨fun h => ?_, fun h => ?_⟩
  · conv => whnf
    rw [nI_add]
    refine ⟨vp_in_nI (by omega) (by omega), ?_⟩
    conv => whnf
    simp (disch := omega) only [nI_clamp, Nat.zero_add]
    rw [hlm, if_neg (fun h2 => i_nlt.mpr h h2)] at fin
    exact fin
  · conv => whnf
    rw [nI_add]
    refine ⟨vp_in_nI (by omega) (by omega), ?_⟩
    conv => whnf
    simp (disch := omega) only [nI_clamp, Nat.zero_add]
    rw [hlm, if_pos (i_nle.mp h)] at fin
    exact fin
