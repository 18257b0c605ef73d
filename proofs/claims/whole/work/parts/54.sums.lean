/-! THE REFERENCE: sums over a hall -/
set_option maxHeartbeats 4000000 in
set_option maxRecDepth 100000 in
theorem m_people (l : Launch) (G : je_G) : je_Ci l yX6_people wsX6_people rmX6_people [jR (6, 0, 0)] G (fun r G' => G' = G ∧ r = ppl (G 6 0 0)) := by
  refine je_met1 tbX6_people 1 okX6_people rfl (by decide +kernel) rfl (by unfold je_ret; simp) (by decide) (Nat.le_of_ble_eq_true rfl) ?_
  intro J hoks hR
  show J G 0 [some (jR (6, 0, 0)), none, none] []
  refine hR.2 [4] 400 _ _ _ _ ?_
  conv => whnf
  refine je_for (P := fun k => J G 4 [some (jR (6, 0, 0)), some (jI (isum (fun c => G 6 0 0 (21 + c)) k)), some (jI (nI k))] []) 35 ?_ ?_ 0 (Nat.zero_le _)
  · skip
    refine hR.2 [4] 400 _ _ _ _ ?_
    conv => whnf
    refine br_t ((nI_leI (by omega) (by omega)).mpr (by omega)) ?_
    conv => whnf
    exact ⟨_, rfl, rfl, rfl⟩
  · intro k hk ih
    refine hR.2 [4] 400 _ _ _ _ ?_
    conv => whnf
    refine br_f (fun h => absurd ((nI_leI (by omega) (by omega)).mp h) (by omega)) ?_
    conv => whnf
    rw [nI_add]
    refine ⟨vp_in_nI (by omega) (by omega), ?_⟩
    conv => whnf
    simp (disch := omega) only [nI_clamp, nI_add]
    rw [Nat.zero_add]
    exact ih
/-- people behind the cells that have no goal, by the row of goals -/
def shu (g σ : Sg) : Int32 := isum (fun c => if g c = -6 then σ (21 + c) else nI 0) 35
set_option maxHeartbeats 4000000 in
set_option maxRecDepth 100000 in
theorem m_shutIn (l : Launch) (G : je_G) : je_Ci l yX6_shutIn wsX6_shutIn rmX6_shutIn [jR (6, 0, 0)] G (fun r G' => G' = G ∧ r = shu (G 6 0 9) (G 6 0 0)) := by
  refine je_met1 tbX6_shutIn 1 okX6_shutIn rfl (by decide +kernel) rfl (by unfold je_ret; simp) (by decide) (Nat.le_of_ble_eq_true rfl) ?_
  intro J hoks hR
  show J G 0 [some (jR (6, 0, 0)), none, none] []
  refine hR.2 [4] 400 _ _ _ _ ?_
  conv => whnf
  refine je_for (P := fun k => J G 4 [some (jR (6, 0, 0)), some (jI (isum (fun c => if G 6 0 9 c = -6 then G 6 0 0 (21 + c) else nI 0) k)), some (jI (nI k))] []) 35 ?_ ?_ 0 (Nat.zero_le _)
  · skip
    refine hR.2 [4] 400 _ _ _ _ ?_
    conv => whnf
    refine br_t ((nI_leI (by omega) (by omega)).mpr (by omega)) ?_
    conv => whnf
    exact ⟨_, rfl, rfl, rfl⟩
  · intro k hk ih
    refine hR.2 [4] 400 _ _ _ _ ?_
    conv => whnf
    refine br_f (fun h => absurd ((nI_leI (by omega) (by omega)).mp h) (by omega)) ?_
    conv => whnf
    refine ⟨vp_in_nI (by omega) (by omega), ?_⟩
    conv => whnf
    simp (disch := omega) only [nI_clamp, Nat.zero_add]
    refine ⟨fun h => ?_, fun h => ?_⟩
    · conv => whnf
      simp only [isum, if_neg h] at ih
      simp (disch := omega) only [nI_clamp, nI_add]
      exact ih
    · conv => whnf
      rw [nI_add]
      refine ⟨vp_in_nI (by omega) (by omega), ?_⟩
      conv => whnf
      simp (disch := omega) only [nI_clamp, Nat.zero_add]
      simp only [isum, if_pos h] at ih
      simp (disch := omega) only [nI_clamp, nI_add]
      exact ih
set_option maxHeartbeats 4000000 in
set_option maxRecDepth 100000 in
theorem m_ropes (l : Launch) (G : je_G) : je_Ci l yX6_ropes wsX6_ropes rmX6_ropes [jR (6, 0, 0)] G (fun r G' => G' = G ∧ r = isum (fun e => G 6 0 0 (91 + e)) 70) := by
  refine je_met1 tbX6_ropes 1 okX6_ropes rfl (by decide +kernel) rfl (by unfold je_ret; simp) (by decide) (Nat.le_of_ble_eq_true rfl) ?_
  intro J hoks hR
  show J G 0 [some (jR (6, 0, 0)), none, none] []
  refine hR.2 [4] 400 _ _ _ _ ?_
  conv => whnf
  refine je_for (P := fun k => J G 4 [some (jR (6, 0, 0)), some (jI (isum (fun c => G 6 0 0 (91 + c)) k)), some (jI (nI k))] []) 70 ?_ ?_ 0 (Nat.zero_le _)
  · skip
    refine hR.2 [4] 400 _ _ _ _ ?_
    conv => whnf
    refine br_t ((nI_leI (by omega) (by omega)).mpr (by omega)) ?_
    conv => whnf
    exact ⟨_, rfl, rfl, rfl⟩
  · intro k hk ih
    refine hR.2 [4] 400 _ _ _ _ ?_
    conv => whnf
    refine br_f (fun h => absurd ((nI_leI (by omega) (by omega)).mp h) (by omega)) ?_
    conv => whnf
    rw [nI_add]
    refine ⟨vp_in_nI (by omega) (by omega), ?_⟩
    conv => whnf
    simp (disch := omega) only [nI_clamp, nI_add]
    rw [Nat.zero_add]
    exact ih
theorem rps_bits {σ : Sg} (h : bits σ) : isum (fun e => σ (91 + e)) 70 = rps σ := by
  unfold rps
  refine isum_cong (fun e he => ?_)
  rcases h.1 e he with h1 | h1 <;> rw [h1]
  · rfl
  · rw [if_neg (by decide)]; rfl
set_option maxHeartbeats 4000000 in
set_option maxRecDepth 100000 in
theorem m_guards (l : Launch) (G : je_G) (hg : ∀ c, c < 35 → G 6 0 0 (56 + c) = -1 ∨ vp_in (G 6 0 0 (56 + c)) 4) : je_Ci l yX6_guards wsX6_guards rmX6_guards [jR (6, 0, 0)] G (fun r G' => G' = G ∧ r = gds (G 6 0 0)) := by
  refine je_met1 tbX6_guards 1 okX6_guards rfl (by decide +kernel) rfl (by unfold je_ret; simp) (by decide) (Nat.le_of_ble_eq_true rfl) ?_
  intro J hoks hR
  show J G 0 [some (jR (6, 0, 0)), none, none] []
  refine hR.2 [4] 400 _ _ _ _ ?_
  conv => whnf
  refine je_for (P := fun k => J G 4 [some (jR (6, 0, 0)), some (jI (isum (fun c => if G 6 0 0 (56 + c) = -1 then nI 0 else nI 1) k)), some (jI (nI k))] []) 35 ?_ ?_ 0 (Nat.zero_le _)
  · skip
    refine hR.2 [4] 400 _ _ _ _ ?_
    conv => whnf
    refine br_t ((nI_leI (by omega) (by omega)).mpr (by omega)) ?_
    conv => whnf
    exact ⟨_, rfl, rfl, rfl⟩
  · intro k hk ih
    refine hR.2 [4] 400 _ _ _ _ ?_
    conv => whnf
    refine br_f (fun h => absurd ((nI_leI (by omega) (by omega)).mp h) (by omega)) ?_
    conv => whnf
    rw [nI_add]
    refine ⟨vp_in_nI (by omega) (by omega), ?_⟩
    conv => whnf
    simp (disch := omega) only [nI_clamp, Nat.zero_add]
    rcases hg k hk with h | h
    · rw [h]
      refine br_f (by decide) ?_
      conv => whnf
      simp only [isum, if_pos h] at ih
      simp (disch := omega) only [nI_clamp, nI_add]
      exact ih
    · obtain ⟨g, hg4, hge⟩ := vp_in_of h (by omega)
      rw [hge]
      refine br_t (i_nlt.mp (nI_pos (by omega))) ?_
      conv => whnf
      have hne : ¬ G 6 0 0 (56 + k) = -1 := by
        rw [hge]
        intro e
        have : ¬ nI g < nI 0 := nI_pos (by omega)
        rw [e] at this
        exact this (by decide)
      simp only [isum, if_neg hne] at ih
      simp (disch := omega) only [nI_clamp, nI_add]
      exact ih
theorem isum4 {f : Nat → Int32} : isum f 4 = f 0 + f 1 + f 2 + f 3 := by
  show nI 0 + f 0 + f 1 + f 2 + f 3 = _
  rw [show nI 0 + f 0 = f 0 from Int32.zero_add _]
set_option maxHeartbeats 4000000 in
set_option maxRecDepth 100000 in
theorem m_out (l : Launch) (G : je_G) : je_Ci l yX6_out wsX6_out rmX6_out [jR (6, 0, 0)] G (fun r G' => G' = G ∧ r = isum (fun c => G 6 0 0 (17 + c)) 4) := by
  refine je_met1 tbX6_out 1 okX6_out rfl (by decide +kernel) rfl (by unfold je_ret; simp) (by decide) (Nat.le_of_ble_eq_true rfl) ?_
  intro J hoks hR
  show J G 0 [some (jR (6, 0, 0))] []
  refine hR.2 [] 400 _ _ _ _ ?_
  conv => whnf
  refine And.intro (vp_in_nI (by omega) (by omega)) ?_
  conv => whnf
  refine And.intro (vp_in_nI (by omega) (by omega)) ?_
  conv => whnf
  refine And.intro (vp_in_nI (by omega) (by omega)) ?_
  conv => whnf
  refine And.intro (vp_in_nI (by omega) (by omega)) ?_
  conv => whnf
  refine ⟨_, rfl, rfl, ?_⟩
  simp (disch := omega) only [nI_clamp, Nat.zero_add]
  rw [isum4]
set_option maxHeartbeats 4000000 in
set_option maxRecDepth 100000 in
theorem m_openDoors (l : Launch) (G : je_G) : je_Ci l yX6_openDoors wsX6_openDoors rmX6_openDoors [jR (6, 0, 0)] G (fun r G' => G' = G ∧ r = opn (G 6 0 0)) := by
  refine je_met1 tbX6_openDoors 1 okX6_openDoors rfl (by decide +kernel) rfl (by unfold je_ret; simp) (by decide) (Nat.le_of_ble_eq_true rfl) ?_
  intro J hoks hR
  show J G 0 [some (jR (6, 0, 0))] []
  refine hR.2 [] 400 _ _ _ _ ?_
  conv => whnf
  refine And.intro (vp_in_nI (by omega) (by omega)) ?_
  conv => whnf
  refine And.intro (vp_in_nI (by omega) (by omega)) ?_
  conv => whnf
  refine And.intro (vp_in_nI (by omega) (by omega)) ?_
  conv => whnf
  refine And.intro (vp_in_nI (by omega) (by omega)) ?_
  conv => whnf
  refine ⟨_, rfl, rfl, ?_⟩
  simp (disch := omega) only [nI_clamp, Nat.zero_add]
  exact rfl
theorem opd_bits {σ : Sg} (h : bits σ) : σ 13 + nI 2 * σ 14 + nI 4 * σ 15 + nI 8 * σ 16 = opd σ := by
  have h0 := h.2 0 (by omega)
  have h1 := h.2 1 (by omega)
  have h2 := h.2 2 (by omega)
  have h3 := h.2 3 (by omega)
  simp only [Nat.add_zero, Nat.reduceAdd] at h0 h1 h2 h3
  unfold opd
  simp only [ior, Nat.add_zero, Nat.reduceAdd]
  rcases h0 with h0 | h0 <;> rcases h1 with h1 | h1 <;> rcases h2 with h2 | h2 <;> rcases h3 with h3 | h3 <;> rw [h0, h1, h2, h3] <;> decide
set_option maxHeartbeats 4000000 in
set_option maxRecDepth 100000 in
theorem m_openSet (l : Launch) (G : je_G) (hb : bits (G 6 0 0)) : je_Ci l yX6_openSet wsX6_openSet rmX6_openSet [jR (6, 0, 0)] G (fun r G' => G' = G ∧ r = opd (G 6 0 0)) := by
  refine je_met1 tbX6_openSet 1 okX6_openSet rfl (by decide +kernel) rfl (by unfold je_ret; simp) (by decide) (Nat.le_of_ble_eq_true rfl) ?_
  intro J hoks hR
  show J G 0 [some (jR (6, 0, 0))] []
  refine hR.2 [] 400 _ _ _ _ ?_
  conv => whnf
  refine And.intro (vp_in_nI (by omega) (by omega)) ?_
  conv => whnf
  refine And.intro (vp_in_nI (by omega) (by omega)) ?_
  conv => whnf
  refine And.intro (vp_in_nI (by omega) (by omega)) ?_
  conv => whnf
  refine And.intro (vp_in_nI (by omega) (by omega)) ?_
  conv => whnf
  refine ⟨_, rfl, rfl, ?_⟩
  simp (disch := omega) only [nI_clamp, Nat.zero_add]
  exact opd_bits hb
set_option maxHeartbeats 4000000 in
set_option maxRecDepth 100000 in
theorem m_hasRope (l : Launch) (G : je_G) (c w : Nat) (hc : c < 35) (hw : w < 4) : je_Ci l yX6_hasRope wsX6_hasRope rmX6_hasRope [jR (6, 0, 0), jI (nI c), jI (nI w)] G (fun r G' => G' = G ∧ ((∃ o, bs c w = some o ∧ G 6 0 0 (91 + eg c w) = 1) ∧ r = 1 ∨ (bs c w = none ∨ ¬ G 6 0 0 (91 + eg c w) = 1) ∧ r = 0)) := by
  refine je_met1 tbX6_hasRope 2 okX6_hasRope rfl (by decide +kernel) rfl (by unfold je_ret; simp) (by decide) (Nat.le_of_ble_eq_true rfl) ?_
  intro J hoks hR
  show J G 0 [some (jR (6, 0, 0)), some (jI (nI c)), some (jI (nI w))] []
  refine hR.2 [] 400 _ _ _ _ ?_
  conv => whnf
  refine je_s2i hR kX6_hasRope_2 rfl (m_beside l G hc hw) rfl ?_
  intro y G' hq
  obtain ⟨rfl, rfl⟩ := hq
  cases hb : bs c w with
  | none =>
    refine hR.2 [] 400 _ _ _ _ ?_
    conv => whnf
    refine And.intro (fun _ => ?_) (fun h => absurd rfl h)
    conv => whnf
    exact ⟨Or.inl rfl, _, rfl, rfl, Or.inr ⟨Or.inl hb, rfl⟩⟩
  | some o =>
    have ho := bs_lt c hc w hw o hb
    show J G' _ _ [jI (nI o)]
    refine hR.2 [] 400 _ _ _ _ ?_
    conv => whnf
    refine And.intro (fun h => absurd h (nI_ne6 (by omega))) (fun _ => ?_)
    conv => whnf
    refine je_s2i hR kX6_hasRope_16 rfl (m_ropeAt l G' (nI c) (nI w)) rfl ?_
    intro y G hq
    obtain ⟨rfl, rfl⟩ := hq
    rw [raX_ok hc hw hb]
    refine hR.2 [] 400 _ _ _ _ ?_
    conv => whnf
    refine ⟨vp_in_nI (by omega) (by omega), ?_⟩
    conv => whnf
    rw [nI_clamp (by omega), Nat.zero_add]
    refine ⟨fun h => ?_, fun h => ?_⟩
    · conv => whnf
      exact ⟨Or.inl rfl, _, rfl, rfl, Or.inr ⟨Or.inr h, rfl⟩⟩
    · conv => whnf
      exact ⟨Or.inr rfl, _, rfl, rfl, Or.inl ⟨⟨o, hb, h⟩, rfl⟩⟩
set_option maxHeartbeats 4000000 in
set_option maxRecDepth 100000 in
theorem m_ropesOf (l : Launch) (G : je_G) (hb : bits (G 6 0 0)) (c : Nat) (hc : c < 35) : je_Ci l yX6_ropesOf wsX6_ropesOf rmX6_ropesOf [jR (6, 0, 0), jI (nI c)] G (fun r G' => G' = G ∧ r = ior (rpe (G 6 0 0) c) 4) := by
  refine je_met1 tbX6_ropesOf 1 okX6_ropesOf rfl (by decide +kernel) rfl (by unfold je_ret; simp) (by decide) (Nat.le_of_ble_eq_true rfl) ?_
  intro J hoks hR
  show J G 0 [some (jR (6, 0, 0)), some (jI (nI c)), none, none] []
  refine hR.2 [4] 400 _ _ _ _ ?_
  conv => whnf
  refine je_for (P := fun k => J G 4 [some (jR (6, 0, 0)), some (jI (nI c)), some (jI (ior (rpe (G 6 0 0) c) k)), some (jI (nI k))] []) 4 ?_ ?_ 0 (Nat.zero_le _)
  · skip
    refine hR.2 [4] 400 _ _ _ _ ?_
    conv => whnf
    refine br_t ((nI_leI (by omega) (by omega)).mpr (by omega)) ?_
    conv => whnf
    exact ⟨_, rfl, rfl, rfl⟩
  · intro k hk ih
    refine hR.2 [4] 400 _ _ _ _ ?_
    conv => whnf
    refine br_f (fun h => absurd ((nI_leI (by omega) (by omega)).mp h) (by omega)) ?_
    conv => whnf
    refine je_v2i hR kX6_ropesOf_13 rfl (m_hasRope l G c k hc hk) rfl ?_
    intro y G' hq
    obtain ⟨rfl, ⟨⟨o, ho, h1⟩, rfl⟩ | ⟨h1, rfl⟩⟩ := hq
    · have hr : rpe (G' 6 0 0) c k = nI 1 <<< (nI k &&& 31) := by
        unfold rpe
        rw [ho]
        dsimp only
        rw [if_neg (by rw [h1]; decide)]
      simp only [ior, hr] at ih
      refine hR.2 [4] 400 _ _ _ _ ?_
      conv => whnf
      refine br_f (by decide) ?_
      conv => whnf
      simp (disch := omega) only [nI_clamp, nI_add]
      exact ih
    · have hr : rpe (G' 6 0 0) c k = nI 0 := by
        unfold rpe
        cases hbs : bs c k with
        | none => rfl
        | some o =>
          dsimp only
          refine if_pos ?_
          rcases h1 with h1 | h1
          · rw [hbs] at h1; cases h1
          · rcases hb.1 (eg c k) (bs_lt c hc k hk o hbs).2.2 with h2 | h2
            · exact h2
            · exact absurd h2 h1
      simp only [ior, hr] at ih
      refine hR.2 [4] 400 _ _ _ _ ?_
      conv => whnf
      refine br_t (by decide) ?_
      conv => whnf
      simp (disch := omega) only [nI_clamp, nI_add]
      exact ih
