/-! THE REFERENCE: cell, doorOf, count, distance -/
theorem MR_len {G : je_G} {S : jS} (h : MR G S) : G 6 0 7 0 = nI S.2.2.2.2.2.1 := by
  obtain ⟨σ, k, hs, sv, sl, len, pad⟩ := S
  exact h.2.2.2.1
theorem MR_k {G : je_G} {S : jS} (h : MR G S) : G 6 0 3 0 = nI S.2.1 := by
  obtain ⟨σ, k, hs, sv, sl, len, pad⟩ := S
  exact h.2.1.1
set_option maxHeartbeats 4000000 in
set_option maxRecDepth 100000 in
theorem m_cell (l : Launch) (G : je_G) (S : jS) (hM : MR G S) (hI : InvS 9999 S.1) (x w : Int32) : je_Ci l yX6_cell wsX6_cell rmX6_cell [jR (6, 0, 0), jI x, jI w] G (fun y G' => y = F_cell S x w ∧ MR G' S ∧ FrM G G') := by
  refine je_met1 tbX6_cell 1 okX6_cell rfl (by decide +kernel) rfl (by unfold je_ret; simp) (by decide) (Nat.le_of_ble_eq_true rfl) ?_
  intro J hoks hR
  show J G 0 [some (jR (6, 0, 0)), some (jI x), some (jI w)] []
  have h0 : G 6 0 0 = S.1 := MR_1 hM
  refine hR.2 [] 400 _ _ _ _ ?_
  conv => whnf
  refine je_s1i hR kX6_cell_1 rfl (m_isCell l G x) rfl ?_
  intro y G' hq
  obtain ⟨rfl, ⟨h1, rfl⟩ | ⟨h1, rfl⟩⟩ := hq
  · have hv : ¬ ¬ vp_in x 35 := fun h => h h1
    obtain ⟨c, hc, rfl⟩ := vp_in_of h1 (by omega)
    have hcl : (nI c).toNatClampNeg = c := nI_clamp (by omega)
    refine hR.2 [] 400 _ _ _ _ ?_
    conv => whnf
    refine And.intro (fun _ => ?_) (fun h => absurd h (by decide))
    conv => whnf
    refine je_v0v hR kX6_cell_10 rfl (m_layWays l G' (by rw [h0]; exact hI.bits) (fun d hd => by rw [h0]; exact hI.doors d hd) (fun c hc => by rw [h0]; exact hI.gd c hc)) rfl ?_
    intro G2 hq
    obtain ⟨hW, hL⟩ := hq
    rw [h0] at hL
    have hM2 := MR_W hM hW
    have q0 : G2 6 0 0 = S.1 := MR_1 hM2
    refine hR.2 [] 400 _ _ _ _ ?_
    conv => whnf
    refine ⟨fun w0 => ?_, fun w0 => ⟨fun w1 => ?_, fun w1 => ⟨fun w2 => ?_, fun w2 => ⟨fun w3 => ?_, fun w3 => ⟨fun w4 => ?_, fun w4 => ⟨fun w5 => ?_, fun w5 => ?_⟩⟩⟩⟩⟩⟩
    · conv => whnf
      rw [nI_add]
      refine ⟨vp_in_nI (by omega) (by omega), ?_⟩
      conv => whnf
      simp only [nI_clamp (show 21 + c < 2 ^ 31 by omega), Nat.zero_add, q0]
      exact ⟨_, rfl, by simp only [F_cell, if_neg hv, hcl, if_pos w0], hM2, hW.m⟩
    · conv => whnf
      refine ⟨vp_in_nI (by omega) (by omega), ?_⟩
      conv => whnf
      simp only [hcl, Nat.zero_add]
      exact ⟨_, rfl, by simp only [F_cell, if_neg hv, hcl, if_neg w0, if_pos w1]; exact (hL.2.2 c hc).1, hM2, hW.m⟩
    · conv => whnf
      refine ⟨vp_in_nI (by omega) (by omega), ?_⟩
      conv => whnf
      simp only [hcl, Nat.zero_add]
      exact ⟨_, rfl, by simp only [F_cell, if_neg hv, hcl, if_neg w0, if_neg w1, if_pos w2]; exact (hL.2.2 c hc).2.1, hM2, hW.m⟩
    · conv => whnf
      refine ⟨vp_in_nI (by omega) (by omega), ?_⟩
      conv => whnf
      simp only [hcl, Nat.zero_add]
      exact ⟨_, rfl, by simp only [F_cell, if_neg hv, hcl, if_neg w0, if_neg w1, if_neg w2, if_pos w3]; exact (hL.2.2 c hc).2.2, hM2, hW.m⟩
    · conv => whnf
      rw [nI_add]
      refine ⟨vp_in_nI (by omega) (by omega), ?_⟩
      conv => whnf
      simp only [nI_clamp (show 56 + c < 2 ^ 31 by omega), Nat.zero_add, q0]
      rcases hI.gd c hc with hg | hg
      · rw [hg]
        refine br_f (by decide) ?_
        conv => whnf
        exact ⟨_, rfl, by simp only [F_cell, if_neg hv, hcl, if_neg w0, if_neg w1, if_neg w2, if_neg w3, if_pos w4, if_pos hg], hM2, hW.m⟩
      · obtain ⟨g, hg4, hge⟩ := vp_in_of hg (by omega)
        have hne : ¬ S.1 (56 + c) = -1 := by
          rw [hge]
          intro e
          have : ¬ nI g < nI 0 := nI_pos (by omega)
          rw [e] at this
          exact this (by decide)
        rw [hge]
        refine br_t (i_nlt.mp (nI_pos (by omega))) ?_
        conv => whnf
        rw [nI_add]
        refine ⟨vp_in_nI (by omega) (by omega), ?_⟩
        conv => whnf
        simp only [nI_clamp (show 56 + c < 2 ^ 31 by omega), Nat.zero_add, q0]
        exact ⟨_, rfl, by simp only [F_cell, if_neg hv, hcl, if_neg w0, if_neg w1, if_neg w2, if_neg w3, if_pos w4, if_neg hne], hM2, hW.m⟩
    · conv => whnf
      refine je_v1i hR kX6_cell_112 rfl (m_ropesOf l G2 (by rw [q0]; exact hI.bits) c hc) rfl ?_
      intro y G3 hq
      obtain ⟨rfl, rfl⟩ := hq
      rw [q0]
      refine hR.2 [] 400 _ _ _ _ ?_
      conv => whnf
      exact ⟨_, rfl, by simp only [F_cell, if_neg hv, hcl, if_neg w0, if_neg w1, if_neg w2, if_neg w3, if_neg w4, if_pos w5], hM2, hW.m⟩
    · conv => whnf
      exact ⟨_, rfl, by simp only [F_cell, if_neg hv, hcl, if_neg w0, if_neg w1, if_neg w2, if_neg w3, if_neg w4, if_neg w5], hM2, hW.m⟩
  · skip
    refine hR.2 [] 400 _ _ _ _ ?_
    conv => whnf
    refine And.intro (fun h => absurd rfl h) (fun _ => ?_)
    conv => whnf
    refine ⟨_, rfl, ?_⟩
    unfold F_cell
    rw [if_pos h1]
    exact ⟨rfl, hM, FrM.rf⟩
set_option maxHeartbeats 4000000 in
set_option maxRecDepth 100000 in
theorem m_goalOfMany (l : Launch) (G : je_G) (S : jS) (hM : MR G S) (hI : InvS 9999 S.1) (d : Nat) (b : Int32) (hb : b = 0 ∨ b = 1) : je_Ci l yX6_goalOfMany wsX6_goalOfMany rmX6_goalOfMany [jR (6, 0, 0), jI (nI d), jI b] G (fun y G' => y = isum (fun c => if oI (gl S.1 c) = nI d then (if b = 0 then S.1 (21 + c) else nI 1) else nI 0) 35 ∧ MR G' S ∧ FrM G G') := by
  refine je_met1 tbX6_goalOfMany 1 okX6_goalOfMany rfl (by decide +kernel) rfl (by unfold je_ret; simp) (by decide) (Nat.le_of_ble_eq_true rfl) ?_
  intro J hoks hR
  show J G 0 [some (jR (6, 0, 0)), some (jI (nI d)), some (jI b), none, none] []
  have h0 : G 6 0 0 = S.1 := MR_1 hM
  refine hR.2 [] 400 _ _ _ _ ?_
  conv => whnf
  refine je_v0v hR kX6_goalOfMany_1 rfl (m_layWays l G (by rw [h0]; exact hI.bits) (fun d hd => by rw [h0]; exact hI.doors d hd) (fun c hc => by rw [h0]; exact hI.gd c hc)) rfl ?_
  intro G2 hq
  obtain ⟨hW, hL⟩ := hq
  rw [h0] at hL
  have hM2 := MR_W hM hW
  have q0 : G2 6 0 0 = S.1 := MR_1 hM2
  refine hR.2 [9] 400 _ _ _ _ ?_
  conv => whnf
  refine je_for (P := fun k => J G2 9 [some (jR (6, 0, 0)), some (jI (nI d)), some (jI b), some (jI (isum (fun c => if oI (gl S.1 c) = nI d then (if b = 0 then S.1 (21 + c) else nI 1) else nI 0) k)), some (jI (nI k))] []) 35 ?_ ?_ 0 (Nat.zero_le _)
  · skip
    refine hR.2 [9] 400 _ _ _ _ ?_
    conv => whnf
    refine br_t ((nI_leI (by omega) (by omega)).mpr (by omega)) ?_
    conv => whnf
    exact ⟨_, rfl, rfl, hM2, hW.m⟩
  · intro k hk ih
    refine hR.2 [9] 400 _ _ _ _ ?_
    conv => whnf
    refine br_f (fun h => absurd ((nI_leI (by omega) (by omega)).mp h) (by omega)) ?_
    conv => whnf
    refine ⟨vp_in_nI (by omega) (by omega), ?_⟩
    conv => whnf
    simp only [nI_clamp (show k < 2 ^ 31 by omega), Nat.zero_add]
    rw [(hL.2.2 k hk).1]
    refine ⟨fun e => ?_, fun e => ?_⟩
    · conv => whnf
      simp only [isum, if_pos e] at ih
      refine ⟨fun hb0 => ?_, fun hb0 => ?_⟩
      · conv => whnf
        rw [nI_add]
        refine ⟨vp_in_nI (by omega) (by omega), ?_⟩
        conv => whnf
        simp only [nI_clamp (show 21 + k < 2 ^ 31 by omega), Nat.zero_add, q0]
        simp only [if_pos hb0] at ih ⊢
        rw [nI_add]
        exact ih
      · conv => whnf
        simp only [if_neg hb0] at ih ⊢
        rw [nI_add]
        exact ih
    · conv => whnf
      simp only [isum, if_neg e] at ih
      rw [nI_add]
      exact ih
set_option maxHeartbeats 4000000 in
set_option maxRecDepth 100000 in
theorem m_distance (l : Launch) (G : je_G) (S : jS) (hM : MR G S) (hI : InvS 9999 S.1) (x w : Int32) : je_Ci l yX6_distance wsX6_distance rmX6_distance [jR (6, 0, 0), jI x, jI w] G (fun y G' => y = F_distance S x w ∧ MR G' S ∧ FrM G G') := by
  refine je_met1 tbX6_distance 1 okX6_distance rfl (by decide +kernel) rfl (by unfold je_ret; simp) (by decide) (Nat.le_of_ble_eq_true rfl) ?_
  intro J hoks hR
  show J G 0 [some (jR (6, 0, 0)), some (jI x), some (jI w)] []
  have h0 : G 6 0 0 = S.1 := MR_1 hM
  have bad : ¬ (vp_in x 35 ∧ vp_in w 4) → F_distance S x w = -1 := fun h => by unfold F_distance; rw [if_neg h]
  refine hR.2 [] 400 _ _ _ _ ?_
  conv => whnf
  refine je_s1i hR kX6_distance_1 rfl (m_isCell l G x) rfl ?_
  intro y G' hq
  obtain ⟨rfl, ⟨h1, rfl⟩ | ⟨h1, rfl⟩⟩ := hq
  · skip
    refine hR.2 [] 400 _ _ _ _ ?_
    conv => whnf
    refine br_f (by decide) ?_
    conv => whnf
    refine je_s1i hR kX6_distance_8 rfl (m_isDoor l G' w) rfl ?_
    intro y G hq
    obtain ⟨rfl, ⟨h2, rfl⟩ | ⟨h2, rfl⟩⟩ := hq
    · have hv : vp_in x 35 ∧ vp_in w 4 := ⟨h1, h2⟩
      obtain ⟨c, hc, rfl⟩ := vp_in_of h1 (by omega)
      have hcl : (nI c).toNatClampNeg = c := nI_clamp (by omega)
      obtain ⟨d, hd4, rfl⟩ := vp_in_of h2 (by omega)
      have hcd : (nI d).toNatClampNeg = d := nI_clamp (by omega)
      have hF : F_distance S (nI c) (nI d) = dI (dst S.1 d c) := by
        unfold F_distance
        rw [if_pos hv, hcl, hcd]
      refine hR.2 [] 400 _ _ _ _ ?_
      conv => whnf
      refine And.intro (fun _ => ?_) (fun h => absurd h (by decide))
      conv => whnf
      refine je_v1v hR kX6_distance_18 rfl (m_layFar l G d hd4 (by rw [h0]; exact hI.doors d hd4)) rfl ?_
      intro G2 hq
      obtain ⟨hD, rfl⟩ := hq
      rw [h0] at hD ⊢
      have hdc := hD.2.1 c hc
      refine hR.2 [] 400 _ _ _ _ ?_
      conv => whnf
      rw [mul35', nI_add]
      refine And.intro (vp_in_nI (by omega) (by omega)) ?_
      conv => whnf
      simp only [je_set_eq]
      simp only [nI_clamp (show 35 * d + c < 2 ^ 31 by omega), Nat.zero_add]
      rw [blN_at hc]
      have hM2 : MR (je_set G 6 0 8 (blN d 35 (dst S.1 d) (G 6 0 8))) S := MR_W hM (FrW.rf.set (by omega) (by omega))
      rw [hF]
      by_cases h : dst S.1 d c < 100
      · refine br_f (fun h2 => absurd ((nI_leI (by omega) (by omega)).mp h2) (by omega)) ?_
        conv => whnf
        rw [mul35', nI_add]
        refine And.intro (vp_in_nI (by omega) (by omega)) ?_
        conv => whnf
        simp only [je_set_eq]
        simp only [nI_clamp (show 35 * d + c < 2 ^ 31 by omega), Nat.zero_add]
        rw [blN_at hc]
        exact ⟨_, rfl, (dI_lt h).symm, hM2, FrM.rf.set⟩
      · refine br_t ((nI_leI (by omega) (by omega)).mpr (by omega)) ?_
        conv => whnf
        exact ⟨_, rfl, (dI_ge h).symm, hM2, FrM.rf.set⟩
    · skip
      refine hR.2 [] 400 _ _ _ _ ?_
      conv => whnf
      refine And.intro (fun h => absurd rfl h) (fun _ => ?_)
      conv => whnf
      rw [bad (fun h => h2 h.2)]
      exact ⟨_, rfl, rfl, hM, FrM.rf⟩
  · skip
    refine hR.2 [] 400 _ _ _ _ ?_
    conv => whnf
    refine br_t (by decide) ?_
    conv => whnf
    rw [bad (fun h => h1 h.1)]
    exact ⟨_, rfl, rfl, hM, FrM.rf⟩
