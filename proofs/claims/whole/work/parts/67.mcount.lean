/-! THE REFERENCE: doorOf, count -/
set_option maxHeartbeats 4000000 in
set_option maxRecDepth 100000 in
theorem m_doorOf (l : Launch) (G : je_G) (S : jS) (hM : MR G S) (hI : InvS 9999 S.1) (x w : Int32) : je_Ci l yX6_doorOf wsX6_doorOf rmX6_doorOf [jR (6, 0, 0), jI x, jI w] G (fun y G' => y = F_doorOf S x w ∧ MR G' S ∧ FrM G G') := by
  refine je_met1 tbX6_doorOf 1 okX6_doorOf rfl (by decide +kernel) rfl (by unfold je_ret; simp) (by decide) (Nat.le_of_ble_eq_true rfl) ?_
  intro J hoks hR
  show J G 0 [some (jR (6, 0, 0)), some (jI x), some (jI w)] []
  have h0 : G 6 0 0 = S.1 := MR_1 hM
  refine hR.2 [] 400 _ _ _ _ ?_
  conv => whnf
  refine je_s1i hR kX6_doorOf_1 rfl (m_isDoor l G x) rfl ?_
  intro y G' hq
  obtain ⟨rfl, ⟨h1, rfl⟩ | ⟨h1, rfl⟩⟩ := hq
  · have hv : ¬ ¬ vp_in x 4 := fun h => h h1
    obtain ⟨d, hd, rfl⟩ := vp_in_of h1 (by omega)
    have hcl : (nI d).toNatClampNeg = d := nI_clamp (by omega)
    refine hR.2 [] 400 _ _ _ _ ?_
    conv => whnf
    refine And.intro (fun _ => ?_) (fun h => absurd h (by decide))
    conv => whnf
    refine ⟨fun w0 => ?_, fun w0 => ⟨fun w1 => ?_, fun w1 => ⟨fun w2 => ?_, fun w2 => ⟨fun w3 => ?_, fun w3 => ⟨fun w4 => ?_, fun w4 => ⟨fun w5 => ?_, fun w5 => ?_⟩⟩⟩⟩⟩⟩
    · conv => whnf
      rw [w0, show nI 4 * nI 0 = nI (4 * 0) from pk_mul 4 0, nI_add, nI_add]
      refine And.intro (vp_in_nI (by omega) (by omega)) ?_
      conv => whnf
      simp only [nI_clamp (show 5 + 4 * 0 + d < 2 ^ 31 by omega), Nat.zero_add, h0]
      have hF : F_doorOf S (nI d) w = S.1 (5 + 4 * 0 + d) := by
        unfold F_doorOf
        rw [if_neg hv, if_pos w0, hcl]
      rw [← w0, hF]
      exact ⟨_, rfl, rfl, hM, FrM.rf⟩
    · conv => whnf
      rw [w1, show nI 4 * nI 1 = nI (4 * 1) from pk_mul 4 1, nI_add, nI_add]
      refine And.intro (vp_in_nI (by omega) (by omega)) ?_
      conv => whnf
      simp only [nI_clamp (show 5 + 4 * 1 + d < 2 ^ 31 by omega), Nat.zero_add, h0]
      have hF : F_doorOf S (nI d) w = S.1 (5 + 4 * 1 + d) := by
        unfold F_doorOf
        rw [if_neg hv, if_neg w0, if_pos w1, hcl]
      rw [← w1, hF]
      exact ⟨_, rfl, rfl, hM, FrM.rf⟩
    · conv => whnf
      rw [w2, show nI 4 * nI 2 = nI (4 * 2) from pk_mul 4 2, nI_add, nI_add]
      refine And.intro (vp_in_nI (by omega) (by omega)) ?_
      conv => whnf
      simp only [nI_clamp (show 5 + 4 * 2 + d < 2 ^ 31 by omega), Nat.zero_add, h0]
      have hF : F_doorOf S (nI d) w = S.1 (5 + 4 * 2 + d) := by
        unfold F_doorOf
        rw [if_neg hv, if_neg w0, if_neg w1, if_pos w2, hcl]
        rcases hI.bits.2 d hd with h2 | h2 <;> rw [show 5 + 4 * 2 + d = 13 + d by omega, h2] <;> rfl
      rw [← w2, hF]
      exact ⟨_, rfl, rfl, hM, FrM.rf⟩
    · conv => whnf
      rw [w3, show nI 4 * nI 3 = nI (4 * 3) from pk_mul 4 3, nI_add, nI_add]
      refine And.intro (vp_in_nI (by omega) (by omega)) ?_
      conv => whnf
      simp only [nI_clamp (show 5 + 4 * 3 + d < 2 ^ 31 by omega), Nat.zero_add, h0]
      have hF : F_doorOf S (nI d) w = S.1 (5 + 4 * 3 + d) := by
        unfold F_doorOf
        rw [if_neg hv, if_neg w0, if_neg w1, if_neg w2, if_pos w3, hcl]
      rw [← w3, hF]
      exact ⟨_, rfl, rfl, hM, FrM.rf⟩
    · conv => whnf
      refine And.intro (fun h => absurd w4 h) (fun _ => ?_)
      conv => whnf
      refine je_v2i hR kX6_doorOf_73 rfl (m_goalOfMany l G' S hM hI d (nI 1) (Or.inr rfl)) rfl ?_
      intro y G2 hq
      obtain ⟨rfl, hM2, hF2⟩ := hq
      refine hR.2 [] 400 _ _ _ _ ?_
      conv => whnf
      refine ⟨_, rfl, ?_, hM2, hF2⟩
      unfold F_doorOf
      rw [if_neg hv, if_neg w0, if_neg w1, if_neg w2, if_neg w3, if_pos w4]
      rfl
    · conv => whnf
      refine And.intro (fun _ => ?_) (fun h => absurd h w4)
      conv => whnf
      refine je_v2i hR kX6_doorOf_73 rfl (m_goalOfMany l G' S hM hI d (nI 0) (Or.inl rfl)) rfl ?_
      intro y G2 hq
      obtain ⟨rfl, hM2, hF2⟩ := hq
      refine hR.2 [] 400 _ _ _ _ ?_
      conv => whnf
      refine ⟨_, rfl, ?_, hM2, hF2⟩
      unfold F_doorOf
      rw [if_neg hv, if_neg w0, if_neg w1, if_neg w2, if_neg w3, if_neg w4, if_pos w5]
      rfl
    · conv => whnf
      refine ⟨_, rfl, ?_⟩
      unfold F_doorOf
      rw [if_neg hv, if_neg w0, if_neg w1, if_neg w2, if_neg w3, if_neg w4, if_neg w5]
      exact ⟨rfl, hM, FrM.rf⟩
  · skip
    refine hR.2 [] 400 _ _ _ _ ?_
    conv => whnf
    refine And.intro (fun h => absurd rfl h) (fun _ => ?_)
    conv => whnf
    refine ⟨_, rfl, ?_⟩
    unfold F_doorOf
    rw [if_pos h1]
    exact ⟨rfl, hM, FrM.rf⟩
set_option maxHeartbeats 4000000 in
set_option maxRecDepth 100000 in
theorem m_count (l : Launch) (G : je_G) (S : jS) (hM : MR G S) (hI : InvS 9999 S.1) (w : Int32) : je_Ci l yX6_count wsX6_count rmX6_count [jR (6, 0, 0), jI w] G (fun y G' => y = F_count S w ∧ MR G' S ∧ FrM G G') := by
  refine je_met1 tbX6_count 1 okX6_count rfl (by decide +kernel) rfl (by unfold je_ret; simp) (by decide) (Nat.le_of_ble_eq_true rfl) ?_
  intro J hoks hR
  show J G 0 [some (jR (6, 0, 0)), some (jI w)] []
  have h0 : G 6 0 0 = S.1 := MR_1 hM
  refine hR.2 [] 400 _ _ _ _ ?_
  conv => whnf
  refine ⟨fun w0 => ?_, fun w0 => ⟨fun w1 => ?_, fun w1 => ⟨fun w2 => ?_, fun w2 => ⟨fun w3 => ?_, fun w3 => ⟨fun w4 => ?_, fun w4 => ⟨fun w5 => ?_, fun w5 => ⟨fun w6 => ?_, fun w6 => ⟨fun w7 => ?_, fun w7 => ⟨fun w8 => ?_, fun w8 => ⟨fun w9 => ?_, fun w9 => ⟨fun w10 => ?_, fun w10 => ⟨fun w11 => ?_, fun w11 => ⟨fun w12 => ?_, fun w12 => ⟨fun w13 => ?_, fun w13 => ?_⟩⟩⟩⟩⟩⟩⟩⟩⟩⟩⟩⟩⟩⟩
  · conv => whnf
    rw [w0]
    refine And.intro (vp_in_nI (by omega) (by omega)) ?_
    conv => whnf
    simp only [nI_clamp (show 0 < 2 ^ 31 by omega), Nat.zero_add, h0]
    rw [← w0]
    refine ⟨_, rfl, ?_, hM, FrM.rf⟩
    unfold F_count
    rw [if_pos w0]
  · conv => whnf
    rw [w1]
    refine And.intro (vp_in_nI (by omega) (by omega)) ?_
    conv => whnf
    simp only [nI_clamp (show 1 < 2 ^ 31 by omega), Nat.zero_add, h0]
    rw [← w1]
    refine ⟨_, rfl, ?_, hM, FrM.rf⟩
    unfold F_count
    rw [if_neg w0, if_pos w1]
  · conv => whnf
    refine je_v0i hR kX6_count_80 rfl (m_people l G ) rfl ?_
    intro y G2 hq
    obtain ⟨rfl, rfl⟩ := hq
    rw [h0]
    refine hR.2 [] 400 _ _ _ _ ?_
    conv => whnf
    refine ⟨_, rfl, ?_, hM, FrM.rf⟩
    unfold F_count
    rw [if_neg w0, if_neg w1, if_pos w2]
  · conv => whnf
    refine And.intro (vp_in_nI (by omega) (by omega)) ?_
    conv => whnf
    simp only [nI_clamp (show 2 < 2 ^ 31 by omega), Nat.zero_add, h0]
    refine ⟨_, rfl, ?_, hM, FrM.rf⟩
    unfold F_count
    rw [if_neg w0, if_neg w1, if_neg w2, if_pos w3]
  · conv => whnf
    refine je_v0i hR kX6_count_92 rfl (m_out l G ) rfl ?_
    intro y G2 hq
    obtain ⟨rfl, rfl⟩ := hq
    rw [h0]
    refine hR.2 [] 400 _ _ _ _ ?_
    conv => whnf
    refine ⟨_, rfl, ?_, hM, FrM.rf⟩
    unfold F_count
    rw [if_neg w0, if_neg w1, if_neg w2, if_neg w3, if_pos w4]
  · conv => whnf
    rw [w5, nI_add, pk_sub (show 5 ≤ 3 + 5 by omega)]
    refine And.intro (vp_in_nI (by omega) (by omega)) ?_
    conv => whnf
    simp only [nI_clamp (show 3 + 5 - 5 < 2 ^ 31 by omega), Nat.zero_add, h0]
    rw [← w5]
    refine ⟨_, rfl, ?_, hM, FrM.rf⟩
    unfold F_count
    rw [if_neg w0, if_neg w1, if_neg w2, if_neg w3, if_neg w4, if_pos w5]
  · conv => whnf
    rw [w6, nI_add, pk_sub (show 5 ≤ 3 + 6 by omega)]
    refine And.intro (vp_in_nI (by omega) (by omega)) ?_
    conv => whnf
    simp only [nI_clamp (show 3 + 6 - 5 < 2 ^ 31 by omega), Nat.zero_add, h0]
    rw [← w6]
    refine ⟨_, rfl, ?_, hM, FrM.rf⟩
    unfold F_count
    rw [if_neg w0, if_neg w1, if_neg w2, if_neg w3, if_neg w4, if_neg w5, if_pos w6]
  · conv => whnf
    refine je_v0i hR kX6_count_108 rfl (m_ropes l G ) rfl ?_
    intro y G2 hq
    obtain ⟨rfl, rfl⟩ := hq
    rw [h0]
    refine hR.2 [] 400 _ _ _ _ ?_
    conv => whnf
    refine ⟨_, rfl, ?_, hM, FrM.rf⟩
    unfold F_count
    rw [if_neg w0, if_neg w1, if_neg w2, if_neg w3, if_neg w4, if_neg w5, if_neg w6, if_pos w7]
    exact rps_bits hI.bits
  · conv => whnf
    refine je_v0i hR kX6_count_113 rfl (m_openSet l G (by rw [h0]; exact hI.bits)) rfl ?_
    intro y G2 hq
    obtain ⟨rfl, rfl⟩ := hq
    rw [h0]
    refine hR.2 [] 400 _ _ _ _ ?_
    conv => whnf
    refine ⟨_, rfl, ?_, hM, FrM.rf⟩
    unfold F_count
    rw [if_neg w0, if_neg w1, if_neg w2, if_neg w3, if_neg w4, if_neg w5, if_neg w6, if_neg w7, if_pos w8]
  · conv => whnf
    refine je_v0v hR kX6_count_118 rfl (m_layWays l G (by rw [h0]; exact hI.bits) (fun d hd => by rw [h0]; exact hI.doors d hd) (fun c hc => by rw [h0]; exact hI.gd c hc)) rfl ?_
    intro G2 hq
    obtain ⟨hW, hL⟩ := hq
    rw [h0] at hL
    have hM2 := MR_W hM hW
    have q0 : G2 6 0 0 = S.1 := MR_1 hM2
    refine hR.2 [] 400 _ _ _ _ ?_
    conv => whnf
    refine je_v0i hR kX6_count_122 rfl (m_shutIn l G2) rfl ?_
    intro y G3 hq
    obtain ⟨rfl, rfl⟩ := hq
    rw [q0]
    refine hR.2 [] 400 _ _ _ _ ?_
    conv => whnf
    refine ⟨_, rfl, ?_, hM2, hW.m⟩
    unfold F_count
    rw [if_neg w0, if_neg w1, if_neg w2, if_neg w3, if_neg w4, if_neg w5, if_neg w6, if_neg w7, if_neg w8, if_pos w9]
    exact goa_std (laid_goa hL)
  · conv => whnf
    refine je_v0i hR kX6_count_127 rfl (m_uneven l G (by rw [h0]; exact hI.bits) (by rw [h0]; exact hI.outs (by omega))) rfl ?_
    intro y G2 hq
    obtain ⟨rfl, rfl⟩ := hq
    rw [h0]
    refine hR.2 [] 400 _ _ _ _ ?_
    conv => whnf
    refine ⟨_, rfl, ?_, hM, FrM.rf⟩
    unfold F_count
    rw [if_neg w0, if_neg w1, if_neg w2, if_neg w3, if_neg w4, if_neg w5, if_neg w6, if_neg w7, if_neg w8, if_neg w9, if_pos w10]
  · conv => whnf
    refine je_v0i hR kX6_count_132 rfl (m_guards l G (by rw [h0]; exact hI.gd)) rfl ?_
    intro y G2 hq
    obtain ⟨rfl, rfl⟩ := hq
    rw [h0]
    refine hR.2 [] 400 _ _ _ _ ?_
    conv => whnf
    refine ⟨_, rfl, ?_, hM, FrM.rf⟩
    unfold F_count
    rw [if_neg w0, if_neg w1, if_neg w2, if_neg w3, if_neg w4, if_neg w5, if_neg w6, if_neg w7, if_neg w8, if_neg w9, if_neg w10, if_pos w11]
  · conv => whnf
    refine ⟨_, rfl, ?_, hM, FrM.rf⟩
    unfold F_count
    rw [if_neg w0, if_neg w1, if_neg w2, if_neg w3, if_neg w4, if_neg w5, if_neg w6, if_neg w7, if_neg w8, if_neg w9, if_neg w10, if_neg w11, if_pos w12]
    exact MR_len hM
  · conv => whnf
    refine ⟨_, rfl, ?_, hM, FrM.rf⟩
    unfold F_count
    rw [if_neg w0, if_neg w1, if_neg w2, if_neg w3, if_neg w4, if_neg w5, if_neg w6, if_neg w7, if_neg w8, if_neg w9, if_neg w10, if_neg w11, if_neg w12, if_pos w13]
    exact MR_k hM
  · conv => whnf
    refine ⟨_, rfl, ?_, hM, FrM.rf⟩
    unfold F_count
    rw [if_neg w0, if_neg w1, if_neg w2, if_neg w3, if_neg w4, if_neg w5, if_neg w6, if_neg w7, if_neg w8, if_neg w9, if_neg w10, if_neg w11, if_neg w12, if_neg w13]
