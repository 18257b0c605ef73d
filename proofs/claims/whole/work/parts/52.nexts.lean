/-! THE REFERENCE: nextOf, layWays -/
/-- the way that the reference finds, going from the last on -/
noncomputable def nxm (σ : Sg) (g c : Nat) : Nat → Option Nat
  | 0 => none
  | j + 1 => match nr σ g c (3 - j) with
    | some o => some o
    | none => nxm σ g c j
theorem nxm_nxw {σ : Sg} {g c : Nat} : nxm σ g c 4 = nxw σ g c := by
  unfold nxw
  simp only [nxm]
  cases nr σ g c 0 <;> cases nr σ g c 1 <;> cases nr σ g c 2 <;> cases nr σ g c 3 <;> rfl
theorem nxm_s {σ : Sg} {g c j o : Nat} (h : nr σ g c (3 - j) = some o) : nxm σ g c (j + 1) = some o := by
  rw [nxm, h]
theorem nxm_n {σ : Sg} {g c j : Nat} (h : nr σ g c (3 - j) = none) : nxm σ g c (j + 1) = nxm σ g c j := by
  rw [nxm, h]
theorem sg_lt {σ : Sg} {g c : Nat} (h : gl σ c = some g) : sg σ c = nI (dst σ g c) := by
  unfold sg
  rw [h]
  exact dI_lt (gl_ok h).2.2
set_option maxHeartbeats 4000000 in
set_option maxRecDepth 100000 in
theorem m_nextOf (l : Launch) (G : je_G) (hN : hasN G (G 6 0 0)) (hD : allD (G 6 0 0)) (c : Nat) (hc : c < 35) (h9 : G 6 0 9 c = oI (gl (G 6 0 0) c)) (h10 : G 6 0 10 c = sg (G 6 0 0) c) : je_Ci l yX6_nextOf wsX6_nextOf rmX6_nextOf [jR (6, 0, 0), jI (nI c)] G (fun r G' => G' = G ∧ r = oI (nx (G 6 0 0) c)) := by
  refine je_met1 tbX6_nextOf 1 okX6_nextOf rfl (by decide +kernel) rfl (by unfold je_ret; simp) (by decide) (Nat.le_of_ble_eq_true rfl) ?_
  intro J hoks hR
  show J G 0 [some (jR (6, 0, 0)), some (jI (nI c)), none, none, none] []
  cases hgl : gl (G 6 0 0) c with
  | none =>
    rw [hgl] at h9
    refine hR.2 [5] 400 _ _ _ _ ?_
    conv => whnf
    refine hR.2 [5] 400 _ _ _ _ ?_
    conv => whnf
    refine br_f (by decide) ?_
    conv => whnf
    refine ⟨vp_in_nI (by omega) (by omega), ?_⟩
    conv => whnf
    simp (disch := omega) only [nI_clamp, Nat.zero_add]
    rw [h9]
    refine And.intro (fun _ => ?_) (fun h => absurd rfl h)
    conv => whnf
    exact ⟨_, rfl, rfl, by unfold nx; rw [hgl]; rfl⟩
  | some g =>
    obtain ⟨hg4, hgl2⟩ := gl_ok hgl
    have hlt := hgl2.2
    rw [hgl] at h9
    rw [sg_lt hgl] at h10
    have h9' : G 6 0 9 c = nI g := h9
    refine hR.2 [5] 400 _ _ _ _ ?_
    conv => whnf
    by_cases hk : dst (G 6 0 0) g c = 0
    · skip
      refine hR.2 [5] 400 _ _ _ _ ?_
      conv => whnf
      refine br_f (by decide) ?_
      conv => whnf
      refine ⟨vp_in_nI (by omega) (by omega), ?_⟩
      conv => whnf
      simp (disch := omega) only [nI_clamp, Nat.zero_add]
      rw [h9']
      refine And.intro (fun h => absurd h (nI_ne6 (by omega))) (fun _ => ?_)
      conv => whnf
      refine ⟨vp_in_nI (by omega) (by omega), ?_⟩
      conv => whnf
      simp (disch := omega) only [nI_clamp, Nat.zero_add]
      rw [h10]
      refine br_t (by rw [hk]; decide) ?_
      conv => whnf
      exact ⟨_, rfl, rfl, by unfold nx; rw [hgl]; dsimp only; rw [if_neg (by omega)]; rfl⟩
    · have hnx : nx (G 6 0 0) c = nxw (G 6 0 0) g c := by unfold nx; rw [hgl]; dsimp only; rw [if_pos (by omega)]
      rw [hnx] at hR
      refine (show J G 5 [some (jR (6, 0, 0)), some (jI (nI c)), some (jI (oI (nxm (G 6 0 0) g c 0))), some (jI (nI (4 - 0) + (-1))), none] [] → _ from fun h => by rw [show nI (4 - 0) + (-1) = nI 3 from by decide] at h; exact h) ?_
      refine je_for (P := fun j => J G 5 [some (jR (6, 0, 0)), some (jI (nI c)), some (jI (oI (nxm (G 6 0 0) g c j))), some (jI (nI (4 - j) + (-1))), none] []) 4 ?_ ?_ 0 (Nat.zero_le _)
      · skip
        refine hR.2 [5] 400 _ _ _ _ ?_
        conv => whnf
        refine br_t (by decide) ?_
        conv => whnf
        exact ⟨_, rfl, rfl, by rw [nxm_nxw]⟩
      · intro j hj ih
        rw [show 4 - j = (3 - j) + 1 by omega, pk_m1]
        rw [show 4 - (j + 1) = 3 - j by omega] at ih
        refine hR.2 [5] 400 _ _ _ _ ?_
        conv => whnf
        refine br_f (nI_pos (by omega)) ?_
        conv => whnf
        refine ⟨vp_in_nI (by omega) (by omega), ?_⟩
        conv => whnf
        simp (disch := omega) only [nI_clamp, Nat.zero_add]
        rw [h9']
        refine And.intro (fun h => absurd h (nI_ne6 (by omega))) (fun _ => ?_)
        conv => whnf
        refine ⟨vp_in_nI (by omega) (by omega), ?_⟩
        conv => whnf
        simp (disch := omega) only [nI_clamp, Nat.zero_add]
        rw [h10]
        refine br_f (fun h => absurd ((nI_leI (b := 0) (by omega) (by omega)).mp h) (by omega)) ?_
        conv => whnf
        refine je_v2i hR kX6_nextOf_32 rfl (m_isFree l G c (3 - j) hc (by omega)) rfl ?_
        intro y G' hq
        obtain ⟨rfl, ⟨⟨o, hsp⟩, rfl⟩ | ⟨hsp, rfl⟩⟩ := hq
        · obtain ⟨hob, -⟩ := stp_bs hsp
          have ho := (stp_lt hc (show 3 - j < 4 by omega) hsp).1
          have hdo := (hD g hg4).2.1 o ho
          refine hR.2 [5] 400 _ _ _ _ ?_
          conv => whnf
          refine br_f (by decide) ?_
          conv => whnf
          refine ⟨vp_in_nI (by omega) (by omega), ?_⟩
          conv => whnf
          simp (disch := omega) only [nI_clamp, Nat.zero_add]
          rw [h9', mul35']
          refine je_s2i hR kX6_nextOf_53 rfl (m_beside l _ hc (show 3 - j < 4 by omega)) rfl ?_
          intro y G hq
          obtain ⟨rfl, rfl⟩ := hq
          rw [hob]
          show J _ _ _ [jI (nI o), _, _]
          refine hR.2 [5] 400 _ _ _ _ ?_
          conv => whnf
          rw [nI_add]
          refine And.intro (vp_in_nI (by omega) (by omega)) ?_
          conv => whnf
          refine ⟨vp_in_nI (by omega) (by omega), ?_⟩
          conv => whnf
          simp (disch := omega) only [nI_clamp, Nat.zero_add]
          rw [hN g hg4 o ho, h10, pk_sub (show 1 ≤ dst (G 6 0 0) g c by omega)]
          by_cases hnr : dst (G 6 0 0) g o + 1 = dst (G 6 0 0) g c
          · refine And.intro (fun h => absurd (by rw [show dst (G 6 0 0) g o = dst (G 6 0 0) g c - 1 by omega]) h) (fun _ => ?_)
            conv => whnf
            refine br_f (by decide) ?_
            conv => whnf
            refine je_s2i hR kX6_nextOf_83 rfl (m_beside l _ hc (show 3 - j < 4 by omega)) rfl ?_
            intro y G' hq
            obtain ⟨rfl, rfl⟩ := hq
            rw [hob]
            refine hR.2 [5] 400 _ _ _ _ ?_
            conv => whnf
            rw [nxm_s (o := o) (by unfold nr; rw [hsp]; dsimp only; rw [if_pos hnr])] at ih
            exact je_loc hR (L' := [some _, some _, some _, some _, none]) ⟨rfl, rfl, rfl, rfl, trivial⟩ ih
          · refine And.intro (fun _ => ?_) (fun h => absurd ((nI_eq (by omega) (by omega)).mp h) (by omega))
            conv => whnf
            refine br_t (by decide) ?_
            conv => whnf
            rw [nxm_n (by unfold nr; rw [hsp]; dsimp only; rw [if_neg hnr])] at ih
            exact je_loc hR (L' := [some _, some _, some _, some _, none]) ⟨rfl, rfl, rfl, rfl, trivial⟩ ih
        · skip
          refine hR.2 [5] 400 _ _ _ _ ?_
          conv => whnf
          refine br_t (by decide) ?_
          conv => whnf
          refine br_t (by decide) ?_
          conv => whnf
          rw [nxm_n (by unfold nr; rw [hsp])] at ih
          exact je_loc hR (L' := [some _, some _, some _, some _, none]) ⟨rfl, rfl, rfl, rfl, trivial⟩ ih
