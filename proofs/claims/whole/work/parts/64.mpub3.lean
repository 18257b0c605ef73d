/-! THE REFERENCE: door, open, guard, enter -/
set_option maxHeartbeats 4000000 in
set_option maxRecDepth 100000 in
theorem m_door (l : Launch) (G : je_G) (S : jS) (hM : MR G S) (x c ρ : Int32) : je_Ci l yX6_door wsX6_door rmX6_door [jR (6, 0, 0), jI x, jI c, jI ρ] G (fun y G' => y = (F_door S x c ρ).1 ∧ MR G' (F_door S x c ρ).2 ∧ FrM G G') := by
  refine je_met1 tbX6_door 1 okX6_door rfl (by decide +kernel) rfl (by unfold je_ret; simp) (by decide) (Nat.le_of_ble_eq_true rfl) ?_
  intro J hoks hR
  show J G 0 [some (jR (6, 0, 0)), some (jI x), some (jI c), some (jI ρ), none] []
  have bad : ¬ (vp_in x 4 ∧ vp_in c 35) → F_door S x c ρ = (-1, S) := fun h => by unfold F_door; rw [if_pos h]
  refine hR.2 [] 400 _ _ _ _ ?_
  conv => whnf
  refine je_s1i hR kX6_door_1 rfl (m_isDoor l G x) rfl ?_
  intro y G' hq
  obtain ⟨rfl, ⟨h1, rfl⟩ | ⟨h1, rfl⟩⟩ := hq
  · skip
    refine hR.2 [] 400 _ _ _ _ ?_
    conv => whnf
    refine br_f (by decide) ?_
    conv => whnf
    refine je_s1i hR kX6_door_8 rfl (m_isCell l G' c) rfl ?_
    intro y G hq
    obtain ⟨rfl, ⟨h2, rfl⟩ | ⟨h2, rfl⟩⟩ := hq
    · have hv : ¬ ¬ (vp_in x 4 ∧ vp_in c 35) := fun h => h ⟨h1, h2⟩
      obtain ⟨d, hd, rfl⟩ := vp_in_of h1 (by omega)
      have hcl : (nI d).toNatClampNeg = d := nI_clamp (by omega)
      refine hR.2 [] 400 _ _ _ _ ?_
      conv => whnf
      refine And.intro (fun _ => ?_) (fun h => absurd h (by decide))
      conv => whnf
      refine je_s3i hR kX6_door_20 rfl (m_in l G ρ (nI 1) (nI 9)) rfl ?_
      intro y G' hq
      obtain ⟨rfl, ⟨h3, h4, rfl⟩ | ⟨h3, rfl⟩⟩ := hq
      · have hρ : ¬ (ρ < nI 1 ∨ ¬ ρ ≤ nI 9) := fun h => h.elim h3 (fun h => h (i_nlt.mp h4))
        have hF : F_door S (nI d) c ρ = (S.1 (5 + d), wS (rec6 S) (upd (upd S.1 (5 + d) c) (9 + d) ρ)) := by
          unfold F_door
          rw [if_neg hv, if_neg hρ, hcl]
        refine hR.2 [] 400 _ _ _ _ ?_
        conv => whnf
        refine And.intro (fun _ => ?_) (fun h => absurd h (by decide))
        conv => whnf
        rw [nI_add]
        refine je_v2i hR kX6_door_34 rfl (m_lays l G' S hM (5 + d) (by omega) c) rfl ?_
        intro y G2 hq
        obtain ⟨rfl, hM2, hF2⟩ := hq
        have q0 := MR_1 hM2
        refine hR.2 [] 400 _ _ _ _ ?_
        conv => whnf
        rw [nI_add]
        refine ⟨vp_in_nI (by omega) (by omega), ?_⟩
        conv => whnf
        simp only [nI_clamp (show 9 + d < 2 ^ 31 by omega), Nat.zero_add, q0]
        rw [hF]
        exact ⟨_, rfl, rfl, MR_set hM2 _, hF2.set⟩
      · have hρ : ρ < nI 1 ∨ ¬ ρ ≤ nI 9 := h3.elim Or.inl (fun h => Or.inr (i_nle.mpr h))
        refine hR.2 [] 400 _ _ _ _ ?_
        conv => whnf
        refine And.intro (fun h => absurd rfl h) (fun _ => ?_)
        conv => whnf
        refine ⟨_, rfl, ?_⟩
        unfold F_door
        rw [if_neg hv, if_pos hρ]
        exact ⟨rfl, hM, FrM.rf⟩
    · skip
      refine hR.2 [] 400 _ _ _ _ ?_
      conv => whnf
      refine And.intro (fun h => absurd rfl h) (fun _ => ?_)
      conv => whnf
      rw [bad (fun h => h2 h.2)]
      exact ⟨_, rfl, rfl, hM, FrM.rf⟩
  · skip
    refine hR.2 [] 400 _ _ _ _ ?_
    conv => whnf
    refine br_t (by decide) ?_
    conv => whnf
    rw [bad (fun h => h1 h.1)]
    exact ⟨_, rfl, rfl, hM, FrM.rf⟩
set_option maxHeartbeats 4000000 in
set_option maxRecDepth 100000 in
theorem m_open (l : Launch) (G : je_G) (S : jS) (hM : MR G S) (x o : Int32) (h01 : o = 0 ∨ o = 1) : je_Ci l yX6_open wsX6_open rmX6_open [jR (6, 0, 0), jI x, jI o] G (fun y G' => y = (F_open S x o).1 ∧ MR G' (F_open S x o).2 ∧ FrM G G') := by
  refine je_met1 tbX6_open 1 okX6_open rfl (by decide +kernel) rfl (by unfold je_ret; simp) (by decide) (Nat.le_of_ble_eq_true rfl) ?_
  intro J hoks hR
  show J G 0 [some (jR (6, 0, 0)), some (jI x), some (jI o), none] []
  have h0 : G 6 0 0 = S.1 := MR_1 hM
  refine hR.2 [] 400 _ _ _ _ ?_
  conv => whnf
  refine je_s1i hR kX6_open_1 rfl (m_isDoor l G x) rfl ?_
  intro y G' hq
  obtain ⟨rfl, ⟨h1, rfl⟩ | ⟨h1, rfl⟩⟩ := hq
  · have hv : ¬ ¬ vp_in x 4 := fun h => h h1
    obtain ⟨d, hd, rfl⟩ := vp_in_of h1 (by omega)
    have hcl : (nI d).toNatClampNeg = d := nI_clamp (by omega)
    refine hR.2 [47, 30, 33] 400 _ _ _ _ ?_
    conv => whnf
    refine And.intro (fun _ => ?_) (fun h => absurd h (by decide))
    conv => whnf
    have same : S.1 (13 + d) = o → ∀ a, J G' 30 a [] := by
      intro he a
      refine hR.2 [] 400 _ _ _ _ ?_
      conv => whnf
      refine ⟨_, rfl, ?_⟩
      unfold F_open
      rw [if_neg hv, hcl, if_pos he]
      exact ⟨rfl, hM, FrM.rf⟩
    have later : ¬ S.1 (13 + d) = o → J G' 33 [some (jR (6, 0, 0)), some (jI (nI d)), some (jI o), none] [] := by
      intro hne
      have hF : F_open S (nI d) o = (opn (upd S.1 (13 + d) o), wS (rec6 S) (upd S.1 (13 + d) o)) := by
        unfold F_open
        rw [if_neg hv, hcl, if_neg hne]
      have go : J G' 47 [some (jR (6, 0, 0)), some (jI (nI d)), some (jI o), none] [jI o, jI (nI (13 + d)), jR (6, 0, 0)] := by
        refine je_v2i hR kX6_open_47 rfl (m_lays l G' S hM (13 + d) (by omega) o) rfl ?_
        intro y G2 hq
        obtain ⟨rfl, hM2, hF2⟩ := hq
        have q0 := MR_1 hM2
        refine hR.2 [] 400 _ _ _ _ ?_
        conv => whnf
        refine je_v0i hR kX6_open_52 rfl (m_openDoors l G2) rfl ?_
        intro y G3 hq
        obtain ⟨rfl, rfl⟩ := hq
        refine hR.2 [] 400 _ _ _ _ ?_
        conv => whnf
        rw [hF]
        refine ⟨_, rfl, ?_, hM2, hF2⟩
        rw [q0]
        rfl
      refine hR.2 [47] 400 _ _ _ _ ?_
      conv => whnf
      rw [nI_add]
      rcases h01 with rfl | rfl
      · refine And.intro (fun _ => ?_) (fun h => absurd rfl h)
        conv => whnf
        exact go
      · refine And.intro (fun h => absurd h (by decide)) (fun _ => ?_)
        conv => whnf
        exact go
    rw [nI_add]
    refine ⟨vp_in_nI (by omega) (by omega), ?_⟩
    conv => whnf
    simp only [nI_clamp (show 13 + d < 2 ^ 31 by omega), Nat.zero_add, h0]
    rcases h01 with rfl | rfl
    · refine And.intro (fun _ => ?_) (fun h => absurd rfl h)
      conv => whnf
      refine ⟨fun e => ?_, fun e => ?_⟩
      · conv => whnf
        exact later e
      · conv => whnf
        exact same e _
    · refine And.intro (fun h => absurd h (by decide)) (fun _ => ?_)
      conv => whnf
      refine ⟨fun e => ?_, fun e => ?_⟩
      · conv => whnf
        exact later e
      · conv => whnf
        exact same e _
  · skip
    refine hR.2 [] 400 _ _ _ _ ?_
    conv => whnf
    refine And.intro (fun h => absurd rfl h) (fun _ => ?_)
    conv => whnf
    refine ⟨_, rfl, ?_⟩
    unfold F_open
    rw [if_pos h1]
    exact ⟨rfl, hM, FrM.rf⟩
theorem g_rng {x : Int32} : x = -1 ∨ vp_in x 4 ↔ ¬ x < -1 ∧ ¬ nI 3 < x := by
  rw [vp_rng (n := 3) (by omega)]
  simp only [fa_lt, fa_eq]
  have e1 : (-1 : Int32).toInt = -1 := by decide
  have e2 : (nI 0).toInt = 0 := by decide
  have e3 : (nI 3).toInt = 3 := by decide
  rw [e1, e2, e3]
  omega
set_option maxHeartbeats 4000000 in
set_option maxRecDepth 100000 in
theorem m_guard (l : Launch) (G : je_G) (S : jS) (hM : MR G S) (hI : InvS 9999 S.1) (x g : Int32) : je_Ci l yX6_guard wsX6_guard rmX6_guard [jR (6, 0, 0), jI x, jI g] G (fun y G' => y = (F_guard S x g).1 ∧ MR G' (F_guard S x g).2 ∧ FrM G G') := by
  refine je_met1 tbX6_guard 1 okX6_guard rfl (by decide +kernel) rfl (by unfold je_ret; simp) (by decide) (Nat.le_of_ble_eq_true rfl) ?_
  intro J hoks hR
  show J G 0 [some (jR (6, 0, 0)), some (jI x), some (jI g), none] []
  refine hR.2 [] 400 _ _ _ _ ?_
  conv => whnf
  refine je_s1i hR kX6_guard_1 rfl (m_isCell l G x) rfl ?_
  intro y G' hq
  obtain ⟨rfl, ⟨h1, rfl⟩ | ⟨h1, rfl⟩⟩ := hq
  · have hv : ¬ ¬ vp_in x 35 := fun h => h h1
    obtain ⟨c, hc, rfl⟩ := vp_in_of h1 (by omega)
    have hcl : (nI c).toNatClampNeg = c := nI_clamp (by omega)
    refine hR.2 [] 400 _ _ _ _ ?_
    conv => whnf
    refine And.intro (fun _ => ?_) (fun h => absurd h (by decide))
    conv => whnf
    refine je_s3i hR kX6_guard_12 rfl (m_in l G' g (-1) (nI 3)) rfl ?_
    intro y G hq
    obtain ⟨rfl, ⟨h2, h3, rfl⟩ | ⟨h2, rfl⟩⟩ := hq
    · have hg : g = -1 ∨ vp_in g 4 := g_rng.mpr ⟨h2, h3⟩
      have hF : F_guard S (nI c) g = (oI (gl (upd S.1 (56 + c) g) c), wS (rec6 S) (upd S.1 (56 + c) g)) := by
        unfold F_guard
        rw [if_neg hv, if_neg (fun h => h hg), hcl]
      refine hR.2 [] 400 _ _ _ _ ?_
      conv => whnf
      refine And.intro (fun _ => ?_) (fun h => absurd h (by decide))
      conv => whnf
      rw [nI_add]
      refine je_v2i hR kX6_guard_27 rfl (m_lays l G S hM (56 + c) (by omega) g) rfl ?_
      intro y G2 hq
      obtain ⟨rfl, hM2, hF2⟩ := hq
      have q0 : G2 6 0 0 = upd S.1 (56 + c) g := MR_1 hM2
      refine hR.2 [] 400 _ _ _ _ ?_
      conv => whnf
      refine je_v0v hR kX6_guard_32 rfl (m_layWays l G2 (by
        rw [q0]
        exact ⟨fun e he => by rw [upd_ne (by omega)]; exact hI.bits.1 e he, fun d hd => by rw [upd_ne (by omega)]; exact hI.bits.2 d hd⟩) (fun d hd => by rw [q0, upd_ne (by omega)]; exact hI.doors d hd) (fun c' hc' => by
        rw [q0]
        by_cases e : c' = c
        · rw [e, upd_eq]; exact hg
        · rw [upd_ne (by omega)]; exact hI.gd c' hc')) rfl ?_
      intro G3 hq
      obtain ⟨hW, hL⟩ := hq
      rw [q0] at hL
      refine hR.2 [] 400 _ _ _ _ ?_
      conv => whnf
      refine ⟨vp_in_nI (by omega) (by omega), ?_⟩
      conv => whnf
      simp only [nI_clamp (show c < 2 ^ 31 by omega), Nat.zero_add]
      rw [hF]
      exact ⟨_, rfl, (hL.2.2 c hc).1, MR_W hM2 hW, hF2.tr hW.m⟩
    · have hg : ¬ (g = -1 ∨ vp_in g 4) := fun h => h2.elim (g_rng.mp h).1 (g_rng.mp h).2
      refine hR.2 [] 400 _ _ _ _ ?_
      conv => whnf
      refine And.intro (fun h => absurd rfl h) (fun _ => ?_)
      conv => whnf
      refine ⟨_, rfl, ?_⟩
      unfold F_guard
      rw [if_neg hv, if_pos hg]
      exact ⟨rfl, hM, FrM.rf⟩
  · skip
    refine hR.2 [] 400 _ _ _ _ ?_
    conv => whnf
    refine And.intro (fun h => absurd rfl h) (fun _ => ?_)
    conv => whnf
    refine ⟨_, rfl, ?_⟩
    unfold F_guard
    rw [if_pos h1]
    exact ⟨rfl, hM, FrM.rf⟩
set_option maxHeartbeats 4000000 in
set_option maxRecDepth 100000 in
theorem m_enter (l : Launch) (G : je_G) (S : jS) (hM : MR G S) (x m : Int32) : je_Ci l yX6_enter wsX6_enter rmX6_enter [jR (6, 0, 0), jI x, jI m] G (fun y G' => y = (F_enter S x m).1 ∧ MR G' (F_enter S x m).2 ∧ FrM G G') := by
  refine je_met1 tbX6_enter 1 okX6_enter rfl (by decide +kernel) rfl (by unfold je_ret; simp) (by decide) (Nat.le_of_ble_eq_true rfl) ?_
  intro J hoks hR
  show J G 0 [some (jR (6, 0, 0)), some (jI x), some (jI m)] []
  have h0 : G 6 0 0 = S.1 := MR_1 hM
  refine hR.2 [] 400 _ _ _ _ ?_
  conv => whnf
  refine je_s1i hR kX6_enter_1 rfl (m_isCell l G x) rfl ?_
  intro y G' hq
  obtain ⟨rfl, ⟨h1, rfl⟩ | ⟨h1, rfl⟩⟩ := hq
  · have hv : ¬ ¬ vp_in x 35 := fun h => h h1
    obtain ⟨c, hc, rfl⟩ := vp_in_of h1 (by omega)
    have hcl : (nI c).toNatClampNeg = c := nI_clamp (by omega)
    refine hR.2 [] 400 _ _ _ _ ?_
    conv => whnf
    refine And.intro (fun _ => ?_) (fun h => absurd h (by decide))
    conv => whnf
    refine je_s3i hR kX6_enter_13 rfl (m_in l G' m (nI 1) (nI 20)) rfl ?_
    intro y G hq
    obtain ⟨rfl, ⟨h2, h3, rfl⟩ | ⟨h2, rfl⟩⟩ := hq
    · have hm : ¬ (m < nI 1 ∨ ¬ m ≤ nI 20) := fun h => h.elim h2 (fun h => h (i_nlt.mp h3))
      refine hR.2 [] 400 _ _ _ _ ?_
      conv => whnf
      refine And.intro (fun _ => ?_) (fun h => absurd h (by decide))
      conv => whnf
      rw [nI_add]
      refine ⟨vp_in_nI (by omega) (by omega), ?_⟩
      conv => whnf
      refine And.intro (vp_in_nI (by omega) (by omega)) ?_
      conv => whnf
      simp (disch := omega) only [nI_clamp, Nat.zero_add]
      simp only [h0]
      refine ⟨fun e => ?_, fun e => ?_⟩
      · have hF : F_enter S (nI c) m = (S.1 (21 + c) + m, wS (rec6 S) (upd (upd S.1 (21 + c) (S.1 (21 + c) + m)) 2 (S.1 2 + m))) := by
          unfold F_enter
          rw [if_neg hv, if_neg hm, hcl, if_neg (fun h => h e)]
        conv => whnf
        refine je_v0v hR kX6_enter_46 rfl (m_record l G S hM) rfl ?_
        intro G2 hq
        obtain ⟨hM2, hF2⟩ := hq
        have q0 : G2 6 0 0 = S.1 := (MR_1 hM2).trans (rec6_1 S)
        refine hR.2 [] 400 _ _ _ _ ?_
        conv => whnf
        rw [nI_add]
        refine ⟨vp_in_nI (by omega) (by omega), ?_⟩
        conv => whnf
        refine ⟨vp_in_nI (by omega) (by omega), ?_⟩
        conv => whnf
        refine And.intro (vp_in_nI (by omega) (by omega)) ?_
        conv => whnf
        refine And.intro (vp_in_nI (by omega) (by omega)) ?_
        conv => whnf
        rw [nI_add]
        refine ⟨vp_in_nI (by omega) (by omega), ?_⟩
        conv => whnf
        simp only [je_set_set, je_set_eq, q0]
        simp only [nI_clamp (show 21 + c < 2 ^ 31 by omega), nI_clamp (show 2 < 2 ^ 31 by omega), Nat.zero_add]
        rw [hF]
        refine ⟨_, rfl, ?_, ?_, hF2.m.set⟩
        · rw [upd_ne (by omega), upd_eq]
        · rw [show upd S.1 (21 + c) (S.1 (21 + c) + m) 2 = S.1 2 from upd_ne (by omega)]
          exact MR_set hM2 _
      · conv => whnf
        refine ⟨_, rfl, ?_⟩
        unfold F_enter
        rw [if_neg hv, if_neg hm, hcl, if_pos e]
        exact ⟨rfl, hM, FrM.rf⟩
    · have hm : m < nI 1 ∨ ¬ m ≤ nI 20 := h2.elim Or.inl (fun h => Or.inr (i_nle.mpr h))
      refine hR.2 [] 400 _ _ _ _ ?_
      conv => whnf
      refine And.intro (fun h => absurd rfl h) (fun _ => ?_)
      conv => whnf
      refine ⟨_, rfl, ?_⟩
      unfold F_enter
      rw [if_neg hv, if_pos hm]
      exact ⟨rfl, hM, FrM.rf⟩
  · skip
    refine hR.2 [] 400 _ _ _ _ ?_
    conv => whnf
    refine And.intro (fun h => absurd rfl h) (fun _ => ?_)
    conv => whnf
    refine ⟨_, rfl, ?_⟩
    unfold F_enter
    rw [if_pos h1]
    exact ⟨rfl, hM, FrM.rf⟩
