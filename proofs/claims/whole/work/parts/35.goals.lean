/-! RopedHalls$Routes: goals and next cells -/
def onum (o : Option Nat) (N : Nat) : Prop := ∀ b, o = some b → b < N
set_option maxHeartbeats 4000000 in
set_option maxRecDepth 100000 in
theorem c_goalOf (l : Launch) (G : je_G) (r c : Nat) (hc : c < 35) : je_Ci l yX4_goalOf wsX4_goalOf rmX4_goalOf [jR (4, r, 0), jI (nI c)] G (fun x G' => G' = G ∧ x = G 4 r 2 c) := by
  refine je_met1 tbX4_goalOf 1 okX4_goalOf rfl (by decide +kernel) rfl (by unfold je_ret; simp) (by decide) (Nat.le_of_ble_eq_true rfl) ?_
  intro J hoks hR
  show J G 0 [some (jR (4, r, 0)), some (jI (nI c))] []
  refine hR.2 [] 400 _ _ _ _ ?_
  conv => whnf
  refine je_s1i hR kX4_goalOf_1 rfl (c_isCell l G (nI c)) rfl ?_
  intro y G' hq
  obtain ⟨rfl, ⟨h1, rfl⟩ | ⟨h1, rfl⟩⟩ := hq
  · skip
    refine hR.2 [] 400 _ _ _ _ ?_
    conv => whnf
    refine br_f (by decide) ?_
    conv => whnf
    refine ⟨vp_in_nI (by omega) (by omega), ?_⟩
    conv => whnf
    exact ⟨_, rfl, rfl, by rw [nI_clamp (by omega), Nat.zero_add]⟩
  · exact absurd (vp_in_nI hc (by omega)) h1
set_option maxHeartbeats 4000000 in
set_option maxRecDepth 100000 in
theorem c_nextOf (l : Launch) (G : je_G) (r c : Nat) (hc : c < 35) : je_Ci l yX4_nextOf wsX4_nextOf rmX4_nextOf [jR (4, r, 0), jI (nI c)] G (fun x G' => G' = G ∧ x = G 4 r 3 c) := by
  refine je_met1 tbX4_nextOf 1 okX4_nextOf rfl (by decide +kernel) rfl (by unfold je_ret; simp) (by decide) (Nat.le_of_ble_eq_true rfl) ?_
  intro J hoks hR
  show J G 0 [some (jR (4, r, 0)), some (jI (nI c))] []
  refine hR.2 [] 400 _ _ _ _ ?_
  conv => whnf
  refine je_s1i hR kX4_nextOf_1 rfl (c_isCell l G (nI c)) rfl ?_
  intro y G' hq
  obtain ⟨rfl, ⟨h1, rfl⟩ | ⟨h1, rfl⟩⟩ := hq
  · skip
    refine hR.2 [] 400 _ _ _ _ ?_
    conv => whnf
    refine br_f (by decide) ?_
    conv => whnf
    refine ⟨vp_in_nI (by omega) (by omega), ?_⟩
    conv => whnf
    exact ⟨_, rfl, rfl, by rw [nI_clamp (by omega), Nat.zero_add]⟩
  · exact absurd (vp_in_nI hc (by omega)) h1
set_option maxHeartbeats 4000000 in
set_option maxRecDepth 100000 in
theorem c_cellAtTurn (l : Launch) (G : je_G) (r c : Nat) (hc : c < 35) : je_Ci l yX4_cellAtTurn wsX4_cellAtTurn rmX4_cellAtTurn [jR (4, r, 0), jI (nI c)] G (fun x G' => G' = G ∧ x = G 4 r 4 c) := by
  refine je_met1 tbX4_cellAtTurn 1 okX4_cellAtTurn rfl (by decide +kernel) rfl (by unfold je_ret; simp) (by decide) (Nat.le_of_ble_eq_true rfl) ?_
  intro J hoks hR
  show J G 0 [some (jR (4, r, 0)), some (jI (nI c))] []
  refine hR.2 [] 400 _ _ _ _ ?_
  conv => whnf
  refine je_s1i hR kX4_cellAtTurn_1 rfl (c_isCell l G (nI c)) rfl ?_
  intro y G' hq
  obtain ⟨rfl, ⟨h1, rfl⟩ | ⟨h1, rfl⟩⟩ := hq
  · skip
    refine hR.2 [] 400 _ _ _ _ ?_
    conv => whnf
    refine br_f (by decide) ?_
    conv => whnf
    refine ⟨vp_in_nI (by omega) (by omega), ?_⟩
    conv => whnf
    exact ⟨_, rfl, rfl, by rw [nI_clamp (by omega), Nat.zero_add]⟩
  · exact absurd (vp_in_nI hc (by omega)) h1
set_option maxHeartbeats 4000000 in
set_option maxRecDepth 100000 in
theorem c_turnsAMinute (l : Launch) (G : je_G) (r : Nat) : je_Ci l yX4_turnsAMinute wsX4_turnsAMinute rmX4_turnsAMinute [jR (4, r, 0)] G (fun x G' => G' = G ∧ x = G 4 r 5 0) := by
  refine je_met1 tbX4_turnsAMinute 1 okX4_turnsAMinute rfl (by decide +kernel) rfl (by unfold je_ret; simp) (by decide) (Nat.le_of_ble_eq_true rfl) ?_
  intro J hoks hR
  show J G 0 [some (jR (4, r, 0))] []
  refine hR.2 [] 400 _ _ _ _ ?_
  conv => whnf
  exact ⟨_, rfl, rfl, rfl⟩
/-- the steps that a routes' object holds for a cell and a goal -/
def gst (st : Sg) (c : Nat) (o : Option Nat) : Int32 := match o with
  | some b => st (35 * b + c)
  | none => -6
set_option maxHeartbeats 4000000 in
set_option maxRecDepth 100000 in
theorem c_stepsToGoal (l : Launch) (G : je_G) (r c : Nat) (hc : c < 35) (o : Option Nat) (ho : onum o 4) (hg : G 4 r 2 c = oI o) : je_Ci l yX4_stepsToGoal wsX4_stepsToGoal rmX4_stepsToGoal [jR (4, r, 0), jI (nI c)] G (fun x G' => G' = G ∧ x = gst (G 4 r 0) c o) := by
  refine je_met1 tbX4_stepsToGoal 1 okX4_stepsToGoal rfl (by decide +kernel) rfl (by unfold je_ret; simp) (by decide) (Nat.le_of_ble_eq_true rfl) ?_
  intro J hoks hR
  show J G 0 [some (jR (4, r, 0)), some (jI (nI c))] []
  refine hR.2 [] 400 _ _ _ _ ?_
  conv => whnf
  refine je_v1i hR kX4_stepsToGoal_3 rfl (c_goalOf l G r c hc) rfl ?_
  intro y G' hq
  obtain ⟨rfl, rfl⟩ := hq
  rw [hg]
  refine hR.2 [] 400 _ _ _ _ ?_
  conv => whnf
  cases o with
  | none =>
    refine je_v2i hR kX4_stepsToGoal_7 rfl (c_stepsToN l G' r (-6) (nI c) (n6_vp 4)) rfl ?_
    intro y G hq
    obtain ⟨rfl, rfl⟩ := hq
    refine hR.2 [] 400 _ _ _ _ ?_
    conv => whnf
    exact ⟨_, rfl, rfl, rfl⟩
  | some b =>
    refine je_v2i hR kX4_stepsToGoal_7 rfl (c_stepsTo l G' r b c (ho b rfl) hc) rfl ?_
    intro y G hq
    obtain ⟨rfl, rfl⟩ := hq
    refine hR.2 [] 400 _ _ _ _ ?_
    conv => whnf
    exact ⟨_, rfl, rfl, rfl⟩
/-- the routes' object holds the distances of a hall -/
def hasD (G : je_G) (r : Nat) (σ : Sg) : Prop := ∀ d, d < 4 → ∀ c, c < 35 → G 4 r 0 (35 * d + c) = dI (dst σ d c)
theorem dI_6 {n : Nat} : dI n = -6 ↔ ¬ n < 100 := by
  unfold dI
  by_cases h : n < 100
  · rw [if_pos h]
    exact ⟨fun e => absurd e (nI_ne6 (by omega)), fun e => absurd h e⟩
  · rw [if_neg h]
    exact ⟨fun _ => h, fun _ => rfl⟩
theorem glp_s {σ : Sg} {c d : Nat} (h : leads σ d c) (h2 : ∀ b, glp σ c d = some b → dst σ d c < dst σ b c) : glp σ c (d + 1) = some d := by
  unfold glp
  exact if_pos ⟨h, h2⟩
theorem glp_n {σ : Sg} {c d : Nat} (h : ¬ (leads σ d c ∧ ∀ b, glp σ c d = some b → dst σ d c < dst σ b c)) : glp σ c (d + 1) = glp σ c d := by
  rw [glp]
  exact if_neg h
set_option maxHeartbeats 4000000 in
set_option maxRecDepth 100000 in
theorem c_chooseGoal (l : Launch) (G : je_G) (r n c : Nat) (hc : c < 35) (hD : hasD G r (G 1 n 0)) : je_Ci l yX4_chooseGoal wsX4_chooseGoal rmX4_chooseGoal [jR (4, r, 0), jR (1, n, 0), jI (nI c)] G (fun x G' => G' = G ∧ x = oI (gl (G 1 n 0) c)) := by
  refine je_met1 tbX4_chooseGoal 1 okX4_chooseGoal rfl (by decide +kernel) rfl (by unfold je_ret; simp) (by decide) (Nat.le_of_ble_eq_true rfl) ?_
  intro J hoks hR
  show J G 0 [some (jR (4, r, 0)), some (jR (1, n, 0)), some (jI (nI c)), none, none, none, none] []
  have loop : ¬ (vp_in (G 1 n 0 (56 + c)) 4 ∧ leads (G 1 n 0) (G 1 n 0 (56 + c)).toNatClampNeg c) → J G 43 [some (jR (4, r, 0)), some (jR (1, n, 0)), some (jI (nI c)), none, some (jI (-6)), some (jI (nI 0)), none] [] := by
    intro hng
    refine je_for (P := fun d => J G 43 [some (jR (4, r, 0)), some (jR (1, n, 0)), some (jI (nI c)), none, some (jI (oI (glp (G 1 n 0) c d))), some (jI (nI d)), none] []) 4 ?_ ?_ 0 (Nat.zero_le _)
    · skip
      refine hR.2 [43] 400 _ _ _ _ ?_
      conv => whnf
      refine br_t ((nI_leI (by omega) (by omega)).mpr (by omega)) ?_
      conv => whnf
      exact ⟨_, rfl, rfl, by unfold gl; rw [if_neg hng]⟩
    · intro d hd ih
      refine hR.2 [43] 400 _ _ _ _ ?_
      conv => whnf
      refine br_f (fun h => absurd ((nI_leI (by omega) (by omega)).mp h) (by omega)) ?_
      conv => whnf
      refine je_v2i hR kX4_chooseGoal_53 rfl (c_stepsTo l G r d c hd hc) rfl ?_
      intro y G' hq
      obtain ⟨rfl, rfl⟩ := hq
      rw [hD d hd c hc]
      refine hR.2 [43] 400 _ _ _ _ ?_
      conv => whnf
      refine ⟨vp_in_nI (by omega) (by omega), ?_⟩
      conv => whnf
      rw [nI_clamp (by omega)]
      refine ⟨fun h1 => ?_, fun h1 => ?_⟩
      · conv => whnf
        rw [glp_n (fun h => h.1.1 h1)] at ih
        simp (disch := omega) only [nI_clamp, nI_add]
        exact je_loc hR (L' := [some _, some _, some _, none, some _, some _, none]) ⟨rfl, rfl, rfl, rfl, rfl, trivial⟩ ih
      · conv => whnf
        refine ⟨fun h2 => ?_, fun h2 => ?_⟩
        · conv => whnf
          rw [glp_n (fun h => dI_6.mp h2 h.1.2)] at ih
          simp (disch := omega) only [nI_clamp, nI_add]
          exact je_loc hR (L' := [some _, some _, some _, none, some _, some _, none]) ⟨rfl, rfl, rfl, rfl, rfl, trivial⟩ ih
        · conv => whnf
          have hlt : dst (G' 1 n 0) d c < 100 := by
            by_cases h : dst (G' 1 n 0) d c < 100
            · exact h
            · exact absurd (dI_6.mpr h) h2
          cases hb : glp (G' 1 n 0) c d with
          | none =>
            refine And.intro (fun _ => ?_) (fun h => absurd rfl h)
            conv => whnf
            rw [glp_s ⟨h1, hlt⟩ (fun b e => by rw [hb] at e; cases e)] at ih
            simp (disch := omega) only [nI_clamp, nI_add]
            exact je_loc hR (L' := [some _, some _, some _, none, some _, some _, none]) ⟨rfl, rfl, rfl, rfl, rfl, trivial⟩ ih
          | some b =>
            obtain ⟨hbd, hbl⟩ := glp_ok d b hb
            refine And.intro (fun h => absurd h (nI_ne6 (by omega))) (fun _ => ?_)
            conv => whnf
            refine je_v2i hR kX4_chooseGoal_88 rfl (c_stepsTo l G' r b c (by omega) hc) rfl ?_
            intro y G hq
            obtain ⟨rfl, rfl⟩ := hq
            rw [hD b (by omega) c hc, dI_lt hlt, dI_lt hbl.2]
            refine hR.2 [43] 400 _ _ _ _ ?_
            conv => whnf
            by_cases hcmp : dst (G 1 n 0) d c < dst (G 1 n 0) b c
            · refine br_f (fun h => absurd ((nI_leI (by have := hbl.2; omega) (by omega)).mp h) (by omega)) ?_
              conv => whnf
              rw [glp_s ⟨h1, hlt⟩ (fun b2 e => by rw [hb] at e; cases e; exact hcmp)] at ih
              simp (disch := omega) only [nI_clamp, nI_add]
              exact je_loc hR (L' := [some _, some _, some _, none, some _, some _, none]) ⟨rfl, rfl, rfl, rfl, rfl, trivial⟩ ih
            · refine br_t ((nI_leI (by have := hbl.2; omega) (by omega)).mpr (by omega)) ?_
              conv => whnf
              rw [glp_n (fun h => hcmp (h.2 b hb)), hb] at ih
              simp (disch := omega) only [nI_clamp, nI_add]
              exact je_loc hR (L' := [some _, some _, some _, none, some _, some _, none]) ⟨rfl, rfl, rfl, rfl, rfl, trivial⟩ ih
  refine hR.2 [] 400 _ _ _ _ ?_
  conv => whnf
  refine ⟨vp_in_nI (by omega) (by omega), ?_⟩
  conv => whnf
  rw [nI_clamp (by omega)]
  refine je_s1i hR kX4_chooseGoal_8 rfl (c_isDoor l G (G 1 n 0 (56 + c))) rfl ?_
  intro y G' hq
  obtain ⟨rfl, ⟨h1, rfl⟩ | ⟨h1, rfl⟩⟩ := hq
  · obtain ⟨g, hg4, hge⟩ := vp_in_of h1 (by omega)
    have hgn : (G' 1 n 0 (56 + c)).toNatClampNeg = g := by rw [hge, nI_clamp (by omega)]
    rw [hge, nI_clamp (by omega)] at loop
    dsimp only
    rw [hge]
    refine hR.2 [43] 400 _ _ _ _ ?_
    conv => whnf
    refine br_f (by decide) ?_
    conv => whnf
    refine ⟨vp_in_nI (by omega) (by omega), ?_⟩
    conv => whnf
    rw [nI_clamp (by omega)]
    refine ⟨fun h2 => ?_, fun h2 => ?_⟩
    · conv => whnf
      exact je_loc hR (L' := [some _, some _, some _, none, some _, some _, none]) ⟨rfl, rfl, rfl, rfl, rfl, trivial⟩ (loop (fun h => h.2.1 h2))
    · conv => whnf
      refine je_v2i hR kX4_chooseGoal_26 rfl (c_stepsTo l G' r g c hg4 hc) rfl ?_
      intro y G hq
      obtain ⟨rfl, rfl⟩ := hq
      rw [hD g hg4 c hc]
      refine hR.2 [43] 400 _ _ _ _ ?_
      conv => whnf
      refine ⟨fun h3 => ?_, fun h3 => ?_⟩
      · conv => whnf
        exact je_loc hR (L' := [some _, some _, some _, none, some _, some _, none]) ⟨rfl, rfl, rfl, rfl, rfl, trivial⟩ (loop (fun h => dI_6.mp h3 h.2.2))
      · conv => whnf
        have hlt : dst (G 1 n 0) g c < 100 := by
          by_cases h : dst (G 1 n 0) g c < 100
          · exact h
          · exact absurd (dI_6.mpr h) h3
        refine ⟨_, rfl, rfl, ?_⟩
        unfold gl
        rw [hge, nI_clamp (by omega), if_pos ⟨vp_in_nI hg4 (by omega), h2, hlt⟩]
        rfl
  · skip
    refine hR.2 [43] 400 _ _ _ _ ?_
    conv => whnf
    refine br_t (by decide) ?_
    conv => whnf
    exact je_loc hR (L' := [some _, some _, some _, none, some _, some _, none]) ⟨rfl, rfl, rfl, rfl, rfl, trivial⟩ (loop (fun h => h1 h.1))
theorem nxw_first {σ : Sg} {g c w o : Nat} (hw : w < 4) (h : ∀ v, v < w → nr σ g c v = none) (h2 : nr σ g c w = some o) : nxw σ g c = some o := by
  unfold nxw
  rcases (show w = 0 ∨ w = 1 ∨ w = 2 ∨ w = 3 by omega) with rfl | rfl | rfl | rfl
  · rw [h2]
  · rw [h 0 (by omega), h2]
  · rw [h 0 (by omega), h 1 (by omega), h2]
  · rw [h 0 (by omega), h 1 (by omega), h 2 (by omega), h2]
theorem nxw_none {σ : Sg} {g c : Nat} (h : ∀ v, v < 4 → nr σ g c v = none) : nxw σ g c = none := by
  unfold nxw
  rw [h 0 (by omega), h 1 (by omega), h 2 (by omega), h 3 (by omega)]
theorem gl_ok {σ : Sg} {c g : Nat} (h : gl σ c = some g) : g < 4 ∧ leads σ g c := by
  unfold gl at h
  split at h
  · rename_i h1
    cases h
    obtain ⟨j, hj, e⟩ := vp_in_of h1.1 (by omega)
    exact ⟨by rw [e, nI_clamp (by omega)]; exact hj, h1.2⟩
  · exact glp_ok 4 g h
set_option maxHeartbeats 4000000 in
set_option maxRecDepth 100000 in
theorem c_chooseNext (l : Launch) (G : je_G) (r n c : Nat) (hc : c < 35) (hD : hasD G r (G 1 n 0)) (hg : G 4 r 2 c = oI (gl (G 1 n 0) c)) : je_Ci l yX4_chooseNext wsX4_chooseNext rmX4_chooseNext [jR (4, r, 0), jR (1, n, 0), jI (nI c)] G (fun x G' => G' = G ∧ x = oI (nx (G 1 n 0) c)) := by
  refine je_met1 tbX4_chooseNext 1 okX4_chooseNext rfl (by decide +kernel) rfl (by unfold je_ret; simp) (by decide) (Nat.le_of_ble_eq_true rfl) ?_
  intro J hoks hR
  show J G 0 [some (jR (4, r, 0)), some (jR (1, n, 0)), some (jI (nI c)), none, none, none] []
  refine hR.2 [] 400 _ _ _ _ ?_
  conv => whnf
  refine je_v1i hR kX4_chooseNext_2 rfl (c_stepsToGoal l G r c hc (gl (G 1 n 0) c) (fun b h => (gl_ok h).1) hg) rfl ?_
  intro y G' hq
  obtain ⟨rfl, rfl⟩ := hq
  cases hgl : gl (G' 1 n 0) c with
  | none =>
    show J G' _ _ [jI (-6)]
    refine hR.2 [] 400 _ _ _ _ ?_
    conv => whnf
    refine br_f (by decide) ?_
    conv => whnf
    exact ⟨_, rfl, rfl, by unfold nx; rw [hgl]; rfl⟩
  | some g =>
    obtain ⟨hg4, hgl2⟩ := gl_ok hgl
    show J G' _ _ [jI (G' 4 r 0 (35 * g + c))]
    rw [hD g hg4 c hc, dI_lt hgl2.2]
    refine hR.2 [17] 400 _ _ _ _ ?_
    conv => whnf
    by_cases hk : dst (G' 1 n 0) g c < 1
    · refine br_f (fun h => absurd ((nI_leI (by omega) (by omega)).mp h) (by omega)) ?_
      conv => whnf
      exact ⟨_, rfl, rfl, by unfold nx; rw [hgl]; dsimp only; rw [if_neg (by omega)]; rfl⟩
    · refine br_t ((nI_leI (by omega) (by have := hgl2.2; omega)).mpr (by omega)) ?_
      conv => whnf
      have hnx : nx (G' 1 n 0) c = nxw (G' 1 n 0) g c := by unfold nx; rw [hgl]; dsimp only; rw [if_pos (by omega)]
      rw [hnx] at hR
      refine je_for (P := fun w => (∀ v, v < w → nr (G' 1 n 0) g c v = none) → J G' 17 [some (jR (4, r, 0)), some (jR (1, n, 0)), some (jI (nI c)), some (jI (nI (dst (G' 1 n 0) g c))), some (jI (nI w)), none] []) 4 ?_ ?_ 0 (Nat.zero_le _) (fun v hv => absurd hv (Nat.not_lt_zero v))
      · intro hno
        refine hR.2 [17] 400 _ _ _ _ ?_
        conv => whnf
        refine br_t ((nI_leI (by omega) (by omega)).mpr (by omega)) ?_
        conv => whnf
        exact ⟨_, rfl, rfl, by rw [nxw_none hno]; rfl⟩
      · intro w hw ih hno
        refine hR.2 [17] 400 _ _ _ _ ?_
        conv => whnf
        refine br_f (fun h => absurd ((nI_leI (by omega) (by omega)).mp h) (by omega)) ?_
        conv => whnf
        refine je_v2i hR kX4_chooseNext_27 rfl (c_stepFrom l G' n c w hc hw) rfl ?_
        intro y G hq
        obtain ⟨rfl, rfl⟩ := hq
        cases hs : stp (G 1 n 0) c w with
        | none =>
          refine hR.2 [17] 400 _ _ _ _ ?_
          conv => whnf
          refine And.intro (fun _ => ?_) (fun h => absurd rfl h)
          conv => whnf
          simp (disch := omega) only [nI_clamp, nI_add]
          refine je_loc hR (L' := [some _, some _, some _, some _, some _, none]) ⟨rfl, rfl, rfl, rfl, rfl, trivial⟩ (ih (fun v hv => ?_))
          by_cases e : v = w
          · subst e; unfold nr; rw [hs]
          · exact hno v (by omega)
        | some o =>
          obtain ⟨ho, -⟩ := stp_lt hc hw hs
          show J G _ _ [jI (nI o)]
          refine hR.2 [17] 400 _ _ _ _ ?_
          conv => whnf
          refine And.intro (fun h => absurd h (nI_ne6 (by omega))) (fun _ => ?_)
          conv => whnf
          refine je_v1i hR kX4_chooseNext_42 rfl (c_goalOf l G r c hc) rfl ?_
          intro y G' hq
          obtain ⟨rfl, rfl⟩ := hq
          rw [hg, hgl]
          show J G' _ _ [jI (nI g), _]
          refine hR.2 [17] 400 _ _ _ _ ?_
          conv => whnf
          refine je_v2i hR kX4_chooseNext_47 rfl (c_stepsTo l G' r g o hg4 ho) rfl ?_
          intro y G hq
          obtain ⟨rfl, rfl⟩ := hq
          rw [hD g hg4 o ho]
          refine hR.2 [17] 400 _ _ _ _ ?_
          conv => whnf
          rw [pk_sub (show 1 ≤ dst (G 1 n 0) g c by omega)]
          by_cases hnr : dst (G 1 n 0) g o + 1 = dst (G 1 n 0) g c
          · rw [dI_lt (by have := hgl2.2; omega)]
            refine And.intro (fun h => absurd (by rw [show dst (G 1 n 0) g o = dst (G 1 n 0) g c - 1 by omega]) h) (fun _ => ?_)
            conv => whnf
            refine ⟨_, rfl, rfl, ?_⟩
            rw [nxw_first hw hno (o := o) (by unfold nr; rw [hs]; dsimp only; rw [if_pos hnr])]
            rfl
          · refine And.intro (fun _ => ?_) (fun h => absurd h ?_)
            · conv => whnf
              simp (disch := omega) only [nI_clamp, nI_add]
              refine je_loc hR (L' := [some _, some _, some _, some _, some _, none]) ⟨rfl, rfl, rfl, rfl, rfl, trivial⟩ (ih (fun v hv => ?_))
              by_cases e : v = w
              · subst e; unfold nr; rw [hs]; dsimp only; rw [if_neg hnr]
              · exact hno v (by omega)
            · unfold dI
              split
              · intro e
                have := (nI_eq (by omega) (by have := hgl2.2; omega)).mp e
                omega
              · intro e
                exact nI_ne6 (by have := hgl2.2; omega) e.symm
set_option maxHeartbeats 4000000 in
set_option maxRecDepth 100000 in
theorem c_peopleWithGoal (l : Launch) (G : je_G) (r n : Nat) (x : Int32) : je_Ci l yX4_peopleWithGoal wsX4_peopleWithGoal rmX4_peopleWithGoal [jR (4, r, 0), jR (1, n, 0), jI x] G (fun y G' => G' = G ∧ y = isum (fun c => if G 4 r 2 c = x then G 1 n 0 (21 + c) else nI 0) 35) := by
  refine je_met1 tbX4_peopleWithGoal 1 okX4_peopleWithGoal rfl (by decide +kernel) rfl (by unfold je_ret; simp) (by decide) (Nat.le_of_ble_eq_true rfl) ?_
  intro J hoks hR
  show J G 0 [some (jR (4, r, 0)), some (jR (1, n, 0)), some (jI x), none, none] []
  refine hR.2 [5] 400 _ _ _ _ ?_
  conv => whnf
  refine je_for (P := fun k => J G 5 [some (jR (4, r, 0)), some (jR (1, n, 0)), some (jI x), some (jI (isum (fun c => if G 4 r 2 c = x then G 1 n 0 (21 + c) else nI 0) k)), some (jI (nI k))] []) 35 ?_ ?_ 0 (Nat.zero_le _)
  · skip
    refine hR.2 [5] 400 _ _ _ _ ?_
    conv => whnf
    refine br_t ((nI_leI (by omega) (by omega)).mpr (by omega)) ?_
    conv => whnf
    exact ⟨_, rfl, rfl, rfl⟩
  · intro k hk ih
    refine hR.2 [5] 400 _ _ _ _ ?_
    conv => whnf
    refine br_f (fun h => absurd ((nI_leI (by omega) (by omega)).mp h) (by omega)) ?_
    conv => whnf
    refine ⟨vp_in_nI (by omega) (by omega), ?_⟩
    conv => whnf
    rw [nI_clamp (by omega), Nat.zero_add]
    refine ⟨fun h => ?_, fun h => ?_⟩
    · conv => whnf
      simp only [isum, if_neg h] at ih
      simp (disch := omega) only [nI_clamp, nI_add]
      exact ih
    · conv => whnf
      refine ⟨vp_in_nI (by omega) (by omega), ?_⟩
      conv => whnf
      simp only [isum, if_pos h] at ih
      simp (disch := omega) only [nI_clamp, nI_add]
      exact ih
set_option maxHeartbeats 4000000 in
set_option maxRecDepth 100000 in
theorem c_cellsWithGoal (l : Launch) (G : je_G) (r : Nat) (x : Int32) : je_Ci l yX4_cellsWithGoal wsX4_cellsWithGoal rmX4_cellsWithGoal [jR (4, r, 0), jI x] G (fun y G' => G' = G ∧ y = isum (fun c => if G 4 r 2 c = x then nI 1 else nI 0) 35) := by
  refine je_met1 tbX4_cellsWithGoal 1 okX4_cellsWithGoal rfl (by decide +kernel) rfl (by unfold je_ret; simp) (by decide) (Nat.le_of_ble_eq_true rfl) ?_
  intro J hoks hR
  show J G 0 [some (jR (4, r, 0)), some (jI x), none, none] []
  refine hR.2 [4] 400 _ _ _ _ ?_
  conv => whnf
  refine je_for (P := fun k => J G 4 [some (jR (4, r, 0)), some (jI x), some (jI (isum (fun c => if G 4 r 2 c = x then nI 1 else nI 0) k)), some (jI (nI k))] []) 35 ?_ ?_ 0 (Nat.zero_le _)
  · skip
    refine hR.2 [4] 400 _ _ _ _ ?_
    conv => whnf
    refine br_t ((nI_leI (by omega) (by omega)).mpr (by omega)) ?_
    conv => whnf
    exact ⟨_, rfl, rfl, rfl⟩
  · intro k hk ih
    refine hR.2 [4] 400 _ _ _ _ ?_
    conv => whnf
    refine br_f (fun h => absurd ((nI_leI (by omega) (by omega)).mp h) (by omega)) ?_
    conv => whnf
    refine ⟨vp_in_nI (by omega) (by omega), ?_⟩
    conv => whnf
    rw [nI_clamp (by omega), Nat.zero_add]
    refine ⟨fun h => ?_, fun h => ?_⟩
    · conv => whnf
      simp only [isum, if_neg h] at ih
      simp (disch := omega) only [nI_clamp, nI_add]
      exact ih
    · conv => whnf
      simp only [isum, if_pos h] at ih
      simp (disch := omega) only [nI_clamp, nI_add]
      exact ih
set_option maxHeartbeats 4000000 in
set_option maxRecDepth 100000 in
theorem c_stranded4 (l : Launch) (G : je_G) (r n : Nat) : je_Ci l yX4_stranded wsX4_stranded rmX4_stranded [jR (4, r, 0), jR (1, n, 0)] G (fun y G' => G' = G ∧ y = isum (fun c => if G 4 r 2 c = -6 then G 1 n 0 (21 + c) else nI 0) 35) := by
  refine je_met1 tbX4_stranded 1 okX4_stranded rfl (by decide +kernel) rfl (by unfold je_ret; simp) (by decide) (Nat.le_of_ble_eq_true rfl) ?_
  intro J hoks hR
  show J G 0 [some (jR (4, r, 0)), some (jR (1, n, 0))] []
  refine hR.2 [] 400 _ _ _ _ ?_
  conv => whnf
  refine je_v2i hR kX4_stranded_4 rfl (c_peopleWithGoal l G r n (-6)) rfl ?_
  intro y G' hq
  obtain ⟨rfl, rfl⟩ := hq
  refine hR.2 [] 400 _ _ _ _ ?_
  conv => whnf
  exact ⟨_, rfl, rfl, rfl⟩
