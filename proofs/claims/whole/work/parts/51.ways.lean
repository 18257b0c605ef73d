/-! THE REFERENCE: leads, goalOf, nextOf, layWays -/
/-- the reference's rows hold the distances of a hall -/
def hasN (G : je_G) (σ : Sg) : Prop := ∀ d, d < 4 → ∀ c, c < 35 → G 6 0 8 (35 * d + c) = nI (dst σ d c)
def allD (σ : Sg) : Prop := ∀ d, d < 4 → isD σ d (dst σ d)
theorem b1_iff {x : Int32} (h : x = 0 ∨ x = 1) : x = nI 1 ↔ ¬ x = 0 := by
  rcases h with rfl | rfl
  · exact ⟨fun h => absurd h (by decide), fun h => absurd rfl h⟩
  · exact ⟨fun _ => by decide, fun _ => rfl⟩
set_option maxHeartbeats 4000000 in
set_option maxRecDepth 100000 in
theorem m_leads (l : Launch) (G : je_G) (hb : bits (G 6 0 0)) (hN : hasN G (G 6 0 0)) (hD : allD (G 6 0 0)) (c d : Nat) (hc : c < 35) (hd : d < 4) : je_Ci l yX6_leads wsX6_leads rmX6_leads [jR (6, 0, 0), jI (nI c), jI (nI d)] G (fun r G' => G' = G ∧ (leads (G 6 0 0) d c ∧ r = 1 ∨ ¬ leads (G 6 0 0) d c ∧ r = 0)) := by
  refine je_met1 tbX6_leads 2 okX6_leads rfl (by decide +kernel) rfl (by unfold je_ret; simp) (by decide) (Nat.le_of_ble_eq_true rfl) ?_
  intro J hoks hR
  show J G 0 [some (jR (6, 0, 0)), some (jI (nI c)), some (jI (nI d))] []
  refine hR.2 [] 400 _ _ _ _ ?_
  conv => whnf
  rw [nI_add]
  refine And.intro (vp_in_nI (by omega) (by omega)) ?_
  conv => whnf
  rw [nI_clamp (by omega), Nat.zero_add]
  have h01 := hb.2 d hd
  have hdc := (hD d hd).2.1 c hc
  refine ⟨fun h => ?_, fun h => ?_⟩
  · conv => whnf
    exact ⟨Or.inl rfl, _, rfl, rfl, Or.inr ⟨fun hl => h ((b1_iff h01).mpr hl.1), rfl⟩⟩
  · conv => whnf
    rw [mul35', nI_add]
    refine And.intro (vp_in_nI (by omega) (by omega)) ?_
    conv => whnf
    rw [nI_clamp (by omega), Nat.zero_add, hN d hd c hc]
    refine ⟨fun h2 => ?_, fun h2 => ?_⟩
    · conv => whnf
      refine ⟨Or.inl rfl, _, rfl, rfl, Or.inr ⟨fun hl => ?_, rfl⟩⟩
      have := (nI_leI (by omega) (by omega)).mp h2
      have := hl.2
      omega
    · conv => whnf
      refine ⟨Or.inr rfl, _, rfl, rfl, Or.inl ⟨⟨(b1_iff h01).mp h, ?_⟩, rfl⟩⟩
      have : ¬ 100 ≤ dst (G 6 0 0) d c := fun h3 => h2 ((nI_leI (by omega) (by omega)).mpr h3)
      omega
/-- the lowest of the nearest, as the reference goes through the doors from the last on -/
noncomputable def glm (σ : Sg) (c : Nat) : Nat → Option Nat
  | 0 => none
  | j + 1 => by
    classical
    exact if leads σ (3 - j) c ∧ (∀ b, glm σ c j = some b → dst σ (3 - j) c ≤ dst σ b c) then some (3 - j) else glm σ c j
theorem glm_ok {σ : Sg} {c : Nat} : ∀ (j b : Nat), j ≤ 4 → glm σ c j = some b → b < 4 ∧ 4 ≤ b + j ∧ leads σ b c
  | 0, b, _, h => by cases h
  | j + 1, b, hj, h => by
    rw [glm] at h
    split at h
    · rename_i h1
      cases h
      exact ⟨by omega, by omega, h1.1⟩
    · obtain ⟨h1, h2, h3⟩ := glm_ok j b (by omega) h
      exact ⟨h1, by omega, h3⟩
/-- the least of the doors of a set: it leads, none is nearer, none as near is lower -/
theorem glp_best {σ : Sg} {c : Nat} : ∀ (d : Nat), (glp σ c d = none → ∀ e, e < d → ¬ leads σ e c) ∧ ∀ b, glp σ c d = some b → b < d ∧ leads σ b c ∧ ∀ e, e < d → leads σ e c → dst σ b c ≤ dst σ e c ∧ (dst σ b c = dst σ e c → b ≤ e)
  | 0 => ⟨fun _ e he => absurd he (Nat.not_lt_zero e), fun b h => by cases h⟩
  | d + 1 => by
    obtain ⟨i1, i2⟩ := glp_best (σ := σ) (c := c) d
    by_cases h : leads σ d c ∧ ∀ b, glp σ c d = some b → dst σ d c < dst σ b c
    · rw [glp_s h.1 h.2]
      refine ⟨fun h => (by cases h), fun b hb => ?_⟩
      cases hb
      refine ⟨by omega, h.1, fun e he hl => ?_⟩
      by_cases e1 : e = d
      · subst e1; exact ⟨Nat.le_refl _, fun _ => Nat.le_refl _⟩
      · cases hg : glp σ c d with
        | none => exact absurd hl (i1 hg e (by omega))
        | some b2 =>
          have h2 := h.2 b2 hg
          have h3 := (i2 b2 hg).2.2 e (by omega) hl
          exact ⟨by omega, fun _ => by omega⟩
    · rw [glp_n h]
      refine ⟨fun hn e he hl => ?_, fun b hb => ?_⟩
      · by_cases e1 : e = d
        · subst e1
          exact h ⟨hl, fun b hb => by rw [hn] at hb; cases hb⟩
        · exact i1 hn e (by omega) hl
      · obtain ⟨j1, j2, j3⟩ := i2 b hb
        refine ⟨by omega, j2, fun e he hl => ?_⟩
        by_cases e1 : e = d
        · subst e1
          have : ¬ dst σ e c < dst σ b c := fun h3 => h ⟨hl, fun b2 hb2 => by rw [hb] at hb2; cases hb2; exact h3⟩
          exact ⟨by omega, fun _ => by omega⟩
        · exact j3 e (by omega) hl
theorem glm_best {σ : Sg} {c : Nat} : ∀ (j : Nat), j ≤ 4 → (glm σ c j = none → ∀ e, 4 ≤ e + j → e < 4 → ¬ leads σ e c) ∧ ∀ b, glm σ c j = some b → 4 ≤ b + j ∧ b < 4 ∧ leads σ b c ∧ ∀ e, 4 ≤ e + j → e < 4 → leads σ e c → dst σ b c ≤ dst σ e c ∧ (dst σ b c = dst σ e c → b ≤ e)
  | 0, _ => ⟨fun _ e h1 h2 => by omega, fun b h => by cases h⟩
  | j + 1, hj => by
    obtain ⟨i1, i2⟩ := glm_best (σ := σ) (c := c) j (by omega)
    by_cases h : leads σ (3 - j) c ∧ ∀ b, glm σ c j = some b → dst σ (3 - j) c ≤ dst σ b c
    · have he : glm σ c (j + 1) = some (3 - j) := by rw [glm]; exact if_pos h
      rw [he]
      refine ⟨fun h => (by cases h), fun b hb => ?_⟩
      cases hb
      refine ⟨by omega, by omega, h.1, fun e he he4 hl => ?_⟩
      by_cases e1 : e = 3 - j
      · subst e1; exact ⟨Nat.le_refl _, fun _ => Nat.le_refl _⟩
      · cases hg : glm σ c j with
        | none => exact absurd hl (i1 hg e (by omega) he4)
        | some b2 =>
          have h2 := h.2 b2 hg
          have h3 := (i2 b2 hg).2.2.2 e (by omega) he4 hl
          exact ⟨by omega, fun _ => by omega⟩
    · have he : glm σ c (j + 1) = glm σ c j := by rw [glm]; exact if_neg h
      rw [he]
      refine ⟨fun hn e he1 he4 hl => ?_, fun b hb => ?_⟩
      · by_cases e1 : e = 3 - j
        · subst e1
          exact h ⟨hl, fun b hb => by rw [hn] at hb; cases hb⟩
        · exact i1 hn e (by omega) he4 hl
      · obtain ⟨j1, j2, j3, j4⟩ := i2 b hb
        refine ⟨by omega, j2, j3, fun e he1 he4 hl => ?_⟩
        by_cases e1 : e = 3 - j
        · subst e1
          have : ¬ dst σ (3 - j) c ≤ dst σ b c := fun h3 => h ⟨hl, fun b2 hb2 => by rw [hb] at hb2; cases hb2; exact h3⟩
          exact ⟨by omega, fun _ => by omega⟩
        · exact j4 e (by omega) he4 hl
theorem glm_glp {σ : Sg} {c : Nat} : glm σ c 4 = glp σ c 4 := by
  obtain ⟨a1, a2⟩ := glp_best (σ := σ) (c := c) 4
  obtain ⟨b1, b2⟩ := glm_best (σ := σ) (c := c) 4 (Nat.le_refl _)
  cases h1 : glm σ c 4 with
  | none =>
    cases h2 : glp σ c 4 with
    | none => rfl
    | some b => exact absurd (a2 b h2).2.1 (b1 h1 b (by omega) (a2 b h2).1)
  | some b =>
    cases h2 : glp σ c 4 with
    | none => exact absurd (b2 b h1).2.2.1 (a1 h2 b (b2 b h1).2.1)
    | some b' =>
      obtain ⟨p1, p2, p3⟩ := a2 b' h2
      obtain ⟨q1, q2, q3, q4⟩ := b2 b h1
      have x1 := p3 b q2 q3
      have x2 := q4 b' (by omega) p1 p2
      have : b = b' := by
        have y1 := x1.2 (by omega)
        have y2 := x2.2 (by omega)
        omega
      rw [this]
set_option maxHeartbeats 4000000 in
set_option maxRecDepth 100000 in
theorem m_goalOf (l : Launch) (G : je_G) (hb : bits (G 6 0 0)) (hN : hasN G (G 6 0 0)) (hD : allD (G 6 0 0)) (c : Nat) (hc : c < 35) (hg : G 6 0 0 (56 + c) = -1 ∨ vp_in (G 6 0 0 (56 + c)) 4) : je_Ci l yX6_goalOf wsX6_goalOf rmX6_goalOf [jR (6, 0, 0), jI (nI c)] G (fun r G' => G' = G ∧ r = oI (gl (G 6 0 0) c)) := by
  refine je_met1 tbX6_goalOf 1 okX6_goalOf rfl (by decide +kernel) rfl (by unfold je_ret; simp) (by decide) (Nat.le_of_ble_eq_true rfl) ?_
  intro J hoks hR
  show J G 0 [some (jR (6, 0, 0)), some (jI (nI c)), none, none, none] []
  have loop : ¬ (vp_in (G 6 0 0 (56 + c)) 4 ∧ leads (G 6 0 0) (G 6 0 0 (56 + c)).toNatClampNeg c) → J G 31 [some (jR (6, 0, 0)), some (jI (nI c)), none, some (jI (-6)), some (jI (nI 3))] [] := by
    intro hng
    refine (show J G 31 [some (jR (6, 0, 0)), some (jI (nI c)), none, some (jI (oI (glm (G 6 0 0) c 0))), some (jI (nI (4 - 0) + (-1)))] [] → _ from fun h => by rw [show nI (4 - 0) + (-1) = nI 3 from by decide] at h; exact h) ?_
    refine je_for (P := fun j => J G 31 [some (jR (6, 0, 0)), some (jI (nI c)), none, some (jI (oI (glm (G 6 0 0) c j))), some (jI (nI (4 - j) + (-1)))] []) 4 ?_ ?_ 0 (Nat.zero_le _)
    · skip
      refine hR.2 [31] 400 _ _ _ _ ?_
      conv => whnf
      refine br_t (by decide) ?_
      conv => whnf
      exact ⟨_, rfl, rfl, by unfold gl; rw [if_neg hng, glm_glp]⟩
    · intro j hj ih
      rw [show 4 - j = (3 - j) + 1 by omega, pk_m1]
      rw [show 4 - (j + 1) = 3 - j by omega] at ih
      refine hR.2 [31] 400 _ _ _ _ ?_
      conv => whnf
      refine br_f (nI_pos (by omega)) ?_
      conv => whnf
      refine je_v2i hR kX6_goalOf_40 rfl (m_leads l G hb hN hD c (3 - j) hc (by omega)) rfl ?_
      intro y G' hq
      obtain ⟨rfl, ⟨h1, rfl⟩ | ⟨h1, rfl⟩⟩ := hq
      · skip
        refine hR.2 [31] 400 _ _ _ _ ?_
        conv => whnf
        refine br_f (by decide) ?_
        conv => whnf
        cases hg : glm (G' 6 0 0) c j with
        | none =>
          refine And.intro (fun _ => ?_) (fun h => absurd rfl h)
          conv => whnf
          have he : glm (G' 6 0 0) c (j + 1) = some (3 - j) := by rw [glm]; exact if_pos ⟨h1, fun b hb => by rw [hg] at hb; cases hb⟩
          rw [he] at ih
          exact ih
        | some b =>
          obtain ⟨hb4, hbj, hbl⟩ := glm_ok j b (by omega) hg
          refine And.intro (fun h => absurd h (nI_ne6 (by omega))) (fun _ => ?_)
          conv => whnf
          rw [mul35', nI_add]
          refine And.intro (vp_in_nI (by omega) (by omega)) ?_
          conv => whnf
          rw [show oI (some b) = nI b from rfl, mul35', nI_add]
          refine And.intro (vp_in_nI (by omega) (by omega)) ?_
          conv => whnf
          try simp only [mul35', nI_add]
          simp (disch := omega) only [nI_clamp, Nat.zero_add]
          rw [hN (3 - j) (by omega) c hc, hN b hb4 c hc]
          have hd1 := h1.2
          have hd2 := hbl.2
          by_cases hle : dst (G' 6 0 0) (3 - j) c ≤ dst (G' 6 0 0) b c
          · refine And.intro (fun h => absurd ((nI_ltI (by omega) (by omega)).mp h) (by omega)) (fun _ => ?_)
            conv => whnf
            have he : glm (G' 6 0 0) c (j + 1) = some (3 - j) := by rw [glm]; exact if_pos ⟨h1, fun b2 hb2 => by rw [hg] at hb2; cases hb2; exact hle⟩
            rw [he] at ih
            exact ih
          · refine And.intro (fun _ => ?_) (fun h => absurd ((nI_ltI (by omega) (by omega)).mpr (by omega)) h)
            conv => whnf
            have he : glm (G' 6 0 0) c (j + 1) = some b := by rw [glm, ← hg]; exact if_neg (fun h => hle (h.2 b hg))
            rw [he] at ih
            exact ih
      · skip
        refine hR.2 [31] 400 _ _ _ _ ?_
        conv => whnf
        refine br_t (by decide) ?_
        conv => whnf
        have he : glm (G' 6 0 0) c (j + 1) = glm (G' 6 0 0) c j := by rw [glm]; exact if_neg (fun h => h1 h.1)
        rw [he] at ih
        exact ih
  refine hR.2 [31] 400 _ _ _ _ ?_
  conv => whnf
  rw [nI_add]
  refine And.intro (vp_in_nI (by omega) (by omega)) ?_
  conv => whnf
  rw [nI_clamp (by omega), Nat.zero_add]
  rcases hg with hg | hg
  · have hng : ¬ vp_in (G 6 0 0 (56 + c)) 4 := by rw [hg]; exact fun h => h (Or.inl (by decide))
    rw [hg]
    refine br_t (by decide) ?_
    conv => whnf
    exact je_loc hR (L' := [some _, some _, none, some _, some _]) ⟨rfl, rfl, rfl, rfl, trivial⟩ (loop (fun h => hng h.1))
  · obtain ⟨g, hg4, hge⟩ := vp_in_of hg (by omega)
    rw [hge, nI_clamp (by omega)] at loop
    rw [hge]
    refine br_f (nI_pos (by omega)) ?_
    conv => whnf
    refine je_v2i hR kX6_goalOf_17 rfl (m_leads l G hb hN hD c g hc hg4) rfl ?_
    intro y G' hq
    obtain ⟨rfl, ⟨h1, rfl⟩ | ⟨h1, rfl⟩⟩ := hq
    · skip
      refine hR.2 [31] 400 _ _ _ _ ?_
      conv => whnf
      refine br_f (by decide) ?_
      conv => whnf
      refine ⟨_, rfl, rfl, ?_⟩
      unfold gl
      rw [hge, nI_clamp (by omega), if_pos ⟨vp_in_nI hg4 (by omega), h1⟩]
      rfl
    · skip
      refine hR.2 [31] 400 _ _ _ _ ?_
      conv => whnf
      refine br_t (by decide) ?_
      conv => whnf
      exact je_loc hR (L' := [some _, some _, none, some _, some _]) ⟨rfl, rfl, rfl, rfl, trivial⟩ (loop (fun h => h1 h.2))
