/-! THE REFERENCE: minute -/
theorem trs_add {ν : Nat → Nat} {L : List Nat} {c : Nat} {σ : Sg} : trs ν (L ++ [c]) σ = go1 (trs ν L σ) c (ν c) := by
  unfold trs
  rw [List.foldl_append]
  rfl
/-- what the reference's minutes go by: the ways of the hall τ -/
def wayN (G : je_G) (τ : Sg) : Prop := (∀ c, c < 35 → G 6 0 10 c = sg τ c) ∧ ∀ c ∈ tl τ, c < 35 ∧ nu τ c < 35 ∧ nu τ c ≠ c ∧ G 6 0 11 c = nI (nu τ c)
theorem laid_way {G : je_G} {τ : Sg} (h : laid G τ) : wayN G τ := by
  refine ⟨fun c hc => (h.2.2 c hc).2.1, fun c hc => ?_⟩
  obtain ⟨h1, h2, h3⟩ := tl_mem h.2.1 hc
  refine ⟨h1, h2, (nx_lt h1 h3).2, ?_⟩
  rw [(h.2.2 c h1).2.2, h3]
  rfl
theorem tlo_mono {σ : Sg} {x a : Nat} (h : x ∈ tlo σ a) : ∀ b, a ≤ b → x ∈ tlo σ b := by
  intro b hb
  obtain ⟨k, rfl⟩ := Nat.le.dest hb
  clear hb
  induction k with
  | zero => exact h
  | succ k ih => exact List.mem_append_left _ ih
theorem tlr_mono {σ : Sg} {x a c : Nat} (h : x ∈ tlr σ a c) : ∀ b, c ≤ b → x ∈ tlr σ a b := by
  intro b hb
  obtain ⟨k, rfl⟩ := Nat.le.dest hb
  clear hb
  induction k with
  | zero => exact h
  | succ k ih => exact List.mem_append_left _ ih
theorem tl_pre {σ : Sg} {a c x : Nat} (ha : a < 34) (hc : c ≤ 35) (h : x ∈ tlo σ a ++ tlr σ (a + 1) c) : x ∈ tl σ := by
  rcases List.mem_append.mp h with h | h
  · exact tlo_mono h 34 (by omega)
  · exact tlo_mono (a := a + 1) (List.mem_append_right _ (tlr_mono h 35 hc)) 34 (by omega)
theorem bit1 {x : Int32} (h : x = 0 ∨ x = 1) : ¬ x = nI 1 ↔ x = 0 := by
  rcases h with rfl | rfl
  · exact ⟨fun _ => rfl, fun _ => by decide⟩
  · exact ⟨fun h => absurd rfl h, fun h => absurd h (by decide)⟩
set_option maxHeartbeats 4000000 in
set_option maxRecDepth 100000 in
theorem m_minute (l : Launch) (G : je_G) (τ : Sg) (T : Nat) (hT : T < 100000) (hI : InvS T (G 6 0 0)) (hW : wayN G τ) : je_Cv l yX6_minute wsX6_minute rmX6_minute [jR (6, 0, 0)] G (fun G' => ∃ φ, G' = je_set (je_set G 6 0 0 (mnt (nu τ) (tl τ) (G 6 0 0))) 6 0 12 φ) := by
  refine je_met1 tbX6_minute 0 okX6_minute rfl (by decide +kernel) rfl (by unfold je_ret; simp) (by decide) (Nat.le_of_ble_eq_true rfl) ?_
  intro J hoks hR
  show J G 0 [some (jR (6, 0, 0)), none, none] []
  obtain ⟨rm, t, p, o, h1, h2, h3, h4, h5, h6, h7, h8, h9⟩ := hI
  have hst : ∀ d, d < 4 → dcell (G 6 0 0) d < 35 := fun d hd => (dcell_nI (h4 d hd)).1
  have hst2 : ∀ d, d < 4 → dcell (tick (G 6 0 0)) d < 35 := fun d hd => by
    have e : dcell (tick (G 6 0 0)) d = dcell (G 6 0 0) d := by
      unfold dcell
      rw [tick_ne (by omega)]
    rw [e]
    exact hst d hd
  have hU0 : InvU rm t 0 (tick (G 6 0 0)) := ⟨p, o, fun c hc => by rw [tick_ne (by omega)]; exact h3 c hc, fun e he => by rw [tick_ne (by omega), if_neg (by omega)]; exact h7 e he⟩
  have hU := InvU_ds (by omega) (by omega) hst2 (fun d hd => by rw [tick_ne (by omega)]; exact h5 d hd) hU0 4 (Nat.le_refl _)
  have hF0 := InvF_0 (by rw [(ds_at hst2 (by omega) 4 (Nat.le_refl _)).1, tick_ne (by omega)]; exact h1.2.2) hU
  refine hR.2 [12] 400 _ _ _ _ ?_
  conv => whnf
  refine ⟨vp_in_nI (by omega) (by omega), ?_⟩
  conv => whnf
  refine ⟨vp_in_nI (by omega) (by omega), ?_⟩
  conv => whnf
  refine (show J (je_set G 6 0 0 (ds (tick (G 6 0 0)) 0).1) 12 [some (jR (6, 0, 0)), some (jI (nI 0)), none] [] → _ from id) ?_
  refine je_for (P := fun d => J (je_set G 6 0 0 (ds (tick (G 6 0 0)) d).1) 12 [some (jR (6, 0, 0)), some (jI (nI d)), none] []) 4 ?_ ?_ 0 (Nat.zero_le _)
  · generalize hs4 : (ds (tick (G 6 0 0)) 4).1 = s4 at hF0 ⊢
    refine hR.2 [12, 43] 400 _ _ _ _ ?_
    conv => whnf
    refine br_t ((nI_leI (by omega) (by omega)).mpr (by omega)) ?_
    conv => whnf
    refine (show J (je_set (je_set G 6 0 0 s4) 6 0 12 (G 6 0 12)) 43 _ [] → _ from fun h => by rw [show je_set (je_set G 6 0 0 s4) 6 0 12 (G 6 0 12) = je_set G 6 0 0 s4 from by rw [← je_r6a (G := G) (a := s4), je_set_id]] at h; exact h) ?_
    refine je_for (P := fun i => ∀ φ : Sg, (∀ j, j < i → φ j = nI 0) → J (je_set (je_set G 6 0 0 s4) 6 0 12 φ) 43 [some (jR (6, 0, 0)), some (jI (nI i)), none] []) 35 ?_ ?_ 0 (Nat.zero_le _) _ (fun j hj => absurd hj (Nat.not_lt_zero j))
    · intro φ hφ
      refine je_ext hR (je_eqvS (c := 6) (r := 12) (N := 35) (by decide +kernel) (by decide +kernel) (g := fun _ => nI 0) hφ) ?_
      refine hR.2 [43, 64] 400 _ _ _ _ ?_
      conv => whnf
      refine br_t ((nI_leI (by omega) (by omega)).mpr (by omega)) ?_
      conv => whnf
      refine (show J (je_set (je_set G 6 0 0 (trs (nu τ) (tlo τ 0) s4).1) 6 0 12 (trs (nu τ) (tlo τ 0) s4).2) 64 [some (jR (6, 0, 0)), some (jI (nI (0 + 1))), none] [] → _ from id) ?_
      refine je_for (P := fun a => J (je_set (je_set G 6 0 0 (trs (nu τ) (tlo τ a) s4).1) 6 0 12 (trs (nu τ) (tlo τ a) s4).2) 64 [some (jR (6, 0, 0)), some (jI (nI (a + 1))), none] []) 34 ?_ ?_ 0 (Nat.zero_le _)
      · skip
        refine hR.2 [64] 400 _ _ _ _ ?_
        conv => whnf
        refine br_t ((nI_leI (by omega) (by omega)).mpr (by omega)) ?_
        conv => whnf
        refine ⟨rfl, (trs (nu τ) (tlo τ 34) s4).2, ?_⟩
        unfold mnt
        rw [hs4]
        rfl
      · intro a ha ih
        refine hR.2 [64, 72] 400 _ _ _ _ ?_
        conv => whnf
        refine br_f (fun h => absurd ((nI_leI (by omega) (by omega)).mp h) (by omega)) ?_
        conv => whnf
        refine (show J (je_set (je_set G 6 0 0 (trs (nu τ) (tlo τ a ++ tlr τ (a + 1) 0) s4).1) 6 0 12 (trs (nu τ) (tlo τ a ++ tlr τ (a + 1) 0) s4).2) 72 [some (jR (6, 0, 0)), some (jI (nI (a + 1))), some (jI (nI 0))] [] → _ from fun h => by rw [tlr, List.append_nil] at h; exact h) ?_
        refine je_for (P := fun k => J (je_set (je_set G 6 0 0 (trs (nu τ) (tlo τ a ++ tlr τ (a + 1) k) s4).1) 6 0 12 (trs (nu τ) (tlo τ a ++ tlr τ (a + 1) k) s4).2) 72 [some (jR (6, 0, 0)), some (jI (nI (a + 1))), some (jI (nI k))] []) 35 ?_ ?_ 0 (Nat.zero_le _)
        · skip
          refine hR.2 [72, 64] 400 _ _ _ _ ?_
          conv => whnf
          refine br_t ((nI_leI (by omega) (by omega)).mpr (by omega)) ?_
          conv => whnf
          rw [nI_add]
          exact je_loc hR (L' := [some _, some _, none]) ⟨rfl, rfl, trivial⟩ ih
        · intro k hk ih2
          have hq : InvF rm (trs (nu τ) (tlo τ a ++ tlr τ (a + 1) k) s4) := InvF_trs (by omega) _ _ (fun c hc => by obtain ⟨x1, x2, x3, x4⟩ := hW.2 c (tl_pre ha (by omega) hc); exact ⟨x1, x2, x3⟩) hF0
          have e10 : ∀ A B, je_set (je_set G 6 0 0 A) 6 0 12 B 6 0 10 = G 6 0 10 := fun A B => by rw [je_set_ne (by omega), je_set_ne (by omega)]
          have e11 : ∀ A B, je_set (je_set G 6 0 0 A) 6 0 12 B 6 0 11 = G 6 0 11 := fun A B => by rw [je_set_ne (by omega), je_set_ne (by omega)]
          have hk35 : k < 35 := hk
          generalize hqe : trs (nu τ) (tlo τ a ++ tlr τ (a + 1) k) s4 = q at hq ⊢
          refine hR.2 [72] 400 _ _ _ _ ?_
          conv => whnf
          refine br_f (fun h => absurd ((nI_leI (by omega) (by omega)).mp h) (by omega)) ?_
          conv => whnf
          refine ⟨vp_in_nI (by omega) (by omega), ?_⟩
          conv => whnf
          simp (disch := omega) only [nI_clamp, Nat.zero_add]
          rw [e10, hW.1 k hk]
          refine ⟨fun h => ?_, fun h => ?_⟩
          · conv => whnf
            rw [tlr, if_neg h, List.append_nil, hqe] at ih2
            rw [nI_add]
            exact ih2
          · conv => whnf
            rw [nI_add]
            refine ⟨vp_in_nI (by omega) (by omega), ?_⟩
            conv => whnf
            simp (disch := omega) only [nI_clamp, Nat.zero_add]
            rw [je_r6b, je_set_eq]
            have hmem : k ∈ tl τ := tl_pre ha (c := k + 1) (by omega) (List.mem_append_right _ (by rw [tlr, if_pos h]; exact List.mem_append_right _ (List.mem_singleton.mpr rfl)))
            obtain ⟨x1, x2, x3, x4⟩ := hW.2 k hmem
            rw [tlr, if_pos h, ← List.append_assoc, trs_add, hqe] at ih2
            refine ⟨fun h0 => ?_, fun h0 => ?_⟩
            · conv => whnf
              rw [go1_skip (by omega) x1 x2 hq h0] at ih2
              rw [nI_add]
              exact ih2
            · conv => whnf
              refine je_v1v hR kX6_minute_102 rfl (m_goes l _ k (nu τ k) x1 x2 (by rw [e11]; exact x4)) rfl ?_
              intro G' hq2
              subst hq2
              refine hR.2 [72] 400 _ _ _ _ ?_
              conv => whnf
              rw [je_r6b, je_set_eq, je_set_eq, je_sw6, je_set_set, je_set_set, nI_add]
              exact ih2
    · intro i hi ih φ hφ
      refine hR.2 [43] 400 _ _ _ _ ?_
      conv => whnf
      refine br_f (fun h => absurd ((nI_leI (by omega) (by omega)).mp h) (by omega)) ?_
      conv => whnf
      refine ⟨vp_in_nI (by omega) (by omega), ?_⟩
      conv => whnf
      simp only [je_set_set, je_set_eq, nI_add]
      rw [nI_clamp (by omega), Nat.zero_add]
      refine ih _ (fun j hj => ?_)
      unfold upd
      split
      · rfl
      · exact hφ j (by omega)
  · intro d hd ih
    have hd13 := ds_at hst2 (i := 13 + d) (by omega) d (by omega)
    have hd5 := ds_at hst2 (i := 5 + d) (by omega) d (by omega)
    have e13 : (ds (tick (G 6 0 0)) d).1 (13 + d) = G 6 0 0 (13 + d) := by rw [hd13.1, tick_ne (by omega)]
    refine hR.2 [12] 400 _ _ _ _ ?_
    conv => whnf
    refine br_f (fun h => absurd ((nI_leI (by omega) (by omega)).mp h) (by omega)) ?_
    conv => whnf
    rw [nI_add]
    refine ⟨vp_in_nI (by omega) (by omega), ?_⟩
    conv => whnf
    simp (disch := omega) only [nI_clamp, Nat.zero_add]
    rw [je_set_eq, e13]
    refine ⟨fun h => ?_, fun h => ?_⟩
    · conv => whnf
      have h0 := (bit1 (h6 d hd)).mp h
      have e : (ds (tick (G 6 0 0)) (d + 1)).1 = (ds (tick (G 6 0 0)) d).1 := by
        show los _ d = _
        unfold los
        rw [if_pos (by rw [e13]; exact h0)]
      rw [e] at ih
      rw [nI_add]
      exact ih
    · conv => whnf
      refine je_v1v hR kX6_minute_32 rfl (m_letsOut l _ d hd (by rw [je_set_eq, hd5.1, tick_ne (by omega)]; exact h4 d hd) (by rw [je_set_eq, e13, h]; decide)) rfl ?_
      intro G' hq
      subst hq
      rw [je_set_eq, je_set_set]
      refine hR.2 [12] 400 _ _ _ _ ?_
      conv => whnf
      rw [nI_add]
      exact ih
