/-! RopedHalls$Hall: copyFrom, stepFrom, ropesAround -/
theorem je_dom1A : ∀ j : Fin 16, (je_Ar 1 j.val).all (fun x => decide (x.2.1 + x.2.2.2 ≤ 161)) = true := by decide +kernel
theorem je_dom1F : ∀ j : Fin 16, (je_nth (je_pF 1) j.val).all (fun x => x.all fun x => decide (x.2 < 161)) = true := by decide +kernel
theorem je_eqv1 {G : je_G} {n : Nat} {f g : Nat → Int32} (h : ∀ i, i < 161 → f i = g i) : je_eqv (je_set G 1 n 0 f) (je_set G 1 n 0 g) := by
  refine ⟨fun c n' j q _ hq => ?_, fun c n' j r i _ hi => ?_⟩
  · rw [je_rd, je_rd]
    by_cases hc : (q.1 = 0 ∧ c = 1) ∧ n' = n
    · rw [if_pos hc, if_pos hc]
      obtain ⟨⟨h1, h2⟩, h3⟩ := hc
      subst h2
      obtain ⟨-, hj, e⟩ := je_pF_of hq
      have := je_dom1F ⟨j, hj⟩
      simp only [e, Option.all_some, decide_eq_true_eq] at this
      exact h _ this
    · rw [if_neg hc, if_neg hc]
  · rw [je_rd, je_rd]
    by_cases hc : (r = 0 ∧ c = 1) ∧ n' = n
    · rw [if_pos hc, if_pos hc]
      obtain ⟨⟨h1, h2⟩, h3⟩ := hc
      subst h2
      obtain ⟨t, len, b, e, e1, e2⟩ := hi
      have := je_dom1A ⟨j, (je_Ar_lt e).2⟩
      simp only [e, Option.all_some, decide_eq_true_eq] at this
      exact h _ (by omega)
    · rw [if_neg hc, if_neg hc]
/-- ropes and open doors are 0 or 1 -/
def bits (σ : Sg) : Prop := (∀ e, e < 70 → σ (91 + e) = 0 ∨ σ (91 + e) = 1) ∧ ∀ d, d < 4 → σ (13 + d) = 0 ∨ σ (13 + d) = 1
theorem bit_nI {x : Int32} (h : x = 0 ∨ x = 1) : x = 0 ∨ x = 1 := h
set_option maxHeartbeats 4000000 in
set_option maxRecDepth 100000 in
theorem c_copyFrom (l : Launch) (G : je_G) (n m : Nat) (hne : m ≠ n) (hb : bits (G 1 m 0)) : je_Cv l yX1_copyFrom wsX1_copyFrom rmX1_copyFrom [jR (1, n, 0), jR (1, m, 0)] G (fun G' => G' = je_set G 1 n 0 (G 1 m 0)) := by
  refine je_met1 tbX1_copyFrom 0 okX1_copyFrom rfl (by decide +kernel) rfl (by unfold je_ret; simp) (by decide) (Nat.le_of_ble_eq_true rfl) ?_
  intro J hoks hR
  show J G 0 [some (jR (1, n, 0)), some (jR (1, m, 0)), none] []
  have hread : ∀ f, je_set G 1 n 0 f 1 m 0 = G 1 m 0 := fun f => je_set_ne (fun h => hne h.2.1)
  refine hR.2 [42] 400 _ _ _ _ ?_
  conv => whnf
  simp only [je_set_set, je_set_eq, hread]
  refine je_for (P := fun k => ∀ f : Sg, (∀ i, i < 5 ∨ (21 ≤ i ∧ i < 21 + k) ∨ (56 ≤ i ∧ i < 56 + k) → f i = G 1 m 0 i) → J (je_set G 1 n 0 f) 42 [some (jR (1, n, 0)), some (jR (1, m, 0)), some (jI (nI k))] []) 35 ?_ ?_ 0 (Nat.zero_le _) _ ?_
  · intro f hf
    refine hR.2 [42, 80] 400 _ _ _ _ ?_
    conv => whnf
    refine br_t ((nI_leI (by omega) (by omega)).mpr (by omega)) ?_
    conv => whnf
    refine je_for (P := fun k => ∀ f : Sg, (∀ i, i < 5 ∨ (21 ≤ i ∧ i < 91 + k) → f i = G 1 m 0 i) → J (je_set G 1 n 0 f) 80 [some (jR (1, n, 0)), some (jR (1, m, 0)), some (jI (nI k))] []) 70 ?_ ?_ 0 (Nat.zero_le _) f ?_
    · intro f hf
      refine hR.2 [80, 106] 400 _ _ _ _ ?_
      conv => whnf
      refine br_t ((nI_leI (by omega) (by omega)).mpr (by omega)) ?_
      conv => whnf
      refine je_for (P := fun k => ∀ f : Sg, (∀ i, i < 5 ∨ (5 ≤ i ∧ i < 5 + k) ∨ (9 ≤ i ∧ i < 9 + k) ∨ (13 ≤ i ∧ i < 13 + k) ∨ (17 ≤ i ∧ i < 17 + k) ∨ (21 ≤ i ∧ i < 161) → f i = G 1 m 0 i) → J (je_set G 1 n 0 f) 106 [some (jR (1, n, 0)), some (jR (1, m, 0)), some (jI (nI k))] []) 4 ?_ ?_ 0 (Nat.zero_le _) f ?_
      · intro f hf
        refine je_ext hR (je_eqv1 (g := G 1 m 0) (fun i hi => hf i (by omega))) ?_
        refine hR.2 [106] 400 _ _ _ _ ?_
        conv => whnf
        refine br_t ((nI_leI (by omega) (by omega)).mpr (by omega)) ?_
        conv => whnf
        exact ⟨rfl, rfl⟩
      · intro k hk ih f hf
        refine hR.2 [106] 400 _ _ _ _ ?_
        conv => whnf
        refine br_f (fun h => absurd ((nI_leI (by omega) (by omega)).mp h) (by omega)) ?_
        conv => whnf
        refine ⟨vp_in_nI (by omega) (by omega), ?_⟩
        conv => whnf
        refine ⟨vp_in_nI (by omega) (by omega), ?_⟩
        conv => whnf
        refine ⟨vp_in_nI (by omega) (by omega), ?_⟩
        conv => whnf
        refine ⟨vp_in_nI (by omega) (by omega), ?_⟩
        conv => whnf
        refine ⟨vp_in_nI (by omega) (by omega), ?_⟩
        conv => whnf
        refine And.intro (vp_in_nI (by omega) (by omega)) ?_
        conv => whnf
        refine And.intro (by dsimp only; simp only [je_set_set, je_set_eq, hread]; simp (disch := omega) only [nI_clamp]; exact hb.2 k hk) ?_
        conv => whnf
        refine ⟨vp_in_nI (by omega) (by omega), ?_⟩
        conv => whnf
        refine ⟨vp_in_nI (by omega) (by omega), ?_⟩
        conv => whnf
        simp only [je_set_set, je_set_eq, hread]
        simp (disch := omega) only [nI_clamp, nI_add]
        refine ih _ (fun i hi => ?_)
        unfold upd
        split
        · rename_i h1; rw [h1]
        · split
          · rename_i h1; rw [h1]
          · split
            · rename_i h1; rw [h1]
            · split
              · rename_i h1; rw [h1]
              · exact hf i (by omega)
      · intro i hi
        exact hf i (by omega)
    · intro k hk ih f hf
      refine hR.2 [80] 400 _ _ _ _ ?_
      conv => whnf
      refine br_f (fun h => absurd ((nI_leI (by omega) (by omega)).mp h) (by omega)) ?_
      conv => whnf
      refine ⟨vp_in_nI (by omega) (by omega), ?_⟩
      conv => whnf
      refine And.intro (vp_in_nI (by omega) (by omega)) ?_
      conv => whnf
      refine And.intro (by dsimp only; simp only [je_set_set, je_set_eq, hread]; simp (disch := omega) only [nI_clamp]; exact hb.1 k hk) ?_
      conv => whnf
      simp only [je_set_set, je_set_eq, hread]
      simp (disch := omega) only [nI_clamp, nI_add]
      refine ih _ (fun i hi => ?_)
      unfold upd
      split
      · rename_i h1; rw [h1]
      · exact hf i (by omega)
    · intro i hi
      exact hf i (by omega)
  · intro k hk ih f hf
    refine hR.2 [42] 400 _ _ _ _ ?_
    conv => whnf
    refine br_f (fun h => absurd ((nI_leI (by omega) (by omega)).mp h) (by omega)) ?_
    conv => whnf
    refine ⟨vp_in_nI (by omega) (by omega), ?_⟩
    conv => whnf
    refine ⟨vp_in_nI (by omega) (by omega), ?_⟩
    conv => whnf
    refine ⟨vp_in_nI (by omega) (by omega), ?_⟩
    conv => whnf
    refine ⟨vp_in_nI (by omega) (by omega), ?_⟩
    conv => whnf
    simp only [je_set_set, je_set_eq, hread]
    simp (disch := omega) only [nI_clamp, nI_add]
    refine ih _ (fun i hi => ?_)
    unfold upd
    split
    · rename_i h1; rw [h1]
    · split
      · rename_i h1; rw [h1]
      · exact hf i (by omega)
  · intro i hi
    unfold upd
    rcases (show i = 0 ∨ i = 1 ∨ i = 2 ∨ i = 3 ∨ i = 4 by omega) with rfl | rfl | rfl | rfl | rfl <;> simp
theorem n6_vp (n : Nat) : ¬ vp_in (-6) n := fun h => h (Or.inl (by decide))
set_option maxHeartbeats 4000000 in
set_option maxRecDepth 100000 in
theorem c_stepFrom (l : Launch) (G : je_G) (n c w : Nat) (hc : c < 35) (hw : w < 4) : je_Ci l yX1_stepFrom wsX1_stepFrom rmX1_stepFrom [jR (1, n, 0), jI (nI c), jI (nI w)] G (fun r G' => G' = G ∧ r = oI (stp (G 1 n 0) c w)) := by
  refine je_met1 tbX1_stepFrom 1 okX1_stepFrom rfl (by decide +kernel) rfl (by unfold je_ret; simp) (by decide) (Nat.le_of_ble_eq_true rfl) ?_
  intro J hoks hR
  show J G 0 [some (jR (1, n, 0)), some (jI (nI c)), some (jI (nI w)), none] []
  refine hR.2 [] 400 _ _ _ _ ?_
  conv => whnf
  refine je_s2i hR kX1_stepFrom_2 rfl (c_edgeTowards l G (nI c) (nI w)) rfl ?_
  intro y G' hq
  obtain ⟨rfl, rfl⟩ := hq
  rw [etX_ok hc hw]
  cases hb : bs c w with
  | none =>
    refine hR.2 [] 400 _ _ _ _ ?_
    conv => whnf
    refine je_s1i hR kX1_stepFrom_7 rfl (c_isEdge l G' (-6)) rfl ?_
    intro y G hq
    obtain ⟨rfl, ⟨h1, rfl⟩ | ⟨h1, rfl⟩⟩ := hq
    · exact absurd h1 (n6_vp 70)
    · skip
      refine hR.2 [] 400 _ _ _ _ ?_
      conv => whnf
      refine br_t (by decide) ?_
      conv => whnf
      exact ⟨_, rfl, rfl, by unfold stp; rw [hb]; rfl⟩
  | some o =>
    have he := (bs_lt c hc w hw o hb).2.2
    show J G' 5 _ [jI (nI (eg c w))]
    refine hR.2 [] 400 _ _ _ _ ?_
    conv => whnf
    refine je_s1i hR kX1_stepFrom_7 rfl (c_isEdge l G' (nI (eg c w))) rfl ?_
    intro y G hq
    obtain ⟨rfl, ⟨h1, rfl⟩ | ⟨h1, rfl⟩⟩ := hq
    · skip
      refine hR.2 [] 400 _ _ _ _ ?_
      conv => whnf
      refine br_f (by decide) ?_
      conv => whnf
      refine ⟨h1, ?_⟩
      conv => whnf
      rw [nI_clamp (by omega)]
      refine ⟨fun h2 => ?_, fun h2 => ?_⟩
      · conv => whnf
        refine je_s2i hR kX1_stepFrom_29 rfl (c_besideX l G (nI c) (nI w)) rfl ?_
        intro y G' hq
        obtain ⟨rfl, rfl⟩ := hq
        refine hR.2 [] 400 _ _ _ _ ?_
        conv => whnf
        exact ⟨_, rfl, rfl, by rw [beX_ok hc hw]; unfold stp; rw [hb]; dsimp only; rw [if_pos h2]⟩
      · conv => whnf
        exact ⟨_, rfl, rfl, by unfold stp; rw [hb]; dsimp only; rw [if_neg h2]; rfl⟩
    · exact absurd (vp_in_nI he (by omega)) h1
/-- a rope beside a cell, one way -/
def rpe (σ : Sg) (c w : Nat) : Int32 := match bs c w with
  | none => nI 0
  | some _ => if σ (91 + eg c w) = 0 then nI 0 else nI 1 <<< (nI w &&& 31)
set_option maxHeartbeats 4000000 in
set_option maxRecDepth 100000 in
theorem c_ropesAround (l : Launch) (G : je_G) (n c : Nat) (hc : c < 35) : je_Ci l yX1_ropesAround wsX1_ropesAround rmX1_ropesAround [jR (1, n, 0), jI (nI c)] G (fun r G' => G' = G ∧ r = ior (rpe (G 1 n 0) c) 4) := by
  refine je_met1 tbX1_ropesAround 1 okX1_ropesAround rfl (by decide +kernel) rfl (by unfold je_ret; simp) (by decide) (Nat.le_of_ble_eq_true rfl) ?_
  intro J hoks hR
  show J G 0 [some (jR (1, n, 0)), some (jI (nI c)), none, none, none] []
  refine hR.2 [4] 400 _ _ _ _ ?_
  conv => whnf
  refine je_loc hR (L' := [some (jR (1, n, 0)), some (jI (nI c)), some (jI (nI 0)), some (jI (nI 0)), none]) ⟨rfl, rfl, rfl, rfl, trivial⟩ ?_
  refine je_for (P := fun k => J G 4 [some (jR (1, n, 0)), some (jI (nI c)), some (jI (ior (rpe (G 1 n 0) c) k)), some (jI (nI k)), none] []) 4 ?_ ?_ 0 (Nat.zero_le _)
  · skip
    refine hR.2 [4] 400 _ _ _ _ ?_
    conv => whnf
    refine br_t ((nI_leI (by omega) (by omega)).mpr (by omega)) ?_
    conv => whnf
    exact ⟨_, rfl, rfl, rfl⟩
  · intro k hk ih
    refine hR.2 [4] 400 _ _ _ _ ?_
    conv => whnf
    refine br_f (fun h => absurd ((nI_leI (by omega) (by omega)).mp h) (by omega)) ?_
    conv => whnf
    refine je_s2i hR kX1_ropesAround_11 rfl (c_edgeTowards l G (nI c) (nI k)) rfl ?_
    intro y G' hq
    obtain ⟨rfl, rfl⟩ := hq
    rw [etX_ok hc hk]
    have ih' : J G' 4 [some (jR (1, n, 0)), some (jI (nI c)), some (jI (ior (rpe (G' 1 n 0) c) k ||| rpe (G' 1 n 0) c k)), some (jI (nI (k + 1))), none] [] := ih
    cases hb : bs c k with
    | none =>
      simp only [rpe, hb] at ih'
      refine hR.2 [4] 400 _ _ _ _ ?_
      conv => whnf
      refine je_s1i hR kX1_ropesAround_19 rfl (c_isEdge l G' (-6)) rfl ?_
      intro y G hq
      obtain ⟨rfl, ⟨h1, rfl⟩ | ⟨h1, rfl⟩⟩ := hq
      · exact absurd h1 (n6_vp 70)
      · skip
        refine hR.2 [4] 400 _ _ _ _ ?_
        conv => whnf
        refine br_t (by decide) ?_
        conv => whnf
        simp (disch := omega) only [nI_clamp, nI_add]
        exact je_loc hR (L' := [some _, some _, some _, some _, none]) ⟨rfl, rfl, rfl, rfl, trivial⟩ ih'
    | some o =>
      have he := (bs_lt c hc k hk o hb).2.2
      simp only [rpe, hb] at ih'
      show J G' 14 _ [jI (nI (eg c k))]
      refine hR.2 [4] 400 _ _ _ _ ?_
      conv => whnf
      refine je_s1i hR kX1_ropesAround_19 rfl (c_isEdge l G' (nI (eg c k))) rfl ?_
      intro y G hq
      obtain ⟨rfl, ⟨h1, rfl⟩ | ⟨h1, rfl⟩⟩ := hq
      · skip
        refine hR.2 [4] 400 _ _ _ _ ?_
        conv => whnf
        refine br_f (by decide) ?_
        conv => whnf
        refine ⟨h1, ?_⟩
        conv => whnf
        rw [nI_clamp (by omega)]
        refine ⟨fun h2 => ?_, fun h2 => ?_⟩
        · conv => whnf
          rw [if_pos h2] at ih'
          simp (disch := omega) only [nI_clamp, nI_add]
          exact je_loc hR (L' := [some _, some _, some _, some _, none]) ⟨rfl, rfl, rfl, rfl, trivial⟩ ih'
        · conv => whnf
          rw [if_neg h2] at ih'
          simp (disch := omega) only [nI_clamp, nI_add]
          exact je_loc hR (L' := [some _, some _, some _, some _, none]) ⟨rfl, rfl, rfl, rfl, trivial⟩ ih'
      · exact absurd (vp_in_nI he (by omega)) h1
