/-! RopedHalls: setRoom, rope, door, open, guard, enter -/
/-- what always holds of a hall; T bounds its minutes -/
def InvS (T : Nat) (σ : Sg) : Prop := ∃ (rm t : Nat) (p o : Nat → Nat), (1 ≤ rm ∧ rm ≤ 20 ∧ σ 0 = nI rm) ∧ (σ 1 = nI t ∧ t ≤ T) ∧ (∀ c, c < 35 → σ (21 + c) = nI (p c) ∧ p c ≤ rm) ∧ (∀ d, d < 4 → vp_in (σ (5 + d)) 35) ∧ (∀ d, d < 4 → ∃ ρ, σ (9 + d) = nI ρ ∧ 1 ≤ ρ ∧ ρ ≤ 9) ∧ (∀ d, d < 4 → σ (13 + d) = 0 ∨ σ (13 + d) = 1) ∧ (∀ d, d < 4 → σ (17 + d) = nI (o d) ∧ o d ≤ 9 * t) ∧ (∀ c, c < 35 → σ (56 + c) = -1 ∨ vp_in (σ (56 + c)) 4) ∧ ∀ e, e < 70 → σ (91 + e) = 0 ∨ σ (91 + e) = 1
theorem InvS.doors {T : Nat} {σ : Sg} (h : InvS T σ) : ∀ d, d < 4 → vp_in (σ (5 + d)) 35 := by
  obtain ⟨rm, t, p, o, h1, h2, h3, h4, h5⟩ := h
  exact h4
theorem InvS.bits {T : Nat} {σ : Sg} (h : InvS T σ) : bits σ := by
  obtain ⟨rm, t, p, o, h1, h2, h3, h4, h5, h6, h7, h8, h9⟩ := h
  exact ⟨h9, h6⟩
noncomputable def F_setRoom (S : jS) (x : Int32) : Int32 × jS := by
  classical
  exact if x < nI 1 ∨ ¬ x ≤ nI 20 then (-2, S) else if ¬ imax (fun c => S.1 (21 + c)) 35 ≤ x then (-5, S) else (S.1 0, wS (rec6 S) (upd S.1 0 x))
theorem FrC_rem {G G' : je_G} (h : ∀ c n r, c ≠ 1 → c ≠ 5 → G' c n r = G c n r) : FrC G G' := fun n r => h 6 n r (by omega) (by omega)
set_option maxHeartbeats 4000000 in
set_option maxRecDepth 100000 in
theorem c_setRoom (l : Launch) (G : je_G) (S : jS) (hC : CR G S) (hb : bits S.1) (x : Int32) : je_Ci l yX5_setRoom wsX5_setRoom rmX5_setRoom [jR (5, 0, 0), jI x] G (fun y G' => y = (F_setRoom S x).1 ∧ CR G' (F_setRoom S x).2 ∧ FrC G G') := by
  refine je_met1 tbX5_setRoom 1 okX5_setRoom rfl (by decide +kernel) rfl (by unfold je_ret; simp) (by decide) (Nat.le_of_ble_eq_true rfl) ?_
  intro J hoks hR
  show J G 0 [some (jR (5, 0, 0)), some (jI x), none] []
  refine hR.2 [] 400 _ _ _ _ ?_
  conv => whnf
  refine ⟨fun h0 => ?_, fun h0 => ?_⟩
  · conv => whnf
    have hv : x < nI 1 ∨ ¬ x ≤ nI 20 := Or.inl h0
    exact ⟨_, rfl, by simp only [F_setRoom, if_pos hv], by simp only [F_setRoom, if_pos hv]; exact hC, FrC.rf⟩
  · conv => whnf
    refine ⟨fun h1 => ?_, fun h1 => ?_⟩
    · conv => whnf
      have hv : ¬ (x < nI 1 ∨ ¬ x ≤ nI 20) := fun h => h.elim h0 (fun h => h h1)
      refine je_v0i hR kX5_setRoom_18 rfl (c_fullestCell l G 0) rfl ?_
      intro y G' hq
      obtain ⟨rfl, rfl⟩ := hq
      rw [CR_1 hC]
      refine hR.2 [] 400 _ _ _ _ ?_
      conv => whnf
      refine ⟨fun h2 => ?_, fun h2 => ?_⟩
      · conv => whnf
        refine je_v0v hR kX5_setRoom_29 rfl (c_remember l G' S hC hb) rfl ?_
        intro G2 hq
        obtain ⟨hC2, hf⟩ := hq
        have e2 := CR_1 hC2
        rw [rec6_1] at e2
        refine hR.2 [] 400 _ _ _ _ ?_
        conv => whnf
        rw [e2]
        refine ⟨_, rfl, ?_, ?_, (FrC_rem hf).set (by omega)⟩
        · simp only [F_setRoom, if_neg hv, if_neg (show ¬ ¬ imax (fun c => S.1 (21 + c)) 35 ≤ x from fun h => h h2)]
        · simp only [F_setRoom, if_neg hv, if_neg (show ¬ ¬ imax (fun c => S.1 (21 + c)) 35 ≤ x from fun h => h h2)]
          exact CR_set hC2 _
      · conv => whnf
        exact ⟨_, rfl, by simp only [F_setRoom, if_neg hv, if_pos h2], by simp only [F_setRoom, if_neg hv, if_pos h2]; exact hC, FrC.rf⟩
    · conv => whnf
      have hv : x < nI 1 ∨ ¬ x ≤ nI 20 := Or.inr h1
      exact ⟨_, rfl, by simp only [F_setRoom, if_pos hv], by simp only [F_setRoom, if_pos hv]; exact hC, FrC.rf⟩
noncomputable def F_door (S : jS) (d c ρ : Int32) : Int32 × jS := by
  classical
  exact if ¬ (vp_in d 4 ∧ vp_in c 35) then (-1, S) else if ρ < nI 1 ∨ ¬ ρ ≤ nI 9 then (-2, S) else (S.1 (5 + d.toNatClampNeg), wS (rec6 S) (upd (upd S.1 (5 + d.toNatClampNeg) c) (9 + d.toNatClampNeg) ρ))
set_option maxHeartbeats 4000000 in
set_option maxRecDepth 100000 in
theorem c_door (l : Launch) (G : je_G) (S : jS) (hC : CR G S) (hb : bits S.1) (x c ρ : Int32) : je_Ci l yX5_door wsX5_door rmX5_door [jR (5, 0, 0), jI x, jI c, jI ρ] G (fun y G' => y = (F_door S x c ρ).1 ∧ CR G' (F_door S x c ρ).2 ∧ FrC G G') := by
  refine je_met1 tbX5_door 1 okX5_door rfl (by decide +kernel) rfl (by unfold je_ret; simp) (by decide) (Nat.le_of_ble_eq_true rfl) ?_
  intro J hoks hR
  show J G 0 [some (jR (5, 0, 0)), some (jI x), some (jI c), some (jI ρ), none] []
  refine hR.2 [] 400 _ _ _ _ ?_
  conv => whnf
  refine je_s1i hR kX5_door_1 rfl (c_isDoor l G x) rfl ?_
  intro y G' hq
  obtain ⟨rfl, ⟨h1, rfl⟩ | ⟨h1, rfl⟩⟩ := hq
  · skip
    refine hR.2 [] 400 _ _ _ _ ?_
    conv => whnf
    refine br_f (by decide) ?_
    conv => whnf
    refine je_s1i hR kX5_door_8 rfl (c_isCell l G' c) rfl ?_
    intro y G hq
    obtain ⟨rfl, ⟨h2, rfl⟩ | ⟨h2, rfl⟩⟩ := hq
    · have hv : ¬ ¬ (vp_in x 4 ∧ vp_in c 35) := fun h => h ⟨h1, h2⟩
      obtain ⟨d, hd, rfl⟩ := vp_in_of h1 (by omega)
      have hcl : (nI d).toNatClampNeg = d := nI_clamp (by omega)
      refine hR.2 [] 400 _ _ _ _ ?_
      conv => whnf
      refine And.intro (fun _ => ?_) (fun h => absurd h (by decide))
      conv => whnf
      refine ⟨fun h3 => ?_, fun h3 => ?_⟩
      · conv => whnf
        have hw : ρ < nI 1 ∨ ¬ ρ ≤ nI 9 := Or.inl h3
        exact ⟨_, rfl, by simp only [F_door, if_neg hv, if_pos hw], by simp only [F_door, if_neg hv, if_pos hw]; exact hC, FrC.rf⟩
      · conv => whnf
        refine ⟨fun h4 => ?_, fun h4 => ?_⟩
        · conv => whnf
          have hw : ¬ (ρ < nI 1 ∨ ¬ ρ ≤ nI 9) := fun h => h.elim h3 (fun h => h h4)
          refine je_v0v hR kX5_door_31 rfl (c_remember l G S hC hb) rfl ?_
          intro G2 hq
          obtain ⟨hC2, hf⟩ := hq
          have e2 := CR_1 hC2
          rw [rec6_1] at e2
          refine hR.2 [] 400 _ _ _ _ ?_
          conv => whnf
          refine ⟨vp_in_nI (by omega) (by omega), ?_⟩
          conv => whnf
          refine ⟨vp_in_nI (by omega) (by omega), ?_⟩
          conv => whnf
          refine ⟨vp_in_nI (by omega) (by omega), ?_⟩
          conv => whnf
          simp only [je_set_eq, je_set_set, hcl, e2]
          refine ⟨_, rfl, ?_, ?_, (FrC_rem hf).set (by omega)⟩
          · simp only [F_door, if_neg hv, if_neg hw, hcl]
          · simp only [F_door, if_neg hv, if_neg hw, hcl]
            exact CR_set hC2 _
        · conv => whnf
          have hw : ρ < nI 1 ∨ ¬ ρ ≤ nI 9 := Or.inr h4
          exact ⟨_, rfl, by simp only [F_door, if_neg hv, if_pos hw], by simp only [F_door, if_neg hv, if_pos hw]; exact hC, FrC.rf⟩
    · skip
      refine hR.2 [] 400 _ _ _ _ ?_
      conv => whnf
      refine And.intro (fun h => absurd rfl h) (fun _ => ?_)
      conv => whnf
      have hv : ¬ (vp_in x 4 ∧ vp_in c 35) := fun h => h2 h.2
      exact ⟨_, rfl, by simp only [F_door, if_pos hv], by simp only [F_door, if_pos hv]; exact hC, FrC.rf⟩
  · skip
    refine hR.2 [] 400 _ _ _ _ ?_
    conv => whnf
    refine br_t (by decide) ?_
    conv => whnf
    have hv : ¬ (vp_in x 4 ∧ vp_in c 35) := fun h => h1 h.1
    exact ⟨_, rfl, by simp only [F_door, if_pos hv], by simp only [F_door, if_pos hv]; exact hC, FrC.rf⟩
noncomputable def F_guard (S : jS) (c g : Int32) : Int32 × jS := by
  classical
  exact if ¬ vp_in c 35 then (-1, S) else if ¬ (g = -1 ∨ vp_in g 4) then (-2, S) else (oI (gl (upd S.1 (56 + c.toNatClampNeg) g) c.toNatClampNeg), wS (rec6 S) (upd S.1 (56 + c.toNatClampNeg) g))
theorem CR_f4 {G G' : je_G} {S : jS} {r : Nat} (h : CR G S) (hf : Fr1 4 r G G') : CR G' S := CR_fr h (fun n _ => hf 1 n 0 (by omega)) (fun r => hf 5 0 r (by omega)) (fun r => hf 3 0 r (by omega))
set_option maxHeartbeats 4000000 in
set_option maxRecDepth 100000 in
theorem c_guard (l : Launch) (G : je_G) (S : jS) (hC : CR G S) (hb : bits S.1) (hd : ∀ d, d < 4 → vp_in (S.1 (5 + d)) 35) (x g : Int32) : je_Ci l yX5_guard wsX5_guard rmX5_guard [jR (5, 0, 0), jI x, jI g] G (fun y G' => y = (F_guard S x g).1 ∧ CR G' (F_guard S x g).2 ∧ FrC G G') := by
  refine je_met1 tbX5_guard 1 okX5_guard rfl (by decide +kernel) rfl (by unfold je_ret; simp) (by decide) (Nat.le_of_ble_eq_true rfl) ?_
  intro J hoks hR
  show J G 0 [some (jR (5, 0, 0)), some (jI x), some (jI g)] []
  refine hR.2 [] 400 _ _ _ _ ?_
  conv => whnf
  refine je_s1i hR kX5_guard_1 rfl (c_isCell l G x) rfl ?_
  intro y G' hq
  obtain ⟨rfl, ⟨h1, rfl⟩ | ⟨h1, rfl⟩⟩ := hq
  · have hv : ¬ ¬ vp_in x 35 := fun h => h h1
    obtain ⟨c, hc, rfl⟩ := vp_in_of h1 (by omega)
    have hcl : (nI c).toNatClampNeg = c := nI_clamp (by omega)
    have fin : (g = -1 ∨ vp_in g 4) → J G' 24 [some (jR (5, 0, 0)), some (jI (nI c)), some (jI g)] [] := by
      intro hg
      have hw : ¬ ¬ (g = -1 ∨ vp_in g 4) := fun h => h hg
      refine hR.2 [] 400 _ _ _ _ ?_
      conv => whnf
      refine je_v0v hR kX5_guard_25 rfl (c_remember l G' S hC hb) rfl ?_
      intro G2 hq
      obtain ⟨hC2, hf⟩ := hq
      have e2 := CR_1 hC2
      rw [rec6_1] at e2
      refine hR.2 [] 400 _ _ _ _ ?_
      conv => whnf
      refine ⟨vp_in_nI (by omega) (by omega), ?_⟩
      conv => whnf
      simp only [je_set_eq, hcl, e2]
      refine je_v1v hR kX5_guard_46 rfl (c_find l _ 0 0 (fun d h => by rw [je_set_eq]; unfold upd; rw [if_neg (by omega)]; exact hd d h)) rfl ?_
      intro G3 hq
      rw [je_set_eq] at hq
      obtain ⟨hf3, hW⟩ := hq
      refine hR.2 [] 400 _ _ _ _ ?_
      conv => whnf
      refine je_v1i hR kX5_guard_54 rfl (c_goalOf l _ 0 c hc) rfl ?_
      intro y G4 hq
      obtain ⟨rfl, rfl⟩ := hq
      refine hR.2 [] 400 _ _ _ _ ?_
      conv => whnf
      refine ⟨_, rfl, ?_, ?_, ((FrC_rem hf).set (by omega)).fr1 hf3 (by omega)⟩
      · simp only [F_guard, if_neg hv, if_neg hw, hcl]
        exact hW.2.1 c hc
      · simp only [F_guard, if_neg hv, if_neg hw, hcl]
        exact CR_f4 (CR_set hC2 _) hf3
    refine hR.2 [24] 400 _ _ _ _ ?_
    conv => whnf
    refine And.intro (fun _ => ?_) (fun h => absurd h (by decide))
    conv => whnf
    refine ⟨fun h2 => ?_, fun h2 => ?_⟩
    · conv => whnf
      exact fin (Or.inl h2)
    · conv => whnf
      refine je_s1i hR kX5_guard_15 rfl (c_isDoor l G' g) rfl ?_
      intro y G hq
      obtain ⟨rfl, ⟨h3, rfl⟩ | ⟨h3, rfl⟩⟩ := hq
      · skip
        refine hR.2 [24] 400 _ _ _ _ ?_
        conv => whnf
        refine And.intro (fun _ => ?_) (fun h => absurd h (by decide))
        conv => whnf
        exact fin (Or.inr h3)
      · skip
        refine hR.2 [24] 400 _ _ _ _ ?_
        conv => whnf
        refine And.intro (fun h => absurd rfl h) (fun _ => ?_)
        conv => whnf
        have hw : ¬ (g = -1 ∨ vp_in g 4) := fun h => h.elim h2 h3
        exact ⟨_, rfl, by simp only [F_guard, if_neg hv, if_pos hw], by simp only [F_guard, if_neg hv, if_pos hw]; exact hC, FrC.rf⟩
  · skip
    refine hR.2 [] 400 _ _ _ _ ?_
    conv => whnf
    refine And.intro (fun h => absurd rfl h) (fun _ => ?_)
    conv => whnf
    exact ⟨_, rfl, by simp only [F_guard, if_pos h1], by simp only [F_guard, if_pos h1]; exact hC, FrC.rf⟩
noncomputable def F_enter (S : jS) (c m : Int32) : Int32 × jS := by
  classical
  exact if ¬ vp_in c 35 then (-1, S) else if m < nI 1 ∨ ¬ m ≤ nI 20 then (-2, S) else if ¬ S.1 (21 + c.toNatClampNeg) + m ≤ S.1 0 then (-4, S) else (S.1 (21 + c.toNatClampNeg) + m, wS (rec6 S) (upd (upd S.1 (21 + c.toNatClampNeg) (S.1 (21 + c.toNatClampNeg) + m)) 2 (S.1 2 + m)))
set_option maxHeartbeats 4000000 in
set_option maxRecDepth 100000 in
theorem c_enter (l : Launch) (G : je_G) (S : jS) (hC : CR G S) (hb : bits S.1) (x m : Int32) : je_Ci l yX5_enter wsX5_enter rmX5_enter [jR (5, 0, 0), jI x, jI m] G (fun y G' => y = (F_enter S x m).1 ∧ CR G' (F_enter S x m).2 ∧ FrC G G') := by
  refine je_met1 tbX5_enter 1 okX5_enter rfl (by decide +kernel) rfl (by unfold je_ret; simp) (by decide) (Nat.le_of_ble_eq_true rfl) ?_
  intro J hoks hR
  show J G 0 [some (jR (5, 0, 0)), some (jI x), some (jI m)] []
  refine hR.2 [] 400 _ _ _ _ ?_
  conv => whnf
  refine je_s1i hR kX5_enter_1 rfl (c_isCell l G x) rfl ?_
  intro y G' hq
  obtain ⟨rfl, ⟨h1, rfl⟩ | ⟨h1, rfl⟩⟩ := hq
  · have hv : ¬ ¬ vp_in x 35 := fun h => h h1
    obtain ⟨c, hc, rfl⟩ := vp_in_of h1 (by omega)
    have hcl : (nI c).toNatClampNeg = c := nI_clamp (by omega)
    refine hR.2 [] 400 _ _ _ _ ?_
    conv => whnf
    refine And.intro (fun _ => ?_) (fun h => absurd h (by decide))
    conv => whnf
    refine ⟨fun h2 => ?_, fun h2 => ?_⟩
    · conv => whnf
      have hw : m < nI 1 ∨ ¬ m ≤ nI 20 := Or.inl h2
      exact ⟨_, rfl, by simp only [F_enter, if_neg hv, if_pos hw], by simp only [F_enter, if_neg hv, if_pos hw]; exact hC, FrC.rf⟩
    · conv => whnf
      refine ⟨fun h3 => ?_, fun h3 => ?_⟩
      · have hw : ¬ (m < nI 1 ∨ ¬ m ≤ nI 20) := fun h => h.elim h2 (fun h => h h3)
        conv => whnf
        refine ⟨vp_in_nI (by omega) (by omega), ?_⟩
        conv => whnf
        rw [hcl, CR_1 hC]
        refine ⟨fun h4 => ?_, fun h4 => ?_⟩
        · conv => whnf
          have hz : ¬ ¬ S.1 (21 + c) + m ≤ S.1 0 := fun h => h h4
          refine je_v0v hR kX5_enter_48 rfl (c_remember l G' S hC hb) rfl ?_
          intro G2 hq
          obtain ⟨hC2, hf⟩ := hq
          have e2 := CR_1 hC2
          rw [rec6_1] at e2
          refine hR.2 [] 400 _ _ _ _ ?_
          conv => whnf
          refine je_v2v hR kX5_enter_57 rfl (c_letIn l G2 0 c hc m) rfl ?_
          intro G3 hq
          subst hq
          refine hR.2 [] 400 _ _ _ _ ?_
          conv => whnf
          refine ⟨vp_in_nI (by omega) (by omega), ?_⟩
          conv => whnf
          simp only [je_set_eq, hcl, e2]
          refine ⟨_, rfl, ?_, ?_, (FrC_rem hf).set (by omega)⟩
          · simp only [F_enter, if_neg hv, if_neg hw, hcl, if_neg hz]
            unfold upd
            rw [if_neg (by omega), if_pos rfl]
          · simp only [F_enter, if_neg hv, if_neg hw, hcl, if_neg hz]
            exact CR_set hC2 _
        · conv => whnf
          exact ⟨_, rfl, by simp only [F_enter, if_neg hv, if_neg hw, hcl, if_pos h4], by simp only [F_enter, if_neg hv, if_neg hw, hcl, if_pos h4]; exact hC, FrC.rf⟩
      · conv => whnf
        have hw : m < nI 1 ∨ ¬ m ≤ nI 20 := Or.inr h3
        exact ⟨_, rfl, by simp only [F_enter, if_neg hv, if_pos hw], by simp only [F_enter, if_neg hv, if_pos hw]; exact hC, FrC.rf⟩
  · skip
    refine hR.2 [] 400 _ _ _ _ ?_
    conv => whnf
    refine And.intro (fun h => absurd rfl h) (fun _ => ?_)
    conv => whnf
    exact ⟨_, rfl, by simp only [F_enter, if_pos h1], by simp only [F_enter, if_pos h1]; exact hC, FrC.rf⟩
