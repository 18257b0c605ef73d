/-! THE REFERENCE: bestRope -/
noncomputable def bmo (σ : Sg) : Nat → Int32 × Int32 × Int32
  | 0 => (-6, nI 0, nI 0)
  | e + 1 => by
    classical
    exact if canH σ e ∧ std (turn σ e) ≤ std σ ∧ ¬ (fut (turn σ e)).1 = -6 ∧ ((bmo σ e).1 = -6 ∨ unr (fut (turn σ e)).2 < (bmo σ e).2.1 ∨ (unr (fut (turn σ e)).2 = (bmo σ e).2.1 ∧ (fut (turn σ e)).1 < (bmo σ e).2.2)) then (nI e, unr (fut (turn σ e)).2, (fut (turn σ e)).1) else bmo σ e
theorem bmo_bro {σ : Sg} : ∀ e, e ≤ 70 → ((bmo σ e).1 = -6 ∧ bro σ e = (-6, -6, -6)) ∨ (¬ (bmo σ e).1 = -6 ∧ bro σ e = bmo σ e)
  | 0, _ => Or.inl ⟨rfl, rfl⟩
  | e + 1, h70 => by
    rcases bmo_bro (σ := σ) e (by omega) with ⟨h1, h2⟩ | ⟨h1, h2⟩
    · rw [bmo, bro, h2, h1]
      by_cases h : canH σ e ∧ std (turn σ e) ≤ std σ ∧ ¬ (fut (turn σ e)).1 = -6
      · rw [if_pos ⟨h.1, h.2.1, h.2.2, Or.inl rfl⟩, if_pos ⟨h.1, h.2.1, h.2.2, Or.inl rfl⟩]
        exact Or.inr ⟨nI_ne6 (by omega), rfl⟩
      · rw [if_neg (fun h2 => h ⟨h2.1, h2.2.1, h2.2.2.1⟩), if_neg (fun h2 => h ⟨h2.1, h2.2.1, h2.2.2.1⟩)]
        exact Or.inl ⟨h1, rfl⟩
    · rw [bmo, bro, h2]
      split
      · exact Or.inr ⟨nI_ne6 (by omega), rfl⟩
      · exact Or.inr ⟨h1, rfl⟩
set_option maxHeartbeats 4000000 in
set_option maxRecDepth 100000 in
theorem m_bestRope (l : Launch) (G : je_G) (S : jS) (hM : MR G S) (hI : InvS 9999 S.1) (w : Int32) : je_Ci l yX6_bestRope wsX6_bestRope rmX6_bestRope [jR (6, 0, 0), jI w] G (fun y G' => y = F_bestRope S w ∧ MR G' S ∧ FrM G G') := by
  refine je_met1 tbX6_bestRope 1 okX6_bestRope rfl (by decide +kernel) rfl (by unfold je_ret; simp) (by decide) (Nat.le_of_ble_eq_true rfl) ?_
  intro J hoks hR
  show J G 0 [some (jR (6, 0, 0)), some (jI w), none, none, none, none, none, none, none] []
  have h0 : G 6 0 0 = S.1 := MR_1 hM
  refine hR.2 [] 400 _ _ _ _ ?_
  conv => whnf
  refine je_s3i hR kX6_bestRope_3 rfl (m_in l G w (nI 0) (nI 2)) rfl ?_
  intro y G' hq
  obtain ⟨rfl, ⟨h4, h5, rfl⟩ | ⟨h4, rfl⟩⟩ := hq
  · have hc2 : ¬ (w < 0 ∨ ¬ w ≤ nI 2) := fun h => h.elim h4 (fun h => h (i_nlt.mp h5))
    refine hR.2 [] 400 _ _ _ _ ?_
    conv => whnf
    refine And.intro (fun _ => ?_) (fun h => absurd h (by decide))
    conv => whnf
    refine je_v0v hR kX6_bestRope_13 rfl (m_layWays l G' (by rw [h0]; exact hI.bits) (fun d hd => by rw [h0]; exact hI.doors d hd) (fun c hc => by rw [h0]; exact hI.gd c hc)) rfl ?_
    intro G2 hq
    obtain ⟨hW, hL⟩ := hq
    rw [h0] at hL
    have hM2 := MR_W hM hW
    have q0 : G2 6 0 0 = S.1 := MR_1 hM2
    refine hR.2 [] 400 _ _ _ _ ?_
    conv => whnf
    refine je_v0i hR kX6_bestRope_17 rfl (m_shutIn l G2) rfl ?_
    intro y G3 hq
    obtain ⟨rfl, rfl⟩ := hq
    rw [q0, goa_std (laid_goa hL)]
    refine hR.2 [33] 400 _ _ _ _ ?_
    conv => whnf
    refine (show J G3 33 [some (jR (6, 0, 0)), some (jI w), some (jI (std S.1)), some (jI (bmo S.1 0).1), some (jI (bmo S.1 0).2.1), some (jI (bmo S.1 0).2.2), some (jI (nI 0)), none, none] [] → _ from id) ?_
    refine je_for (P := fun e => ∀ G4, MR G4 S → FrM G3 G4 → J G4 33 [some (jR (6, 0, 0)), some (jI w), some (jI (std S.1)), some (jI (bmo S.1 e).1), some (jI (bmo S.1 e).2.1), some (jI (bmo S.1 e).2.2), some (jI (nI e)), none, none] []) 70 ?_ ?_ 0 (Nat.zero_le _) G3 hM2 FrM.rf
    · intro G4 hM4 hF4
      have hF : FrM G' G4 := hW.m.tr hF4
      have key := bmo_bro (σ := S.1) 70 (Nat.le_refl _)
      refine hR.2 [33] 400 _ _ _ _ ?_
      conv => whnf
      refine br_t ((nI_leI (by omega) (by omega)).mpr (by omega)) ?_
      conv => whnf
      generalize bmo S.1 70 = q at key ⊢
      obtain ⟨q1, q2, q3⟩ := q
      rcases key with ⟨k1, k2⟩ | ⟨k1, k2⟩
      · refine And.intro (fun h => absurd k1 h) (fun _ => ?_)
        conv => whnf
        refine ⟨_, rfl, ?_, hM4, hF⟩
        unfold F_bestRope
        rw [if_neg hc2, k2]
        split
        · rfl
        · split <;> rfl
      · refine And.intro (fun _ => ?_) (fun h => absurd h k1)
        conv => whnf
        refine ⟨fun w0 => ?_, fun w0 => ?_⟩
        · conv => whnf
          refine ⟨fun w1 => ?_, fun w1 => ?_⟩
          · conv => whnf
            refine ⟨_, rfl, ?_, hM4, hF⟩
            unfold F_bestRope
            rw [if_neg hc2, k2, if_neg w0, if_neg w1]
          · conv => whnf
            refine ⟨_, rfl, ?_, hM4, hF⟩
            unfold F_bestRope
            rw [if_neg hc2, k2, if_neg w0, if_pos w1]
        · conv => whnf
          refine ⟨_, rfl, ?_, hM4, hF⟩
          unfold F_bestRope
          rw [if_neg hc2, k2, if_pos w0]
    · intro e he ih G4 hM4 hF4
      have h40 : G4 6 0 0 = S.1 := MR_1 hM4
      have he2 : e / 2 < 35 := by omega
      have hem : e % 2 < 2 := by omega
      -- no better
      have no : ¬ (canH S.1 e ∧ std (turn S.1 e) ≤ std S.1 ∧ ¬ (fut (turn S.1 e)).1 = -6 ∧ ((bmo S.1 e).1 = -6 ∨ unr (fut (turn S.1 e)).2 < (bmo S.1 e).2.1 ∨ (unr (fut (turn S.1 e)).2 = (bmo S.1 e).2.1 ∧ (fut (turn S.1 e)).1 < (bmo S.1 e).2.2))) → ∀ G5, MR G5 S → FrM G3 G5 → ∀ a b, J G5 206 [some (jR (6, 0, 0)), some (jI w), some (jI (std S.1)), some (jI (bmo S.1 e).1), some (jI (bmo S.1 e).2.1), some (jI (bmo S.1 e).2.2), some (jI (nI e)), a, b] [] := by
        intro hn G5 hM5 hF5 a b
        have hb : bmo S.1 (e + 1) = bmo S.1 e := by rw [bmo]; exact if_neg hn
        have ih2 := ih G5 hM5 hF5
        rw [hb] at ih2
        refine hR.2 [33] 400 _ _ _ _ ?_
        conv => whnf
        rw [nI_add]
        exact je_loc hR (L' := [some _, some _, some _, some _, some _, some _, some _, none, none]) ⟨rfl, rfl, rfl, rfl, rfl, rfl, rfl, trivial⟩ ih2
      refine hR.2 [33, 206] 400 _ _ _ _ ?_
      conv => whnf
      refine br_f (fun h => absurd ((nI_leI (by omega) (by omega)).mp h) (by omega)) ?_
      conv => whnf
      refine And.intro (by decide) ?_
      conv => whnf
      refine And.intro (by decide) ?_
      conv => whnf
      rw [pk_rem (show e < 2 ^ 31 by omega) (show 0 < 2 by decide) (by decide), pk_div (show e < 2 ^ 31 by omega) (by decide) (by decide)]
      refine je_s2i hR kX6_bestRope_48 rfl (m_isEdge l G4 (e / 2) (e % 2) he2 hem) rfl ?_
      intro y G5 hq
      obtain ⟨rfl, ⟨⟨o, hbs⟩, rfl⟩ | ⟨hbs, rfl⟩⟩ := hq
      · skip
        refine hR.2 [33, 206] 400 _ _ _ _ ?_
        conv => whnf
        refine br_f (by decide) ?_
        conv => whnf
        rw [nI_add]
        refine ⟨vp_in_nI (by omega) (by omega), ?_⟩
        conv => whnf
        simp only [nI_clamp (show 91 + e < 2 ^ 31 by omega), Nat.zero_add, h40]
        refine ⟨fun hz => ?_, fun hz => ?_⟩
        · conv => whnf
          exact no (fun h => hz h.1.2) G5 hM4 hF4 _ _
        · have hcan : canH S.1 e := ⟨⟨o, hbs⟩, hz⟩
          conv => whnf
          refine And.intro (by decide) ?_
          conv => whnf
          refine And.intro (by decide) ?_
          conv => whnf
          rw [pk_rem (show e < 2 ^ 31 by omega) (show 0 < 2 by decide) (by decide), pk_div (show e < 2 ^ 31 by omega) (by decide) (by decide)]
          refine je_v2v hR kX6_bestRope_76 rfl (m_tries l G5 S hM4 hI (e / 2) (e % 2) o he2 hem hbs) rfl ?_
          intro G6 hq
          obtain ⟨t0, t1, t2, hM6, hF6⟩ := hq
          rw [eg_e] at t0 t1 t2
          have hF36 := hF4.tr hF6
          have bad155 : ∀ a : Int32, ¬ (canH S.1 e ∧ std (turn S.1 e) ≤ std S.1 ∧ ¬ (fut (turn S.1 e)).1 = -6 ∧ ((bmo S.1 e).1 = -6 ∨ unr (fut (turn S.1 e)).2 < (bmo S.1 e).2.1 ∨ (unr (fut (turn S.1 e)).2 = (bmo S.1 e).2.1 ∧ (fut (turn S.1 e)).1 < (bmo S.1 e).2.2))) → J G6 155 [some (jR (6, 0, 0)), some (jI w), some (jI (std S.1)), some (jI (bmo S.1 e).1), some (jI (bmo S.1 e).2.1), some (jI (bmo S.1 e).2.2), some (jI (nI e)), some (jI a), none] [] := by
            intro a hn
            have fin := no hn G6 hM6 hF36
            refine hR.2 [206] 400 _ _ _ _ ?_
            conv => whnf
            refine br_t (by decide) ?_
            conv => whnf
            refine br_t (by decide) ?_
            conv => whnf
            refine br_t (by decide) ?_
            conv => whnf
            exact fin _ _
          have bad104 : ¬ (canH S.1 e ∧ std (turn S.1 e) ≤ std S.1 ∧ ¬ (fut (turn S.1 e)).1 = -6 ∧ ((bmo S.1 e).1 = -6 ∨ unr (fut (turn S.1 e)).2 < (bmo S.1 e).2.1 ∨ (unr (fut (turn S.1 e)).2 = (bmo S.1 e).2.1 ∧ (fut (turn S.1 e)).1 < (bmo S.1 e).2.2))) → J G6 104 [some (jR (6, 0, 0)), some (jI w), some (jI (std S.1)), some (jI (bmo S.1 e).1), some (jI (bmo S.1 e).2.1), some (jI (bmo S.1 e).2.2), some (jI (nI e)), none, none] [] := by
            intro hn
            refine hR.2 [155] 400 _ _ _ _ ?_
            conv => whnf
            refine br_t (by decide) ?_
            conv => whnf
            exact bad155 _ hn
          have good : ∀ a : Int32, (canH S.1 e ∧ std (turn S.1 e) ≤ std S.1 ∧ ¬ (fut (turn S.1 e)).1 = -6 ∧ ((bmo S.1 e).1 = -6 ∨ unr (fut (turn S.1 e)).2 < (bmo S.1 e).2.1 ∨ (unr (fut (turn S.1 e)).2 = (bmo S.1 e).2.1 ∧ (fut (turn S.1 e)).1 < (bmo S.1 e).2.2))) → J G6 151 [some (jR (6, 0, 0)), some (jI w), some (jI (std S.1)), some (jI (bmo S.1 e).1), some (jI (bmo S.1 e).2.1), some (jI (bmo S.1 e).2.2), some (jI (nI e)), some (jI a), none] [] := by
            intro a hn
            have hb : bmo S.1 (e + 1) = (nI e, unr (fut (turn S.1 e)).2, (fut (turn S.1 e)).1) := by rw [bmo]; exact if_pos hn
            have ih2 := ih G6 hM6 hF36
            rw [hb] at ih2
            refine hR.2 [33] 400 _ _ _ _ ?_
            conv => whnf
            refine br_f (by decide) ?_
            conv => whnf
            refine br_f (by decide) ?_
            conv => whnf
            refine And.intro (vp_in_nI (by omega) (by omega)) ?_
            conv => whnf
            refine br_f (by decide) ?_
            conv => whnf
            refine And.intro (vp_in_nI (by omega) (by omega)) ?_
            conv => whnf
            simp only [nI_clamp (show 1 < 2 ^ 31 by omega), nI_clamp (show 0 < 2 ^ 31 by omega), Nat.zero_add, t0, t1, nI_add]
            exact je_loc hR (L' := [some _, some _, some _, some _, some _, some _, some _, none, none]) ⟨rfl, rfl, rfl, rfl, rfl, rfl, rfl, trivial⟩ ih2
          refine hR.2 [104, 151, 155] 400 _ _ _ _ ?_
          conv => whnf
          refine And.intro (vp_in_nI (by omega) (by omega)) ?_
          conv => whnf
          simp only [nI_clamp (show 2 < 2 ^ 31 by omega), Nat.zero_add, t2]
          refine ⟨fun a1 => ?_, fun a1 => ?_⟩
          · conv => whnf
            exact bad104 (fun h => i_nle.mpr a1 h.2.1)
          · have a1' := i_nlt.mp a1
            conv => whnf
            refine And.intro (vp_in_nI (by omega) (by omega)) ?_
            conv => whnf
            simp only [nI_clamp (show 0 < 2 ^ 31 by omega), Nat.zero_add, t0]
            refine ⟨fun a2 => ?_, fun a2 => ?_⟩
            · conv => whnf
              exact bad104 (fun h => h.2.2.1 a2)
            · conv => whnf
              refine br_f (by decide) ?_
              conv => whnf
              refine ⟨fun a3 => ?_, fun a3 => ?_⟩
              · conv => whnf
                exact good _ ⟨hcan, a1', a2, Or.inl a3⟩
              · conv => whnf
                refine And.intro (vp_in_nI (by omega) (by omega)) ?_
                conv => whnf
                simp only [nI_clamp (show 1 < 2 ^ 31 by omega), Nat.zero_add, t1]
                refine ⟨fun a4 => ?_, fun a4 => ?_⟩
                · conv => whnf
                  exact good _ ⟨hcan, a1', a2, Or.inr (Or.inl a4)⟩
                · conv => whnf
                  refine And.intro (vp_in_nI (by omega) (by omega)) ?_
                  conv => whnf
                  simp only [nI_clamp (show 1 < 2 ^ 31 by omega), Nat.zero_add, t1]
                  refine ⟨fun a5 => ?_, fun a5 => ?_⟩
                  · conv => whnf
                    exact bad155 _ (fun h => h.2.2.2.elim a3 (fun h => h.elim a4 (fun h => a5 h.1)))
                  · conv => whnf
                    refine And.intro (vp_in_nI (by omega) (by omega)) ?_
                    conv => whnf
                    simp only [nI_clamp (show 0 < 2 ^ 31 by omega), Nat.zero_add, t0]
                    refine ⟨fun a6 => ?_, fun a6 => ?_⟩
                    · conv => whnf
                      exact bad155 _ (fun h => h.2.2.2.elim a3 (fun h => h.elim a4 (fun h => i_nlt.mpr a6 h.2)))
                    · conv => whnf
                      exact good _ ⟨hcan, a1', a2, Or.inr (Or.inr ⟨a5, i_nle.mp a6⟩)⟩
      · skip
        refine hR.2 [206] 400 _ _ _ _ ?_
        conv => whnf
        refine br_t (by decide) ?_
        conv => whnf
        refine no (fun h => ?_) G5 hM4 hF4 _ _
        obtain ⟨⟨⟨o, ho⟩, -⟩, -⟩ := h
        rw [hbs] at ho
        cases ho
  · have hc2 : w < 0 ∨ ¬ w ≤ nI 2 := h4.elim Or.inl (fun h => Or.inr (i_nle.mpr h))
    refine hR.2 [] 400 _ _ _ _ ?_
    conv => whnf
    refine And.intro (fun h => absurd rfl h) (fun _ => ?_)
    conv => whnf
    refine ⟨_, rfl, ?_⟩
    unfold F_bestRope
    rw [if_pos hc2]
    exact ⟨rfl, hM, FrM.rf⟩
