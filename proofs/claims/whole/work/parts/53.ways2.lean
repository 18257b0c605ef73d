/-! THE REFERENCE: layWays -/
/-- only the rows of the ways may differ -/
def FrW (G G' : je_G) : Prop := ∀ c n r, (c = 6 → n = 0 → r < 8 ∨ 11 < r) → G' c n r = G c n r
theorem FrW.rf {G : je_G} : FrW G G := fun _ _ _ _ => rfl
theorem FrW.set {G G1 : je_G} (h : FrW G G1) {r : Nat} {f : Sg} (h1 : 8 ≤ r) (h2 : r ≤ 11) : FrW G (je_set G1 6 0 r f) := fun c n r' hr => by
  rw [je_set_ne (by omega)]
  exact h c n r' hr
/-- the ways of a hall lie in the reference's rows -/
def laid (G : je_G) (σ : Sg) : Prop := hasN G σ ∧ allD σ ∧ ∀ c, c < 35 → G 6 0 9 c = oI (gl σ c) ∧ G 6 0 10 c = sg σ c ∧ G 6 0 11 c = oI (nx σ c)
theorem upd_eq {f : Sg} {a : Nat} {v : Int32} : upd f a v a = v := if_pos rfl
theorem upd_ne {f : Sg} {a b : Nat} {v : Int32} (h : b ≠ a) : upd f a v b = f b := if_neg h
set_option maxHeartbeats 4000000 in
set_option maxRecDepth 100000 in
theorem m_layWays (l : Launch) (G : je_G) (hb : bits (G 6 0 0)) (hs : ∀ d, d < 4 → vp_in (G 6 0 0 (5 + d)) 35) (hgd : ∀ c, c < 35 → G 6 0 0 (56 + c) = -1 ∨ vp_in (G 6 0 0 (56 + c)) 4) : je_Cv l yX6_layWays wsX6_layWays rmX6_layWays [jR (6, 0, 0)] G (fun G' => FrW G G' ∧ laid G' (G 6 0 0)) := by
  refine je_met1 tbX6_layWays 0 okX6_layWays rfl (by decide +kernel) rfl (by unfold je_ret; simp) (by decide) (Nat.le_of_ble_eq_true rfl) ?_
  intro J hoks hR
  show J G 0 [some (jR (6, 0, 0)), none] []
  have hr : ∀ G', FrW G G' → G' 6 0 0 = G 6 0 0 := fun G' h => h 6 0 0 (by omega)
  refine hR.2 [2] 400 _ _ _ _ ?_
  conv => whnf
  refine je_for (P := fun d => ∀ G', FrW G G' → (∀ e, e < d → isD (G 6 0 0) e (dst (G 6 0 0) e) ∧ ∀ c, c < 35 → G' 6 0 8 (35 * e + c) = nI (dst (G 6 0 0) e c)) → J G' 2 [some (jR (6, 0, 0)), some (jI (nI d))] []) 4 ?_ ?_ 0 (Nat.zero_le _) G FrW.rf (fun e he => absurd he (Nat.not_lt_zero e))
  · intro G1 hF hE
    have hD : allD (G 6 0 0) := fun d hd => (hE d hd).1
    have hN : hasN G1 (G 6 0 0) := fun d hd => (hE d hd).2
    refine hR.2 [2, 20] 400 _ _ _ _ ?_
    conv => whnf
    refine br_t ((nI_leI (by omega) (by omega)).mpr (by omega)) ?_
    conv => whnf
    refine je_for (P := fun k => ∀ G', FrW G G' → hasN G' (G 6 0 0) → (∀ c, c < k → G' 6 0 9 c = oI (gl (G 6 0 0) c) ∧ G' 6 0 10 c = sg (G 6 0 0) c ∧ G' 6 0 11 c = oI (nx (G 6 0 0) c)) → J G' 20 [some (jR (6, 0, 0)), some (jI (nI k))] []) 35 ?_ ?_ 0 (Nat.zero_le _) G1 hF hN (fun c hc => absurd hc (Nat.not_lt_zero c))
    · intro G2 hF2 hN2 hK
      refine hR.2 [20] 400 _ _ _ _ ?_
      conv => whnf
      refine br_t ((nI_leI (by omega) (by omega)).mpr (by omega)) ?_
      conv => whnf
      exact ⟨rfl, hF2, hN2, hD, hK⟩
    · intro k hk ih G2 hF2 hN2 hK
      refine hR.2 [20] 400 _ _ _ _ ?_
      conv => whnf
      refine br_f (fun h => absurd ((nI_leI (by omega) (by omega)).mp h) (by omega)) ?_
      conv => whnf
      refine je_v1i hR kX6_layWays_33 rfl (m_goalOf l G2 (by rw [hr G2 hF2]; exact hb) (by rw [hr G2 hF2]; exact hN2) (by rw [hr G2 hF2]; exact hD) k hk (by rw [hr G2 hF2]; exact hgd k hk)) rfl ?_
      intro y G3 hq
      obtain ⟨rfl, rfl⟩ := hq
      rw [hr G3 hF2]
      refine hR.2 [20, 75] 400 _ _ _ _ ?_
      conv => whnf
      refine ⟨vp_in_nI (by omega) (by omega), ?_⟩
      conv => whnf
      simp (disch := omega) only [nI_clamp, Nat.zero_add]
      refine ⟨vp_in_nI (by omega) (by omega), ?_⟩
      conv => whnf
      simp (disch := omega) only [nI_clamp, Nat.zero_add]
      have e1 : ∀ f, je_set G3 6 0 9 f 6 0 8 = G3 6 0 8 := fun f => je_set_ne (by omega)
      have e2 : ∀ f, je_set G3 6 0 9 f 6 0 10 = G3 6 0 10 := fun f => je_set_ne (by omega)
      simp only [je_set_eq, upd_eq, e1, e2]
      have fin : J (je_set (je_set G3 6 0 9 (upd (G3 6 0 9) k (oI (gl (G 6 0 0) k)))) 6 0 10 (upd (G3 6 0 10) k (sg (G 6 0 0) k))) 75 [some (jR (6, 0, 0)), some (jI (nI k))] [] := by
        have hF4 : FrW G (je_set (je_set G3 6 0 9 (upd (G3 6 0 9) k (oI (gl (G 6 0 0) k)))) 6 0 10 (upd (G3 6 0 10) k (sg (G 6 0 0) k))) := (hF2.set (by omega) (by omega)).set (by omega) (by omega)
        have hK4 : ∀ c, c < k + 1 → je_set (je_set G3 6 0 9 (upd (G3 6 0 9) k (oI (gl (G 6 0 0) k)))) 6 0 10 (upd (G3 6 0 10) k (sg (G 6 0 0) k)) 6 0 9 c = oI (gl (G 6 0 0) c) ∧ je_set (je_set G3 6 0 9 (upd (G3 6 0 9) k (oI (gl (G 6 0 0) k)))) 6 0 10 (upd (G3 6 0 10) k (sg (G 6 0 0) k)) 6 0 10 c = sg (G 6 0 0) c := by
          intro c hc
          rw [je_set_eq, je_set_ne (by omega), je_set_eq]
          by_cases e : c = k
          · subst e
            exact ⟨upd_eq, upd_eq⟩
          · rw [upd_ne e, upd_ne e]
            exact ⟨(hK c (by omega)).1, (hK c (by omega)).2.1⟩
        have hN4 : hasN (je_set (je_set G3 6 0 9 (upd (G3 6 0 9) k (oI (gl (G 6 0 0) k)))) 6 0 10 (upd (G3 6 0 10) k (sg (G 6 0 0) k))) (G 6 0 0) := fun d hd c hc => by
          rw [je_set_ne (by omega), je_set_ne (by omega)]
          exact hN2 d hd c hc
        have h11 : je_set (je_set G3 6 0 9 (upd (G3 6 0 9) k (oI (gl (G 6 0 0) k)))) 6 0 10 (upd (G3 6 0 10) k (sg (G 6 0 0) k)) 6 0 11 = G3 6 0 11 := by
          rw [je_set_ne (by omega), je_set_ne (by omega)]
        generalize je_set (je_set G3 6 0 9 (upd (G3 6 0 9) k (oI (gl (G 6 0 0) k)))) 6 0 10 (upd (G3 6 0 10) k (sg (G 6 0 0) k)) = G4 at hF4 hK4 hN4 h11 ⊢
        have hr4 := hr G4 hF4
        refine hR.2 [20] 400 _ _ _ _ ?_
        conv => whnf
        refine je_v1i hR kX6_layWays_82 rfl (m_nextOf l G4 (by rw [hr4]; exact hN4) (by rw [hr4]; exact hD) k hk (by rw [hr4]; exact (hK4 k (by omega)).1) (by rw [hr4]; exact (hK4 k (by omega)).2)) rfl ?_
        intro y G5 hq
        obtain ⟨rfl, rfl⟩ := hq
        rw [hr4]
        refine hR.2 [20] 400 _ _ _ _ ?_
        conv => whnf
        refine ⟨vp_in_nI (by omega) (by omega), ?_⟩
        conv => whnf
        simp (disch := omega) only [nI_clamp, nI_add]
        rw [Nat.zero_add]
        refine ih _ (hF4.set (by omega) (by omega)) (fun d hd c hc => by rw [je_set_ne (by omega)]; exact hN4 d hd c hc) (fun c hc => ?_)
        have e9 : ∀ f, je_set G5 6 0 11 f 6 0 9 = G5 6 0 9 := fun f => je_set_ne (by omega)
        have e10 : ∀ f, je_set G5 6 0 11 f 6 0 10 = G5 6 0 10 := fun f => je_set_ne (by omega)
        refine ⟨by rw [e9]; exact (hK4 c hc).1, by rw [e10]; exact (hK4 c hc).2, ?_⟩
        rw [je_set_eq]
        by_cases e : c = k
        · subst e
          exact upd_eq
        · rw [upd_ne e, h11]
          exact (hK c (by omega)).2.2
      have hsg : sg (G 6 0 0) k = match gl (G 6 0 0) k with | some g => nI (dst (G 6 0 0) g k) | none => -6 := by
        cases hgl : gl (G 6 0 0) k with
        | none => unfold sg; rw [hgl]
        | some g => exact sg_lt hgl
      cases hgl : gl (G 6 0 0) k with
      | none =>
        refine And.intro (fun h => absurd rfl h) (fun _ => ?_)
        conv => whnf
        rw [hgl] at hsg fin
        dsimp only at hsg
        rw [hsg] at fin
        refine ⟨vp_in_nI (by omega) (by omega), ?_⟩
        conv => whnf
        simp (disch := omega) only [nI_clamp, Nat.zero_add]
        simp only [e2]
        exact fin
      | some g =>
        obtain ⟨hg4, hgl2⟩ := gl_ok hgl
        rw [hgl] at hsg fin
        dsimp only at hsg
        rw [hsg] at fin
        refine And.intro (fun _ => ?_) (fun h => absurd h (nI_ne6 (by omega)))
        conv => whnf
        refine ⟨vp_in_nI (by omega) (by omega), ?_⟩
        conv => whnf
        simp (disch := omega) only [nI_clamp, Nat.zero_add]
        simp only [je_set_eq, upd_eq, e1, e2]
        rw [show oI (some g) = nI g from rfl] at fin ⊢
        rw [mul35', nI_add]
        refine And.intro (vp_in_nI (by omega) (by omega)) ?_
        conv => whnf
        simp (disch := omega) only [nI_clamp, Nat.zero_add]
        rw [hN2 g hg4 k hk]
        refine ⟨vp_in_nI (by omega) (by omega), ?_⟩
        conv => whnf
        simp only [e2]
        exact fin
  · intro d hd ih G1 hF hE
    refine hR.2 [2] 400 _ _ _ _ ?_
    conv => whnf
    refine br_f (fun h => absurd ((nI_leI (by omega) (by omega)).mp h) (by omega)) ?_
    conv => whnf
    refine je_v1v hR kX6_layWays_9 rfl (m_layFar l G1 d hd (by rw [hr G1 hF]; exact hs d hd)) rfl ?_
    intro G2 hq
    obtain ⟨h1, rfl⟩ := hq
    rw [hr G1 hF] at h1 ⊢
    refine hR.2 [2] 400 _ _ _ _ ?_
    conv => whnf
    rw [nI_add]
    refine ih _ (hF.set (by omega) (by omega)) (fun e he => ?_)
    rw [je_set_eq]
    by_cases h : e = d
    · subst h
      exact ⟨h1, fun c hc => blN_at hc⟩
    · refine ⟨(hE e (by omega)).1, fun c hc => ?_⟩
      unfold blN
      rw [if_neg (by omega)]
      exact (hE e (by omega)).2 c hc
