/-! THE REFERENCE: its state; record, putAside, putBack, lays -/
def MR (G : je_G) (S : jS) : Prop := match S with
  | (σ, k, hs, sv, sl, len, pad) => G 6 0 0 = σ ∧ (G 6 0 3 0 = nI k ∧ k ≤ 6 ∧ ∀ i, i < k → ∀ j, j < 161 → G 6 0 2 (161 * (k - 1 - i) + j) = hs i j) ∧ (∀ i, i < 2 → G 6 0 5 i = b01 (sv i) ∧ (sv i = true → ∀ j, j < 161 → G 6 0 4 (161 * i + j) = sl i j)) ∧ G 6 0 7 0 = nI len ∧ len ≤ 60 ∧ ∀ j, j < len → G 6 0 6 j = pad j
/-- the class's rows stay -/
def FrM (G G' : je_G) : Prop := ∀ c n r, c ≠ 6 → G' c n r = G c n r
theorem FrM.rf {G : je_G} : FrM G G := fun _ _ _ _ => rfl
theorem FrM.tr {G G1 G2 : je_G} (h : FrM G G1) (h2 : FrM G1 G2) : FrM G G2 := fun c n r hc => (h2 c n r hc).trans (h c n r hc)
theorem FrM.set {G G1 : je_G} (h : FrM G G1) {n r : Nat} {f : Sg} : FrM G (je_set G1 6 n r f) := fun c' n' r' hc => by rw [je_set_ne (by omega)]; exact h c' n' r' hc
theorem FrW.m {G G1 : je_G} (h : FrW G G1) : FrM G G1 := fun c n r hc => h c n r (by omega)
theorem MR_fr {G G' : je_G} {S : jS} (h : MR G S) (hf : ∀ r, r ≤ 7 → r ≠ 1 → G' 6 0 r = G 6 0 r) : MR G' S := by
  obtain ⟨σ, k, hs, sv, sl, len, pad⟩ := S
  obtain ⟨e1, ⟨e2, hk, e3⟩, e5, e6, hl, e7⟩ := h
  refine ⟨by rw [hf 0 (by omega) (by omega)]; exact e1, ⟨by rw [hf 3 (by omega) (by omega)]; exact e2, hk, fun i hi j hj => by rw [hf 2 (by omega) (by omega)]; exact e3 i hi j hj⟩, fun i hi => ⟨by rw [hf 5 (by omega) (by omega)]; exact (e5 i hi).1, fun hs j hj => by rw [hf 4 (by omega) (by omega)]; exact (e5 i hi).2 hs j hj⟩, by rw [hf 7 (by omega) (by omega)]; exact e6, hl, fun j hj => by rw [hf 6 (by omega) (by omega)]; exact e7 j hj⟩
theorem MR_W {G G' : je_G} {S : jS} (h : MR G S) (hf : FrW G G') : MR G' S := MR_fr h (fun r hr h1 => hf 6 0 r (by omega))
theorem MR_set {G : je_G} {S : jS} (h : MR G S) (σ : Sg) : MR (je_set G 6 0 0 σ) (wS S σ) := by
  obtain ⟨σ0, k, hs, sv, sl, len, pad⟩ := S
  obtain ⟨e1, ⟨e2, hk, e3⟩, e5, e6, hl, e7⟩ := h
  have hf : ∀ r, r ≠ 0 → je_set G 6 0 0 σ 6 0 r = G 6 0 r := fun r hr => je_set_ne (by omega)
  refine ⟨je_set_eq, ⟨by rw [hf 3 (by omega)]; exact e2, hk, fun i hi j hj => by rw [hf 2 (by omega)]; exact e3 i hi j hj⟩, fun i hi => ⟨by rw [hf 5 (by omega)]; exact (e5 i hi).1, fun hs j hj => by rw [hf 4 (by omega)]; exact (e5 i hi).2 hs j hj⟩, by rw [hf 7 (by omega)]; exact e6, hl, fun j hj => by rw [hf 6 (by omega)]; exact e7 j hj⟩
theorem MR_1 {G : je_G} {S : jS} (h : MR G S) : G 6 0 0 = S.1 := by
  obtain ⟨σ, k, hs, sv, sl, len, pad⟩ := S
  exact h.1
set_option maxHeartbeats 4000000 in
set_option maxRecDepth 100000 in
theorem m_putAside (l : Launch) (G : je_G) : je_Cv l yX6_putAside wsX6_putAside rmX6_putAside [jR (6, 0, 0)] G (fun G' => G' = je_set G 6 0 1 (G 6 0 0)) := by
  refine je_met1 tbX6_putAside 0 okX6_putAside rfl (by decide +kernel) rfl (by unfold je_ret; simp) (by decide) (Nat.le_of_ble_eq_true rfl) ?_
  intro J hoks hR
  show J G 0 [some (jR (6, 0, 0)), none] []
  have h0 : ∀ f, je_set G 6 0 1 f 6 0 0 = G 6 0 0 := fun f => je_set_ne (by omega)
  refine hR.2 [2] 400 _ _ _ _ ?_
  conv => whnf
  refine (show J (je_set G 6 0 1 (G 6 0 1)) 2 [some (jR (6, 0, 0)), some (jI (nI 0))] [] → _ from fun h => by rw [je_set_id] at h; exact h) ?_
  refine je_for (P := fun i => ∀ f : Sg, (∀ j, j < i → f j = G 6 0 0 j) → J (je_set G 6 0 1 f) 2 [some (jR (6, 0, 0)), some (jI (nI i))] []) 161 ?_ ?_ 0 (Nat.zero_le _) _ (fun j hj => absurd hj (Nat.not_lt_zero j))
  · intro f hf
    refine je_ext hR (je_eqvS (c := 6) (r := 1) (N := 161) (by decide +kernel) (by decide +kernel) (g := G 6 0 0) hf) ?_
    refine hR.2 [2] 400 _ _ _ _ ?_
    conv => whnf
    refine br_t ((nI_leI (by omega) (by omega)).mpr (by omega)) ?_
    conv => whnf
    exact ⟨rfl, rfl⟩
  · intro i hi ih f hf
    refine hR.2 [2] 400 _ _ _ _ ?_
    conv => whnf
    refine br_f (fun h => absurd ((nI_leI (by omega) (by omega)).mp h) (by omega)) ?_
    conv => whnf
    refine ⟨vp_in_nI (by omega) (by omega), ?_⟩
    conv => whnf
    refine ⟨vp_in_nI (by omega) (by omega), ?_⟩
    conv => whnf
    simp only [je_set_set, je_set_eq, h0, nI_add]
    simp (disch := omega) only [nI_clamp, Nat.zero_add]
    refine ih _ (fun j hj => ?_)
    by_cases e : j = i
    · rw [e, upd_eq]
    · rw [upd_ne e]; exact hf j (by omega)
set_option maxHeartbeats 4000000 in
set_option maxRecDepth 100000 in
theorem m_putBack (l : Launch) (G : je_G) : je_Cv l yX6_putBack wsX6_putBack rmX6_putBack [jR (6, 0, 0)] G (fun G' => G' = je_set G 6 0 0 (G 6 0 1)) := by
  refine je_met1 tbX6_putBack 0 okX6_putBack rfl (by decide +kernel) rfl (by unfold je_ret; simp) (by decide) (Nat.le_of_ble_eq_true rfl) ?_
  intro J hoks hR
  show J G 0 [some (jR (6, 0, 0)), none] []
  have h0 : ∀ f, je_set G 6 0 0 f 6 0 1 = G 6 0 1 := fun f => je_set_ne (by omega)
  refine hR.2 [2] 400 _ _ _ _ ?_
  conv => whnf
  refine (show J (je_set G 6 0 0 (G 6 0 0)) 2 [some (jR (6, 0, 0)), some (jI (nI 0))] [] → _ from fun h => by rw [je_set_id] at h; exact h) ?_
  refine je_for (P := fun i => ∀ f : Sg, (∀ j, j < i → f j = G 6 0 1 j) → J (je_set G 6 0 0 f) 2 [some (jR (6, 0, 0)), some (jI (nI i))] []) 161 ?_ ?_ 0 (Nat.zero_le _) _ (fun j hj => absurd hj (Nat.not_lt_zero j))
  · intro f hf
    refine je_ext hR (je_eqvS (c := 6) (r := 0) (N := 161) (by decide +kernel) (by decide +kernel) (g := G 6 0 1) hf) ?_
    refine hR.2 [2] 400 _ _ _ _ ?_
    conv => whnf
    refine br_t ((nI_leI (by omega) (by omega)).mpr (by omega)) ?_
    conv => whnf
    exact ⟨rfl, rfl⟩
  · intro i hi ih f hf
    refine hR.2 [2] 400 _ _ _ _ ?_
    conv => whnf
    refine br_f (fun h => absurd ((nI_leI (by omega) (by omega)).mp h) (by omega)) ?_
    conv => whnf
    refine ⟨vp_in_nI (by omega) (by omega), ?_⟩
    conv => whnf
    refine ⟨vp_in_nI (by omega) (by omega), ?_⟩
    conv => whnf
    simp only [je_set_set, je_set_eq, h0, nI_add]
    simp (disch := omega) only [nI_clamp, Nat.zero_add]
    refine ih _ (fun j hj => ?_)
    by_cases e : j = i
    · rw [e, upd_eq]
    · rw [upd_ne e]; exact hf j (by omega)
/-- only the recorded differ -/
def FrR (G G' : je_G) : Prop := ∀ c n r, ¬ (c = 6 ∧ n = 0 ∧ (r = 2 ∨ r = 3)) → G' c n r = G c n r
theorem FrR.rf {G : je_G} : FrR G G := fun _ _ _ _ => rfl
theorem FrR.m {G G1 : je_G} (h : FrR G G1) : FrM G G1 := fun c n r hc => h c n r (by omega)
theorem FrR.set {G G1 : je_G} (h : FrR G G1) {r : Nat} {f : Sg} (hr : r = 2 ∨ r = 3) : FrR G (je_set G1 6 0 r f) := fun c n r' hx => by
  rw [je_set_ne (by omega)]
  exact h c n r' hx
set_option maxHeartbeats 4000000 in
set_option maxRecDepth 100000 in
theorem m_record (l : Launch) (G : je_G) (S : jS) (hM : MR G S) : je_Cv l yX6_record wsX6_record rmX6_record [jR (6, 0, 0)] G (fun G' => MR G' (rec6 S) ∧ FrR G G') := by
  refine je_met1 tbX6_record 0 okX6_record rfl (by decide +kernel) rfl (by unfold je_ret; simp) (by decide) (Nat.le_of_ble_eq_true rfl) ?_
  intro J hoks hR
  show J G 0 [some (jR (6, 0, 0)), none] []
  obtain ⟨σ, k, hs, sv, sl, len, pad⟩ := S
  obtain ⟨e1, ⟨e2, hk, e3⟩, e5, e6, hl, e7⟩ := hM
  have tail : ∀ (k' : Nat) (G1 : je_G), k' ≤ 5 → k' + 1 = (if k < 6 then k + 1 else 6) → FrR G G1 → G1 6 0 3 0 = nI k' → (∀ i, i < k' → ∀ j, j < 161 → G1 6 0 2 (161 * (k' - 1 - i) + j) = hs i j) → J G1 50 [some (jR (6, 0, 0)), none] [] := by
    intro k' G1 hk' hkk hF h3 hh
    have hq0 : G1 6 0 0 = σ := by rw [hF 6 0 0 (by omega)]; exact e1
    have r2 : ∀ f, je_set G1 6 0 2 f 6 0 0 = σ := fun f => by rw [je_set_ne (by omega)]; exact hq0
    have r3 : ∀ f, je_set G1 6 0 2 f 6 0 3 = G1 6 0 3 := fun f => by rw [je_set_ne (by omega)]
    refine hR.2 [52] 400 _ _ _ _ ?_
    conv => whnf
    refine (show J (je_set G1 6 0 2 (G1 6 0 2)) 52 [some (jR (6, 0, 0)), some (jI (nI 0))] [] → _ from fun h => by rw [je_set_id] at h; exact h) ?_
    refine je_for (P := fun i => ∀ f : Sg, (∀ j, j < i → f (161 * k' + j) = σ j) → (∀ j, j < 161 * k' → f j = G1 6 0 2 j) → J (je_set G1 6 0 2 f) 52 [some (jR (6, 0, 0)), some (jI (nI i))] []) 161 ?_ ?_ 0 (Nat.zero_le _) _ (fun j hj => absurd hj (Nat.not_lt_zero j)) (fun _ _ => rfl)
    · intro f hf hf2
      refine hR.2 [52] 400 _ _ _ _ ?_
      conv => whnf
      refine br_t ((nI_leI (by omega) (by omega)).mpr (by omega)) ?_
      conv => whnf
      refine ⟨rfl, ⟨?_, ⟨?_, by omega, ?_⟩, ?_⟩, ?_⟩
      · rw [je_set_ne (by omega)]; exact r2 f
      · rw [je_set_eq, upd_eq, r3, h3, nI_add, hkk]
      · intro i hi j hj
        rw [je_set_ne (by omega), je_set_eq]
        dsimp only
        by_cases hi0 : i = 0
        · rw [if_pos hi0, hi0, ← hkk, show k' + 1 - 1 - 0 = k' by omega]
          exact hf j hj
        · rw [if_neg hi0, ← hkk, show k' + 1 - 1 - i = k' - 1 - (i - 1) by omega]
          rw [hf2 _ (by have : 161 * (k' - 1 - (i - 1)) + 161 ≤ 161 * k' := by omega
                        omega)]
          exact hh (i - 1) (by omega) j hj
      · have hr : ∀ f κ r, r ≠ 2 → r ≠ 3 → je_set (je_set G1 6 0 2 f) 6 0 3 κ 6 0 r = G 6 0 r := fun f κ r h1 h2 => by rw [je_set_ne (by omega), je_set_ne (by omega)]; exact hF 6 0 r (by omega)
        refine ⟨fun i hi => ⟨by rw [hr _ _ 5 (by omega) (by omega)]; exact (e5 i hi).1, fun h j hj => by rw [hr _ _ 4 (by omega) (by omega)]; exact (e5 i hi).2 h j hj⟩, by rw [hr _ _ 7 (by omega) (by omega)]; exact e6, hl, fun j hj => by rw [hr _ _ 6 (by omega) (by omega)]; exact e7 j hj⟩
      · exact (hF.set (Or.inl rfl)).set (Or.inr rfl)
    · intro i hi ih f hf hf2
      refine hR.2 [52] 400 _ _ _ _ ?_
      conv => whnf
      refine br_f (fun h => absurd ((nI_leI (by omega) (by omega)).mp h) (by omega)) ?_
      conv => whnf
      simp only [r3, h3]
      rw [show nI 161 * nI k' = nI (161 * k') from pk_mul 161 k', nI_add]
      refine And.intro (vp_in_nI (by omega) (by omega)) ?_
      conv => whnf
      refine And.intro (vp_in_nI (by omega) (by omega)) ?_
      conv => whnf
      simp only [je_set_set, je_set_eq, r2, nI_add]
      simp (disch := omega) only [nI_clamp, Nat.zero_add]
      refine ih _ (fun j hj => ?_) (fun j hj => ?_)
      · by_cases e : j = i
        · rw [e, upd_eq]
        · rw [upd_ne (by omega)]; exact hf j (by omega)
      · rw [upd_ne (by omega)]; exact hf2 j hj
  by_cases h6 : k = 6
  · subst h6
    refine hR.2 [11] 400 _ _ _ _ ?_
    conv => whnf
    rw [e2]
    refine And.intro (fun h => absurd rfl h) (fun _ => ?_)
    conv => whnf
    refine (show J (je_set G 6 0 2 (G 6 0 2)) 11 [some (jR (6, 0, 0)), some (jI (nI 0))] [] → _ from fun h => by rw [je_set_id] at h; exact h) ?_
    refine je_for (P := fun i => ∀ f : Sg, (∀ j, j < i → f j = G 6 0 2 (j + 161)) → (∀ j, i ≤ j → f j = G 6 0 2 j) → J (je_set G 6 0 2 f) 11 [some (jR (6, 0, 0)), some (jI (nI i))] []) 805 ?_ ?_ 0 (Nat.zero_le _) _ (fun j hj => absurd hj (Nat.not_lt_zero j)) (fun _ _ => rfl)
    · intro f hf hf2
      refine hR.2 [11, 50] 400 _ _ _ _ ?_
      conv => whnf
      refine br_t ((nI_leI (by omega) (by omega)).mpr (by omega)) ?_
      conv => whnf
      rw [show je_set G 6 0 2 f 6 0 3 = G 6 0 3 from je_set_ne (by omega), e2, pk_sub (show 1 ≤ 6 by omega)]
      refine je_loc hR (L' := [some _, none]) ⟨rfl, trivial⟩ ?_
      refine tail 5 _ (by omega) rfl ((FrR.rf.set (Or.inl rfl)).set (Or.inr rfl)) (by rw [je_set_eq, upd_eq]) (fun i hi j hj => ?_)
      rw [je_set_ne (by omega), je_set_eq, hf _ (by omega), show 161 * (5 - 1 - i) + j + 161 = 161 * (6 - 1 - i) + j by omega]
      exact e3 i (by omega) j hj
    · intro i hi ih f hf hf2
      refine hR.2 [11] 400 _ _ _ _ ?_
      conv => whnf
      refine br_f (fun h => absurd ((nI_leI (by omega) (by omega)).mp h) (by omega)) ?_
      conv => whnf
      rw [nI_add]
      refine ⟨vp_in_nI (by omega) (by omega), ?_⟩
      conv => whnf
      refine ⟨vp_in_nI (by omega) (by omega), ?_⟩
      conv => whnf
      simp only [je_set_set, je_set_eq, nI_add]
      simp (disch := omega) only [nI_clamp, Nat.zero_add]
      refine ih _ (fun j hj => ?_) (fun j hj => ?_)
      · by_cases e : j = i
        · rw [e, upd_eq, hf2 _ (by omega)]
        · rw [upd_ne (by omega)]; exact hf j (by omega)
      · rw [upd_ne (by omega)]; exact hf2 j (by omega)
  · skip
    refine hR.2 [50] 400 _ _ _ _ ?_
    conv => whnf
    rw [e2]
    refine And.intro (fun _ => ?_) (fun h => absurd ((nI_eq (by omega) (by omega)).mp h) h6)
    conv => whnf
    exact tail k G (by omega) (by rw [if_pos (by omega)]) (fun _ _ _ _ => rfl) e2 e3
