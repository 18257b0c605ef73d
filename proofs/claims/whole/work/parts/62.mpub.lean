/-! THE REFERENCE: lays, setRoom, undo, save, restore, wipe -/
theorem FrR.r {G G' : je_G} (h : FrR G G') {r : Nat} (h2 : r ≠ 2) (h3 : r ≠ 3) : G' 6 0 r = G 6 0 r := h 6 0 r (by omega)
set_option maxHeartbeats 4000000 in
set_option maxRecDepth 100000 in
theorem m_lays (l : Launch) (G : je_G) (S : jS) (hM : MR G S) (i : Nat) (hi : i < 161) (v : Int32) : je_Ci l yX6_lays wsX6_lays rmX6_lays [jR (6, 0, 0), jI (nI i), jI v] G (fun y G' => y = S.1 i ∧ MR G' (wS (rec6 S) (upd S.1 i v)) ∧ FrM G G') := by
  refine je_met1 tbX6_lays 1 okX6_lays rfl (by decide +kernel) rfl (by unfold je_ret; simp) (by decide) (Nat.le_of_ble_eq_true rfl) ?_
  intro J hoks hR
  show J G 0 [some (jR (6, 0, 0)), some (jI (nI i)), some (jI v), none] []
  refine hR.2 [] 400 _ _ _ _ ?_
  conv => whnf
  refine je_v0v hR kX6_lays_1 rfl (m_record l G S hM) rfl ?_
  intro G2 hq
  obtain ⟨hM2, hF⟩ := hq
  have h0 : G2 6 0 0 = S.1 := (MR_1 hM2).trans (rec6_1 S)
  refine hR.2 [] 400 _ _ _ _ ?_
  conv => whnf
  refine ⟨vp_in_nI (by omega) (by omega), ?_⟩
  conv => whnf
  refine ⟨vp_in_nI (by omega) (by omega), ?_⟩
  conv => whnf
  simp only [nI_clamp (show i < 2 ^ 31 by omega), Nat.zero_add, h0]
  exact ⟨_, rfl, rfl, MR_set hM2 _, hF.m.set⟩
theorem imax_le {f : Nat → Int32} {x : Int32} : ∀ n, (imax f n ≤ x ↔ nI 0 ≤ x ∧ ∀ c, c < n → f c ≤ x)
  | 0 => ⟨fun h => ⟨h, fun c hc => absurd hc (Nat.not_lt_zero c)⟩, fun h => h.1⟩
  | n + 1 => by
    have ih := imax_le (f := f) (x := x) n
    have key : imax f (n + 1) ≤ x ↔ imax f n ≤ x ∧ f n ≤ x := by
      rw [imax]
      by_cases h : imax f n < f n
      · rw [if_pos h]
        exact ⟨fun h2 => ⟨(fa_of_lt (fa_trans h h2)).1, h2⟩, fun h2 => h2.2⟩
      · rw [if_neg h]
        exact ⟨fun h2 => ⟨h2, Int32.le_trans (fa_of_nlt h) h2⟩, fun h2 => h2.1⟩
    rw [key, ih]
    refine ⟨fun h => ⟨h.1.1, fun c hc => ?_⟩, fun h => ⟨⟨h.1, fun c hc => h.2 c (by omega)⟩, h.2 n (by omega)⟩⟩
    by_cases e : c = n
    · rw [e]; exact h.2
    · exact h.1.2 c (by omega)
set_option maxHeartbeats 4000000 in
set_option maxRecDepth 100000 in
theorem m_setRoom (l : Launch) (G : je_G) (S : jS) (hM : MR G S) (x : Int32) : je_Ci l yX6_setRoom wsX6_setRoom rmX6_setRoom [jR (6, 0, 0), jI x] G (fun y G' => y = (F_setRoom S x).1 ∧ MR G' (F_setRoom S x).2 ∧ FrM G G') := by
  refine je_met1 tbX6_setRoom 1 okX6_setRoom rfl (by decide +kernel) rfl (by unfold je_ret; simp) (by decide) (Nat.le_of_ble_eq_true rfl) ?_
  intro J hoks hR
  show J G 0 [some (jR (6, 0, 0)), some (jI x), none] []
  have h0 : G 6 0 0 = S.1 := MR_1 hM
  refine hR.2 [] 400 _ _ _ _ ?_
  conv => whnf
  refine je_s3i hR kX6_setRoom_4 rfl (m_in l G x (nI 1) (nI 20)) rfl ?_
  intro y G' hq
  obtain ⟨rfl, ⟨h1, h2, rfl⟩ | ⟨h1, rfl⟩⟩ := hq
  · skip
    refine hR.2 [15] 400 _ _ _ _ ?_
    conv => whnf
    refine And.intro (fun _ => ?_) (fun h => absurd h (by decide))
    conv => whnf
    have hc1 : ¬ (x < nI 1 ∨ ¬ x ≤ nI 20) := fun h => h.elim h1 (fun h => h (i_nlt.mp h2))
    refine je_for (P := fun k => (∀ c, c < k → S.1 (21 + c) ≤ x) → J G' 15 [some (jR (6, 0, 0)), some (jI x), some (jI (nI k))] []) 35 ?_ ?_ 0 (Nat.zero_le _) (fun c hc => absurd hc (Nat.not_lt_zero c))
    · intro hk
      have hc2 : ¬ ¬ imax (fun c => S.1 (21 + c)) 35 ≤ x := fun h => h ((imax_le 35).mpr ⟨i_nlt.mp (fun h => h1 (fa_trans h (by decide))), hk⟩)
      refine hR.2 [15] 400 _ _ _ _ ?_
      conv => whnf
      refine br_t ((nI_leI (by omega) (by omega)).mpr (by omega)) ?_
      conv => whnf
      refine je_v2i hR kX6_setRoom_46 rfl (m_lays l G' S hM 0 (by omega) x) rfl ?_
      intro y G2 hq
      obtain ⟨rfl, hM2, hF⟩ := hq
      refine hR.2 [] 400 _ _ _ _ ?_
      conv => whnf
      refine ⟨_, rfl, ?_, ?_, hF⟩
      · simp only [F_setRoom, if_neg hc1, if_neg hc2]
      · simp only [F_setRoom, if_neg hc1, if_neg hc2]; exact hM2
    · intro k hk ih hkk
      refine hR.2 [15] 400 _ _ _ _ ?_
      conv => whnf
      refine br_f (fun h => absurd ((nI_leI (by omega) (by omega)).mp h) (by omega)) ?_
      conv => whnf
      rw [nI_add]
      refine ⟨vp_in_nI (by omega) (by omega), ?_⟩
      conv => whnf
      simp (disch := omega) only [nI_clamp, Nat.zero_add, h0]
      refine ⟨fun h => ?_, fun h => ?_⟩
      · conv => whnf
        rw [nI_add]
        refine ih (fun c hc => ?_)
        by_cases e : c = k
        · rw [e]; exact h
        · exact hkk c (by omega)
      · conv => whnf
        have hc2 : ¬ imax (fun c => S.1 (21 + c)) 35 ≤ x := fun h3 => h (((imax_le 35).mp h3).2 k hk)
        refine ⟨_, rfl, ?_, ?_, FrM.rf⟩
        · simp only [F_setRoom, if_neg hc1, if_pos hc2]
        · simp only [F_setRoom, if_neg hc1, if_pos hc2]; exact hM
  · have hc1 : x < nI 1 ∨ ¬ x ≤ nI 20 := h1.elim Or.inl (fun h => Or.inr (i_nle.mpr h))
    refine hR.2 [15] 400 _ _ _ _ ?_
    conv => whnf
    refine And.intro (fun h => absurd rfl h) (fun _ => ?_)
    conv => whnf
    exact ⟨_, rfl, by simp only [F_setRoom, if_pos hc1], by simp only [F_setRoom, if_pos hc1]; exact hM, FrM.rf⟩
set_option maxHeartbeats 4000000 in
set_option maxRecDepth 100000 in
theorem m_undo (l : Launch) (G : je_G) (S : jS) (hM : MR G S) : je_Ci l yX6_undo wsX6_undo rmX6_undo [jR (6, 0, 0)] G (fun x G' => x = (F_undo S).1 ∧ MR G' (F_undo S).2 ∧ FrM G G') := by
  refine je_met1 tbX6_undo 1 okX6_undo rfl (by decide +kernel) rfl (by unfold je_ret; simp) (by decide) (Nat.le_of_ble_eq_true rfl) ?_
  intro J hoks hR
  show J G 0 [some (jR (6, 0, 0)), none] []
  obtain ⟨σ, k, hs, sv, sl, len, pad⟩ := S
  have hM' := hM
  obtain ⟨e1, ⟨e2, hk, e3⟩, e5, e6, hl, e7⟩ := hM
  refine hR.2 [22] 400 _ _ _ _ ?_
  conv => whnf
  rw [e2]
  by_cases h0 : k = 0
  · subst h0
    refine And.intro (fun h => absurd rfl h) (fun _ => ?_)
    conv => whnf
    exact ⟨_, rfl, rfl, hM', FrM.rf⟩
  · refine And.intro (fun _ => ?_) (fun h => absurd ((nI_eq (b := 0) (by omega) (by omega)).mp h) h0)
    conv => whnf
    rw [e2, pk_sub (show 1 ≤ k by omega)]
    have r2 : ∀ f κ, je_set (je_set G 6 0 3 κ) 6 0 0 f 6 0 2 = G 6 0 2 := fun f κ => by rw [je_set_ne (by omega), je_set_ne (by omega)]
    have r3 : ∀ f κ, je_set (je_set G 6 0 3 κ) 6 0 0 f 6 0 3 = κ := fun f κ => by rw [je_set_ne (by omega), je_set_eq]
    have hκ : upd (G 6 0 3) 0 (nI (k - 1)) 0 = nI (k - 1) := upd_eq
    generalize upd (G 6 0 3) 0 (nI (k - 1)) = κ at hκ ⊢
    refine (show J (je_set (je_set G 6 0 3 κ) 6 0 0 (G 6 0 0)) 22 [some (jR (6, 0, 0)), some (jI (nI 0))] [] → _ from fun h => by rw [show je_set (je_set G 6 0 3 κ) 6 0 0 (G 6 0 0) = je_set G 6 0 3 κ from by rw [← show je_set G 6 0 3 κ 6 0 0 = G 6 0 0 from je_set_ne (by omega), je_set_id]] at h; exact h) ?_
    refine je_for (P := fun i => ∀ f : Sg, (∀ j, j < i → f j = hs 0 j) → J (je_set (je_set G 6 0 3 κ) 6 0 0 f) 22 [some (jR (6, 0, 0)), some (jI (nI i))] []) 161 ?_ ?_ 0 (Nat.zero_le _) _ (fun j hj => absurd hj (Nat.not_lt_zero j))
    · intro f hf
      refine je_ext hR (je_eqvS (c := 6) (r := 0) (N := 161) (by decide +kernel) (by decide +kernel) (g := hs 0) hf) ?_
      refine hR.2 [22] 400 _ _ _ _ ?_
      conv => whnf
      refine br_t ((nI_leI (by omega) (by omega)).mpr (by omega)) ?_
      conv => whnf
      refine ⟨_, rfl, ?_, ?_, ?_⟩
      · simp only [F_undo, if_neg h0]
        rw [r3, hκ]
      · simp only [F_undo, if_neg h0]
        have hr : ∀ r, r ≠ 0 → r ≠ 3 → je_set (je_set G 6 0 3 κ) 6 0 0 (hs 0) 6 0 r = G 6 0 r := fun r h1 h2 => by rw [je_set_ne (by omega), je_set_ne (by omega)]
        refine ⟨je_set_eq, ⟨by rw [r3, hκ], by omega, fun i hi j hj => ?_⟩, fun i hi => ⟨by rw [hr 5 (by omega) (by omega)]; exact (e5 i hi).1, fun h j hj => by rw [hr 4 (by omega) (by omega)]; exact (e5 i hi).2 h j hj⟩, by rw [hr 7 (by omega) (by omega)]; exact e6, hl, fun j hj => by rw [hr 6 (by omega) (by omega)]; exact e7 j hj⟩
        rw [r2]
        dsimp only
        rw [show k - 1 - 1 - i = k - 1 - (i + 1) by omega]
        exact e3 (i + 1) (by omega) j hj
      · exact (FrM.rf.set).set
    · intro i hi ih f hf
      refine hR.2 [22] 400 _ _ _ _ ?_
      conv => whnf
      refine br_f (fun h => absurd ((nI_leI (by omega) (by omega)).mp h) (by omega)) ?_
      conv => whnf
      simp only [r3, hκ]
      rw [show nI 161 * nI (k - 1) = nI (161 * (k - 1)) from pk_mul 161 (k - 1), nI_add]
      refine And.intro (vp_in_nI (by omega) (by omega)) ?_
      conv => whnf
      refine ⟨vp_in_nI (by omega) (by omega), ?_⟩
      conv => whnf
      simp only [je_set_set, je_set_eq, r2, nI_add]
      simp (disch := omega) only [nI_clamp, Nat.zero_add]
      refine ih _ (fun j hj => ?_)
      by_cases e : j = i
      · rw [e, upd_eq]
        have := e3 0 (by omega) i hi
        rw [show k - 1 - 0 = k - 1 by omega] at this
        exact this
      · rw [upd_ne (by omega)]; exact hf j (by omega)
set_option maxHeartbeats 4000000 in
set_option maxRecDepth 100000 in
theorem m_save (l : Launch) (G : je_G) (S : jS) (hM : MR G S) (x : Int32) : je_Ci l yX6_save wsX6_save rmX6_save [jR (6, 0, 0), jI x] G (fun y G' => y = (F_save S x).1 ∧ MR G' (F_save S x).2 ∧ FrM G G') := by
  refine je_met1 tbX6_save 1 okX6_save rfl (by decide +kernel) rfl (by unfold je_ret; simp) (by decide) (Nat.le_of_ble_eq_true rfl) ?_
  intro J hoks hR
  show J G 0 [some (jR (6, 0, 0)), some (jI x), none] []
  obtain ⟨σ, k, hs, sv, sl, len, pad⟩ := S
  have hM' := hM
  obtain ⟨e1, ⟨e2, hk, e3⟩, e5, e6, hl, e7⟩ := hM
  refine hR.2 [] 400 _ _ _ _ ?_
  conv => whnf
  refine je_s3i hR kX6_save_3 rfl (m_in l G x (nI 0) (nI 1)) rfl ?_
  intro y G' hq
  obtain ⟨rfl, ⟨h1, h2, rfl⟩ | ⟨h1, rfl⟩⟩ := hq
  · have hv : vp_in x 2 := (vp_rng (by omega)).mpr ⟨h1, h2⟩
    obtain ⟨i, hi, rfl⟩ := vp_in_of hv (by omega)
    have hcl : (nI i).toNatClampNeg = i := nI_clamp (by omega)
    refine hR.2 [14] 400 _ _ _ _ ?_
    conv => whnf
    refine And.intro (fun _ => ?_) (fun h => absurd h (by decide))
    conv => whnf
    have r0 : ∀ f, je_set G' 6 0 4 f 6 0 0 = σ := fun f => by rw [je_set_ne (by omega)]; exact e1
    refine (show J (je_set G' 6 0 4 (G' 6 0 4)) 14 [some (jR (6, 0, 0)), some (jI (nI i)), some (jI (nI 0))] [] → _ from fun h => by rw [je_set_id] at h; exact h) ?_
    refine je_for (P := fun n => ∀ f : Sg, (∀ j, j < n → f (161 * i + j) = σ j) → (∀ j, ¬ (161 * i ≤ j ∧ j < 161 * i + 161) → f j = G' 6 0 4 j) → J (je_set G' 6 0 4 f) 14 [some (jR (6, 0, 0)), some (jI (nI i)), some (jI (nI n))] []) 161 ?_ ?_ 0 (Nat.zero_le _) _ (fun j hj => absurd hj (Nat.not_lt_zero j)) (fun _ _ => rfl)
    · intro f hf hf2
      refine hR.2 [14] 400 _ _ _ _ ?_
      conv => whnf
      refine br_t ((nI_leI (by omega) (by omega)).mpr (by omega)) ?_
      conv => whnf
      refine ⟨vp_in_nI (by omega) (by omega), ?_⟩
      conv => whnf
      refine And.intro (Or.inr rfl) ?_
      conv => whnf
      refine je_v0i hR kX6_save_53 rfl (m_people l _) rfl ?_
      intro y G2 hq
      obtain ⟨rfl, rfl⟩ := hq
      refine hR.2 [] 400 _ _ _ _ ?_
      conv => whnf
      rw [hcl, Nat.zero_add]
      refine ⟨_, rfl, ?_, ?_, (FrM.rf.set).set⟩
      · simp only [F_save, if_pos hv]
        rw [je_set_ne (by omega), r0]
      · simp only [F_save, if_pos hv, hcl]
        have hr : ∀ g r, r ≠ 4 → r ≠ 5 → je_set (je_set G' 6 0 4 f) 6 0 5 g 6 0 r = G' 6 0 r := fun g r h1 h2 => by rw [je_set_ne (by omega), je_set_ne (by omega)]
        refine ⟨by rw [hr _ 0 (by omega) (by omega)]; exact e1, ⟨by rw [hr _ 3 (by omega) (by omega)]; exact e2, hk, fun i hi j hj => by rw [hr _ 2 (by omega) (by omega)]; exact e3 i hi j hj⟩, fun a ha => ?_, by rw [hr _ 7 (by omega) (by omega)]; exact e6, hl, fun j hj => by rw [hr _ 6 (by omega) (by omega)]; exact e7 j hj⟩
        have e4 : ∀ g, je_set (je_set G' 6 0 4 f) 6 0 5 g 6 0 4 = f := fun g => by rw [je_set_ne (by omega), je_set_eq]
        rw [je_set_eq, e4, show je_set G' 6 0 4 f 6 0 5 = G' 6 0 5 from je_set_ne (by omega)]
        dsimp only
        by_cases hai : a = i
        · subst hai
          rw [upd_eq, if_pos rfl, if_pos rfl]
          exact ⟨rfl, fun _ j hj => hf j hj⟩
        · rw [upd_ne hai, if_neg hai, if_neg hai]
          refine ⟨(e5 a ha).1, fun h j hj => ?_⟩
          rw [hf2 _ (by omega)]
          exact (e5 a ha).2 h j hj
    · intro n hn ih f hf hf2
      refine hR.2 [14] 400 _ _ _ _ ?_
      conv => whnf
      refine br_f (fun h => absurd ((nI_leI (by omega) (by omega)).mp h) (by omega)) ?_
      conv => whnf
      rw [show nI 161 * nI i = nI (161 * i) from pk_mul 161 i, nI_add]
      refine ⟨vp_in_nI (by omega) (by omega), ?_⟩
      conv => whnf
      refine And.intro (vp_in_nI (by omega) (by omega)) ?_
      conv => whnf
      simp only [je_set_set, je_set_eq, r0, nI_add]
      simp (disch := omega) only [nI_clamp, Nat.zero_add]
      refine ih _ (fun j hj => ?_) (fun j hj => ?_)
      · by_cases e : j = n
        · rw [e, upd_eq]
        · rw [upd_ne (by omega)]; exact hf j (by omega)
      · rw [upd_ne (by omega)]; exact hf2 j hj
  · have hv : ¬ vp_in x 2 := fun h => h1.elim ((vp_rng (by omega)).mp h).1 ((vp_rng (by omega)).mp h).2
    refine hR.2 [] 400 _ _ _ _ ?_
    conv => whnf
    refine And.intro (fun h => absurd rfl h) (fun _ => ?_)
    conv => whnf
    exact ⟨_, rfl, by simp only [F_save, if_neg hv], by simp only [F_save, if_neg hv]; exact hM', FrM.rf⟩
theorem MR_sv {G : je_G} {S : jS} (h : MR G S) {i : Nat} (hi : i < 2) : G 6 0 5 i = b01 (S.2.2.2.1 i) ∧ (S.2.2.2.1 i = true → ∀ j, j < 161 → G 6 0 4 (161 * i + j) = S.2.2.2.2.1 i j) := by
  obtain ⟨σ, k, hs, sv, sl, len, pad⟩ := S
  exact h.2.2.1 i hi
set_option maxHeartbeats 4000000 in
set_option maxRecDepth 100000 in
theorem m_restore (l : Launch) (G : je_G) (S : jS) (hM : MR G S) (x : Int32) : je_Ci l yX6_restore wsX6_restore rmX6_restore [jR (6, 0, 0), jI x] G (fun y G' => y = (F_restore S x).1 ∧ MR G' (F_restore S x).2 ∧ FrM G G') := by
  refine je_met1 tbX6_restore 1 okX6_restore rfl (by decide +kernel) rfl (by unfold je_ret; simp) (by decide) (Nat.le_of_ble_eq_true rfl) ?_
  intro J hoks hR
  show J G 0 [some (jR (6, 0, 0)), some (jI x), none] []
  refine hR.2 [] 400 _ _ _ _ ?_
  conv => whnf
  refine je_s3i hR kX6_restore_3 rfl (m_in l G x (nI 0) (nI 1)) rfl ?_
  intro y G' hq
  obtain ⟨rfl, ⟨h1, h2, rfl⟩ | ⟨h1, rfl⟩⟩ := hq
  · have hv : vp_in x 2 := (vp_rng (by omega)).mpr ⟨h1, h2⟩
    obtain ⟨i, hi, rfl⟩ := vp_in_of hv (by omega)
    have hcl : (nI i).toNatClampNeg = i := nI_clamp (by omega)
    obtain ⟨s1, s2⟩ := MR_sv hM hi
    refine hR.2 [] 400 _ _ _ _ ?_
    conv => whnf
    refine And.intro (fun _ => ?_) (fun h => absurd h (by decide))
    conv => whnf
    refine ⟨vp_in_nI (by omega) (by omega), ?_⟩
    conv => whnf
    simp only [hcl, Nat.zero_add, s1]
    cases hsv : S.2.2.2.1 i with
    | false =>
      refine And.intro (fun h => absurd rfl h) (fun _ => ?_)
      conv => whnf
      have hne : ¬ S.2.2.2.1 i = true := by rw [hsv]; decide
      exact ⟨_, rfl, by simp only [F_restore, if_pos hv, hcl, if_neg hne], by simp only [F_restore, if_pos hv, hcl, if_neg hne]; exact hM, FrM.rf⟩
    | true =>
      refine And.intro (fun _ => ?_) (fun h => absurd h (by decide))
      conv => whnf
      refine je_v0v hR kX6_restore_25 rfl (m_record l G' S hM) rfl ?_
      intro G2 hq
      obtain ⟨hM2, hF⟩ := hq
      have r4 : ∀ f, je_set G2 6 0 0 f 6 0 4 = G' 6 0 4 := fun f => by rw [je_set_ne (by omega)]; exact hF.r (by omega) (by omega)
      refine hR.2 [30] 400 _ _ _ _ ?_
      conv => whnf
      refine (show J (je_set G2 6 0 0 (G2 6 0 0)) 30 [some (jR (6, 0, 0)), some (jI (nI i)), some (jI (nI 0))] [] → _ from fun h => by rw [je_set_id] at h; exact h) ?_
      refine je_for (P := fun n => ∀ f : Sg, (∀ j, j < n → f j = S.2.2.2.2.1 i j) → J (je_set G2 6 0 0 f) 30 [some (jR (6, 0, 0)), some (jI (nI i)), some (jI (nI n))] []) 161 ?_ ?_ 0 (Nat.zero_le _) _ (fun j hj => absurd hj (Nat.not_lt_zero j))
      · intro f hf
        refine je_ext hR (je_eqvS (c := 6) (r := 0) (N := 161) (by decide +kernel) (by decide +kernel) (g := S.2.2.2.2.1 i) hf) ?_
        refine hR.2 [30] 400 _ _ _ _ ?_
        conv => whnf
        refine br_t ((nI_leI (by omega) (by omega)).mpr (by omega)) ?_
        conv => whnf
        refine je_v0i hR kX6_restore_62 rfl (m_people l _) rfl ?_
        intro y G3 hq
        obtain ⟨rfl, rfl⟩ := hq
        refine hR.2 [] 400 _ _ _ _ ?_
        conv => whnf
        rw [je_set_eq]
        refine ⟨_, rfl, ?_, ?_, hF.m.set⟩
        · simp only [F_restore, if_pos hv, hcl, if_pos hsv]
        · simp only [F_restore, if_pos hv, hcl, if_pos hsv]
          exact MR_set hM2 _
      · intro n hn ih f hf
        refine hR.2 [30] 400 _ _ _ _ ?_
        conv => whnf
        refine br_f (fun h => absurd ((nI_leI (by omega) (by omega)).mp h) (by omega)) ?_
        conv => whnf
        rw [show nI 161 * nI i = nI (161 * i) from pk_mul 161 i, nI_add]
        refine And.intro (vp_in_nI (by omega) (by omega)) ?_
        conv => whnf
        refine ⟨vp_in_nI (by omega) (by omega), ?_⟩
        conv => whnf
        simp only [je_set_set, je_set_eq, r4, nI_add]
        simp (disch := omega) only [nI_clamp, Nat.zero_add]
        refine ih _ (fun j hj => ?_)
        by_cases e : j = n
        · rw [e, upd_eq]; exact s2 hsv n hn
        · rw [upd_ne (by omega)]; exact hf j (by omega)
  · have hv : ¬ vp_in x 2 := fun h => h1.elim ((vp_rng (by omega)).mp h).1 ((vp_rng (by omega)).mp h).2
    refine hR.2 [] 400 _ _ _ _ ?_
    conv => whnf
    refine And.intro (fun h => absurd rfl h) (fun _ => ?_)
    conv => whnf
    exact ⟨_, rfl, by simp only [F_restore, if_neg hv], by simp only [F_restore, if_neg hv]; exact hM, FrM.rf⟩
