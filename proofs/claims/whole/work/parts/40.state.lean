/-! RopedHalls: its state, as one value that both sides hold; remember, undo, save, restore -/
/-- the hall, how many recorded, the recorded from the latest on, which slots are saved, the slots, the pad's length, its codes -/
abbrev jS : Type := Sg × Nat × (Nat → Sg) × (Nat → Bool) × (Nat → Sg) × Nat × Sg
def b01 (b : Bool) : Int32 := if b then nI 1 else nI 0
def CR (G : je_G) (S : jS) : Prop := match S with
  | (σ, k, hs, sv, sl, len, pad) => G 1 0 0 = σ ∧ (∃ m, m < 6 ∧ G 5 0 9 0 = nI m ∧ G 5 0 8 0 = nI k ∧ k ≤ 6 ∧ ∀ i, i < k → G 1 (1 + (m + 6 - i) % 6) 0 = hs i) ∧ (∀ i, i < 2 → G 5 0 7 i = b01 (sv i) ∧ (sv i = true → G 1 (7 + i) 0 = sl i)) ∧ G 3 0 0 0 = nI len ∧ len ≤ 60 ∧ ∀ j, j < len → G 3 0 1 j = pad j
/-- the reference's rows stay -/
def FrC (G G' : je_G) : Prop := ∀ n r, G' 6 n r = G 6 n r
theorem FrC.rf {G : je_G} : FrC G G := fun _ _ => rfl
theorem FrC.tr {G G1 G2 : je_G} (h : FrC G G1) (h2 : FrC G1 G2) : FrC G G2 := fun n r => (h2 n r).trans (h n r)
theorem FrC.set {G G1 : je_G} (h : FrC G G1) {c n r : Nat} {f : Sg} (hc : c ≠ 6) : FrC G (je_set G1 c n r f) := fun n' r' => by rw [je_set_ne (by omega)]; exact h n' r'
theorem FrC.fr1 {G G1 G2 : je_G} (h : FrC G G1) {c n : Nat} (hf : Fr1 c n G1 G2) (hc : c ≠ 6) : FrC G G2 := fun n' r' => (hf 6 n' r' (by omega)).trans (h n' r')
theorem CR_fr {G G' : je_G} {S : jS} (h : CR G S) (h1 : ∀ n, n ≤ 8 → G' 1 n 0 = G 1 n 0) (h5 : ∀ r, G' 5 0 r = G 5 0 r) (h3 : ∀ r, G' 3 0 r = G 3 0 r) : CR G' S := by
  obtain ⟨σ, k, hs, sv, sl, len, pad⟩ := S
  obtain ⟨e1, ⟨m, hm, e2, e3, hk, e4⟩, e5, e6, hl, e7⟩ := h
  refine ⟨by rw [h1 0 (by omega)]; exact e1, ⟨m, hm, by rw [h5]; exact e2, by rw [h5]; exact e3, hk, fun i hi => by rw [h1 _ (by omega)]; exact e4 i hi⟩, fun i hi => ⟨by rw [h5]; exact (e5 i hi).1, fun hs => by rw [h1 _ (by omega)]; exact (e5 i hi).2 hs⟩, by rw [h3]; exact e6, hl, fun j hj => by rw [h3]; exact e7 j hj⟩
def wS (S : jS) (σ : Sg) : jS := (σ, S.2)
theorem CR_set {G : je_G} {S : jS} (h : CR G S) (σ : Sg) : CR (je_set G 1 0 0 σ) (wS S σ) := by
  obtain ⟨σ0, k, hs, sv, sl, len, pad⟩ := S
  obtain ⟨e1, ⟨m, hm, e2, e3, hk, e4⟩, e5, e6, hl, e7⟩ := h
  refine ⟨je_set_eq, ⟨m, hm, by rw [je_set_ne (by omega)]; exact e2, by rw [je_set_ne (by omega)]; exact e3, hk, fun i hi => by rw [je_set_ne (by omega)]; exact e4 i hi⟩, fun i hi => ⟨by rw [je_set_ne (by omega)]; exact (e5 i hi).1, fun hs => by rw [je_set_ne (by omega)]; exact (e5 i hi).2 hs⟩, by rw [je_set_ne (by omega)]; exact e6, hl, fun j hj => by rw [je_set_ne (by omega)]; exact e7 j hj⟩
/-- a change is recorded -/
def rec6 (S : jS) : jS := match S with
  | (σ, k, hs, sv, sl, len, pad) => (σ, if k < 6 then k + 1 else 6, fun i => if i = 0 then σ else hs (i - 1), sv, sl, len, pad)
set_option maxHeartbeats 4000000 in
set_option maxRecDepth 100000 in
theorem c_recorded (l : Launch) (G : je_G) (m : Nat) (hm : m < 6) : je_Cr l yX5_recorded wsX5_recorded rmX5_recorded [jR (5, 0, 0), jI (nI m)] G (fun r G' => G' = G ∧ r = some (1, 1 + m, 0)) := by
  refine je_met1 tbX5_recorded 3 okX5_recorded rfl (by decide +kernel) rfl (by unfold je_ret; simp) (by decide) (Nat.le_of_ble_eq_true rfl) ?_
  intro J hoks hR
  show J G 0 [some (jR (5, 0, 0)), some (jI (nI m))] []
  refine hR.2 [] 400 _ _ _ _ ?_
  conv => whnf
  refine br_f (nI_pos (by omega)) ?_
  conv => whnf
  refine br_f (fun h => absurd ((nI_leI (by omega) (by omega)).mp h) (by omega)) ?_
  conv => whnf
  refine ⟨vp_in_nI (by omega) (by omega), ?_⟩
  conv => whnf
  exact ⟨_, rfl, rfl, by rw [nI_clamp (by omega)]⟩
set_option maxHeartbeats 4000000 in
set_option maxRecDepth 100000 in
theorem c_copyHall (l : Launch) (G : je_G) (a b : Nat) (hne : a ≠ b) (hb : bits (G 1 a 0)) : je_Cv l yX5_copyHall wsX5_copyHall rmX5_copyHall [jR (1, a, 0), jR (1, b, 0)] G (fun G' => G' = je_set G 1 b 0 (G 1 a 0)) := by
  refine je_met1 tbX5_copyHall 0 okX5_copyHall rfl (by decide +kernel) rfl (by unfold je_ret; simp) (by decide) (Nat.le_of_ble_eq_true rfl) ?_
  intro J hoks hR
  show J G 0 [some (jR (1, a, 0)), some (jR (1, b, 0))] []
  refine hR.2 [] 400 _ _ _ _ ?_
  conv => whnf
  refine je_v1v hR kX5_copyHall_10 rfl (c_copyFrom l G b a hne hb) rfl ?_
  intro G' hq
  subst hq
  refine hR.2 [] 400 _ _ _ _ ?_
  conv => whnf
  exact ⟨rfl, rfl⟩
theorem rem6 {a : Nat} (ha : a < 2 ^ 31) : nI a - nI a / nI 6 * nI 6 = nI (a % 6) := pk_rem ha (by omega) (by omega)
set_option maxHeartbeats 4000000 in
set_option maxRecDepth 100000 in
theorem c_remember (l : Launch) (G : je_G) (S : jS) (hC : CR G S) (hb : bits S.1) : je_Cv l yX5_remember wsX5_remember rmX5_remember [jR (5, 0, 0)] G (fun G' => CR G' (rec6 S) ∧ ∀ c n r, c ≠ 1 → c ≠ 5 → G' c n r = G c n r) := by
  refine je_met1 tbX5_remember 0 okX5_remember rfl (by decide +kernel) rfl (by unfold je_ret; simp) (by decide) (Nat.le_of_ble_eq_true rfl) ?_
  intro J hoks hR
  show J G 0 [some (jR (5, 0, 0))] []
  obtain ⟨σ, k, hs, sv, sl, len, pad⟩ := S
  obtain ⟨e1, ⟨m, hm, e2, e3, hk, e4⟩, e5, e6, hl, e7⟩ := hC
  refine hR.2 [] 400 _ _ _ _ ?_
  conv => whnf
  refine And.intro (by decide) ?_
  conv => whnf
  simp only [je_set_eq]
  have hu : upd (G 5 0 9) 0 (G 5 0 9 0 + nI 1 - (G 5 0 9 0 + nI 1) / nI 6 * nI 6) 0 = nI ((m + 1) % 6) := by
    unfold upd
    rw [if_pos rfl, e2, nI_add, rem6 (by omega)]
  rw [hu]
  generalize upd (G 5 0 9) 0 (G 5 0 9 0 + nI 1 - (G 5 0 9 0 + nI 1) / nI 6 * nI 6) = f9 at hu ⊢
  have hm' : (m + 1) % 6 < 6 := Nat.mod_lt _ (by omega)
  refine je_v1r hR kX5_remember_22 rfl (c_recorded l _ ((m + 1) % 6) hm') rfl ?_
  intro x G' hq
  obtain ⟨rfl, rfl⟩ := hq
  refine hR.2 [] 400 _ _ _ _ ?_
  conv => whnf
  refine je_s2v hR kX5_remember_25 rfl (c_copyHall l _ 0 (1 + (m + 1) % 6) (by omega) (by rw [je_set_ne (by omega), e1]; exact hb)) rfl ?_
  intro G' hq
  subst hq
  refine hR.2 [] 400 _ _ _ _ ?_
  conv => whnf
  refine ⟨rfl, ⟨?_, ⟨(m + 1) % 6, hm', ?_, ?_, ?_, ?_⟩, ?_, ?_, hl, ?_⟩, ?_⟩
  · rw [je_set_ne (by omega), je_set_ne (by omega), je_set_ne (by omega)]
    exact e1
  · rw [je_set_ne (by omega), je_set_ne (by omega), je_set_eq]
    exact hu
  · rw [je_set_eq]
    unfold upd
    rw [if_pos rfl, je_set_ne (by omega), je_set_ne (by omega), e3, nI_add]
    by_cases h6 : k < 6
    · rw [if_pos h6]
      by_cases h5 : k = 5
      · subst h5
        decide
      · rw [if_neg (fun h => absurd ((nI_ltI (by omega) (by omega)).mp h) (by omega))]
    · rw [if_neg h6, if_pos ((nI_ltI (by omega) (by omega)).mpr (by omega))]
  · split <;> omega
  · intro i hi
    have hi6 : i < 6 := by
      split at hi <;> omega
    rw [je_set_ne (by omega)]
    dsimp only
    by_cases h0 : i = 0
    · subst h0
      rw [show ((m + 1) % 6 + 6 - 0) % 6 = (m + 1) % 6 by omega, je_set_eq, je_set_ne (by omega), if_pos rfl]
      exact e1
    · rw [if_neg h0, je_set_ne (by omega), je_set_ne (by omega), show ((m + 1) % 6 + 6 - i) % 6 = (m + 6 - (i - 1)) % 6 by omega]
      exact e4 (i - 1) (by split at hi <;> omega)
  · intro i hi
    refine ⟨?_, fun h => ?_⟩
    · rw [je_set_ne (by omega), je_set_ne (by omega), je_set_ne (by omega)]
      exact (e5 i hi).1
    · rw [je_set_ne (by omega), je_set_ne (by omega), je_set_ne (by omega)]
      exact (e5 i hi).2 h
  · rw [je_set_ne (by omega), je_set_ne (by omega), je_set_ne (by omega)]
    exact e6
  · intro j hj
    rw [je_set_ne (by omega), je_set_ne (by omega), je_set_ne (by omega)]
    exact e7 j hj
  · intro c n r h1 h5
    rw [je_set_ne (by omega), je_set_ne (by omega), je_set_ne (by omega)]
/-- undo -/
def F_undo (S : jS) : Int32 × jS := match S with
  | (σ, k, hs, sv, sl, len, pad) => if k = 0 then (-5, (σ, k, hs, sv, sl, len, pad)) else (nI (k - 1), (hs 0, k - 1, fun i => hs (i + 1), sv, sl, len, pad))
set_option maxHeartbeats 4000000 in
set_option maxRecDepth 100000 in
theorem c_undo (l : Launch) (G : je_G) (S : jS) (hC : CR G S) (hb : ∀ i, i < S.2.1 → bits (S.2.2.1 i)) : je_Ci l yX5_undo wsX5_undo rmX5_undo [jR (5, 0, 0)] G (fun x G' => x = (F_undo S).1 ∧ CR G' (F_undo S).2 ∧ FrC G G') := by
  refine je_met1 tbX5_undo 1 okX5_undo rfl (by decide +kernel) rfl (by unfold je_ret; simp) (by decide) (Nat.le_of_ble_eq_true rfl) ?_
  intro J hoks hR
  show J G 0 [some (jR (5, 0, 0))] []
  obtain ⟨σ, k, hs, sv, sl, len, pad⟩ := S
  have hC' := hC
  obtain ⟨e1, ⟨m, hm, e2, e3, hk, e4⟩, e5, e6, hl, e7⟩ := hC
  refine hR.2 [] 400 _ _ _ _ ?_
  conv => whnf
  rw [e3]
  by_cases h0 : k = 0
  · subst h0
    refine br_f (by decide) ?_
    conv => whnf
    exact ⟨_, rfl, rfl, hC', FrC.rf⟩
  · refine br_t ((nI_leI (by omega) (by omega)).mpr (by omega)) ?_
    conv => whnf
    rw [e2]
    refine je_v1r hR kX5_undo_16 rfl (c_recorded l _ m hm) rfl ?_
    intro x G' hq
    obtain ⟨rfl, rfl⟩ := hq
    refine hR.2 [] 400 _ _ _ _ ?_
    conv => whnf
    have h1m : G' 1 (1 + m) 0 = hs 0 := by
      have := e4 0 (by omega)
      rw [show (m + 6 - 0) % 6 = m by omega] at this
      exact this
    refine je_s2v hR kX5_undo_23 rfl (c_copyHall l _ (1 + m) 0 (by omega) (by rw [h1m]; exact hb 0 (by show 0 < k; omega))) rfl ?_
    intro G2 hq
    subst hq
    rw [h1m]
    refine hR.2 [] 400 _ _ _ _ ?_
    conv => whnf
    refine And.intro (by decide) ?_
    conv => whnf
    have hm6 : nI m + nI 6 - nI 1 - (nI m + nI 6 - nI 1) / nI 6 * nI 6 = nI ((m + 5) % 6) := by
      rw [nI_add, pk_sub (by omega), rem6 (by omega)]
      rfl
    have hk1 : nI k - nI 1 = nI (k - 1) := pk_sub (by omega)
    refine ⟨_, rfl, ?_, ?_, ?_⟩
    · simp only [F_undo, if_neg h0]
      rw [je_set_eq]
      unfold upd
      rw [if_pos rfl, je_set_ne (by omega), je_set_ne (by omega), e3, hk1]
    · simp only [F_undo, if_neg h0]
      refine ⟨?_, ⟨(m + 5) % 6, Nat.mod_lt _ (by omega), ?_, ?_, by omega, ?_⟩, ?_, ?_, hl, ?_⟩
      · rw [je_set_ne (by omega), je_set_ne (by omega), je_set_eq]
      · rw [je_set_ne (by omega), je_set_eq]
        unfold upd
        rw [if_pos rfl, je_set_ne (by omega), e2, hm6]
      · rw [je_set_eq]
        unfold upd
        rw [if_pos rfl, je_set_ne (by omega), je_set_ne (by omega), e3, hk1]
      · intro i hi
        rw [je_set_ne (by omega), je_set_ne (by omega), je_set_ne (by omega), show ((m + 5) % 6 + 6 - i) % 6 = (m + 6 - (i + 1)) % 6 by omega]
        exact e4 (i + 1) (by omega)
      · intro i hi
        refine ⟨?_, fun h => ?_⟩
        · rw [je_set_ne (by omega), je_set_ne (by omega), je_set_ne (by omega)]
          exact (e5 i hi).1
        · rw [je_set_ne (by omega), je_set_ne (by omega), je_set_ne (by omega)]
          exact (e5 i hi).2 h
      · rw [je_set_ne (by omega), je_set_ne (by omega), je_set_ne (by omega)]
        exact e6
      · intro j hj
        rw [je_set_ne (by omega), je_set_ne (by omega), je_set_ne (by omega)]
        exact e7 j hj
    · intro n r
      rw [je_set_ne (by omega), je_set_ne (by omega), je_set_ne (by omega)]
def ppl (σ : Sg) : Int32 := isum (fun c => σ (21 + c)) 35
noncomputable def F_save (S : jS) (x : Int32) : Int32 × jS := by
  classical
  exact match S with
  | (σ, k, hs, sv, sl, len, pad) => if vp_in x 2 then (ppl σ, (σ, k, hs, fun i => if i = x.toNatClampNeg then true else sv i, fun i => if i = x.toNatClampNeg then σ else sl i, len, pad)) else (-2, (σ, k, hs, sv, sl, len, pad))
theorem vp_2 {x : Int32} {n : Nat} (hn : n < 2 ^ 31) (h0 : ¬ x < 0) (h1 : x < nI n) : vp_in x n := fun h => h.elim h0 (fun h => by
  have := (vp_ge hn h0).mpr h
  have h2 := Int32.lt_iff_toInt_lt.mp h1
  have h3 := Int32.le_iff_toInt_le.mp this
  omega)
theorem vp_n2 {x : Int32} {n : Nat} (hn : n < 2 ^ 31) (h0 : ¬ x < 0) (h1 : ¬ x < nI n) : ¬ vp_in x n := fun h => h (Or.inr ((vp_ge hn h0).mp (by
  have h2 : ¬ x.toInt < (nI n).toInt := fun h => h1 (Int32.lt_iff_toInt_lt.mpr h)
  exact Int32.le_iff_toInt_le.mpr (by omega))))
set_option maxHeartbeats 4000000 in
set_option maxRecDepth 100000 in
theorem c_save (l : Launch) (G : je_G) (S : jS) (hC : CR G S) (hb : bits S.1) (x : Int32) : je_Ci l yX5_save wsX5_save rmX5_save [jR (5, 0, 0), jI x] G (fun y G' => y = (F_save S x).1 ∧ CR G' (F_save S x).2 ∧ FrC G G') := by
  refine je_met1 tbX5_save 1 okX5_save rfl (by decide +kernel) rfl (by unfold je_ret; simp) (by decide) (Nat.le_of_ble_eq_true rfl) ?_
  intro J hoks hR
  show J G 0 [some (jR (5, 0, 0)), some (jI x)] []
  obtain ⟨σ, k, hs, sv, sl, len, pad⟩ := S
  have hC' := hC
  obtain ⟨e1, ⟨m, hm, e2, e3, hk, e4⟩, e5, e6, hl, e7⟩ := hC
  refine hR.2 [] 400 _ _ _ _ ?_
  conv => whnf
  refine ⟨fun h0 => ?_, fun h0 => ?_⟩
  · conv => whnf
    have hv : ¬ vp_in x 2 := fun h => h (Or.inl h0)
    exact ⟨_, rfl, by simp only [F_save, if_neg hv], by simp only [F_save, if_neg hv]; exact hC', FrC.rf⟩
  · conv => whnf
    refine ⟨fun h1 => ?_, fun h1 => ?_⟩
    · have hv : vp_in x 2 := vp_2 (by decide) h0 h1
      obtain ⟨i, hi, rfl⟩ := vp_in_of hv (by omega)
      conv => whnf
      refine ⟨vp_in_nI (by omega) (by omega), ?_⟩
      conv => whnf
      rw [nI_clamp (by omega)]
      refine je_s2v hR kX5_save_22 rfl (c_copyHall l _ 0 (7 + i) (by omega) (by rw [e1]; exact hb)) rfl ?_
      intro G2 hq
      subst hq
      refine hR.2 [] 400 _ _ _ _ ?_
      conv => whnf
      refine ⟨vp_in_nI (by omega) (by omega), ?_⟩
      conv => whnf
      refine And.intro (Or.inr rfl) ?_
      conv => whnf
      refine je_v0i hR kX5_save_36 rfl (c_peopleInside l _ 0) rfl ?_
      intro y G2 hq
      obtain ⟨rfl, rfl⟩ := hq
      refine hR.2 [] 400 _ _ _ _ ?_
      conv => whnf
      simp (disch := omega) only [nI_clamp, Nat.zero_add]
      refine ⟨_, rfl, ?_, ?_, ?_⟩
      · simp only [F_save, if_pos hv]
        rw [je_set_ne (by omega), je_set_ne (by omega), e1]
        rfl
      · simp only [F_save, if_pos hv, nI_clamp (show i < 2 ^ 31 by omega)]
        refine ⟨?_, ⟨m, hm, ?_, ?_, hk, ?_⟩, ?_, ?_, hl, ?_⟩
        · rw [je_set_ne (by omega), je_set_ne (by omega)]
          exact e1
        · rw [je_set_ne (by omega), je_set_ne (by omega)]
          exact e2
        · rw [je_set_ne (by omega), je_set_ne (by omega)]
          exact e3
        · intro j hj
          rw [je_set_ne (by omega), je_set_ne (by omega)]
          exact e4 j hj
        · intro j hj
          rw [je_set_eq, je_set_ne (by omega)]
          unfold upd
          dsimp only
          by_cases hji : j = i
          · subst hji
            rw [if_pos rfl, if_pos rfl, if_pos rfl]
            refine ⟨rfl, fun _ => ?_⟩
            rw [je_set_ne (by omega), je_set_eq]
            exact e1
          · rw [if_neg hji, if_neg hji, if_neg hji]
            refine ⟨(e5 j hj).1, fun h => ?_⟩
            rw [je_set_ne (by omega), je_set_ne (by omega)]
            exact (e5 j hj).2 h
        · rw [je_set_ne (by omega), je_set_ne (by omega)]
          exact e6
        · intro j hj
          rw [je_set_ne (by omega), je_set_ne (by omega)]
          exact e7 j hj
      · intro n r
        rw [je_set_ne (by omega), je_set_ne (by omega)]
    · conv => whnf
      have hv : ¬ vp_in x 2 := vp_n2 (by decide) h0 h1
      exact ⟨_, rfl, by simp only [F_save, if_neg hv], by simp only [F_save, if_neg hv]; exact hC', FrC.rf⟩
noncomputable def F_restore (S : jS) (x : Int32) : Int32 × jS := by
  classical
  exact if vp_in x 2 then (if S.2.2.2.1 x.toNatClampNeg = true then (ppl (S.2.2.2.2.1 x.toNatClampNeg), wS (rec6 S) (S.2.2.2.2.1 x.toNatClampNeg)) else (-5, S)) else (-2, S)
theorem rec6_sl (S : jS) : (rec6 S).2.2.2 = S.2.2.2 := rfl
theorem rec6_1 (S : jS) : (rec6 S).1 = S.1 := rfl
theorem CR_1 {G : je_G} {S : jS} (h : CR G S) : G 1 0 0 = S.1 := h.1
theorem CR_sv {G : je_G} {S : jS} (h : CR G S) {i : Nat} (hi : i < 2) : G 5 0 7 i = b01 (S.2.2.2.1 i) ∧ (S.2.2.2.1 i = true → G 1 (7 + i) 0 = S.2.2.2.2.1 i) := h.2.2.1 i hi
set_option maxHeartbeats 4000000 in
set_option maxRecDepth 100000 in
theorem c_restore (l : Launch) (G : je_G) (S : jS) (hC : CR G S) (hb : bits S.1) (hb2 : ∀ i, i < 2 → S.2.2.2.1 i = true → bits (S.2.2.2.2.1 i)) (x : Int32) : je_Ci l yX5_restore wsX5_restore rmX5_restore [jR (5, 0, 0), jI x] G (fun y G' => y = (F_restore S x).1 ∧ CR G' (F_restore S x).2 ∧ FrC G G') := by
  refine je_met1 tbX5_restore 1 okX5_restore rfl (by decide +kernel) rfl (by unfold je_ret; simp) (by decide) (Nat.le_of_ble_eq_true rfl) ?_
  intro J hoks hR
  show J G 0 [some (jR (5, 0, 0)), some (jI x)] []
  refine hR.2 [] 400 _ _ _ _ ?_
  conv => whnf
  refine ⟨fun h0 => ?_, fun h0 => ?_⟩
  · conv => whnf
    have hv : ¬ vp_in x 2 := fun h => h (Or.inl h0)
    exact ⟨_, rfl, by simp only [F_restore, if_neg hv], by simp only [F_restore, if_neg hv]; exact hC, FrC.rf⟩
  · conv => whnf
    refine ⟨fun h1 => ?_, fun h1 => ?_⟩
    · have hv : vp_in x 2 := vp_2 (by decide) h0 h1
      obtain ⟨i, hi, rfl⟩ := vp_in_of hv (by omega)
      have hcl : (nI i).toNatClampNeg = i := nI_clamp (by omega)
      obtain ⟨s1, s2⟩ := CR_sv hC hi
      conv => whnf
      refine ⟨vp_in_nI (by omega) (by omega), ?_⟩
      conv => whnf
      rw [hcl, Nat.zero_add, s1]
      cases hsv : S.2.2.2.1 i with
      | false =>
        refine And.intro (fun h => absurd rfl h) (fun _ => ?_)
        conv => whnf
        have hne : ¬ S.2.2.2.1 i = true := by rw [hsv]; decide
        exact ⟨_, rfl, by simp only [F_restore, if_pos hv, hcl, if_neg hne], by simp only [F_restore, if_pos hv, hcl, if_neg hne]; exact hC, FrC.rf⟩
      | true =>
        refine And.intro (fun _ => ?_) (fun h => absurd h (by decide))
        conv => whnf
        refine je_v0v hR kX5_restore_25 rfl (c_remember l G S hC hb) rfl ?_
        intro G2 hq
        obtain ⟨hC2, hf⟩ := hq
        obtain ⟨t1, t2⟩ := CR_sv hC2 hi
        rw [rec6_sl] at t2
        have t3 := t2 hsv
        refine hR.2 [] 400 _ _ _ _ ?_
        conv => whnf
        refine ⟨vp_in_nI (by omega) (by omega), ?_⟩
        conv => whnf
        rw [hcl]
        refine je_s2v hR kX5_restore_38 rfl (c_copyHall l _ (7 + i) 0 (by omega) (by rw [t3]; exact hb2 i hi hsv)) rfl ?_
        intro G3 hq
        subst hq
        rw [t3]
        refine hR.2 [] 400 _ _ _ _ ?_
        conv => whnf
        refine je_v0i hR kX5_restore_45 rfl (c_peopleInside l _ 0) rfl ?_
        intro y G3 hq
        obtain ⟨rfl, rfl⟩ := hq
        refine hR.2 [] 400 _ _ _ _ ?_
        conv => whnf
        rw [je_set_eq]
        refine ⟨_, rfl, ?_, ?_, ?_⟩
        · simp only [F_restore, if_pos hv, hcl, if_pos hsv]
          rfl
        · simp only [F_restore, if_pos hv, hcl, if_pos hsv]
          exact CR_set hC2 _
        · exact FrC.set (fun n r => hf 6 n r (by omega) (by omega)) (by omega)
    · conv => whnf
      have hv : ¬ vp_in x 2 := vp_n2 (by decide) h0 h1
      exact ⟨_, rfl, by simp only [F_restore, if_neg hv], by simp only [F_restore, if_neg hv]; exact hC, FrC.rf⟩
