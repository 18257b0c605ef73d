/-! RopedHalls$Routes: the order of the turns; find -/
noncomputable def tlr (σ : Sg) (a : Nat) : Nat → List Nat
  | 0 => []
  | c + 1 => tlr σ a c ++ (if sg σ c = nI a then [c] else [])
noncomputable def tlo (σ : Sg) : Nat → List Nat
  | 0 => []
  | a + 1 => tlo σ a ++ tlr σ (a + 1) 35
/-- the cells that get turns, in their order -/
noncomputable def tl (σ : Sg) : List Nat := tlo σ 34
theorem tlr_lt {σ : Sg} {a : Nat} : ∀ (c : Nat), ∀ x ∈ tlr σ a c, x < c ∧ sg σ x = nI a
  | 0, x, h => by cases h
  | c + 1, x, h => by
    rcases List.mem_append.mp h with h | h
    · have := tlr_lt c x h
      exact ⟨by omega, this.2⟩
    · split at h
      · rename_i h1
        cases List.mem_singleton.mp h
        exact ⟨by omega, h1⟩
      · cases h
theorem tlo_lt {σ : Sg} : ∀ (a : Nat), ∀ x ∈ tlo σ a, x < 35 ∧ ∃ k, 1 ≤ k ∧ k ≤ a ∧ sg σ x = nI k
  | 0, x, h => by cases h
  | a + 1, x, h => by
    rcases List.mem_append.mp h with h | h
    · obtain ⟨h1, k, h2, h3, h4⟩ := tlo_lt a x h
      exact ⟨h1, k, h2, by omega, h4⟩
    · obtain ⟨h1, h2⟩ := tlr_lt 35 x h
      exact ⟨h1, a + 1, by omega, by omega, h2⟩
noncomputable def pbt (σ : Sg) : Nat → Nat → Bool
  | 0, _ => false
  | a + 1, c => pbt σ a c || decide (sg σ c = nI (a + 1))
theorem pbt_ok {σ : Sg} : ∀ (a c : Nat), pbt σ a c = true → ∃ k, 1 ≤ k ∧ k ≤ a ∧ sg σ c = nI k
  | 0, c, h => by cases h
  | a + 1, c, h => by
    rw [pbt, Bool.or_eq_true] at h
    rcases h with h | h
    · obtain ⟨k, h1, h2, h3⟩ := pbt_ok a c h
      exact ⟨k, h1, by omega, h3⟩
    · exact ⟨a + 1, by omega, by omega, of_decide_eq_true h⟩
theorem tlr_len {σ : Sg} {a : Nat} : ∀ c, (tlr σ a c).length = fb_ct (fun i => decide (sg σ i = nI a)) c
  | 0 => rfl
  | c + 1 => by
    rw [tlr, List.length_append, tlr_len c, fb_ct_succ]
    by_cases h : sg σ c = nI a <;> simp [h]
theorem pbt_ct {σ : Sg} {a : Nat} (ha : a < 1000) : fb_ct (pbt σ (a + 1)) 35 = fb_ct (pbt σ a) 35 + fb_ct (fun i => decide (sg σ i = nI (a + 1))) 35 := by
  rw [← fb_ct_or (p := pbt σ a) (q := fun i => decide (sg σ i = nI (a + 1))) (n := 35)]
  · rfl
  · intro k _ ⟨h1, h2⟩
    obtain ⟨j, h3, h4, h5⟩ := pbt_ok a k h1
    rw [of_decide_eq_true h2] at h5
    have := (nI_eq (by omega) (by omega)).mp h5
    omega
theorem tlo_len {σ : Sg} : ∀ a, a ≤ 34 → (tlo σ a).length = fb_ct (pbt σ a) 35
  | 0, _ => by
    have : fb_ct (pbt σ 0) 35 = 0 := fb_ct_zero.mpr (fun k _ => rfl)
    rw [this]
    rfl
  | a + 1, h => by
    rw [tlo, List.length_append, tlo_len a (by omega), tlr_len, pbt_ct (by omega)]
theorem tl_len {σ : Sg} : (tl σ).length ≤ 35 := by
  unfold tl
  rw [tlo_len 34 (by omega)]
  exact fb_ct_le _ _
theorem tl_room {σ : Sg} {a c : Nat} (ha : a < 34) (hc : c < 35) (h : sg σ c = nI (a + 1)) : (tlo σ a ++ tlr σ (a + 1) c).length < 35 := by
  rw [List.length_append, tlo_len a (by omega), tlr_len]
  have h1 := pbt_ct (σ := σ) (a := a) (by omega)
  have h2 := fb_ct_le (pbt σ (a + 1)) 35
  have h3 := fb_ct_mono (fun i => decide (sg σ i = nI (a + 1))) (show c + 1 ≤ 35 by omega)
  rw [fb_ct_succ] at h3
  rw [if_pos (by exact decide_eq_true h)] at h3
  omega
def okT (L : List Nat) (tr tc : Sg) : Prop := tc 0 = nI L.length ∧ ∀ i, ∀ h : i < L.length, tr i = nI L[i]
theorem okT_add {L : List Nat} {tr tc : Sg} {c : Nat} (h : okT L tr tc) : okT (L ++ [c]) (upd tr L.length (nI c)) (upd tc 0 (nI (L.length + 1))) := by
  refine ⟨?_, fun i hi => ?_⟩
  · unfold upd
    rw [if_pos rfl, List.length_append]
    rfl
  · rw [List.length_append, List.length_singleton] at hi
    unfold upd
    by_cases e : i = L.length
    · subst e
      rw [if_pos rfl, List.getElem_append_right (Nat.le_refl _)]
      simp
    · rw [if_neg e, List.getElem_append_left (by omega)]
      exact h.2 i (by omega)
def hasG (G : je_G) (r : Nat) (σ : Sg) : Prop := ∀ c, c < 35 → G 4 r 2 c = oI (gl σ c)
theorem gst_sg {G : je_G} {r : Nat} {σ : Sg} (hD : hasD G r σ) {c : Nat} (hc : c < 35) : gst (G 4 r 0) c (gl σ c) = sg σ c := by
  unfold gst sg
  cases h : gl σ c with
  | none => rfl
  | some g => exact hD g (gl_ok h).1 c hc
set_option maxHeartbeats 4000000 in
set_option maxRecDepth 100000 in
theorem c_orderTurns (l : Launch) (G : je_G) (r : Nat) (σ : Sg) (hD : hasD G r σ) (hg : hasG G r σ) : je_Cv l yX4_orderTurns wsX4_orderTurns rmX4_orderTurns [jR (4, r, 0)] G (fun G' => ∃ tr tc, G' = je_set (je_set G 4 r 4 tr) 4 r 5 tc ∧ okT (tl σ) tr tc) := by
  refine je_met1 tbX4_orderTurns 0 okX4_orderTurns rfl (by decide +kernel) rfl (by unfold je_ret; simp) (by decide) (Nat.le_of_ble_eq_true rfl) ?_
  intro J hoks hR
  show J G 0 [some (jR (4, r, 0)), none, none] []
  have hr : ∀ a b x, x < 4 → je_set (je_set G 4 r 4 a) 4 r 5 b 4 r x = G 4 r x := fun a b x hx => by rw [je_set_ne (by omega), je_set_ne (by omega)]
  have hD' : ∀ a b, hasD (je_set (je_set G 4 r 4 a) 4 r 5 b) r σ := fun a b d hd c hc => by rw [hr a b 0 (by omega)]; exact hD d hd c hc
  refine hR.2 [7] 400 _ _ _ _ ?_
  conv => whnf
  refine (show J (je_set (je_set G 4 r 4 (G 4 r 4)) 4 r 5 (upd (G 4 r 5) 0 (nI 0))) 7 _ [] → _ from fun h => by rw [je_set_id] at h; exact h) ?_
  refine je_for (P := fun a => ∀ tr tc, okT (tlo σ a) tr tc → J (je_set (je_set G 4 r 4 tr) 4 r 5 tc) 7 [some (jR (4, r, 0)), some (jI (nI (a + 1))), none] []) 34 ?_ ?_ 0 (Nat.zero_le _) _ _ ⟨by unfold upd; rw [if_pos rfl]; rfl, fun i hi => absurd hi (Nat.not_lt_zero i)⟩
  · intro tr tc hk
    refine hR.2 [7] 400 _ _ _ _ ?_
    conv => whnf
    refine br_t ((nI_leI (by omega) (by omega)).mpr (by omega)) ?_
    conv => whnf
    exact ⟨rfl, tr, tc, rfl, hk⟩
  · intro a ha iha tr tc hk
    refine hR.2 [7, 15] 400 _ _ _ _ ?_
    conv => whnf
    refine br_f (fun h => absurd ((nI_leI (by omega) (by omega)).mp h) (by omega)) ?_
    conv => whnf
    refine je_for (P := fun c => ∀ tr tc, okT (tlo σ a ++ tlr σ (a + 1) c) tr tc → J (je_set (je_set G 4 r 4 tr) 4 r 5 tc) 15 [some (jR (4, r, 0)), some (jI (nI (a + 1))), some (jI (nI c))] []) 35 ?_ ?_ 0 (Nat.zero_le _) tr tc (by show okT (tlo σ a ++ []) tr tc; rw [List.append_nil]; exact hk)
    · intro tr tc hk
      refine hR.2 [7, 15] 400 _ _ _ _ ?_
      conv => whnf
      refine br_t ((nI_leI (by omega) (by omega)).mpr (by omega)) ?_
      conv => whnf
      simp (disch := omega) only [nI_clamp, nI_add]
      exact je_loc hR (L' := [some _, some _, none]) ⟨rfl, rfl, trivial⟩ (iha tr tc hk)
    · intro c hc ihc tr tc hk
      refine hR.2 [7, 15] 400 _ _ _ _ ?_
      conv => whnf
      refine br_f (fun h => absurd ((nI_leI (by omega) (by omega)).mp h) (by omega)) ?_
      conv => whnf
      refine je_v1i hR kX4_orderTurns_23 rfl (c_stepsToGoal l _ r c hc (gl σ c) (fun b h => (gl_ok h).1) (by rw [hr _ _ 2 (by omega)]; exact hg c hc)) rfl ?_
      intro y G' hq
      obtain ⟨rfl, rfl⟩ := hq
      rw [gst_sg (hD' tr tc) hc]
      refine hR.2 [7, 15] 400 _ _ _ _ ?_
      conv => whnf
      refine ⟨fun h => ?_, fun h => ?_⟩
      · conv => whnf
        have e : tlr σ (a + 1) (c + 1) = tlr σ (a + 1) c := by rw [tlr, if_neg h, List.append_nil]
        rw [e] at ihc
        simp (disch := omega) only [nI_clamp, nI_add]
        exact ihc tr tc hk
      · conv => whnf
        have hlen := tl_room ha hc h
        simp only [je_set_eq, hk.1]
        refine br_f (fun h => absurd ((nI_leI (by omega) (by omega)).mp h) (by omega)) ?_
        conv => whnf
        simp only [je_set_eq, hk.1]
        refine And.intro (vp_in_nI (by omega) (by omega)) ?_
        conv => whnf
        have e1 : ∀ a b f, je_set (je_set (je_set G 4 r 4 a) 4 r 5 b) 4 r 4 f = je_set (je_set G 4 r 4 f) 4 r 5 b := by
          intro a b f
          funext c' n' r'
          simp only [je_rd]
          by_cases h4 : (r' = 4 ∧ c' = 4) ∧ n' = r
          · rw [if_pos h4, if_neg (by omega), if_pos h4]
          · rw [if_neg h4, if_neg h4]
            split <;> rfl
        have e2 : ∀ a b, je_set (je_set G 4 r 4 a) 4 r 5 b 4 r 4 = a := fun a b => by rw [je_set_ne (by omega), je_set_eq]
        simp only [je_set_eq, hk.1, e2, e1, je_set_set, nI_add]
        rw [nI_clamp (by omega), Nat.zero_add]
        have e : tlo σ a ++ tlr σ (a + 1) (c + 1) = (tlo σ a ++ tlr σ (a + 1) c) ++ [c] := by rw [tlr, if_pos h, List.append_assoc]
        rw [e] at ihc
        exact ihc _ _ (okT_add hk)
/-- the routes' object r holds all ways of a hall -/
def Wy (G : je_G) (r : Nat) (σ : Sg) : Prop := hasD G r σ ∧ hasG G r σ ∧ (∀ c, c < 35 → G 4 r 3 c = oI (nx σ c)) ∧ okT (tl σ) (G 4 r 4) (G 4 r 5) ∧ ∀ d, d < 4 → isD σ d (dst σ d)
/-- nothing but the object c n has changed -/
def Fr1 (c n : Nat) (G G' : je_G) : Prop := ∀ c' n' r', ¬ (c' = c ∧ n' = n) → G' c' n' r' = G c' n' r'
theorem Fr1.rf {c n : Nat} {G : je_G} : Fr1 c n G G := fun _ _ _ _ => rfl
theorem Fr1.set {c n : Nat} {G G' : je_G} (h : Fr1 c n G G') {r : Nat} {f : Sg} : Fr1 c n G (je_set G' c n r f) := fun c' n' r' hne => by rw [je_set_ne (by omega)]; exact h c' n' r' hne
set_option maxHeartbeats 4000000 in
set_option maxRecDepth 100000 in
theorem c_find (l : Launch) (G : je_G) (r n : Nat) (hs : ∀ d, d < 4 → vp_in (G 1 n 0 (5 + d)) 35) : je_Cv l yX4_find wsX4_find rmX4_find [jR (4, r, 0), jR (1, n, 0)] G (fun G' => Fr1 4 r G G' ∧ Wy G' r (G 1 n 0)) := by
  refine je_met1 tbX4_find 0 okX4_find rfl (by decide +kernel) rfl (by unfold je_ret; simp) (by decide) (Nat.le_of_ble_eq_true rfl) ?_
  intro J hoks hR
  show J G 0 [some (jR (4, r, 0)), some (jR (1, n, 0)), none] []
  have h1n : ∀ G', Fr1 4 r G G' → G' 1 n 0 = G 1 n 0 := fun G' h => h 1 n 0 (by omega)
  refine hR.2 [2] 400 _ _ _ _ ?_
  conv => whnf
  refine je_for (P := fun d => ∀ G', Fr1 4 r G G' → (∀ e, e < d → isD (G 1 n 0) e (dst (G 1 n 0) e) ∧ ∀ c, c < 35 → G' 4 r 0 (35 * e + c) = dI (dst (G 1 n 0) e c)) → J G' 2 [some (jR (4, r, 0)), some (jR (1, n, 0)), some (jI (nI d))] []) 4 ?_ ?_ 0 (Nat.zero_le _) G Fr1.rf (fun e he => absurd he (Nat.not_lt_zero e))
  · intro G' hf hd
    have hDs : ∀ d, d < 4 → isD (G 1 n 0) d (dst (G 1 n 0) d) := fun d h => (hd d h).1
    have hD0 : hasD G' r (G 1 n 0) := fun d h => (hd d h).2
    refine hR.2 [2, 21] 400 _ _ _ _ ?_
    conv => whnf
    refine br_t ((nI_leI (by omega) (by omega)).mpr (by omega)) ?_
    conv => whnf
    refine je_for (P := fun c => ∀ G', Fr1 4 r G G' → hasD G' r (G 1 n 0) → (∀ e, e < c → G' 4 r 2 e = oI (gl (G 1 n 0) e) ∧ G' 4 r 3 e = oI (nx (G 1 n 0) e)) → J G' 21 [some (jR (4, r, 0)), some (jR (1, n, 0)), some (jI (nI c))] []) 35 ?_ ?_ 0 (Nat.zero_le _) G' hf hD0 (fun e he => absurd he (Nat.not_lt_zero e))
    · intro G' hf hD hgn
      refine hR.2 [2, 21] 400 _ _ _ _ ?_
      conv => whnf
      refine br_t ((nI_leI (by omega) (by omega)).mpr (by omega)) ?_
      conv => whnf
      refine je_v0v hR kX4_find_58 rfl (c_orderTurns l G' r (G 1 n 0) hD (fun c hc => (hgn c hc).1)) rfl ?_
      intro G2 hq
      obtain ⟨tr, tc, rfl, hok⟩ := hq
      refine hR.2 [] 400 _ _ _ _ ?_
      conv => whnf
      refine ⟨rfl, hf.set.set, ?_, ?_, ?_, ?_, hDs⟩
      · intro d hd c hc
        rw [je_set_ne (by omega), je_set_ne (by omega)]
        exact hD d hd c hc
      · intro c hc
        rw [je_set_ne (by omega), je_set_ne (by omega)]
        exact (hgn c hc).1
      · intro c hc
        rw [je_set_ne (by omega), je_set_ne (by omega)]
        exact (hgn c hc).2
      · rw [je_set_ne (by omega), je_set_eq, je_set_eq]
        exact hok
    · intro c hc ih G' hf hD hgn
      refine hR.2 [2, 21] 400 _ _ _ _ ?_
      conv => whnf
      refine br_f (fun h => absurd ((nI_leI (by omega) (by omega)).mp h) (by omega)) ?_
      conv => whnf
      refine je_v2i hR kX4_find_35 rfl (c_chooseGoal l G' r n c hc (by rw [h1n G' hf]; exact hD)) rfl ?_
      intro y G2 hq
      obtain ⟨rfl, rfl⟩ := hq
      rw [h1n G2 hf]
      refine hR.2 [2, 21] 400 _ _ _ _ ?_
      conv => whnf
      refine ⟨vp_in_nI (by omega) (by omega), ?_⟩
      conv => whnf
      simp (disch := omega) only [nI_clamp, Nat.zero_add]
      have hf2 : Fr1 4 r G (je_set G2 4 r 2 (upd (G2 4 r 2) c (oI (gl (G 1 n 0) c)))) := hf.set
      have hD2 : hasD (je_set G2 4 r 2 (upd (G2 4 r 2) c (oI (gl (G 1 n 0) c)))) r (G 1 n 0) := fun d hd c hc => by rw [je_set_ne (by omega)]; exact hD d hd c hc
      refine je_v2i hR kX4_find_47 rfl (c_chooseNext l _ r n c hc (by rw [h1n _ hf2]; exact hD2) (by rw [je_set_eq, h1n _ hf2]; unfold upd; rw [if_pos rfl])) rfl ?_
      intro y G3 hq
      obtain ⟨rfl, rfl⟩ := hq
      rw [h1n _ hf2]
      refine hR.2 [2, 21] 400 _ _ _ _ ?_
      conv => whnf
      refine ⟨vp_in_nI (by omega) (by omega), ?_⟩
      conv => whnf
      simp (disch := omega) only [nI_clamp, Nat.zero_add, nI_add]
      refine ih _ hf2.set (fun d hd c hc => by rw [je_set_ne (by omega)]; exact hD2 d hd c hc) (fun e he => ?_)
      rw [je_set_eq, je_set_ne (by omega), je_set_eq, je_set_ne (by omega)]
      unfold upd
      by_cases e1 : e = c
      · subst e1
        rw [if_pos rfl, if_pos rfl]
        exact ⟨rfl, rfl⟩
      · rw [if_neg e1, if_neg e1]
        exact hgn e (by omega)
  · intro d hd ih G' hf he
    refine hR.2 [2] 400 _ _ _ _ ?_
    conv => whnf
    refine br_f (fun h => absurd ((nI_leI (by omega) (by omega)).mp h) (by omega)) ?_
    conv => whnf
    refine je_v2v hR kX4_find_10 rfl (c_measureFrom l G' r n d hd (by rw [h1n G' hf]; exact hs d hd)) rfl ?_
    intro G2 hq
    obtain ⟨hI, q, rfl⟩ := hq
    rw [h1n G' hf] at hI
    rw [h1n G' hf]
    refine hR.2 [2] 400 _ _ _ _ ?_
    conv => whnf
    simp (disch := omega) only [nI_clamp, nI_add]
    refine ih _ hf.set.set (fun e hed => ?_)
    by_cases e1 : e = d
    · subst e1
      refine ⟨hI, fun c hc => ?_⟩
      rw [je_s10, blk_at hc]
    · refine ⟨(he e (by omega)).1, fun c hc => ?_⟩
      rw [je_s10]
      unfold blk
      rw [if_neg (by omega)]
      exact (he e (by omega)).2 c hc
