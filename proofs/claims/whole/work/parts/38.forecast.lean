/-! RopedHalls$Forecast: what would be -/
theorem go1_at {q : Sg × Sg} {c o i : Nat} (hc : c < 35) (ho : o < 35) (h : i < 3 ∨ (4 < i ∧ i < 21) ∨ 56 ≤ i) : (go1 q c o).1 i = q.1 i := by
  simp only [go1]
  generalize (if q.1 0 - q.1 (21 + o) < q.1 (21 + c) - q.2 c then q.1 0 - q.1 (21 + o) else q.1 (21 + c) - q.2 c) = m
  split
  · show upd _ _ _ i = _
    rw [pk_un (by omega), pk_un (by omega)]
  · show upd _ _ _ i = _
    rw [pk_un (by omega), pk_un (by omega), pk_un (by omega), pk_un (by omega)]
theorem trs_at {ν : Nat → Nat} {i : Nat} (h : i < 3 ∨ (4 < i ∧ i < 21) ∨ 56 ≤ i) : ∀ (L : List Nat) (q : Sg × Sg), (∀ c ∈ L, c < 35 ∧ ν c < 35) → (L.foldl (fun q c => go1 q c (ν c)) q).1 i = q.1 i
  | [], q, _ => rfl
  | c :: L, q, hν => by
    rw [List.foldl_cons, trs_at h L _ (fun c hc => hν c (List.mem_cons_of_mem _ hc)), go1_at (hν c List.mem_cons_self).1 (hν c List.mem_cons_self).2 h]
/-- what a minute leaves as it is: doors, rates, openings, guards, ropes, room, who came -/
theorem mnt_at {ν : Nat → Nat} {L : List Nat} {σ : Sg} (hs : ∀ d, d < 4 → dcell σ d < 35) (hν : ∀ c ∈ L, c < 35 ∧ ν c < 35) {i : Nat} (h : i = 0 ∨ i = 2 ∨ (4 < i ∧ i < 17) ∨ 56 ≤ i) : mnt ν L σ i = σ i := by
  have hs2 : ∀ d, d < 4 → dcell (tick σ) d < 35 := fun d hd => by
    have e : dcell (tick σ) d = dcell σ d := by
      unfold dcell tick upd
      rw [if_neg (by omega)]
    rw [e]
    exact hs d hd
  unfold mnt trs
  rw [trs_at (by omega) L _ hν]
  show (ds (tick σ) 4).1 i = σ i
  rw [(ds_at hs2 (by omega) 4 (Nat.le_refl _)).1]
  unfold tick upd
  rw [if_neg (by omega)]
theorem mnt_dc {ν : Nat → Nat} {L : List Nat} {σ : Sg} (hs : ∀ d, d < 4 → vp_in (σ (5 + d)) 35) (hν : ∀ c ∈ L, c < 35 ∧ ν c < 35) : ∀ d, d < 4 → vp_in (mnt ν L σ (5 + d)) 35 := fun d hd => by
  rw [mnt_at (fun d hd => (dcell_nI (hs d hd)).1) hν (by omega)]
  exact hs d hd
/-- minutes pass until left is 0 -/
def ruo (ν : Nat → Nat) (L : List Nat) : Nat → Nat → Sg → Int32 → Int32 × Sg
  | 0, m, s, left => (if left = 0 then nI m else -6, s)
  | f + 1, m, s, left => if left = 0 then (nI m, s) else ruo ν L f (m + 1) (mnt ν L s) (left - outs s)
set_option maxHeartbeats 4000000 in
set_option maxRecDepth 100000 in
theorem c_stranded0 (l : Launch) (G : je_G) : je_Ci l yX0_stranded wsX0_stranded rmX0_stranded [jR (0, 0, 0)] G (fun y G' => G' = G ∧ y = isum (fun c => if G 4 1 2 c = -6 then G 1 9 0 (21 + c) else nI 0) 35) := by
  refine je_met1 tbX0_stranded 1 okX0_stranded rfl (by decide +kernel) rfl (by unfold je_ret; simp) (by decide) (Nat.le_of_ble_eq_true rfl) ?_
  intro J hoks hR
  show J G 0 [some (jR (0, 0, 0))] []
  refine hR.2 [] 400 _ _ _ _ ?_
  conv => whnf
  refine je_v1i hR kX0_stranded_8 rfl (c_stranded4 l G 1 9) rfl ?_
  intro y G' hq
  obtain ⟨rfl, rfl⟩ := hq
  refine hR.2 [] 400 _ _ _ _ ?_
  conv => whnf
  exact ⟨_, rfl, rfl, rfl⟩
set_option maxHeartbeats 4000000 in
set_option maxRecDepth 100000 in
theorem c_unevenness0 (l : Launch) (G : je_G) : je_Ci l yX0_unevenness wsX0_unevenness rmX0_unevenness [jR (0, 0, 0)] G (fun r G' => G' = G ∧ r = (unv (G 1 9 0) 4).1 - (unv (G 1 9 0) 4).2) := by
  refine je_met1 tbX0_unevenness 1 okX0_unevenness rfl (by decide +kernel) rfl (by unfold je_ret; simp) (by decide) (Nat.le_of_ble_eq_true rfl) ?_
  intro J hoks hR
  show J G 0 [some (jR (0, 0, 0))] []
  refine hR.2 [] 400 _ _ _ _ ?_
  conv => whnf
  refine je_v0i hR kX0_unevenness_4 rfl (c_unevenness l G 9) rfl ?_
  intro y G' hq
  obtain ⟨rfl, rfl⟩ := hq
  refine hR.2 [] 400 _ _ _ _ ?_
  conv => whnf
  exact ⟨_, rfl, rfl, rfl⟩
set_option maxHeartbeats 4000000 in
set_option maxRecDepth 100000 in
theorem c_waited0 (l : Launch) (G : je_G) : je_Ci l yX0_waited wsX0_waited rmX0_waited [jR (0, 0, 0)] G (fun r G' => G' = G ∧ r = G 1 9 0 3) := by
  refine je_met1 tbX0_waited 1 okX0_waited rfl (by decide +kernel) rfl (by unfold je_ret; simp) (by decide) (Nat.le_of_ble_eq_true rfl) ?_
  intro J hoks hR
  show J G 0 [some (jR (0, 0, 0))] []
  refine hR.2 [] 400 _ _ _ _ ?_
  conv => whnf
  exact ⟨_, rfl, rfl, rfl⟩
set_option maxHeartbeats 4000000 in
set_option maxRecDepth 100000 in
theorem c_startFrom (l : Launch) (G : je_G) (n : Nat) (hn : n < 9) (hb : bits (G 1 n 0)) (hs : ∀ d, d < 4 → vp_in (G 1 n 0 (5 + d)) 35) : je_Cv l yX0_startFrom wsX0_startFrom rmX0_startFrom [jR (0, 0, 0), jR (1, n, 0)] G (fun G' => Fr1 4 1 (je_set G 1 9 0 (G 1 n 0)) G' ∧ Wy G' 1 (G 1 n 0)) := by
  refine je_met1 tbX0_startFrom 0 okX0_startFrom rfl (by decide +kernel) rfl (by unfold je_ret; simp) (by decide) (Nat.le_of_ble_eq_true rfl) ?_
  intro J hoks hR
  show J G 0 [some (jR (0, 0, 0)), some (jR (1, n, 0))] []
  refine hR.2 [] 400 _ _ _ _ ?_
  conv => whnf
  refine je_v1v hR kX0_startFrom_5 rfl (c_copyFrom l G 9 n (by omega) hb) rfl ?_
  intro G' hq
  subst hq
  refine hR.2 [] 400 _ _ _ _ ?_
  conv => whnf
  refine je_v1v hR kX0_startFrom_16 rfl (c_find l _ 1 9 (by rw [je_set_eq]; exact hs)) rfl ?_
  intro G' hq
  rw [je_set_eq] at hq
  refine hR.2 [] 400 _ _ _ _ ?_
  conv => whnf
  exact ⟨rfl, hq⟩
/-- a rope turned -/
def turn (σ : Sg) (e : Nat) : Sg := upd σ (91 + e) (if σ (91 + e) = 0 then nI 1 else nI 0)
set_option maxHeartbeats 4000000 in
set_option maxRecDepth 100000 in
theorem c_startWith (l : Launch) (G : je_G) (n e : Nat) (he : e < 70) (hn : n < 9) (hb : bits (G 1 n 0)) (hs : ∀ d, d < 4 → vp_in (G 1 n 0 (5 + d)) 35) : je_Cv l yX0_startWithRopeTurned wsX0_startWithRopeTurned rmX0_startWithRopeTurned [jR (0, 0, 0), jR (1, n, 0), jI (nI e)] G (fun G' => Fr1 4 1 (je_set G 1 9 0 (turn (G 1 n 0) e)) G' ∧ Wy G' 1 (turn (G 1 n 0) e)) := by
  refine je_met1 tbX0_startWithRopeTurned 0 okX0_startWithRopeTurned rfl (by decide +kernel) rfl (by unfold je_ret; simp) (by decide) (Nat.le_of_ble_eq_true rfl) ?_
  intro J hoks hR
  show J G 0 [some (jR (0, 0, 0)), some (jR (1, n, 0)), some (jI (nI e))] []
  have fin : J (je_set G 1 9 0 (turn (G 1 n 0) e)) 41 [some (jR (0, 0, 0)), some (jR (1, n, 0)), some (jI (nI e))] [] := by
    refine hR.2 [] 400 _ _ _ _ ?_
    conv => whnf
    refine je_v1v hR kX0_startWithRopeTurned_49 rfl (c_find l _ 1 9 (fun d hd => by rw [je_set_eq]; unfold turn upd; rw [if_neg (by omega)]; exact hs d hd)) rfl ?_
    intro G' hq
    rw [je_set_eq] at hq
    refine hR.2 [] 400 _ _ _ _ ?_
    conv => whnf
    exact ⟨rfl, hq⟩
  refine hR.2 [] 400 _ _ _ _ ?_
  conv => whnf
  refine je_v1v hR kX0_startWithRopeTurned_5 rfl (c_copyFrom l G 9 n (by omega) hb) rfl ?_
  intro G' hq
  subst hq
  refine hR.2 [41] 400 _ _ _ _ ?_
  conv => whnf
  refine je_s1i hR kX0_startWithRopeTurned_9 rfl (c_isEdge l _ (nI e)) rfl ?_
  intro y G' hq
  obtain ⟨rfl, ⟨h2, rfl⟩ | ⟨h2, rfl⟩⟩ := hq
  · skip
    refine hR.2 [41] 400 _ _ _ _ ?_
    conv => whnf
    refine br_f (by decide) ?_
    conv => whnf
    refine ⟨vp_in_nI (by omega) (by omega), ?_⟩
    conv => whnf
    simp only [je_set_eq]
    rw [nI_clamp (by omega)]
    refine ⟨fun h3 => ?_, fun h3 => ?_⟩
    · conv => whnf
      refine And.intro (vp_in_nI (by omega) (by omega)) ?_
      conv => whnf
      refine And.intro (Or.inl rfl) ?_
      conv => whnf
      simp only [je_set_eq, je_set_set]
      rw [nI_clamp (by omega)]
      unfold turn at fin
      rw [if_neg h3] at fin
      exact fin
    · conv => whnf
      refine And.intro (vp_in_nI (by omega) (by omega)) ?_
      conv => whnf
      refine And.intro (Or.inr rfl) ?_
      conv => whnf
      simp only [je_set_eq, je_set_set]
      rw [nI_clamp (by omega)]
      unfold turn at fin
      rw [if_pos h3] at fin
      exact fin
  · exact absurd (vp_in_nI he (by omega)) h2
set_option maxHeartbeats 4000000 in
set_option maxRecDepth 100000 in
theorem c_runUntilOut (l : Launch) (G : je_G) (L : List Nat) (ν : Nat → Nat) (hs : ∀ d, d < 4 → vp_in (G 1 9 0 (5 + d)) 35) (hL : okT L (G 4 1 4) (G 4 1 5)) (hlen : L.length ≤ 35) (hν : ∀ c ∈ L, c < 35 ∧ ν c < 35 ∧ G 4 1 3 c = nI (ν c)) : je_Ci l yX0_runUntilOut wsX0_runUntilOut rmX0_runUntilOut [jR (0, 0, 0)] G (fun x G' => (∃ φ, G' = je_set (je_set G 1 9 0 (ruo ν L 400 0 (G 1 9 0) (isum (fun c => G 1 9 0 (21 + c)) 35 - isum (fun c => if G 4 1 2 c = -6 then G 1 9 0 (21 + c) else nI 0) 35)).2) 2 1 0 φ) ∧ x = (ruo ν L 400 0 (G 1 9 0) (isum (fun c => G 1 9 0 (21 + c)) 35 - isum (fun c => if G 4 1 2 c = -6 then G 1 9 0 (21 + c) else nI 0) 35)).1) := by
  refine je_met1 tbX0_runUntilOut 1 okX0_runUntilOut rfl (by decide +kernel) rfl (by unfold je_ret; simp) (by decide) (Nat.le_of_ble_eq_true rfl) ?_
  intro J hoks hR
  show J G 0 [some (jR (0, 0, 0)), none, none] []
  have hν2 : ∀ c ∈ L, c < 35 ∧ ν c < 35 := fun c hc => ⟨(hν c hc).1, (hν c hc).2.1⟩
  have h4 : ∀ a b x, je_set (je_set G 1 9 0 a) 2 1 0 b 4 1 x = G 4 1 x := fun a b x => by rw [je_set_ne (by omega), je_set_ne (by omega)]
  refine hR.2 [] 400 _ _ _ _ ?_
  conv => whnf
  refine je_v0i hR kX0_runUntilOut_4 rfl (c_peopleInside l G 9) rfl ?_
  intro y G' hq
  obtain ⟨rfl, rfl⟩ := hq
  refine hR.2 [] 400 _ _ _ _ ?_
  conv => whnf
  refine je_v1i hR kX0_runUntilOut_15 rfl (c_stranded4 l G' 1 9) rfl ?_
  intro y G hq
  obtain ⟨rfl, rfl⟩ := hq
  refine hR.2 [22] 400 _ _ _ _ ?_
  conv => whnf
  generalize hlf : isum (fun c => G 1 9 0 (21 + c)) 35 - isum (fun c => if G 4 1 2 c = -6 then G 1 9 0 (21 + c) else nI 0) 35 = left at hR ⊢
  clear hlf
  have key : ∀ (j k : Nat) (s φ : Sg) (lf : Int32), k + j = 400 → (∀ d, d < 4 → vp_in (s (5 + d)) 35) → ruo ν L j k s lf = ruo ν L 400 0 (G 1 9 0) left → J (je_set (je_set G 1 9 0 s) 2 1 0 φ) 22 [some (jR (0, 0, 0)), some (jI lf), some (jI (nI k))] [] := by
    intro j
    induction j with
    | zero =>
      intro k s φ lf hk hds he
      have hk4 : k = 400 := by omega
      subst hk4
      refine hR.2 [22] 400 _ _ _ _ ?_
      conv => whnf
      refine br_t ((nI_leI (by omega) (by omega)).mpr (by omega)) ?_
      conv => whnf
      refine ⟨fun h => ?_, fun h => ?_⟩
      · conv => whnf
        refine ⟨_, rfl, ⟨φ, ?_⟩, ?_⟩
        · rw [← he]; rfl
        · rw [← he]
          show -6 = if lf = 0 then nI 400 else -6
          rw [if_neg h]
      · conv => whnf
        refine ⟨_, rfl, ⟨φ, ?_⟩, ?_⟩
        · rw [← he]; rfl
        · rw [← he]
          show nI 400 = if lf = 0 then nI 400 else -6
          rw [if_pos h]
    | succ j ih =>
      intro k s φ lf hk hds he
      refine hR.2 [22] 400 _ _ _ _ ?_
      conv => whnf
      refine br_f (fun h => absurd ((nI_leI (by omega) (by omega)).mp h) (by omega)) ?_
      conv => whnf
      refine ⟨fun h => ?_, fun h => ?_⟩
      · conv => whnf
        refine je_v2i hR kX0_runUntilOut_48 rfl (c_run l _ 1 9 1 L ν (by rw [je_r21, je_set_eq]; exact hds) (by rw [h4, h4]; exact hL) hlen (fun c hc => by rw [h4]; exact hν c hc)) rfl ?_
        intro y G' hq
        obtain ⟨⟨φ', rfl⟩, rfl⟩ := hq
        refine hR.2 [22] 400 _ _ _ _ ?_
        conv => whnf
        simp only [je_set_set, je_set_eq, je_sw21, je_r12, je_r21, nI_add]
        refine ih (k + 1) _ _ _ (by omega) (mnt_dc hds hν2) ?_
        rw [← he]
        show _ = if lf = 0 then _ else _
        rw [if_neg h]
      · conv => whnf
        refine ⟨_, rfl, ⟨φ, ?_⟩, ?_⟩
        · rw [← he, ruo, if_pos h]
        · rw [← he, ruo, if_pos h]
  refine (show J (je_set (je_set G 1 9 0 (G 1 9 0)) 2 1 0 (G 2 1 0)) 22 [some (jR (0, 0, 0)), some (jI left), some (jI (nI 0))] [] → _ from fun h => by rw [je_set_id, je_set_id] at h; exact h) ?_
  exact key 400 0 _ _ _ rfl hs rfl
