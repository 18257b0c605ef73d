/-! RopedHalls$Routes: stepsTo, measureFrom -/
theorem mul35 (d : Nat) : nI d * nI 35 = nI (35 * d) := by rw [pk_mul, Nat.mul_comm]
theorem mul35' (d : Nat) : nI 35 * nI d = nI (35 * d) := pk_mul 35 d
set_option maxHeartbeats 4000000 in
set_option maxRecDepth 100000 in
theorem c_stepsTo (l : Launch) (G : je_G) (r d c : Nat) (hd : d < 4) (hc : c < 35) : je_Ci l yX4_stepsTo wsX4_stepsTo rmX4_stepsTo [jR (4, r, 0), jI (nI d), jI (nI c)] G (fun x G' => G' = G ∧ x = G 4 r 0 (35 * d + c)) := by
  refine je_met1 tbX4_stepsTo 1 okX4_stepsTo rfl (by decide +kernel) rfl (by unfold je_ret; simp) (by decide) (Nat.le_of_ble_eq_true rfl) ?_
  intro J hoks hR
  show J G 0 [some (jR (4, r, 0)), some (jI (nI d)), some (jI (nI c))] []
  refine hR.2 [] 400 _ _ _ _ ?_
  conv => whnf
  refine je_s1i hR kX4_stepsTo_1 rfl (c_isDoor l G (nI d)) rfl ?_
  intro y G' hq
  obtain ⟨rfl, ⟨h1, rfl⟩ | ⟨h1, rfl⟩⟩ := hq
  · skip
    refine hR.2 [] 400 _ _ _ _ ?_
    conv => whnf
    refine br_f (by decide) ?_
    conv => whnf
    refine je_s1i hR kX4_stepsTo_8 rfl (c_isCell l G' (nI c)) rfl ?_
    intro y G hq
    obtain ⟨rfl, ⟨h2, rfl⟩ | ⟨h2, rfl⟩⟩ := hq
    · skip
      refine hR.2 [] 400 _ _ _ _ ?_
      conv => whnf
      refine br_f (by decide) ?_
      conv => whnf
      simp only [mul35, nI_add]
      refine And.intro (vp_in_nI (by omega) (by omega)) ?_
      conv => whnf
      exact ⟨_, rfl, rfl, by rw [nI_clamp (by omega), Nat.zero_add]⟩
    · exact absurd (vp_in_nI hc (by omega)) h2
  · exact absurd (vp_in_nI hd (by omega)) h1
set_option maxHeartbeats 4000000 in
set_option maxRecDepth 100000 in
theorem c_stepsToN (l : Launch) (G : je_G) (r : Nat) (x y : Int32) (hx : ¬ vp_in x 4) : je_Ci l yX4_stepsTo wsX4_stepsTo rmX4_stepsTo [jR (4, r, 0), jI x, jI y] G (fun x G' => G' = G ∧ x = -6) := by
  refine je_met1 tbX4_stepsTo 1 okX4_stepsTo rfl (by decide +kernel) rfl (by unfold je_ret; simp) (by decide) (Nat.le_of_ble_eq_true rfl) ?_
  intro J hoks hR
  show J G 0 [some (jR (4, r, 0)), some (jI x), some (jI y)] []
  refine hR.2 [] 400 _ _ _ _ ?_
  conv => whnf
  refine je_s1i hR kX4_stepsTo_1 rfl (c_isDoor l G x) rfl ?_
  intro z G' hq
  obtain ⟨rfl, ⟨h1, rfl⟩ | ⟨h1, rfl⟩⟩ := hq
  · exact absurd h1 hx
  · skip
    refine hR.2 [] 400 _ _ _ _ ?_
    conv => whnf
    refine br_t (by decide) ?_
    conv => whnf
    exact ⟨_, rfl, rfl, rfl⟩
/-- a door's block of distances among the others -/
def blk (d : Nat) (f : Nat → Nat) (st : Sg) : Sg := fun i => if 35 * d ≤ i ∧ i < 35 * d + 35 then dI (f (i - 35 * d)) else st i
def blkK (d k : Nat) (st : Sg) : Sg := fun i => if 35 * d ≤ i ∧ i < 35 * d + k then -6 else st i
theorem blkK_0 (d : Nat) (st : Sg) : blkK d 0 st = st := by
  funext i
  unfold blkK
  rw [if_neg (by omega)]
theorem blkK_1 (d k : Nat) (st : Sg) : upd (blkK d k st) (35 * d + k) (-6) = blkK d (k + 1) st := by
  funext i
  unfold upd blkK
  by_cases h : i = 35 * d + k
  · rw [if_pos h, if_pos (by omega)]
  · rw [if_neg h]
    by_cases h2 : 35 * d ≤ i ∧ i < 35 * d + k
    · rw [if_pos h2, if_pos (by omega)]
    · rw [if_neg h2, if_neg (by omega)]
theorem blkK_35 (d : Nat) (st : Sg) : blkK d 35 st = blk d (fun _ => 100) st := by
  funext i
  unfold blk blkK
  split <;> rfl
theorem blk_upd {d o v : Nat} {f : Nat → Nat} {st : Sg} (ho : o < 35) : upd (blk d f st) (35 * d + o) (dI v) = blk d (fun c => if c = o then v else f c) st := by
  funext i
  unfold upd blk
  by_cases h : i = 35 * d + o
  · rw [if_pos h, if_pos (by omega)]
    dsimp only
    rw [if_pos (by omega)]
  · rw [if_neg h]
    by_cases h2 : 35 * d ≤ i ∧ i < 35 * d + 35
    · rw [if_pos h2, if_pos h2]
      dsimp only
      rw [if_neg (by omega)]
    · rw [if_neg h2, if_neg h2]
theorem blk_at {d o : Nat} {f : Nat → Nat} {st : Sg} (ho : o < 35) : blk d f st (35 * d + o) = dI (f o) := by
  unfold blk
  rw [if_pos (by omega)]
  congr 2
  omega
theorem blk_cong {d : Nat} {f g : Nat → Nat} {st : Sg} (h : ∀ c, c < 35 → f c = g c) : blk d f st = blk d g st := by
  funext i
  unfold blk
  by_cases h2 : 35 * d ≤ i ∧ i < 35 * d + 35
  · rw [if_pos h2, if_pos h2, h _ (by omega)]
  · rw [if_neg h2, if_neg h2]
theorem dI_lt {n : Nat} (h : n < 100) : dI n = nI n := if_pos h
theorem dI_ge {n : Nat} (h : ¬ n < 100) : dI n = -6 := if_neg h
theorem nI_ne6 {n : Nat} (h : n < 2 ^ 31) : ¬ nI n = -6 := fun e => nI_pos h (by rw [e]; decide)
theorem je_sw10 {G : je_G} {c n : Nat} {a b : Sg} : je_set (je_set G c n 1 b) c n 0 a = je_set (je_set G c n 0 a) c n 1 b := by
  funext c' n' r'
  simp only [je_rd]
  by_cases h0 : (r' = 0 ∧ c' = c) ∧ n' = n
  · rw [if_pos h0, if_neg (by omega), if_pos h0]
  · rw [if_neg h0, if_neg h0]
theorem je_s10 {G : je_G} {c n : Nat} {a b : Sg} : je_set (je_set G c n 0 a) c n 1 b c n 0 = a := by
  rw [je_set_ne (by omega), je_set_eq]
theorem dcell_nI {σ : Sg} {d : Nat} (hs : vp_in (σ (5 + d)) 35) : dcell σ d < 35 ∧ σ (5 + d) = nI (dcell σ d) := by
  obtain ⟨j, hj, e⟩ := vp_in_of hs (by omega)
  have e2 : dcell σ d = j := by unfold dcell; rw [e, nI_clamp (by omega)]
  rw [e2]
  exact ⟨hj, e⟩
