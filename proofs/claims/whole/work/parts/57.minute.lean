/-! THE REFERENCE: a minute -/
theorem InvS_mnt {T : Nat} {σ : Sg} {ν : Nat → Nat} {L : List Nat} (hT : T < 100000) (h : InvS T σ) (hν : ∀ c ∈ L, c < 35 ∧ ν c < 35 ∧ ν c ≠ c) : InvS (T + 1) (mnt ν L σ) := by
  obtain ⟨rm, t, p, o, h1, h2, h3, h4, h5, h6, h7, h8, h9⟩ := h
  have hs : ∀ d, d < 4 → dcell σ d < 35 := fun d hd => (dcell_nI (h4 d hd)).1
  have hs2 : ∀ d, d < 4 → dcell (tick σ) d < 35 := fun d hd => by
    have e : dcell (tick σ) d = dcell σ d := by
      unfold dcell
      rw [tick_ne (by omega)]
    rw [e]
    exact hs d hd
  have hν2 : ∀ c ∈ L, c < 35 ∧ ν c < 35 := fun c hc => ⟨(hν c hc).1, (hν c hc).2.1⟩
  have hU0 : InvU rm t 0 (tick σ) := ⟨p, o, fun c hc => by rw [tick_ne (by omega)]; exact h3 c hc, fun e he => by rw [tick_ne (by omega), if_neg (by omega)]; exact h7 e he⟩
  have hU := InvU_ds (by omega) (by omega) hs2 (fun d hd => by rw [tick_ne (by omega)]; exact h5 d hd) hU0 4 (Nat.le_refl _)
  have hF := InvF_trs (rm := rm) (by omega) L _ hν (InvF_0 (by rw [(ds_at hs2 (by omega) 4 (Nat.le_refl _)).1, tick_ne (by omega)]; exact h1.2.2) hU)
  obtain ⟨p4, o4, -, hU2⟩ := hU
  obtain ⟨-, p5, f5, hF⟩ := hF
  have hm : ∀ i, i = 0 ∨ i = 2 ∨ (4 < i ∧ i < 17) ∨ 56 ≤ i → mnt ν L σ i = σ i := fun i hi => mnt_at hs hν2 hi
  refine ⟨rm, t + 1, p5, o4, ⟨h1.1, h1.2.1, by rw [hm 0 (by omega)]; exact h1.2.2⟩, ⟨?_, by omega⟩, fun c hc => ⟨(hF c hc).1, (hF c hc).2.1⟩, fun d hd => by rw [hm _ (by omega)]; exact h4 d hd, fun d hd => by rw [hm _ (by omega)]; exact h5 d hd, fun d hd => by rw [hm _ (by omega)]; exact h6 d hd, fun e he => ?_, fun d hd => by rw [hm _ (by omega)]; exact h8 d hd, fun d hd => by rw [hm _ (by omega)]; exact h9 d hd⟩
  · unfold mnt trs
    rw [trs_at (by omega) L _ hν2]
    show (ds (tick σ) 4).1 1 = _
    rw [(ds_at hs2 (by omega) 4 (Nat.le_refl _)).1]
    unfold tick
    rw [upd_eq, h2.1, nI_add]
  · unfold mnt trs
    rw [trs_at (by omega) L _ hν2]
    have := hU2 e he
    rw [if_pos he] at this
    exact ⟨this.1, by omega⟩
theorem je_sw6 {G : je_G} {a b : Sg} : je_set (je_set G 6 0 12 b) 6 0 0 a = je_set (je_set G 6 0 0 a) 6 0 12 b := by
  funext c' n' r'
  simp only [je_rd]
  by_cases h0 : (r' = 0 ∧ c' = 6) ∧ n' = 0
  · rw [if_pos h0, if_neg (by omega), if_pos h0]
  · rw [if_neg h0, if_neg h0]
theorem je_r6a {G : je_G} {a : Sg} : je_set G 6 0 0 a 6 0 12 = G 6 0 12 := je_set_ne (by omega)
theorem je_r6b {G : je_G} {a : Sg} : je_set G 6 0 12 a 6 0 0 = G 6 0 0 := je_set_ne (by omega)
theorem min_eq {a b : Int32} : (if a ≤ b then a else b) = if a < b then a else b := by
  rcases fa_three a b with h | h | h
  · rw [if_pos h, if_pos (fa_of_lt h).1]
  · subst h
    rw [if_pos (Int32.le_refl _)]
    split <;> rfl
  · rw [if_neg (fa_of_lt h).2.1, if_neg (fa_of_lt h).2.2.1]
theorem min_le {a b : Int32} : (if a < b then a else b) ≤ b := by
  split
  · rename_i h; exact (fa_of_lt h).1
  · exact Int32.le_refl _
theorem le_asm {a b : Int32} (h1 : a ≤ b) (h2 : b ≤ a) : a = b := by
  rw [fa_le] at h1 h2
  rw [fa_eq]
  omega
set_option maxHeartbeats 4000000 in
set_option maxRecDepth 100000 in
theorem m_goes (l : Launch) (G : je_G) (c o : Nat) (hc : c < 35) (ho : o < 35) (hn : G 6 0 11 c = nI o) : je_Cv l yX6_goes wsX6_goes rmX6_goes [jR (6, 0, 0), jI (nI c)] G (fun G' => G' = je_set (je_set G 6 0 0 (go1 (G 6 0 0, G 6 0 12) c o).1) 6 0 12 (go1 (G 6 0 0, G 6 0 12) c o).2) := by
  refine je_met1 tbX6_goes 0 okX6_goes rfl (by decide +kernel) rfl (by unfold je_ret; simp) (by decide) (Nat.le_of_ble_eq_true rfl) ?_
  intro J hoks hR
  show J G 0 [some (jR (6, 0, 0)), some (jI (nI c)), none, none, none, none] []
  have fin : ∀ rd rm m : Int32, rd = G 6 0 0 (21 + c) - G 6 0 12 c → rm = G 6 0 0 0 - G 6 0 0 (21 + o) → m = (if rm < rd then rm else rd) → J G 56 [some (jR (6, 0, 0)), some (jI (nI c)), some (jI (nI o)), some (jI rd), some (jI rm), some (jI m)] [] := by
    intro rd rm m hrd hrm hm
    have hle : m ≤ rd := by rw [hm]; exact min_le
    refine hR.2 [] 400 _ _ _ _ ?_
    conv => whnf
    rw [nI_add]
    refine ⟨vp_in_nI (by omega) (by omega), ?_⟩
    conv => whnf
    refine ⟨vp_in_nI (by omega) (by omega), ?_⟩
    conv => whnf
    rw [nI_add]
    refine ⟨vp_in_nI (by omega) (by omega), ?_⟩
    conv => whnf
    refine ⟨vp_in_nI (by omega) (by omega), ?_⟩
    conv => whnf
    refine ⟨vp_in_nI (by omega) (by omega), ?_⟩
    conv => whnf
    refine ⟨vp_in_nI (by omega) (by omega), ?_⟩
    conv => whnf
    refine And.intro (vp_in_nI (by omega) (by omega)) ?_
    conv => whnf
    refine ⟨fun h => ?_, fun h => ?_⟩
    · conv => whnf
      have e : rd = m := le_asm h hle
      refine And.intro (vp_in_nI (by omega) (by omega)) ?_
      conv => whnf
      refine And.intro (vp_in_nI (by omega) (by omega)) ?_
      conv => whnf
      refine And.intro (vp_in_nI (by omega) (by omega)) ?_
      conv => whnf
      refine ⟨rfl, ?_⟩
      simp only [je_set_set, je_set_eq, je_sw6, je_r6a, je_r6b]
      simp (disch := omega) only [nI_clamp, Nat.zero_add]
      simp only [go1, ← hrd, ← hrm, ← hm, if_pos h]
      rw [e, show m - m = nI 0 from Int32.sub_self m]
      have hz : ∀ x : Int32, x + nI 0 = x := fun x => Int32.add_zero x
      simp only [hz]
      have hu : ∀ (g : Sg) i, upd g i (g i) = g := fun g i => by
        funext j
        unfold upd
        split
        · rename_i h; rw [h]
        · rfl
      rw [hu, hu]
    · conv => whnf
      refine And.intro (vp_in_nI (by omega) (by omega)) ?_
      conv => whnf
      refine And.intro (vp_in_nI (by omega) (by omega)) ?_
      conv => whnf
      refine And.intro (vp_in_nI (by omega) (by omega)) ?_
      conv => whnf
      refine ⟨rfl, ?_⟩
      simp only [je_set_set, je_set_eq, je_sw6, je_r6a, je_r6b]
      simp (disch := omega) only [nI_clamp, Nat.zero_add]
      simp only [go1, ← hrd, ← hrm, ← hm, if_neg h]
  refine hR.2 [56] 400 _ _ _ _ ?_
  conv => whnf
  refine ⟨vp_in_nI (by omega) (by omega), ?_⟩
  conv => whnf
  simp (disch := omega) only [nI_clamp, Nat.zero_add]
  rw [hn, nI_add]
  refine ⟨vp_in_nI (by omega) (by omega), ?_⟩
  conv => whnf
  refine ⟨vp_in_nI (by omega) (by omega), ?_⟩
  conv => whnf
  refine And.intro (vp_in_nI (by omega) (by omega)) ?_
  conv => whnf
  rw [nI_add]
  refine ⟨vp_in_nI (by omega) (by omega), ?_⟩
  conv => whnf
  simp (disch := omega) only [nI_clamp, Nat.zero_add]
  have f2 := fin _ _ _ rfl rfl rfl
  rw [← min_eq] at f2
  refine ⟨fun h => ?_, fun h => ?_⟩
  · conv => whnf
    rw [if_pos h] at f2
    exact f2
  · conv => whnf
    rw [if_neg h] at f2
    exact f2
