/-! THE REFERENCE: emptied -/
theorem gl_some {σ : Sg} {c d : Nat} (hd : d < 4) (h : leads σ d c) : gl σ c ≠ none := by
  intro e
  unfold gl at e
  split at e
  · cases e
  · exact (glp_best (σ := σ) (c := c) 4).1 e d hd h
theorem gl_door {σ : Sg} {d : Nat} (hd : d < 4) (hD : isD σ d (dst σ d)) (ho : ¬ σ (13 + d) = 0) : gl σ (dcell σ d) ≠ none := gl_some hd ⟨ho, by rw [hD.1]; omega⟩
theorem gl_tl {σ : Sg} (hD : allD σ) {c : Nat} (h : c ∈ tl σ) : gl σ c ≠ none ∧ gl σ (nu σ c) ≠ none := by
  obtain ⟨h1, h2, h3⟩ := tl_mem hD h
  unfold nx at h3
  cases hg : gl σ c with
  | none => rw [hg] at h3; cases h3
  | some g =>
    rw [hg] at h3
    dsimp only at h3
    split at h3
    · obtain ⟨w, hw, hn⟩ := nxw_ok h3
      obtain ⟨hg4, hl⟩ := gl_ok hg
      exact ⟨fun h => (by cases h), gl_some hg4 ⟨hl.1, by have := (nr_ok hn).2; have := hl.2; omega⟩⟩
    · cases h3
theorem oI_ne {o : Option Nat} (h : ∀ b, o = some b → b < 2 ^ 31) : oI o = -6 ↔ o = none := by
  cases o with
  | none => exact ⟨fun _ => rfl, fun _ => rfl⟩
  | some b => exact ⟨fun h2 => absurd h2 (nI_ne6 (h b rfl)), fun h2 => by cases h2⟩
theorem gl_6 {σ : Sg} {c : Nat} : oI (gl σ c) = -6 ↔ gl σ c = none := oI_ne (fun b h => by have := (gl_ok h).1; omega)
theorem isum_nI {f : Nat → Int32} {p : Nat → Nat} : ∀ n, (∀ c, c < n → f c = nI (p c)) → isum f n = nI (fb_sm p n)
  | 0, _ => rfl
  | n + 1, h => by
    show isum f n + f n = _
    rw [isum_nI n (fun c hc => h c (by omega)), h n (by omega), nI_add]
    rfl
theorem fb_sm_bd {p : Nat → Nat} {b : Nat} : ∀ n, (∀ c, c < n → p c ≤ b) → fb_sm p n ≤ b * n
  | 0, _ => Nat.zero_le _
  | n + 1, h => by
    have h1 := fb_sm_bd n (fun c hc => h c (by omega))
    have h2 := h n (by omega)
    rw [fb_sm_succ, Nat.mul_succ]
    omega
theorem InvS.nums {T : Nat} {σ : Sg} (h : InvS T σ) (g : Sg) : ∃ P Q : Nat, ppl σ = nI P ∧ shu g σ = nI Q ∧ Q ≤ P ∧ P ≤ 700 := by
  obtain ⟨rm, t, p, o, h1, h2, h3, h4⟩ := h
  refine ⟨fb_sm p 35, fb_sm (fun c => if g c = -6 then p c else 0) 35, isum_nI 35 (fun c hc => (h3 c hc).1), isum_nI 35 (fun c hc => ?_), fb_sm_le (fun c hc => ?_), ?_⟩
  · by_cases e : g c = -6
    · rw [if_pos e, if_pos e]; exact (h3 c hc).1
    · rw [if_neg e, if_neg e]
  · split <;> omega
  · exact Nat.le_trans (fb_sm_bd (b := 20) 35 (fun c hc => by have := (h3 c hc).2; omega)) (by omega)
/-- the goals of the hall τ stand in the reference's row -/
def goaN (g τ : Sg) : Prop := (∀ c, c < 35 → g c = oI (gl τ c)) ∧ allD τ
theorem laid_goa {G : je_G} {τ : Sg} (h : laid G τ) : goaN (G 6 0 9) τ := ⟨fun c hc => (h.2.2 c hc).1, h.2.1⟩
theorem goa_std {g τ : Sg} (h : goaN g τ) : shu g τ = std τ := by
  unfold shu std
  exact isum_cong (fun k hk => by rw [h.1 k hk])
/-- doors and openings as in τ -/
def sameD (σ τ : Sg) : Prop := ∀ d, d < 4 → dcell σ d = dcell τ d ∧ σ (13 + d) = τ (13 + d)
theorem shu_keep {g σ τ : Sg} (hg : goaN g τ) (hs : ∀ d, d < 4 → dcell σ d < 35) (hd : sameD σ τ) (hν : ∀ c ∈ tl τ, c < 35 ∧ nu τ c < 35 ∧ nu τ c ≠ c) : shu g (mnt (nu τ) (tl τ) σ) = shu g σ := by
  refine shu_mnt hs (fun c hc => ?_) (fun d hd4 ho => ?_)
  · obtain ⟨h1, h2, -⟩ := hν c hc
    obtain ⟨h3, h4⟩ := gl_tl hg.2 hc
    exact ⟨by rw [hg.1 c h1]; exact fun h => h3 (gl_6.mp h), by rw [hg.1 _ h2]; exact fun h => h4 (gl_6.mp h)⟩
  · have hdc := hs d hd4
    rw [(hd d hd4).1] at hdc ⊢
    rw [(hd d hd4).2] at ho
    rw [hg.1 _ hdc]
    exact fun h => gl_door hd4 (hg.2 d hd4) ho (gl_6.mp h)
theorem sameD_mnt {σ τ : Sg} {ν : Nat → Nat} {L : List Nat} (hs : ∀ d, d < 4 → dcell σ d < 35) (hd : sameD σ τ) (hν : ∀ c ∈ L, c < 35 ∧ ν c < 35) : sameD (mnt ν L σ) τ := fun d hd4 => by
  have e := (hd d hd4)
  refine ⟨?_, by rw [mnt_at hs hν (by omega)]; exact e.2⟩
  rw [← e.1]
  unfold dcell
  rw [mnt_at hs hν (by omega)]
theorem InvS.dc {T : Nat} {σ : Sg} (h : InvS T σ) : ∀ d, d < 4 → dcell σ d < 35 := fun d hd => (dcell_nI (h.doors d hd)).1
theorem ruo_s {ν : Nat → Nat} {L : List Nat} {f m : Nat} {s : Sg} {left : Int32} (h : ¬ left = 0) : ruo ν L (f + 1) m s left = ruo ν L f (m + 1) (mnt ν L s) (left - outs s) := by
  rw [ruo]; exact if_neg h
theorem ruo_z {ν : Nat → Nat} {L : List Nat} {f m : Nat} {s : Sg} {left : Int32} (h : left = 0) : ruo ν L f m s left = (nI m, s) := by
  cases f with
  | zero => rw [ruo, if_pos h]
  | succ f => rw [ruo]; exact if_pos h
theorem i_subsw {a b c : Int32} : a - b - c = a - c - b := by
  simp only [Int32.sub_eq_add_neg]
  exact i_sw
set_option maxHeartbeats 4000000 in
set_option maxRecDepth 100000 in
theorem m_emptied (l : Launch) (G : je_G) (τ : Sg) (T : Nat) (hT : T < 50000) (hI : InvS T (G 6 0 0)) (hW : wayN G τ) (hg : goaN (G 6 0 9) τ) (hd : sameD (G 6 0 0) τ) : je_Ci l yX6_emptied wsX6_emptied rmX6_emptied [jR (6, 0, 0)] G (fun r G' => r = (ruo (nu τ) (tl τ) 400 0 (G 6 0 0) (ppl (G 6 0 0) - shu (G 6 0 9) (G 6 0 0))).1 ∧ ∃ φ, G' = je_set (je_set G 6 0 0 (ruo (nu τ) (tl τ) 400 0 (G 6 0 0) (ppl (G 6 0 0) - shu (G 6 0 9) (G 6 0 0))).2) 6 0 12 φ) := by
  refine je_met1 tbX6_emptied 1 okX6_emptied rfl (by decide +kernel) rfl (by unfold je_ret; simp) (by decide) (Nat.le_of_ble_eq_true rfl) ?_
  intro J hoks hR
  show J G 0 [some (jR (6, 0, 0)), none] []
  have hν : ∀ c ∈ tl τ, c < 35 ∧ nu τ c < 35 ∧ nu τ c ≠ c := fun c hc => by obtain ⟨x1, x2, x3, x4⟩ := hW.2 c hc; exact ⟨x1, x2, x3⟩
  have hν2 : ∀ c ∈ tl τ, c < 35 ∧ nu τ c < 35 := fun c hc => ⟨(hν c hc).1, (hν c hc).2.1⟩
  have e0 : ∀ s φ, je_set (je_set G 6 0 0 s) 6 0 12 φ 6 0 0 = s := fun s φ => by rw [je_r6b, je_set_eq]
  have e9 : ∀ s φ, je_set (je_set G 6 0 0 s) 6 0 12 φ 6 0 9 = G 6 0 9 := fun s φ => by rw [je_set_ne (by omega), je_set_ne (by omega)]
  have e10 : ∀ s φ, je_set (je_set G 6 0 0 s) 6 0 12 φ 6 0 10 = G 6 0 10 := fun s φ => by rw [je_set_ne (by omega), je_set_ne (by omega)]
  have e11 : ∀ s φ, je_set (je_set G 6 0 0 s) 6 0 12 φ 6 0 11 = G 6 0 11 := fun s φ => by rw [je_set_ne (by omega), je_set_ne (by omega)]
  generalize hR0 : ruo (nu τ) (tl τ) 400 0 (G 6 0 0) (ppl (G 6 0 0) - shu (G 6 0 9) (G 6 0 0)) = R at hR
  generalize hg9 : G 6 0 9 = g at *
  -- the end
  have fin : ∀ (i : Nat) (s φ : Sg) (P Q : Nat), ppl s = nI P → shu g s = nI Q → Q ≤ P → P ≤ 700 → R = ((if P ≤ Q then nI i else -6), s) → J (je_set (je_set G 6 0 0 s) 6 0 12 φ) 30 [some (jR (6, 0, 0)), some (jI (nI i))] [] := by
    intro i s φ P Q hP hQ hPQ hP7 hres
    refine hR.2 [] 400 _ _ _ _ ?_
    conv => whnf
    refine je_v0i hR kX6_emptied_31 rfl (m_people l _) rfl ?_
    intro y G' hq
    obtain ⟨rfl, rfl⟩ := hq
    rw [e0, hP]
    refine hR.2 [] 400 _ _ _ _ ?_
    conv => whnf
    refine je_v0i hR kX6_emptied_35 rfl (m_shutIn l _) rfl ?_
    intro y G' hq
    obtain ⟨rfl, rfl⟩ := hq
    rw [e0, e9, hQ]
    refine hR.2 [] 400 _ _ _ _ ?_
    conv => whnf
    by_cases h : P ≤ Q
    · refine br_t ((nI_leI (by omega) (by omega)).mpr h) ?_
      conv => whnf
      exact ⟨_, rfl, by rw [hres, if_pos h], φ, by rw [hres]⟩
    · refine br_f (fun h2 => h ((nI_leI (by omega) (by omega)).mp h2)) ?_
      conv => whnf
      exact ⟨_, rfl, by rw [hres, if_neg h], φ, by rw [hres]⟩
  have loop : ∀ i, i ≤ 400 → ∀ s φ : Sg, InvS (T + i) s → sameD s τ → R = ruo (nu τ) (tl τ) (400 - i) i s (ppl s - shu g s) → J (je_set (je_set G 6 0 0 s) 6 0 12 φ) 2 [some (jR (6, 0, 0)), some (jI (nI i))] [] := by
    refine je_for 400 ?_ ?_
    · intro s φ hIs hds hres
      obtain ⟨P, Q, hP, hQ, hPQ, hP7⟩ := hIs.nums g
      have fin2 := fin 400 s φ P Q hP hQ hPQ hP7 (by
        rw [hres, ruo, hP, hQ, pk_sub hPQ]
        by_cases h : P ≤ Q
        · rw [if_pos h, if_pos (by rw [show P - Q = 0 by omega]; rfl)]
        · rw [if_neg h, if_neg (show ¬ nI (P - Q) = (0 : Int32) from fun e => absurd ((nI_eq (b := 0) (by omega) (by omega)).mp e) (by omega))])
      refine hR.2 [2] 400 _ _ _ _ ?_
      conv => whnf
      refine je_v0i hR kX6_emptied_3 rfl (m_people l _) rfl ?_
      intro y G' hq
      obtain ⟨rfl, rfl⟩ := hq
      rw [e0, hP]
      refine hR.2 [] 400 _ _ _ _ ?_
      conv => whnf
      refine je_v0i hR kX6_emptied_7 rfl (m_shutIn l _) rfl ?_
      intro y G' hq
      obtain ⟨rfl, rfl⟩ := hq
      rw [e0, e9, hQ]
      refine hR.2 [30] 400 _ _ _ _ ?_
      conv => whnf
      refine ⟨fun _ => ?_, fun _ => ?_⟩
      · conv => whnf
        exact fin2
      · conv => whnf
        refine br_t (by decide) ?_
        conv => whnf
        exact fin2
    · intro i hi ih s φ hIs hds hres
      obtain ⟨P, Q, hP, hQ, hPQ, hP7⟩ := hIs.nums g
      refine hR.2 [2] 400 _ _ _ _ ?_
      conv => whnf
      refine je_v0i hR kX6_emptied_3 rfl (m_people l _) rfl ?_
      intro y G' hq
      obtain ⟨rfl, rfl⟩ := hq
      rw [e0, hP]
      refine hR.2 [] 400 _ _ _ _ ?_
      conv => whnf
      refine je_v0i hR kX6_emptied_7 rfl (m_shutIn l _) rfl ?_
      intro y G' hq
      obtain ⟨rfl, rfl⟩ := hq
      rw [e0, e9, hQ]
      refine hR.2 [30, 2] 400 _ _ _ _ ?_
      conv => whnf
      by_cases h : P ≤ Q
      · refine br_t ((nI_leI (by omega) (by omega)).mpr h) ?_
        conv => whnf
        exact fin i s φ P Q hP hQ hPQ hP7 (by rw [hres, hP, hQ, pk_sub hPQ, if_pos h, ruo_z (by rw [show P - Q = 0 by omega]; rfl)])
      · refine br_f (fun h2 => h ((nI_leI (by omega) (by omega)).mp h2)) ?_
        conv => whnf
        refine br_f (fun h => absurd ((nI_leI (by omega) (by omega)).mp h) (by omega)) ?_
        conv => whnf
        refine je_v0v hR kX6_emptied_21 rfl (m_minute l _ τ (T + i) (by omega) (by rw [e0]; exact hIs) ⟨fun c hc => by rw [e10]; exact hW.1 c hc, fun c hc => by rw [e11]; exact hW.2 c hc⟩) rfl ?_
        intro G' hq
        obtain ⟨φ', rfl⟩ := hq
        rw [e0, je_sw6, je_set_set, je_set_set]
        refine hR.2 [2] 400 _ _ _ _ ?_
        conv => whnf
        rw [nI_add]
        refine ih _ φ' (InvS_mnt (T := T + i) (by omega) hIs hν) (sameD_mnt hIs.dc hds hν2) ?_
        rw [hres, show 400 - i = (400 - (i + 1)) + 1 by omega, ruo_s, ppl_mnt hIs.dc hν, shu_keep hg hIs.dc hds hν, i_subsw]
        rw [hP, hQ, pk_sub hPQ]
        exact fun e : nI (P - Q) = (0 : Int32) => absurd ((nI_eq (b := 0) (by omega) (by omega)).mp e) (by omega)
  refine hR.2 [2] 400 _ _ _ _ ?_
  conv => whnf
  refine (show J (je_set (je_set G 6 0 0 (G 6 0 0)) 6 0 12 (G 6 0 12)) 2 [some (jR (6, 0, 0)), some (jI (nI 0))] [] → _ from fun h => by rw [je_set_id, je_set_id] at h; exact h) ?_
  exact loop 0 (by omega) _ _ hI hd hR0.symm
