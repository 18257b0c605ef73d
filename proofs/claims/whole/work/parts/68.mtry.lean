/-! THE REFERENCE: untilOut, waiting, tries, ifRope -/
theorem InvS.mono {T T' : Nat} {σ : Sg} (h : InvS T σ) (hT : T ≤ T') : InvS T' σ := by
  obtain ⟨rm, t, p, o, h1, h2, h3⟩ := h
  exact ⟨rm, t, p, o, h1, ⟨h2.1, Nat.le_trans h2.2 hT⟩, h3⟩
theorem InvS_ruo {ν : Nat → Nat} {L : List Nat} (hν : ∀ c ∈ L, c < 35 ∧ ν c < 35 ∧ ν c ≠ c) : ∀ (f m : Nat) (T : Nat) (s : Sg) (left : Int32), T + f < 100000 → InvS T s → InvS (T + f) (ruo ν L f m s left).2
  | 0, m, T, s, left, _, h => h
  | f + 1, m, T, s, left, hT, h => by
    rw [ruo]
    split
    · exact h.mono (by omega)
    · have := InvS_ruo hν f (m + 1) (T + 1) (mnt ν L s) (left - outs s) (by omega) (InvS_mnt (by omega) h hν)
      rw [show T + (f + 1) = T + 1 + f by omega]
      exact this
theorem InvS_turn {T : Nat} {σ : Sg} {e : Nat} (h : InvS T σ) : InvS T (turn σ e) := by
  obtain ⟨rm, t, p, o, h1, h2, h3, h4, h5, h6, h7, h8, h9⟩ := h
  have hk : ∀ i, i < 91 → turn σ e i = σ i := fun i hi => upd_ne (by omega)
  refine ⟨rm, t, p, o, by rw [hk 0 (by omega)]; exact h1, by rw [hk 1 (by omega)]; exact h2, fun c hc => by rw [hk _ (by omega)]; exact h3 c hc, fun d hd => by rw [hk _ (by omega)]; exact h4 d hd, fun d hd => by rw [hk _ (by omega)]; exact h5 d hd, fun d hd => by rw [hk _ (by omega)]; exact h6 d hd, fun d hd => by rw [hk _ (by omega)]; exact h7 d hd, fun d hd => by rw [hk _ (by omega)]; exact h8 d hd, fun e2 he => ?_⟩
  unfold turn
  by_cases h10 : e2 = e
  · rw [h10, upd_eq]
    split
    · exact Or.inr rfl
    · exact Or.inl rfl
  · rw [upd_ne (by omega)]
    exact h9 e2 he
/-- recorded, saved and pad stay; the class too -/
def FrA (G G' : je_G) : Prop := ∀ c n r, (c = 6 → n = 0 → 2 ≤ r ∧ r ≤ 7) → G' c n r = G c n r
theorem FrA.rf {G : je_G} : FrA G G := fun _ _ _ _ => rfl
theorem FrA.tr {G G1 G2 : je_G} (h : FrA G G1) (h2 : FrA G1 G2) : FrA G G2 := fun c n r hc => (h2 c n r hc).trans (h c n r hc)
theorem FrA.set {G G1 : je_G} (h : FrA G G1) {r : Nat} {f : Sg} (hr : r < 2 ∨ 7 < r) : FrA G (je_set G1 6 0 r f) := fun c n r' hc => by
  rw [je_set_ne (by omega)]
  exact h c n r' hc
theorem FrA.w {G G1 G2 : je_G} (h : FrA G G1) (h2 : FrW G1 G2) : FrA G G2 := fun c n r hc => (h2 c n r (by omega)).trans (h c n r hc)
theorem FrA.m {G G1 : je_G} (h : FrA G G1) : FrM G G1 := fun c n r hc => h c n r (by omega)
theorem MR_A {G G' : je_G} {S : jS} (h : MR G S) (hf : FrA G G') (h0 : G' 6 0 0 = S.1) : MR G' S := by
  have e := MR_1 h
  exact MR_fr h (fun r hr h1 => by
    by_cases h2 : r = 0
    · rw [h2, h0, e]
    · exact hf 6 0 r (by omega))
/-- ways laid for the hall τ that stands in the reference's row: what emptied does -/
theorem m_emptyF (l : Launch) (G : je_G) (τ : Sg) (T : Nat) (hT : T < 50000) (hI : InvS T τ) (h0 : G 6 0 0 = τ) (hL : laid G τ) : je_Ci l yX6_emptied wsX6_emptied rmX6_emptied [jR (6, 0, 0)] G (fun r G' => r = (fut τ).1 ∧ ∃ φ, G' = je_set (je_set G 6 0 0 (fut τ).2) 6 0 12 φ) := by
  have h := m_emptied l G τ T hT (by rw [h0]; exact hI) (laid_way hL) (laid_goa hL) (by rw [h0]; exact fun d hd => ⟨rfl, rfl⟩)
  rw [h0, goa_std (laid_goa hL)] at h
  exact h
set_option maxHeartbeats 4000000 in
set_option maxRecDepth 100000 in
theorem m_untilOut (l : Launch) (G : je_G) (S : jS) (hM : MR G S) (hI : InvS 9999 S.1) : je_Ci l yX6_untilOut wsX6_untilOut rmX6_untilOut [jR (6, 0, 0)] G (fun y G' => y = (fut S.1).1 ∧ MR G' S ∧ FrM G G') := by
  refine je_met1 tbX6_untilOut 1 okX6_untilOut rfl (by decide +kernel) rfl (by unfold je_ret; simp) (by decide) (Nat.le_of_ble_eq_true rfl) ?_
  intro J hoks hR
  show J G 0 [some (jR (6, 0, 0)), none] []
  have h0 : G 6 0 0 = S.1 := MR_1 hM
  refine hR.2 [] 400 _ _ _ _ ?_
  conv => whnf
  refine je_v0v hR kX6_untilOut_1 rfl (m_putAside l G) rfl ?_
  intro G1 hq
  subst hq
  rw [h0]
  have q1 : je_set G 6 0 1 S.1 6 0 0 = S.1 := by rw [je_set_ne (by omega)]; exact h0
  refine hR.2 [] 400 _ _ _ _ ?_
  conv => whnf
  refine je_v0v hR kX6_untilOut_5 rfl (m_layWays l _ (by rw [q1]; exact hI.bits) (fun d hd => by rw [q1]; exact hI.doors d hd) (fun c hc => by rw [q1]; exact hI.gd c hc)) rfl ?_
  intro G2 hq
  obtain ⟨hW, hL⟩ := hq
  rw [q1] at hL
  have hA : FrA G G2 := (FrA.rf.set (by omega)).w hW
  have q2 : G2 6 0 0 = S.1 := by rw [hW 6 0 0 (by omega)]; exact q1
  have q21 : G2 6 0 1 = S.1 := by rw [hW 6 0 1 (by omega)]; exact je_set_eq
  refine hR.2 [] 400 _ _ _ _ ?_
  conv => whnf
  refine je_v0i hR kX6_untilOut_9 rfl (m_emptyF l G2 S.1 9999 (by omega) hI q2 hL) rfl ?_
  intro y G3 hq
  obtain ⟨rfl, φ, rfl⟩ := hq
  refine hR.2 [] 400 _ _ _ _ ?_
  conv => whnf
  refine je_v0v hR kX6_untilOut_14 rfl (m_putBack l _) rfl ?_
  intro G4 hq
  subst hq
  rw [show je_set (je_set G2 6 0 0 (fut S.1).2) 6 0 12 φ 6 0 1 = S.1 from by rw [je_set_ne (by omega), je_set_ne (by omega)]; exact q21]
  have hA4 : FrA G (je_set (je_set (je_set G2 6 0 0 (fut S.1).2) 6 0 12 φ) 6 0 0 S.1) := ((hA.set (by omega)).set (by omega)).set (by omega)
  refine hR.2 [] 400 _ _ _ _ ?_
  conv => whnf
  exact ⟨_, rfl, rfl, MR_A hM hA4 je_set_eq, hA4.m⟩
set_option maxHeartbeats 4000000 in
set_option maxRecDepth 100000 in
theorem m_waiting (l : Launch) (G : je_G) (S : jS) (hM : MR G S) (hI : InvS 9999 S.1) : je_Ci l yX6_waiting wsX6_waiting rmX6_waiting [jR (6, 0, 0)] G (fun y G' => y = (fut S.1).2 3 - S.1 3 ∧ MR G' S ∧ FrM G G') := by
  refine je_met1 tbX6_waiting 1 okX6_waiting rfl (by decide +kernel) rfl (by unfold je_ret; simp) (by decide) (Nat.le_of_ble_eq_true rfl) ?_
  intro J hoks hR
  show J G 0 [some (jR (6, 0, 0)), none, none, none] []
  have h0 : G 6 0 0 = S.1 := MR_1 hM
  refine hR.2 [] 400 _ _ _ _ ?_
  conv => whnf
  refine je_v0v hR kX6_waiting_1 rfl (m_putAside l G) rfl ?_
  intro G1 hq
  subst hq
  rw [h0]
  have q1 : je_set G 6 0 1 S.1 6 0 0 = S.1 := by rw [je_set_ne (by omega)]; exact h0
  refine hR.2 [] 400 _ _ _ _ ?_
  conv => whnf
  refine je_v0v hR kX6_waiting_5 rfl (m_layWays l _ (by rw [q1]; exact hI.bits) (fun d hd => by rw [q1]; exact hI.doors d hd) (fun c hc => by rw [q1]; exact hI.gd c hc)) rfl ?_
  intro G2 hq
  obtain ⟨hW, hL⟩ := hq
  rw [q1] at hL
  have hA : FrA G G2 := (FrA.rf.set (by omega)).w hW
  have q2 : G2 6 0 0 = S.1 := by rw [hW 6 0 0 (by omega)]; exact q1
  have q21 : G2 6 0 1 = S.1 := by rw [hW 6 0 1 (by omega)]; exact je_set_eq
  refine hR.2 [] 400 _ _ _ _ ?_
  conv => whnf
  refine And.intro (vp_in_nI (by omega) (by omega)) ?_
  conv => whnf
  simp only [nI_clamp (show 3 < 2 ^ 31 by omega), Nat.zero_add, q2]
  refine je_v0i hR kX6_waiting_16 rfl (m_emptyF l G2 S.1 9999 (by omega) hI q2 hL) rfl ?_
  intro y G3 hq
  obtain ⟨rfl, φ, rfl⟩ := hq
  refine hR.2 [] 400 _ _ _ _ ?_
  conv => whnf
  refine And.intro (vp_in_nI (by omega) (by omega)) ?_
  conv => whnf
  simp only [nI_clamp (show 3 < 2 ^ 31 by omega), Nat.zero_add, je_r6b, je_set_eq]
  refine je_v0v hR kX6_waiting_30 rfl (m_putBack l _) rfl ?_
  intro G4 hq
  subst hq
  rw [show je_set (je_set G2 6 0 0 (fut S.1).2) 6 0 12 φ 6 0 1 = S.1 from by rw [je_set_ne (by omega), je_set_ne (by omega)]; exact q21]
  have hA4 : FrA G (je_set (je_set (je_set G2 6 0 0 (fut S.1).2) 6 0 12 φ) 6 0 0 S.1) := ((hA.set (by omega)).set (by omega)).set (by omega)
  refine hR.2 [] 400 _ _ _ _ ?_
  conv => whnf
  exact ⟨_, rfl, rfl, MR_A hM hA4 je_set_eq, hA4.m⟩
theorem turn_xor {σ : Sg} {e : Nat} (h : σ (91 + e) = 0 ∨ σ (91 + e) = 1) : upd σ (91 + e) (σ (91 + e) ^^^ nI 1) = turn σ e := by
  unfold turn
  congr 1
  rcases h with h | h <;> rw [h] <;> decide
set_option maxHeartbeats 4000000 in
set_option maxRecDepth 100000 in
theorem m_tries (l : Launch) (G : je_G) (S : jS) (hM : MR G S) (hI : InvS 9999 S.1) (c s o : Nat) (hc : c < 35) (hs : s < 2) (hbs : bs c (2 + s) = some o) : je_Cv l yX6_tries wsX6_tries rmX6_tries [jR (6, 0, 0), jI (nI c), jI (nI s)] G (fun G' => G' 6 0 13 0 = (fut (turn S.1 (eg c (2 + s)))).1 ∧ G' 6 0 13 1 = unr (fut (turn S.1 (eg c (2 + s)))).2 ∧ G' 6 0 13 2 = std (turn S.1 (eg c (2 + s))) ∧ MR G' S ∧ FrM G G') := by
  refine je_met1 tbX6_tries 0 okX6_tries rfl (by decide +kernel) rfl (by unfold je_ret; simp) (by decide) (Nat.le_of_ble_eq_true rfl) ?_
  intro J hoks hR
  show J G 0 [some (jR (6, 0, 0)), some (jI (nI c)), some (jI (nI s))] []
  have h0 : G 6 0 0 = S.1 := MR_1 hM
  have heg := (bs_lt c hc (2 + s) (by omega) o hbs).2.2
  have htx := turn_xor (hI.bits.1 (eg c (2 + s)) heg)
  have hIt : InvS 9999 (turn S.1 (eg c (2 + s))) := InvS_turn hI
  refine hR.2 [] 400 _ _ _ _ ?_
  conv => whnf
  refine je_v0v hR kX6_tries_1 rfl (m_putAside l G) rfl ?_
  intro G1 hq
  subst hq
  rw [h0]
  have q1 : je_set G 6 0 1 S.1 6 0 0 = S.1 := by rw [je_set_ne (by omega)]; exact h0
  have q11 : je_set G 6 0 1 S.1 6 0 1 = S.1 := je_set_eq
  have hA1 : FrA G (je_set G 6 0 1 S.1) := FrA.rf.set (by omega)
  generalize je_set G 6 0 1 S.1 = G1 at q1 q11 hA1 ⊢
  refine hR.2 [] 400 _ _ _ _ ?_
  conv => whnf
  rw [nI_add]
  refine je_s2i hR kX6_tries_12 rfl (m_ropeAt l G1 (nI c) (nI (2 + s))) rfl ?_
  intro y G2 hq
  obtain ⟨rfl, rfl⟩ := hq
  rw [raX_ok hc (by omega) hbs]
  refine hR.2 [] 400 _ _ _ _ ?_
  conv => whnf
  refine And.intro (vp_in_nI (by omega) (by omega)) ?_
  conv => whnf
  refine And.intro (vp_in_nI (by omega) (by omega)) ?_
  conv => whnf
  simp only [nI_clamp (show 91 + eg c (2 + s) < 2 ^ 31 by omega), Nat.zero_add, q1]
  rw [htx]
  generalize turn S.1 (eg c (2 + s)) = τ at hIt ⊢ hR
  have q2 : je_set G2 6 0 0 τ 6 0 0 = τ := je_set_eq
  refine je_v0v hR kX6_tries_21 rfl (m_layWays l _ (by rw [q2]; exact hIt.bits) (fun d hd => by rw [q2]; exact hIt.doors d hd) (fun c hc => by rw [q2]; exact hIt.gd c hc)) rfl ?_
  intro G3 hq
  obtain ⟨hW, hL⟩ := hq
  rw [q2] at hL
  have hA3 : FrA G G3 := (hA1.set (by omega)).w hW
  have q30 : G3 6 0 0 = τ := by rw [hW 6 0 0 (by omega)]; exact q2
  have q31 : G3 6 0 1 = S.1 := by rw [hW 6 0 1 (by omega), je_set_ne (by omega)]; exact q11
  refine hR.2 [] 400 _ _ _ _ ?_
  conv => whnf
  refine je_v0i hR kX6_tries_30 rfl (m_shutIn l G3) rfl ?_
  intro y G4 hq
  obtain ⟨rfl, rfl⟩ := hq
  rw [q30, goa_std (laid_goa hL)]
  refine hR.2 [] 400 _ _ _ _ ?_
  conv => whnf
  refine And.intro (vp_in_nI (by omega) (by omega)) ?_
  conv => whnf
  simp only [nI_clamp (show 2 < 2 ^ 31 by omega), Nat.zero_add]
  have r13 : ∀ f r, r ≠ 13 → je_set G4 6 0 13 f 6 0 r = G4 6 0 r := fun f r hr => by rw [je_set_ne (by omega)]
  have hL5 : laid (je_set G4 6 0 13 (upd (G4 6 0 13) 2 (std τ))) τ := ⟨fun d hd c hc => by rw [r13 _ _ (by omega)]; exact hL.1 d hd c hc, hL.2.1, fun c hc => by rw [r13 _ _ (by omega), r13 _ _ (by omega), r13 _ _ (by omega)]; exact hL.2.2 c hc⟩
  have q50 : je_set G4 6 0 13 (upd (G4 6 0 13) 2 (std τ)) 6 0 0 = τ := by rw [r13 _ _ (by omega)]; exact q30
  have q51 : je_set G4 6 0 13 (upd (G4 6 0 13) 2 (std τ)) 6 0 1 = S.1 := by rw [r13 _ _ (by omega)]; exact q31
  have q5d : je_set G4 6 0 13 (upd (G4 6 0 13) 2 (std τ)) 6 0 13 2 = std τ := by rw [je_set_eq, upd_eq]
  have hA5 : FrA G (je_set G4 6 0 13 (upd (G4 6 0 13) 2 (std τ))) := hA3.set (by omega)
  generalize je_set G4 6 0 13 (upd (G4 6 0 13) 2 (std τ)) = G5 at hL5 q50 q51 q5d hA5 ⊢
  refine je_v0i hR kX6_tries_40 rfl (m_emptyF l G5 τ 9999 (by omega) hIt q50 hL5) rfl ?_
  intro y G6 hq
  obtain ⟨rfl, φ, rfl⟩ := hq
  have hIf : InvS (9999 + 400) (fut τ).2 := InvS_ruo (fun c hc => by obtain ⟨x1, x2, x3, x4⟩ := (laid_way hL5).2 c hc; exact ⟨x1, x2, x3⟩) 400 0 9999 τ _ (by omega) hIt
  refine hR.2 [] 400 _ _ _ _ ?_
  conv => whnf
  refine And.intro (vp_in_nI (by omega) (by omega)) ?_
  conv => whnf
  have r7 : ∀ f g h r, r ≠ 0 → r ≠ 12 → r ≠ 13 → je_set (je_set (je_set G5 6 0 0 f) 6 0 12 g) 6 0 13 h 6 0 r = G5 6 0 r := fun f g h r h1 h2 h3 => by rw [je_set_ne (by omega), je_set_ne (by omega), je_set_ne (by omega)]
  have q613 : je_set (je_set G5 6 0 0 (fut τ).2) 6 0 12 φ 6 0 13 = G5 6 0 13 := by rw [je_set_ne (by omega), je_set_ne (by omega)]
  simp only [nI_clamp (show 0 < 2 ^ 31 by omega), Nat.zero_add, q613]
  have q70 : je_set (je_set (je_set G5 6 0 0 (fut τ).2) 6 0 12 φ) 6 0 13 (upd (G5 6 0 13) 0 (fut τ).1) 6 0 0 = (fut τ).2 := by rw [je_set_ne (by omega), je_set_ne (by omega), je_set_eq]
  have q71 : je_set (je_set (je_set G5 6 0 0 (fut τ).2) 6 0 12 φ) 6 0 13 (upd (G5 6 0 13) 0 (fut τ).1) 6 0 1 = S.1 := by rw [r7 _ _ _ _ (by omega) (by omega) (by omega)]; exact q51
  have q7d : je_set (je_set (je_set G5 6 0 0 (fut τ).2) 6 0 12 φ) 6 0 13 (upd (G5 6 0 13) 0 (fut τ).1) 6 0 13 = upd (G5 6 0 13) 0 (fut τ).1 := je_set_eq
  have hA7 : FrA G (je_set (je_set (je_set G5 6 0 0 (fut τ).2) 6 0 12 φ) 6 0 13 (upd (G5 6 0 13) 0 (fut τ).1)) := ((hA5.set (by omega)).set (by omega)).set (by omega)
  generalize je_set (je_set (je_set G5 6 0 0 (fut τ).2) 6 0 12 φ) 6 0 13 (upd (G5 6 0 13) 0 (fut τ).1) = G7 at q70 q71 q7d hA7 ⊢
  refine je_v0i hR kX6_tries_50 rfl (m_uneven l G7 (by rw [q70]; exact hIf.bits) (by rw [q70]; exact hIf.outs (by omega))) rfl ?_
  intro y G8 hq
  obtain ⟨rfl, rfl⟩ := hq
  rw [q70]
  refine hR.2 [] 400 _ _ _ _ ?_
  conv => whnf
  refine And.intro (vp_in_nI (by omega) (by omega)) ?_
  conv => whnf
  simp only [nI_clamp (show 1 < 2 ^ 31 by omega), Nat.zero_add, q7d]
  refine je_v0v hR kX6_tries_55 rfl (m_putBack l _) rfl ?_
  intro G9 hq
  subst hq
  rw [show ∀ f, je_set G8 6 0 13 f 6 0 1 = S.1 from fun f => by rw [je_set_ne (by omega)]; exact q71]
  have hA9 : ∀ f, FrA G (je_set (je_set G8 6 0 13 f) 6 0 0 S.1) := fun f => (hA7.set (by omega)).set (by omega)
  have e13 : ∀ f, je_set (je_set G8 6 0 13 f) 6 0 0 S.1 6 0 13 = f := fun f => by rw [je_set_ne (by omega), je_set_eq]
  refine hR.2 [] 400 _ _ _ _ ?_
  conv => whnf
  refine ⟨rfl, ?_, ?_, ?_, MR_A hM (hA9 _) je_set_eq, (hA9 _).m⟩
  · rw [e13, upd_ne (by omega), upd_eq]
  · rw [e13, upd_eq]
  · rw [e13, upd_ne (by omega), upd_ne (by omega)]
    exact q5d
set_option maxHeartbeats 4000000 in
set_option maxRecDepth 100000 in
theorem m_ifRope (l : Launch) (G : je_G) (S : jS) (hM : MR G S) (hI : InvS 9999 S.1) (x s w : Int32) : je_Ci l yX6_ifRope wsX6_ifRope rmX6_ifRope [jR (6, 0, 0), jI x, jI s, jI w] G (fun y G' => y = F_ifRope S x s w ∧ MR G' S ∧ FrM G G') := by
  refine je_met1 tbX6_ifRope 1 okX6_ifRope rfl (by decide +kernel) rfl (by unfold je_ret; simp) (by decide) (Nat.le_of_ble_eq_true rfl) ?_
  intro J hoks hR
  show J G 0 [some (jR (6, 0, 0)), some (jI x), some (jI s), some (jI w)] []
  refine hR.2 [] 400 _ _ _ _ ?_
  conv => whnf
  refine je_s1i hR kX6_ifRope_1 rfl (m_isCell l G x) rfl ?_
  intro y G' hq
  obtain ⟨rfl, ⟨h1, rfl⟩ | ⟨h1, rfl⟩⟩ := hq
  · have hv : ¬ ¬ vp_in x 35 := fun h => h h1
    obtain ⟨c, hc, rfl⟩ := vp_in_of h1 (by omega)
    have hcl : (nI c).toNatClampNeg = c := nI_clamp (by omega)
    refine hR.2 [] 400 _ _ _ _ ?_
    conv => whnf
    refine And.intro (fun _ => ?_) (fun h => absurd h (by decide))
    conv => whnf
    refine je_s3i hR kX6_ifRope_12 rfl (m_in l G' s (nI 0) (nI 1)) rfl ?_
    intro y G hq
    obtain ⟨rfl, ⟨h2, h3, rfl⟩ | ⟨h2, rfl⟩⟩ := hq
    · have hvs : vp_in s 2 := (vp_rng (by omega)).mpr ⟨h2, h3⟩
      obtain ⟨i, hi, rfl⟩ := vp_in_of hvs (by omega)
      have hci : (nI i).toNatClampNeg = i := nI_clamp (by omega)
      refine hR.2 [] 400 _ _ _ _ ?_
      conv => whnf
      refine br_f (by decide) ?_
      conv => whnf
      refine je_s3i hR kX6_ifRope_21 rfl (m_in l G w (nI 0) (nI 2)) rfl ?_
      intro y G' hq
      obtain ⟨rfl, ⟨h4, h5, rfl⟩ | ⟨h4, rfl⟩⟩ := hq
      · have hc2 : ¬ (¬ vp_in (nI i) 2 ∨ w < 0 ∨ ¬ w ≤ nI 2) := fun h => h.elim (fun h => h hvs) (fun h => h.elim h4 (fun h => h (i_nlt.mp h5)))
        have hvw : vp_in w 3 := (vp_rng (by omega)).mpr ⟨h4, h5⟩
        obtain ⟨j, hj, rfl⟩ := vp_in_of hvw (by omega)
        refine hR.2 [] 400 _ _ _ _ ?_
        conv => whnf
        refine And.intro (fun _ => ?_) (fun h => absurd h (by decide))
        conv => whnf
        refine je_s2i hR kX6_ifRope_32 rfl (m_isEdge l G' c i hc hi) rfl ?_
        intro y G hq
        obtain ⟨rfl, ⟨⟨o, hbs⟩, rfl⟩ | ⟨hbs, rfl⟩⟩ := hq
        · skip
          refine hR.2 [] 400 _ _ _ _ ?_
          conv => whnf
          refine And.intro (fun _ => ?_) (fun h => absurd h (by decide))
          conv => whnf
          refine je_v2v hR kX6_ifRope_44 rfl (m_tries l G S hM hI c i o hc hi hbs) rfl ?_
          intro G2 hq
          obtain ⟨t0, t1, t2, hM2, hF2⟩ := hq
          refine hR.2 [] 400 _ _ _ _ ?_
          conv => whnf
          refine ⟨vp_in_nI (by omega) (by omega), ?_⟩
          conv => whnf
          simp only [nI_clamp (show j < 2 ^ 31 by omega), Nat.zero_add]
          refine ⟨_, rfl, ?_, hM2, hF2⟩
          unfold F_ifRope
          rw [if_neg hv, if_neg hc2, hcl, hci, hbs]
          dsimp only
          rcases (show j = 0 ∨ j = 1 ∨ j = 2 by omega) with rfl | rfl | rfl
          · rw [t0, if_neg (by decide), if_pos (by decide)]
          · rw [t1, if_neg (by decide), if_neg (by decide)]
          · rw [t2, if_pos rfl]
        · skip
          refine hR.2 [] 400 _ _ _ _ ?_
          conv => whnf
          refine And.intro (fun h => absurd rfl h) (fun _ => ?_)
          conv => whnf
          refine ⟨_, rfl, ?_⟩
          unfold F_ifRope
          rw [if_neg hv, if_neg hc2, hcl, hci, hbs]
          exact ⟨rfl, hM, FrM.rf⟩
      · have hc2 : ¬ vp_in (nI i) 2 ∨ w < 0 ∨ ¬ w ≤ nI 2 := Or.inr (h4.elim Or.inl (fun h => Or.inr (i_nle.mpr h)))
        refine hR.2 [] 400 _ _ _ _ ?_
        conv => whnf
        refine And.intro (fun h => absurd rfl h) (fun _ => ?_)
        conv => whnf
        refine ⟨_, rfl, ?_⟩
        unfold F_ifRope
        rw [if_neg hv, if_pos hc2]
        exact ⟨rfl, hM, FrM.rf⟩
    · have hc2 : ¬ vp_in s 2 ∨ w < 0 ∨ ¬ w ≤ nI 2 := Or.inl (nvp (by omega) h2)
      refine hR.2 [] 400 _ _ _ _ ?_
      conv => whnf
      refine br_t (by decide) ?_
      conv => whnf
      refine ⟨_, rfl, ?_⟩
      unfold F_ifRope
      rw [if_neg hv, if_pos hc2]
      exact ⟨rfl, hM, FrM.rf⟩
  · skip
    refine hR.2 [] 400 _ _ _ _ ?_
    conv => whnf
    refine And.intro (fun h => absurd rfl h) (fun _ => ?_)
    conv => whnf
    refine ⟨_, rfl, ?_⟩
    unfold F_ifRope
    rw [if_pos h1]
    exact ⟨rfl, hM, FrM.rf⟩
