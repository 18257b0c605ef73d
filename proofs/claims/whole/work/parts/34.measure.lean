/-! RopedHalls$Routes: measureFrom -/
set_option maxHeartbeats 4000000 in
set_option maxRecDepth 100000 in
theorem c_measureFrom (l : Launch) (G : je_G) (r n d : Nat) (hd : d < 4) (hs : vp_in (G 1 n 0 (5 + d)) 35) : je_Cv l yX4_measureFrom wsX4_measureFrom rmX4_measureFrom [jR (4, r, 0), jR (1, n, 0), jI (nI d)] G (fun G' => isD (G 1 n 0) d (dst (G 1 n 0) d) ∧ ∃ q, G' = je_set (je_set G 4 r 0 (blk d (dst (G 1 n 0) d) (G 4 r 0))) 4 r 1 q) := by
  refine je_met1 tbX4_measureFrom 0 okX4_measureFrom rfl (by decide +kernel) rfl (by unfold je_ret; simp) (by decide) (Nat.le_of_ble_eq_true rfl) ?_
  intro J hoks hR
  show J G 0 [some (jR (4, r, 0)), some (jR (1, n, 0)), some (jI (nI d)), none, none, none, none, none, none, none] []
  have hG : ∀ a b, je_set (je_set G 4 r 0 a) 4 r 1 b 1 n 0 = G 1 n 0 := fun a b => by rw [je_set_ne (by omega), je_set_ne (by omega)]
  have hG0 : ∀ a, je_set G 4 r 0 a 1 n 0 = G 1 n 0 := fun a => by rw [je_set_ne (by omega)]
  obtain ⟨hst, hse⟩ := dcell_nI hs
  refine hR.2 [8] 400 _ _ _ _ ?_
  conv => whnf
  simp only [mul35]
  refine (show J (je_set G 4 r 0 (blkK d 0 (G 4 r 0))) 8 _ [] → J G 8 _ [] from fun h => by rw [blkK_0, je_set_id] at h; exact h) ?_
  refine je_for (P := fun k => J (je_set G 4 r 0 (blkK d k (G 4 r 0))) 8 [some (jR (4, r, 0)), some (jR (1, n, 0)), some (jI (nI d)), some (jI (nI (35 * d))), some (jI (nI k)), none, none, none, none, none] []) 35 ?_ ?_ 0 (Nat.zero_le _)
  · skip
    refine hR.2 [8, 73] 400 _ _ _ _ ?_
    conv => whnf
    refine br_t ((nI_leI (by omega) (by omega)).mpr (by omega)) ?_
    conv => whnf
    refine ⟨vp_in_nI (by omega) (by omega), ?_⟩
    conv => whnf
    simp only [hG0]
    rw [nI_clamp (by omega), hse]
    refine je_s1i hR kX4_measureFrom_42 rfl (c_isCell l _ (nI (dcell (G 1 n 0) d))) rfl ?_
    intro y G' hq
    obtain ⟨rfl, ⟨h1, rfl⟩ | ⟨h1, rfl⟩⟩ := hq
    · skip
      refine hR.2 [73] 400 _ _ _ _ ?_
      conv => whnf
      refine And.intro (fun _ => ?_) (fun h => absurd h (by decide))
      conv => whnf
      simp only [nI_add]
      refine And.intro (vp_in_nI (by omega) (by omega)) ?_
      conv => whnf
      refine ⟨vp_in_nI (by omega) (by omega), ?_⟩
      conv => whnf
      simp only [je_set_set, je_set_eq, nI_add]
      simp (disch := omega) only [nI_clamp, Nat.zero_add]
      rw [blkK_35, show nI 0 = dI 0 from rfl, blk_upd hst]
      refine je_for (P := fun h => ∀ (m : Nat) (qr : Sg) (q f : Nat → Nat), bfI (G 1 n 0) d h m 0 q f → (∀ i, i < m → qr i = nI (q i)) → J (je_set (je_set G 4 r 0 (blk d f (G 4 r 0))) 4 r 1 qr) 73 [some (jR (4, r, 0)), some (jR (1, n, 0)), some (jI (nI d)), some (jI (nI (35 * d))), some (jI (nI (dcell (G 1 n 0) d))), some (jI (nI m)), some (jI (nI h)), none, none, none] []) 35 ?_ ?_ 0 (Nat.zero_le _) 1 _ (fun _ => dcell (G 1 n 0) d) _ (bf_start hst rfl) ?_
      · intro m qr q f I hq
        have hm : m ≤ 35 := I.1.2.2
        refine hR.2 [] 400 _ _ _ _ ?_
        conv => whnf
        refine br_t ((nI_leI (by omega) (by omega)).mpr (by omega)) ?_
        conv => whnf
        have hD := bf_end (show bfI (G 1 n 0) d m m 0 q f by have h1 : 35 ≤ m := I.1.1; have h2 : m = 35 := (by omega); subst h2; exact I)
        refine ⟨rfl, dst_is hD, qr, ?_⟩
        rw [blk_cong (dst_eq hD)]
      · intro h hh ih m qr q f I hq
        have hm : m ≤ 35 := I.1.2.2
        by_cases hlt : h < m
        · have hqh := (I.2.1 h hlt).1
          refine hR.2 [73, 99] 400 _ _ _ _ ?_
          conv => whnf
          refine br_f (fun h => absurd ((nI_leI (by omega) (by omega)).mp h) (by omega)) ?_
          conv => whnf
          refine br_f (fun h => absurd ((nI_leI (by omega) (by omega)).mp h) (by omega)) ?_
          conv => whnf
          refine ⟨vp_in_nI (by omega) (by omega), ?_⟩
          conv => whnf
          simp only [je_set_eq]
          rw [nI_clamp (by omega), Nat.zero_add, hq h hlt]
          refine je_loc hR (L' := [some _, some _, some _, some _, some _, some _, some _, some _, some _, none]) ⟨rfl, rfl, rfl, rfl, rfl, rfl, rfl, rfl, rfl, trivial⟩ ?_
          refine je_for (P := fun w => ∀ (m : Nat) (qr : Sg) (q' f : Nat → Nat), q' h = q h → h < m → bfI (G 1 n 0) d h m w q' f → (∀ i, i < m → qr i = nI (q' i)) → J (je_set (je_set G 4 r 0 (blk d f (G 4 r 0))) 4 r 1 qr) 99 [some (jR (4, r, 0)), some (jR (1, n, 0)), some (jI (nI d)), some (jI (nI (35 * d))), some (jI (nI (dcell (G 1 n 0) d))), some (jI (nI m)), some (jI (nI h)), some (jI (nI (q h))), some (jI (nI w)), none] []) 4 ?_ ?_ 0 (Nat.zero_le _) m qr q f rfl hlt I hq
          · intro m qr q' f e hlt I hq
            refine hR.2 [73, 99] 400 _ _ _ _ ?_
            conv => whnf
            refine br_t ((nI_leI (by omega) (by omega)).mpr (by omega)) ?_
            conv => whnf
            simp only [nI_add]
            refine je_loc hR (L' := [some _, some _, some _, some _, some _, some _, some _, none, none, none]) ⟨rfl, rfl, rfl, rfl, rfl, rfl, rfl, trivial⟩ ?_
            exact ih m qr q' f (bf_next I hlt) hq
          · intro w hw ihw m qr q' f e hlt I hq
            have hm : m ≤ 35 := I.1.2.2
            refine hR.2 [73, 99] 400 _ _ _ _ ?_
            conv => whnf
            refine br_f (fun h => absurd ((nI_leI (by omega) (by omega)).mp h) (by omega)) ?_
            conv => whnf
            refine je_v2i hR kX4_measureFrom_110 rfl (c_stepFrom l _ n (q h) w hqh hw) rfl ?_
            intro y G' hq2
            obtain ⟨rfl, rfl⟩ := hq2
            rw [hG]
            cases hsp : stp (G 1 n 0) (q h) w with
            | none =>
              refine hR.2 [73, 99] 400 _ _ _ _ ?_
              conv => whnf
              refine je_s1i hR kX4_measureFrom_117 rfl (c_isCell l _ (-6)) rfl ?_
              intro y G' hq2
              obtain ⟨rfl, ⟨h2, rfl⟩ | ⟨h2, rfl⟩⟩ := hq2
              · exact absurd h2 (n6_vp 35)
              · skip
                refine hR.2 [73, 99] 400 _ _ _ _ ?_
                conv => whnf
                refine br_t (by decide) ?_
                conv => whnf
                simp only [nI_add]
                refine je_loc hR (L' := [some _, some _, some _, some _, some _, some _, some _, some _, some _, none]) ⟨rfl, rfl, rfl, rfl, rfl, rfl, rfl, rfl, rfl, trivial⟩ ?_
                exact ihw m qr q' f e hlt (bf_skip I hlt (fun o ho => by rw [e, hsp] at ho; cases ho) hw) hq
            | some o =>
              have ho := (stp_lt hqh hw hsp).1
              show J _ _ _ [jI (nI o)]
              refine hR.2 [73, 99] 400 _ _ _ _ ?_
              conv => whnf
              refine je_s1i hR kX4_measureFrom_117 rfl (c_isCell l _ (nI o)) rfl ?_
              intro y G' hq2
              obtain ⟨rfl, ⟨h2, rfl⟩ | ⟨h2, rfl⟩⟩ := hq2
              · skip
                refine hR.2 [73, 99] 400 _ _ _ _ ?_
                conv => whnf
                refine br_f (by decide) ?_
                conv => whnf
                by_cases hm35 : m = 35
                · refine br_t ((nI_leI (by omega) (by omega)).mpr (by omega)) ?_
                  conv => whnf
                  simp only [nI_add]
                  refine je_loc hR (L' := [some _, some _, some _, some _, some _, some _, some _, some _, some _, none]) ⟨rfl, rfl, rfl, rfl, rfl, rfl, rfl, rfl, rfl, trivial⟩ ?_
                  exact ihw m qr q' f e hlt (bf_skip I hlt (fun o2 ho2 => by rw [e, hsp] at ho2; cases ho2; subst hm35; exact bf_full I o ho) hw) hq
                · refine br_f (fun h => absurd ((nI_leI (by omega) (by omega)).mp h) (by omega)) ?_
                  conv => whnf
                  simp only [nI_add]
                  refine And.intro (vp_in_nI (by omega) (by omega)) ?_
                  conv => whnf
                  simp only [nI_add, je_s10]
                  rw [nI_clamp (by omega), Nat.zero_add, blk_at ho]
                  by_cases hvis : f o < 100
                  · rw [dI_lt hvis]
                    refine And.intro (fun _ => ?_) (fun h => absurd h (nI_ne6 (by omega)))
                    conv => whnf
                    simp only [nI_add]
                    refine je_loc hR (L' := [some _, some _, some _, some _, some _, some _, some _, some _, some _, none]) ⟨rfl, rfl, rfl, rfl, rfl, rfl, rfl, rfl, rfl, trivial⟩ ?_
                    exact ihw m qr q' f e hlt (bf_skip I hlt (fun o2 ho2 => by rw [e, hsp] at ho2; cases ho2; exact hvis) hw) hq
                  · rw [dI_ge hvis]
                    refine And.intro (fun h => absurd rfl h) (fun _ => ?_)
                    conv => whnf
                    refine je_v2i hR kX4_measureFrom_156 rfl (c_stepsTo l _ r d (q h) hd hqh) rfl ?_
                    intro y G' hq2
                    obtain ⟨rfl, rfl⟩ := hq2
                    rw [je_s10, blk_at hqh]
                    have hfq : f (q h) ≤ h := by have := (I.2.1 h hlt).2; rw [e] at this; exact this
                    rw [dI_lt (by omega)]
                    refine hR.2 [73, 99] 400 _ _ _ _ ?_
                    conv => whnf
                    simp only [nI_add]
                    refine And.intro (vp_in_nI (by omega) (by omega)) ?_
                    conv => whnf
                    refine And.intro (vp_in_nI (by omega) (by omega)) ?_
                    conv => whnf
                    simp only [je_set_eq, je_s10, je_sw10, je_set_set, nI_add]
                    simp (disch := omega) only [nI_clamp, Nat.zero_add]
                    rw [← dI_lt (show f (q h) + 1 < 100 by omega), blk_upd ho]
                    refine je_loc hR (L' := [some _, some _, some _, some _, some _, some _, some _, some _, some _, none]) ⟨rfl, rfl, rfl, rfl, rfl, rfl, rfl, rfl, rfl, trivial⟩ ?_
                    have hn := bf_new I hlt hw (by rw [e]; exact hsp) hvis
                    rw [e] at hn
                    refine ihw (m + 1) _ _ _ (by rw [if_neg (by omega)]; exact e) (by omega) hn.2 (fun i hi => ?_)
                    unfold upd
                    by_cases hi2 : i = m
                    · rw [if_pos hi2, if_pos hi2]
                    · rw [if_neg hi2, if_neg hi2]
                      exact hq i (by omega)
              · exact absurd (vp_in_nI ho (by omega)) h2
        · have hmh : m = h := by have := I.1.1; omega
          refine hR.2 [73, 99] 400 _ _ _ _ ?_
          conv => whnf
          refine br_t ((nI_leI (by omega) (by omega)).mpr (by omega)) ?_
          conv => whnf
          have hD := bf_end (show bfI (G 1 n 0) d m m 0 q f by rw [hmh] at I ⊢; exact I)
          refine ⟨rfl, dst_is hD, qr, ?_⟩
          rw [blk_cong (dst_eq hD)]
      · intro i hi
        unfold upd
        rw [if_pos (by omega)]
    · exact absurd (vp_in_nI hst (by omega)) h1
  · intro k hk ih
    refine hR.2 [8] 400 _ _ _ _ ?_
    conv => whnf
    refine br_f (fun h => absurd ((nI_leI (by omega) (by omega)).mp h) (by omega)) ?_
    conv => whnf
    simp only [nI_add]
    refine And.intro (vp_in_nI (by omega) (by omega)) ?_
    conv => whnf
    simp only [je_set_set, je_set_eq, nI_add]
    simp (disch := omega) only [nI_clamp, Nat.zero_add]
    rw [blkK_1]
    exact ih
