/-! THE REFERENCE: pass -/
def oou (σ : Sg) : Int32 := isum (fun c => σ (17 + c)) 4
theorem oou_c {s : Sg} {c : Nat} {v : Int32} (hc : c < 4) : oou (upd s (17 + c) v) = oou s + (v - s (17 + c)) := by
  unfold oou
  rw [← isum_upd (f := fun c => s (17 + c)) 4 hc]
  refine isum_cong (fun k hk => ?_)
  unfold upd
  by_cases e : k = c
  · rw [if_pos e, if_pos (by omega)]
  · rw [if_neg e, if_neg (by omega)]
theorem oou_i {s : Sg} {i : Nat} {v : Int32} (hi : i < 17 ∨ 21 ≤ i) : oou (upd s i v) = oou s := by
  unfold oou
  exact isum_cong (fun k hk => upd_ne (by omega))
theorem oou_los {σ : Sg} {d : Nat} (hd : d < 4) : oou (los σ d) = oou σ + lom σ d := by
  unfold los
  by_cases h : σ (13 + d) = 0
  · rw [if_pos h]
    unfold lom
    rw [if_pos h]
    exact (Int32.add_zero _).symm
  · rw [if_neg h, oou_c hd, oou_i (by omega), upd_ne (by omega), i_z2]
theorem oou_ds {σ : Sg} : ∀ d, d ≤ 4 → oou (ds σ d).1 = oou σ + (ds σ d).2
  | 0, _ => (Int32.add_zero _).symm
  | d + 1, hd => by
    have ih := oou_ds (σ := σ) d (by omega)
    show oou (los (ds σ d).1 d) = oou σ + ((ds σ d).2 + lom (ds σ d).1 d)
    rw [oou_los (by omega), ih, Int32.add_assoc]
theorem oou_mnt {σ : Sg} {ν : Nat → Nat} {L : List Nat} (h : ∀ c ∈ L, c < 35 ∧ ν c < 35) : oou (mnt ν L σ) = oou σ + outs σ := by
  have e : oou (mnt ν L σ) = oou (ds (tick σ) 4).1 := by
    unfold oou mnt trs
    exact isum_cong (fun k hk => trs_at (by omega) L _ h)
  rw [e, oou_ds 4 (Nat.le_refl _)]
  unfold tick
  rw [oou_i (by omega)]
  rfl
theorem oou_itm {σ : Sg} {ν : Nat → Nat} {L : List Nat} (h : ∀ c ∈ L, c < 35 ∧ ν c < 35) : ∀ j, oou (itm ν L j σ) = oou σ + ito ν L j σ
  | 0 => (Int32.add_zero _).symm
  | j + 1 => by
    rw [itm, ito, oou_mnt h, oou_itm h j, Int32.add_assoc]
theorem InvS_itm {T : Nat} {σ : Sg} {ν : Nat → Nat} {L : List Nat} (h : InvS T σ) (hν : ∀ c ∈ L, c < 35 ∧ ν c < 35 ∧ ν c ≠ c) : ∀ j, T + j < 100000 → InvS (T + j) (itm ν L j σ)
  | 0, _ => h
  | j + 1, hj => InvS_mnt (T := T + j) (by omega) (InvS_itm h hν j (by omega)) hν
theorem m_outo (l : Launch) (G : je_G) : je_Ci l yX6_out wsX6_out rmX6_out [jR (6, 0, 0)] G (fun r G' => G' = G ∧ r = oou (G 6 0 0)) := m_out l G
set_option maxHeartbeats 4000000 in
set_option maxRecDepth 100000 in
theorem m_pass (l : Launch) (G : je_G) (S : jS) (hM : MR G S) (hI : InvS 9999 S.1) (x : Int32) : je_Ci l yX6_pass wsX6_pass rmX6_pass [jR (6, 0, 0), jI x] G (fun y G' => y = (F_pass S x).1 ∧ MR G' (F_pass S x).2 ∧ FrM G G' ∧ (allD S.1 ∨ (F_pass S x).2 = S)) := by
  refine je_met1 tbX6_pass 1 okX6_pass rfl (by decide +kernel) rfl (by unfold je_ret; simp) (by decide) (Nat.le_of_ble_eq_true rfl) ?_
  intro J hoks hR
  show J G 0 [some (jR (6, 0, 0)), some (jI x), none, none] []
  have h0 : G 6 0 0 = S.1 := MR_1 hM
  refine hR.2 [] 400 _ _ _ _ ?_
  conv => whnf
  refine je_s3i hR kX6_pass_4 rfl (m_in l G x (nI 1) (nI 99)) rfl ?_
  intro y G' hq
  obtain ⟨rfl, ⟨h1, h2, rfl⟩ | ⟨h1, rfl⟩⟩ := hq
  · have hc1 : ¬ (x < nI 1 ∨ ¬ x ≤ nI 99) := fun h => h.elim h1 (fun h => h (i_nlt.mp h2))
    obtain ⟨n, hn, rfl⟩ := nI_of (x := x) (fun h => h1 (fa_trans h (by decide)))
    have hn99 : n ≤ 99 := by
      by_cases h : n ≤ 99
      · exact h
      · exact absurd ((nI_ltI (by omega) hn).mpr (by omega)) h2
    have hcl : (nI n).toNatClampNeg = n := nI_clamp hn
    refine hR.2 [] 400 _ _ _ _ ?_
    conv => whnf
    refine And.intro (fun _ => ?_) (fun h => absurd h (by decide))
    conv => whnf
    refine And.intro (vp_in_nI (by omega) (by omega)) ?_
    conv => whnf
    simp (disch := omega) only [nI_clamp, Nat.zero_add]
    rw [h0]
    refine ⟨fun e => ?_, fun e => ?_⟩
    · have hF : F_pass S (nI n) = (ito (nu S.1) (tl S.1) n S.1, wS (rec6 S) (itm (nu S.1) (tl S.1) n S.1)) := by
        unfold F_pass
        rw [if_neg hc1, if_neg (fun h => h e), hcl]
      conv => whnf
      refine je_v0v hR kX6_pass_31 rfl (m_record l G' S hM) rfl ?_
      intro G2 hq
      obtain ⟨hM2, hF2⟩ := hq
      have q0 : G2 6 0 0 = S.1 := (MR_1 hM2).trans (rec6_1 S)
      refine hR.2 [] 400 _ _ _ _ ?_
      conv => whnf
      refine je_v0v hR kX6_pass_35 rfl (m_layWays l G2 (by rw [q0]; exact hI.bits) (fun d hd => by rw [q0]; exact hI.doors d hd) (fun c hc => by rw [q0]; exact hI.gd c hc)) rfl ?_
      intro G3 hq
      obtain ⟨hW, hL⟩ := hq
      rw [q0] at hL
      have hM3 := MR_W hM2 hW
      have q3 : G3 6 0 0 = S.1 := (MR_1 hM3).trans (rec6_1 S)
      have hwy := laid_way hL
      have hν : ∀ c ∈ tl S.1, c < 35 ∧ nu S.1 c < 35 ∧ nu S.1 c ≠ c := fun c hc => by obtain ⟨x1, x2, x3, x4⟩ := hwy.2 c hc; exact ⟨x1, x2, x3⟩
      have hν2 : ∀ c ∈ tl S.1, c < 35 ∧ nu S.1 c < 35 := fun c hc => ⟨(hν c hc).1, (hν c hc).2.1⟩
      refine hR.2 [] 400 _ _ _ _ ?_
      conv => whnf
      refine je_v0i hR kX6_pass_39 rfl (m_outo l G3) rfl ?_
      intro y G4 hq
      obtain ⟨rfl, rfl⟩ := hq
      rw [q3]
      refine hR.2 [45] 400 _ _ _ _ ?_
      conv => whnf
      refine (show J (je_set (je_set G4 6 0 0 (itm (nu S.1) (tl S.1) 0 S.1)) 6 0 12 (G4 6 0 12)) 45 [some (jR (6, 0, 0)), some (jI (nI n)), some (jI (oou S.1)), some (jI (nI 0))] [] → _ from fun h => by rw [show itm (nu S.1) (tl S.1) 0 S.1 = G4 6 0 0 from q3.symm, je_set_id, je_set_id] at h; exact h) ?_
      refine je_for (P := fun i => ∀ φ, J (je_set (je_set G4 6 0 0 (itm (nu S.1) (tl S.1) i S.1)) 6 0 12 φ) 45 [some (jR (6, 0, 0)), some (jI (nI n)), some (jI (oou S.1)), some (jI (nI i))] []) n ?_ ?_ 0 (Nat.zero_le _) _
      · intro φ
        refine hR.2 [45] 400 _ _ _ _ ?_
        conv => whnf
        refine br_t ((nI_leI (by omega) (by omega)).mpr (by omega)) ?_
        conv => whnf
        refine je_v0i hR kX6_pass_61 rfl (m_outo l _) rfl ?_
        intro y G5 hq
        obtain ⟨rfl, rfl⟩ := hq
        refine hR.2 [] 400 _ _ _ _ ?_
        conv => whnf
        rw [hF, je_r6b, je_set_eq, oou_itm hν2 n]
        refine ⟨_, rfl, i_z2, ?_, ((hF2.m.tr hW.m).set).set, Or.inl hL.2.1⟩
        exact MR_fr (MR_set hM3 _) (fun r h7 h1 => je_set_ne (by omega))
      · intro i hi ih φ
        refine hR.2 [45] 400 _ _ _ _ ?_
        conv => whnf
        refine br_f (fun h => absurd ((nI_leI (by omega) (by omega)).mp h) (by omega)) ?_
        conv => whnf
        have e0 : je_set (je_set G4 6 0 0 (itm (nu S.1) (tl S.1) i S.1)) 6 0 12 φ 6 0 0 = itm (nu S.1) (tl S.1) i S.1 := by rw [je_r6b, je_set_eq]
        have e10 : je_set (je_set G4 6 0 0 (itm (nu S.1) (tl S.1) i S.1)) 6 0 12 φ 6 0 10 = G4 6 0 10 := by rw [je_set_ne (by omega), je_set_ne (by omega)]
        have e11 : je_set (je_set G4 6 0 0 (itm (nu S.1) (tl S.1) i S.1)) 6 0 12 φ 6 0 11 = G4 6 0 11 := by rw [je_set_ne (by omega), je_set_ne (by omega)]
        refine je_v0v hR kX6_pass_51 rfl (m_minute l _ S.1 (9999 + i) (by omega) (by rw [e0]; exact InvS_itm hI hν i (by omega)) ⟨fun c hc => by rw [e10]; exact hwy.1 c hc, fun c hc => by rw [e11]; exact hwy.2 c hc⟩) rfl ?_
        intro G5 hq
        obtain ⟨φ', rfl⟩ := hq
        rw [e0, je_sw6, je_set_set, je_set_set]
        refine hR.2 [45] 400 _ _ _ _ ?_
        conv => whnf
        rw [nI_add]
        exact ih φ'
    · conv => whnf
      refine ⟨_, rfl, ?_⟩
      unfold F_pass
      rw [if_neg hc1, if_pos e]
      exact ⟨rfl, hM, FrM.rf, Or.inr rfl⟩
  · have hc1 : x < nI 1 ∨ ¬ x ≤ nI 99 := h1.elim Or.inl (fun h => Or.inr (i_nle.mpr h))
    refine hR.2 [] 400 _ _ _ _ ?_
    conv => whnf
    refine And.intro (fun h => absurd rfl h) (fun _ => ?_)
    conv => whnf
    refine ⟨_, rfl, ?_⟩
    unfold F_pass
    rw [if_pos hc1]
    exact ⟨rfl, hM, FrM.rf, Or.inr rfl⟩
