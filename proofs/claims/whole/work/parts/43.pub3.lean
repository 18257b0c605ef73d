/-! RopedHalls: count, pass, untilOut, ifRope, bestRope, waiting, wipe -/
noncomputable def nu (σ : Sg) (c : Nat) : Nat := (nx σ c).getD 0
theorem tl_mem {σ : Sg} (hD : ∀ d, d < 4 → isD σ d (dst σ d)) {c : Nat} (h : c ∈ tl σ) : c < 35 ∧ nu σ c < 35 ∧ nx σ c = some (nu σ c) := by
  obtain ⟨hc, k, hk1, hk2, hs⟩ := tlo_lt 34 c h
  refine ⟨hc, ?_⟩
  unfold sg at hs
  cases hg : gl σ c with
  | none =>
    rw [hg] at hs
    exact absurd hs.symm (nI_ne6 (by omega))
  | some g =>
    rw [hg] at hs
    dsimp only at hs
    obtain ⟨hg4, hl⟩ := gl_ok hg
    rw [dI_lt hl.2] at hs
    have hdk := (nI_eq (by have := hl.2; omega) (by omega)).mp hs
    obtain ⟨o, ho⟩ := nxw_some (hD g hg4) hc (by omega) hl.2
    have hn : nx σ c = some o := by
      unfold nx
      rw [hg]
      dsimp only
      rw [if_pos (by omega), ho]
    have he : nu σ c = o := by unfold nu; rw [hn]; rfl
    rw [he]
    exact ⟨(nx_lt hc hn).1, hn⟩
theorem Wy_nu {G : je_G} {r : Nat} {σ : Sg} (h : Wy G r σ) : ∀ c ∈ tl σ, c < 35 ∧ nu σ c < 35 ∧ G 4 r 3 c = nI (nu σ c) := by
  intro c hc
  obtain ⟨h1, h2, h3⟩ := tl_mem h.2.2.2.2 hc
  refine ⟨h1, h2, ?_⟩
  rw [h.2.2.1 c h1, h3]
  rfl
noncomputable def std (σ : Sg) : Int32 := isum (fun c => if oI (gl σ c) = -6 then σ (21 + c) else nI 0) 35
theorem Wy_std {G : je_G} {r : Nat} {σ : Sg} (h : Wy G r σ) {f : Sg} (hf : f = σ) : isum (fun c => if G 4 r 2 c = -6 then f (21 + c) else nI 0) 35 = std σ := by
  subst hf
  exact isum_cong (fun k hk => by rw [h.2.1 k hk])
/-- what would be: minutes until all are out, and the hall then -/
noncomputable def fut (σ : Sg) : Int32 × Sg := ruo (nu σ) (tl σ) 400 0 σ (ppl σ - std σ)
def unr (σ : Sg) : Int32 := (unv σ 4).1 - (unv σ 4).2
theorem CR_f9 {G G' : je_G} {S : jS} {σ : Sg} (h : CR G S) (hf : Fr1 4 1 (je_set G 1 9 0 σ) G') : CR G' S := CR_fr h (fun n _ => by rw [hf 1 n 0 (by omega), je_set_ne (by omega)]) (fun r => by rw [hf 5 0 r (by omega), je_set_ne (by omega)]) (fun r => by rw [hf 3 0 r (by omega), je_set_ne (by omega)])
theorem CR_f2 {G : je_G} {S : jS} {σ φ : Sg} (h : CR G S) : CR (je_set (je_set G 1 9 0 σ) 2 1 0 φ) S := CR_fr h (fun n _ => by rw [je_set_ne (by omega), je_set_ne (by omega)]) (fun r => by rw [je_set_ne (by omega), je_set_ne (by omega)]) (fun r => by rw [je_set_ne (by omega), je_set_ne (by omega)])
set_option maxHeartbeats 4000000 in
set_option maxRecDepth 100000 in
theorem c_strandedNow (l : Launch) (G : je_G) (S : jS) (hC : CR G S) (hd : ∀ d, d < 4 → vp_in (S.1 (5 + d)) 35) : je_Ci l yX5_strandedNow wsX5_strandedNow rmX5_strandedNow [jR (5, 0, 0)] G (fun y G' => y = std S.1 ∧ CR G' S ∧ FrC G G') := by
  refine je_met1 tbX5_strandedNow 1 okX5_strandedNow rfl (by decide +kernel) rfl (by unfold je_ret; simp) (by decide) (Nat.le_of_ble_eq_true rfl) ?_
  intro J hoks hR
  show J G 0 [some (jR (5, 0, 0))] []
  refine hR.2 [] 400 _ _ _ _ ?_
  conv => whnf
  refine je_v1v hR kX5_strandedNow_8 rfl (c_find l G 0 0 (by rw [CR_1 hC]; exact hd)) rfl ?_
  intro G2 hq
  rw [CR_1 hC] at hq
  obtain ⟨hf, hW⟩ := hq
  have hC2 := CR_f4 hC hf
  refine hR.2 [] 400 _ _ _ _ ?_
  conv => whnf
  refine je_v1i hR kX5_strandedNow_19 rfl (c_stranded4 l G2 0 0) rfl ?_
  intro y G3 hq
  obtain ⟨rfl, rfl⟩ := hq
  rw [Wy_std hW (CR_1 hC2)]
  refine hR.2 [] 400 _ _ _ _ ?_
  conv => whnf
  exact ⟨_, rfl, rfl, hC2, FrC.rf.fr1 hf (by omega)⟩
def gds (σ : Sg) : Int32 := isum (fun c => if σ (56 + c) = -1 then nI 0 else nI 1) 35
def opd (σ : Sg) : Int32 := ior (fun d => if σ (13 + d) = 0 then nI 0 else nI 1 <<< (nI d &&& 31)) 4
noncomputable def F_count (S : jS) (w : Int32) : Int32 := by
  classical
  exact if w = nI 0 then S.1 0 else if w = nI 1 then S.1 1 else if w = nI 2 then ppl S.1 else if w = nI 3 then S.1 2 else if w = nI 4 then isum (fun d => S.1 (17 + d)) 4 else if w = nI 5 then S.1 3 else if w = nI 6 then S.1 4 else if w = nI 7 then rps S.1 else if w = nI 8 then opd S.1 else if w = nI 9 then std S.1 else if w = nI 10 then unr S.1 else if w = nI 11 then gds S.1 else if w = nI 12 then nI S.2.2.2.2.2.1 else if w = nI 13 then nI S.2.1 else -2
theorem CR_len {G : je_G} {S : jS} (h : CR G S) : G 3 0 0 0 = nI S.2.2.2.2.2.1 := h.2.2.2.1
theorem CR_k {G : je_G} {S : jS} (h : CR G S) : G 5 0 8 0 = nI S.2.1 := by
  obtain ⟨m, -, -, h3, -⟩ := h.2.1
  exact h3
set_option maxHeartbeats 4000000 in
set_option maxRecDepth 100000 in
theorem c_count (l : Launch) (G : je_G) (S : jS) (hC : CR G S) (hd : ∀ d, d < 4 → vp_in (S.1 (5 + d)) 35) (w : Int32) : je_Ci l yX5_count wsX5_count rmX5_count [jR (5, 0, 0), jI w] G (fun y G' => y = F_count S w ∧ CR G' S ∧ FrC G G') := by
  refine je_met1 tbX5_count 1 okX5_count rfl (by decide +kernel) rfl (by unfold je_ret; simp) (by decide) (Nat.le_of_ble_eq_true rfl) ?_
  intro J hoks hR
  show J G 0 [some (jR (5, 0, 0)), some (jI w)] []
  have e1 := CR_1 hC
  refine hR.2 [] 400 _ _ _ _ ?_
  conv => whnf
  refine ⟨fun w0 => ?_, fun w0 => ⟨fun w1 => ?_, fun w1 => ⟨fun w2 => ?_, fun w2 => ⟨fun w3 => ?_, fun w3 => ⟨fun w4 => ?_, fun w4 => ⟨fun w5 => ?_, fun w5 => ⟨fun w6 => ?_, fun w6 => ⟨fun w7 => ?_, fun w7 => ⟨fun w8 => ?_, fun w8 => ⟨fun w9 => ?_, fun w9 => ⟨fun w10 => ?_, fun w10 => ⟨fun w11 => ?_, fun w11 => ⟨fun w12 => ?_, fun w12 => ⟨fun w13 => ?_, fun w13 => ?_⟩⟩⟩⟩⟩⟩⟩⟩⟩⟩⟩⟩⟩⟩
  · conv => whnf
    exact ⟨_, rfl, by simp only [F_count, if_pos w0, e1], hC, FrC.rf⟩
  · conv => whnf
    exact ⟨_, rfl, by simp only [F_count, if_neg w0, if_pos w1, e1], hC, FrC.rf⟩
  · conv => whnf
    refine je_v0i hR kX5_count_92 rfl (c_peopleInside l G 0) rfl ?_
    intro y G3 hq
    obtain ⟨rfl, rfl⟩ := hq
    rw [e1]
    refine hR.2 [] 400 _ _ _ _ ?_
    conv => whnf
    exact ⟨_, rfl, by simp only [F_count, if_neg w0, if_neg w1, if_pos w2]; rfl, hC, FrC.rf⟩
  · conv => whnf
    exact ⟨_, rfl, by simp only [F_count, if_neg w0, if_neg w1, if_neg w2, if_pos w3, e1], hC, FrC.rf⟩
  · conv => whnf
    refine je_v0i hR kX5_count_108 rfl (c_peopleOut l G 0) rfl ?_
    intro y G3 hq
    obtain ⟨rfl, rfl⟩ := hq
    rw [e1]
    refine hR.2 [] 400 _ _ _ _ ?_
    conv => whnf
    exact ⟨_, rfl, by simp only [F_count, if_neg w0, if_neg w1, if_neg w2, if_neg w3, if_pos w4], hC, FrC.rf⟩
  · conv => whnf
    exact ⟨_, rfl, by simp only [F_count, if_neg w0, if_neg w1, if_neg w2, if_neg w3, if_neg w4, if_pos w5, e1], hC, FrC.rf⟩
  · conv => whnf
    exact ⟨_, rfl, by simp only [F_count, if_neg w0, if_neg w1, if_neg w2, if_neg w3, if_neg w4, if_neg w5, if_pos w6, e1], hC, FrC.rf⟩
  · conv => whnf
    refine je_v0i hR kX5_count_132 rfl (c_ropeCount l G 0) rfl ?_
    intro y G3 hq
    obtain ⟨rfl, rfl⟩ := hq
    rw [e1]
    refine hR.2 [] 400 _ _ _ _ ?_
    conv => whnf
    exact ⟨_, rfl, by simp only [F_count, if_neg w0, if_neg w1, if_neg w2, if_neg w3, if_neg w4, if_neg w5, if_neg w6, if_pos w7]; rfl, hC, FrC.rf⟩
  · conv => whnf
    refine je_v0i hR kX5_count_140 rfl (c_openDoors l G 0) rfl ?_
    intro y G3 hq
    obtain ⟨rfl, rfl⟩ := hq
    rw [e1]
    refine hR.2 [] 400 _ _ _ _ ?_
    conv => whnf
    exact ⟨_, rfl, by simp only [F_count, if_neg w0, if_neg w1, if_neg w2, if_neg w3, if_neg w4, if_neg w5, if_neg w6, if_neg w7, if_pos w8]; rfl, hC, FrC.rf⟩
  · conv => whnf
    refine je_v0i hR kX5_count_145 rfl (c_strandedNow l G S hC hd) rfl ?_
    intro y G3 hq
    obtain ⟨rfl, hC3, hF3⟩ := hq
    refine hR.2 [] 400 _ _ _ _ ?_
    conv => whnf
    exact ⟨_, rfl, by simp only [F_count, if_neg w0, if_neg w1, if_neg w2, if_neg w3, if_neg w4, if_neg w5, if_neg w6, if_neg w7, if_neg w8, if_pos w9], hC3, hF3⟩
  · conv => whnf
    refine je_v0i hR kX5_count_153 rfl (c_unevenness l G 0) rfl ?_
    intro y G3 hq
    obtain ⟨rfl, rfl⟩ := hq
    rw [e1]
    refine hR.2 [] 400 _ _ _ _ ?_
    conv => whnf
    exact ⟨_, rfl, by simp only [F_count, if_neg w0, if_neg w1, if_neg w2, if_neg w3, if_neg w4, if_neg w5, if_neg w6, if_neg w7, if_neg w8, if_neg w9, if_pos w10]; rfl, hC, FrC.rf⟩
  · conv => whnf
    refine je_v0i hR kX5_count_161 rfl (c_guardCount l G 0) rfl ?_
    intro y G3 hq
    obtain ⟨rfl, rfl⟩ := hq
    rw [e1]
    refine hR.2 [] 400 _ _ _ _ ?_
    conv => whnf
    exact ⟨_, rfl, by simp only [F_count, if_neg w0, if_neg w1, if_neg w2, if_neg w3, if_neg w4, if_neg w5, if_neg w6, if_neg w7, if_neg w8, if_neg w9, if_neg w10, if_pos w11]; rfl, hC, FrC.rf⟩
  · conv => whnf
    exact ⟨_, rfl, by simp only [F_count, if_neg w0, if_neg w1, if_neg w2, if_neg w3, if_neg w4, if_neg w5, if_neg w6, if_neg w7, if_neg w8, if_neg w9, if_neg w10, if_neg w11, if_pos w12]; exact CR_len hC, hC, FrC.rf⟩
  · conv => whnf
    exact ⟨_, rfl, by simp only [F_count, if_neg w0, if_neg w1, if_neg w2, if_neg w3, if_neg w4, if_neg w5, if_neg w6, if_neg w7, if_neg w8, if_neg w9, if_neg w10, if_neg w11, if_neg w12, if_pos w13]; exact CR_k hC, hC, FrC.rf⟩
  · conv => whnf
    exact ⟨_, rfl, by simp only [F_count, if_neg w0, if_neg w1, if_neg w2, if_neg w3, if_neg w4, if_neg w5, if_neg w6, if_neg w7, if_neg w8, if_neg w9, if_neg w10, if_neg w11, if_neg w12, if_neg w13], hC, FrC.rf⟩
set_option maxHeartbeats 4000000 in
set_option maxRecDepth 100000 in
theorem c_untilOut (l : Launch) (G : je_G) (S : jS) (hC : CR G S) (hb : bits S.1) (hd : ∀ d, d < 4 → vp_in (S.1 (5 + d)) 35) : je_Ci l yX5_untilOut wsX5_untilOut rmX5_untilOut [jR (5, 0, 0)] G (fun y G' => y = (fut S.1).1 ∧ CR G' S ∧ FrC G G') := by
  refine je_met1 tbX5_untilOut 1 okX5_untilOut rfl (by decide +kernel) rfl (by unfold je_ret; simp) (by decide) (Nat.le_of_ble_eq_true rfl) ?_
  intro J hoks hR
  show J G 0 [some (jR (5, 0, 0))] []
  have e1 := CR_1 hC
  refine hR.2 [] 400 _ _ _ _ ?_
  conv => whnf
  refine je_v1v hR kX5_untilOut_8 rfl (c_startFrom l G 0 (by omega) (by rw [e1]; exact hb) (by rw [e1]; exact hd)) rfl ?_
  intro G2 hq
  rw [e1] at hq
  obtain ⟨hf, hW⟩ := hq
  have h9 : G2 1 9 0 = S.1 := by rw [hf 1 9 0 (by omega), je_set_eq]
  refine hR.2 [] 400 _ _ _ _ ?_
  conv => whnf
  refine je_v0i hR kX5_untilOut_15 rfl (c_runUntilOut l G2 (tl S.1) (nu S.1) (by rw [h9]; exact hd) hW.2.2.2.1 tl_len (Wy_nu hW)) rfl ?_
  intro y G3 hq
  obtain ⟨⟨φ, rfl⟩, rfl⟩ := hq
  rw [Wy_std hW h9, h9]
  refine hR.2 [] 400 _ _ _ _ ?_
  conv => whnf
  exact ⟨_, rfl, rfl, CR_f2 (CR_f9 hC hf), (((FrC.rf.set (by omega)).fr1 hf (by omega)).set (by omega)).set (by omega)⟩
set_option maxHeartbeats 4000000 in
set_option maxRecDepth 100000 in
theorem c_waiting (l : Launch) (G : je_G) (S : jS) (hC : CR G S) (hb : bits S.1) (hd : ∀ d, d < 4 → vp_in (S.1 (5 + d)) 35) : je_Ci l yX5_waiting wsX5_waiting rmX5_waiting [jR (5, 0, 0)] G (fun y G' => y = (fut S.1).2 3 - S.1 3 ∧ CR G' S ∧ FrC G G') := by
  refine je_met1 tbX5_waiting 1 okX5_waiting rfl (by decide +kernel) rfl (by unfold je_ret; simp) (by decide) (Nat.le_of_ble_eq_true rfl) ?_
  intro J hoks hR
  show J G 0 [some (jR (5, 0, 0))] []
  have e1 := CR_1 hC
  refine hR.2 [] 400 _ _ _ _ ?_
  conv => whnf
  refine je_v1v hR kX5_waiting_8 rfl (c_startFrom l G 0 (by omega) (by rw [e1]; exact hb) (by rw [e1]; exact hd)) rfl ?_
  intro G2 hq
  rw [e1] at hq
  obtain ⟨hf, hW⟩ := hq
  have h9 : G2 1 9 0 = S.1 := by rw [hf 1 9 0 (by omega), je_set_eq]
  have h0 : G2 1 0 0 = S.1 := by rw [hf 1 0 0 (by omega), je_set_ne (by omega)]; exact e1
  refine hR.2 [] 400 _ _ _ _ ?_
  conv => whnf
  refine je_v0i hR kX5_waiting_15 rfl (c_runUntilOut l G2 (tl S.1) (nu S.1) (by rw [h9]; exact hd) hW.2.2.2.1 tl_len (Wy_nu hW)) rfl ?_
  intro y G3 hq
  obtain ⟨⟨φ, rfl⟩, rfl⟩ := hq
  rw [Wy_std hW h9, h9]
  refine hR.2 [] 400 _ _ _ _ ?_
  conv => whnf
  refine je_v0i hR kX5_waiting_23 rfl (c_waited0 l _) rfl ?_
  intro y G3 hq
  obtain ⟨rfl, rfl⟩ := hq
  refine hR.2 [] 400 _ _ _ _ ?_
  conv => whnf
  have ea : ∀ a b, je_set (je_set G2 1 9 0 a) 2 1 0 b 1 9 0 = a := fun a b => by rw [je_set_ne (by omega), je_set_eq]
  have eb : ∀ a b, je_set (je_set G2 1 9 0 a) 2 1 0 b 1 0 0 = S.1 := fun a b => by rw [je_set_ne (by omega), je_set_ne (by omega)]; exact h0
  rw [ea, eb]
  exact ⟨_, rfl, rfl, CR_f2 (CR_f9 hC hf), (((FrC.rf.set (by omega)).fr1 hf (by omega)).set (by omega)).set (by omega)⟩
noncomputable def F_ifRope (S : jS) (x s w : Int32) : Int32 := by
  classical
  exact if ¬ vp_in x 35 then -1 else if ¬ vp_in s 2 ∨ w < 0 ∨ ¬ w ≤ nI 2 then -2 else match bs x.toNatClampNeg (2 + s.toNatClampNeg) with
    | none => -5
    | some _ => if w = nI 2 then std (turn S.1 (eg x.toNatClampNeg (2 + s.toNatClampNeg))) else if w = 0 then (fut (turn S.1 (eg x.toNatClampNeg (2 + s.toNatClampNeg)))).1 else unr (fut (turn S.1 (eg x.toNatClampNeg (2 + s.toNatClampNeg)))).2
theorem turn_d {σ : Sg} {e : Nat} (hd : ∀ d, d < 4 → vp_in (σ (5 + d)) 35) : ∀ d, d < 4 → vp_in (turn σ e (5 + d)) 35 := fun d h => by
  unfold turn
  rw [pk_un (by omega)]
  exact hd d h
set_option maxHeartbeats 4000000 in
set_option maxRecDepth 100000 in
theorem c_ifRope (l : Launch) (G : je_G) (S : jS) (hC : CR G S) (hb : bits S.1) (hd : ∀ d, d < 4 → vp_in (S.1 (5 + d)) 35) (x s w : Int32) : je_Ci l yX5_ifRope wsX5_ifRope rmX5_ifRope [jR (5, 0, 0), jI x, jI s, jI w] G (fun y G' => y = F_ifRope S x s w ∧ CR G' S ∧ FrC G G') := by
  refine je_met1 tbX5_ifRope 1 okX5_ifRope rfl (by decide +kernel) rfl (by unfold je_ret; simp) (by decide) (Nat.le_of_ble_eq_true rfl) ?_
  intro J hoks hR
  show J G 0 [some (jR (5, 0, 0)), some (jI x), some (jI s), some (jI w), none, none] []
  refine hR.2 [] 400 _ _ _ _ ?_
  conv => whnf
  refine je_s1i hR kX5_ifRope_1 rfl (c_isCell l G x) rfl ?_
  intro y G' hq
  obtain ⟨rfl, ⟨h1, rfl⟩ | ⟨h1, rfl⟩⟩ := hq
  · have hv : ¬ ¬ vp_in x 35 := fun h => h h1
    obtain ⟨c, hc, rfl⟩ := vp_in_of h1 (by omega)
    have hcl : (nI c).toNatClampNeg = c := nI_clamp (by omega)
    refine hR.2 [] 400 _ _ _ _ ?_
    conv => whnf
    refine And.intro (fun _ => ?_) (fun h => absurd h (by decide))
    conv => whnf
    refine je_s1i hR kX5_ifRope_10 rfl (c_isSide l G' s) rfl ?_
    intro y G hq
    obtain ⟨rfl, ⟨h2, rfl⟩ | ⟨h2, rfl⟩⟩ := hq
    · obtain ⟨i, hi, rfl⟩ := vp_in_of h2 (by omega)
      have hci : (nI i).toNatClampNeg = i := nI_clamp (by omega)
      refine hR.2 [] 400 _ _ _ _ ?_
      conv => whnf
      refine br_f (by decide) ?_
      conv => whnf
      refine ⟨fun h3 => ?_, fun h3 => ?_⟩
      · conv => whnf
        have hv2 : ¬ vp_in (nI i) 2 ∨ w < 0 ∨ ¬ w ≤ nI 2 := Or.inr (Or.inl h3)
        exact ⟨_, rfl, by simp only [F_ifRope, if_neg hv, if_pos hv2], hC, FrC.rf⟩
      · conv => whnf
        refine ⟨fun h4 => ?_, fun h4 => ?_⟩
        · have hv2 : ¬ (¬ vp_in (nI i) 2 ∨ w < 0 ∨ ¬ w ≤ nI 2) := fun h => h.elim (fun h => h h2) (fun h => h.elim h3 (fun h => h h4))
          conv => whnf
          refine je_s2i hR kX5_ifRope_30 rfl (c_edgeAt l G (nI c) (nI i)) rfl ?_
          intro y G' hq
          obtain ⟨rfl, rfl⟩ := hq
          have hw : (if nI i = 0 then nI 2 else nI 3) = nI (2 + i) := by
            rcases (show i = 0 ∨ i = 1 by omega) with rfl | rfl <;> decide
          rw [hw, etX_ok hc (by omega)]
          cases hbs : bs c (2 + i) with
          | none =>
            refine hR.2 [] 400 _ _ _ _ ?_
            conv => whnf
            refine je_s1i hR kX5_ifRope_37 rfl (c_isEdge l G' (-6)) rfl ?_
            intro y G hq
            obtain ⟨rfl, ⟨h5, rfl⟩ | ⟨h5, rfl⟩⟩ := hq
            · exact absurd h5 (n6_vp 70)
            · skip
              refine hR.2 [] 400 _ _ _ _ ?_
              conv => whnf
              refine And.intro (fun h => absurd rfl h) (fun _ => ?_)
              conv => whnf
              exact ⟨_, rfl, by simp only [F_ifRope, if_neg hv, if_neg hv2, hcl, hci, hbs], hC, FrC.rf⟩
          | some o =>
            have he := (bs_lt c hc (2 + i) (by omega) o hbs).2.2
            show J G' _ _ [jI (nI (eg c (2 + i)))]
            refine hR.2 [] 400 _ _ _ _ ?_
            conv => whnf
            refine je_s1i hR kX5_ifRope_37 rfl (c_isEdge l G' (nI (eg c (2 + i)))) rfl ?_
            intro y G hq
            obtain ⟨rfl, ⟨h5, rfl⟩ | ⟨h5, rfl⟩⟩ := hq
            · have e1 := CR_1 hC
              refine hR.2 [] 400 _ _ _ _ ?_
              conv => whnf
              refine And.intro (fun _ => ?_) (fun h => absurd h (by decide))
              conv => whnf
              refine je_v2v hR kX5_ifRope_56 rfl (c_startWith l G 0 (eg c (2 + i)) he (by omega) (by rw [e1]; exact hb) (by rw [e1]; exact hd)) rfl ?_
              intro G2 hq
              rw [e1] at hq
              obtain ⟨hf, hW⟩ := hq
              have h9 : G2 1 9 0 = turn S.1 (eg c (2 + i)) := by rw [hf 1 9 0 (by omega), je_set_eq]
              have hC2 := CR_f9 hC hf
              have hF2 : FrC G G2 := (FrC.rf.set (by omega)).fr1 hf (by omega)
              refine hR.2 [] 400 _ _ _ _ ?_
              conv => whnf
              refine ⟨fun h6 => ?_, fun h6 => ?_⟩
              · conv => whnf
                refine je_v0i hR kX5_ifRope_76 rfl (c_runUntilOut l G2 (tl (turn S.1 (eg c (2 + i)))) (nu (turn S.1 (eg c (2 + i)))) (by rw [h9]; exact turn_d hd) hW.2.2.2.1 tl_len (Wy_nu hW)) rfl ?_
                intro y G3 hq
                obtain ⟨⟨φ, rfl⟩, rfl⟩ := hq
                rw [Wy_std hW h9, h9]
                refine hR.2 [] 400 _ _ _ _ ?_
                conv => whnf
                refine ⟨fun h7 => ?_, fun h7 => ?_⟩
                · conv => whnf
                  refine je_v0i hR kX5_ifRope_94 rfl (c_unevenness0 l _) rfl ?_
                  intro y G3 hq
                  obtain ⟨rfl, rfl⟩ := hq
                  refine hR.2 [] 400 _ _ _ _ ?_
                  conv => whnf
                  rw [je_r21, je_set_eq]
                  exact ⟨_, rfl, by simp only [F_ifRope, if_neg hv, if_neg hv2, hcl, hci, hbs, if_neg h6, if_neg h7]; rfl, CR_f2 hC2, (hF2.set (by omega)).set (by omega)⟩
                · conv => whnf
                  exact ⟨_, rfl, by simp only [F_ifRope, if_neg hv, if_neg hv2, hcl, hci, hbs, if_neg h6, if_pos h7]; rfl, CR_f2 hC2, (hF2.set (by omega)).set (by omega)⟩
              · conv => whnf
                refine je_v0i hR kX5_ifRope_68 rfl (c_stranded0 l G2) rfl ?_
                intro y G3 hq
                obtain ⟨rfl, rfl⟩ := hq
                rw [Wy_std hW h9]
                refine hR.2 [] 400 _ _ _ _ ?_
                conv => whnf
                exact ⟨_, rfl, by simp only [F_ifRope, if_neg hv, if_neg hv2, hcl, hci, hbs, if_pos h6], hC2, hF2⟩
            · exact absurd (vp_in_nI he (by omega)) h5
        · conv => whnf
          have hv2 : ¬ vp_in (nI i) 2 ∨ w < 0 ∨ ¬ w ≤ nI 2 := Or.inr (Or.inr h4)
          exact ⟨_, rfl, by simp only [F_ifRope, if_neg hv, if_pos hv2], hC, FrC.rf⟩
    · skip
      refine hR.2 [] 400 _ _ _ _ ?_
      conv => whnf
      refine br_t (by decide) ?_
      conv => whnf
      have hv2 : ¬ vp_in s 2 ∨ w < 0 ∨ ¬ w ≤ nI 2 := Or.inl h2
      exact ⟨_, rfl, by simp only [F_ifRope, if_neg hv, if_pos hv2], hC, FrC.rf⟩
  · skip
    refine hR.2 [] 400 _ _ _ _ ?_
    conv => whnf
    refine And.intro (fun h => absurd rfl h) (fun _ => ?_)
    conv => whnf
    exact ⟨_, rfl, by simp only [F_ifRope, if_pos h1], hC, FrC.rf⟩
def F_wipe (S : jS) : Int32 × jS := match S with
  | (σ, k, hs, sv, sl, len, pad) => (nI len, (σ, k, hs, sv, sl, 0, pad))
set_option maxHeartbeats 4000000 in
set_option maxRecDepth 100000 in
theorem c_wipe (l : Launch) (G : je_G) (S : jS) (hC : CR G S) : je_Ci l yX5_wipe wsX5_wipe rmX5_wipe [jR (5, 0, 0)] G (fun y G' => y = (F_wipe S).1 ∧ CR G' (F_wipe S).2 ∧ FrC G G') := by
  refine je_met1 tbX5_wipe 1 okX5_wipe rfl (by decide +kernel) rfl (by unfold je_ret; simp) (by decide) (Nat.le_of_ble_eq_true rfl) ?_
  intro J hoks hR
  show J G 0 [some (jR (5, 0, 0)), none] []
  obtain ⟨σ, k, hs, sv, sl, len, pad⟩ := S
  obtain ⟨e1, ⟨m, hm, e2, e3, hk, e4⟩, e5, e6, hl, e7⟩ := hC
  refine hR.2 [] 400 _ _ _ _ ?_
  conv => whnf
  refine ⟨_, rfl, e6, ⟨?_, ⟨m, hm, ?_, ?_, hk, fun i hi => ?_⟩, fun i hi => ⟨?_, fun hs => ?_⟩, ?_, Nat.zero_le 60, fun j hj => absurd hj (Nat.not_lt_zero j)⟩, FrC.rf.set (by omega)⟩
  · rw [je_set_ne (by omega)]; exact e1
  · rw [je_set_ne (by omega)]; exact e2
  · rw [je_set_ne (by omega)]; exact e3
  · rw [je_set_ne (by omega)]; exact e4 i hi
  · rw [je_set_ne (by omega)]; exact (e5 i hi).1
  · rw [je_set_ne (by omega)]; exact (e5 i hi).2 hs
  · rw [je_set_eq]; exact pk_us
def itm (ν : Nat → Nat) (L : List Nat) : Nat → Sg → Sg
  | 0, s => s
  | j + 1, s => mnt ν L (itm ν L j s)
def ito (ν : Nat → Nat) (L : List Nat) : Nat → Sg → Int32
  | 0, _ => nI 0
  | j + 1, s => ito ν L j s + outs (itm ν L j s)
theorem itm_dc {ν : Nat → Nat} {L : List Nat} {σ : Sg} (hs : ∀ d, d < 4 → vp_in (σ (5 + d)) 35) (hν : ∀ c ∈ L, c < 35 ∧ ν c < 35) : ∀ j, ∀ d, d < 4 → vp_in (itm ν L j σ (5 + d)) 35
  | 0 => hs
  | j + 1 => mnt_dc (itm_dc hs hν j) hν
noncomputable def F_pass (S : jS) (x : Int32) : Int32 × jS := by
  classical
  exact if x < nI 1 ∨ ¬ x ≤ nI 99 then (-2, S) else if ¬ S.1 1 + x ≤ nI 9999 then (-4, S) else (ito (nu S.1) (tl S.1) x.toNatClampNeg S.1, wS (rec6 S) (itm (nu S.1) (tl S.1) x.toNatClampNeg S.1))
set_option maxHeartbeats 4000000 in
set_option maxRecDepth 100000 in
theorem c_pass (l : Launch) (G : je_G) (S : jS) (hC : CR G S) (hb : bits S.1) (hd : ∀ d, d < 4 → vp_in (S.1 (5 + d)) 35) (x : Int32) : je_Ci l yX5_pass wsX5_pass rmX5_pass [jR (5, 0, 0), jI x] G (fun y G' => y = (F_pass S x).1 ∧ CR G' (F_pass S x).2 ∧ FrC G G') := by
  refine je_met1 tbX5_pass 1 okX5_pass rfl (by decide +kernel) rfl (by unfold je_ret; simp) (by decide) (Nat.le_of_ble_eq_true rfl) ?_
  intro J hoks hR
  show J G 0 [some (jR (5, 0, 0)), some (jI x), none, none] []
  have e1 := CR_1 hC
  refine hR.2 [] 400 _ _ _ _ ?_
  conv => whnf
  refine ⟨fun h0 => ?_, fun h0 => ?_⟩
  · conv => whnf
    have hv : x < nI 1 ∨ ¬ x ≤ nI 99 := Or.inl h0
    exact ⟨_, rfl, by simp only [F_pass, if_pos hv], by simp only [F_pass, if_pos hv]; exact hC, FrC.rf⟩
  · conv => whnf
    refine ⟨fun h1 => ?_, fun h1 => ?_⟩
    · have hv : ¬ (x < nI 1 ∨ ¬ x ≤ nI 99) := fun h => h.elim h0 (fun h => h h1)
      obtain ⟨N, hN, rfl⟩ : ∃ N, N < 100 ∧ x = nI N := by
        have hpos : ¬ x < 0 := fun h => h0 (by
          have := Int32.lt_iff_toInt_lt.mp h
          exact Int32.lt_iff_toInt_lt.mpr (by rw [nI_toInt (by decide)]; have : (0 : Int32).toInt = 0 := rfl; omega))
        obtain ⟨j, hj, rfl⟩ := nI_of hpos
        have := (nI_leI hj (by decide)).mp h1
        exact ⟨j, by omega, rfl⟩
      have hcl : (nI N).toNatClampNeg = N := nI_clamp (by omega)
      conv => whnf
      rw [e1]
      refine ⟨fun h2 => ?_, fun h2 => ?_⟩
      · conv => whnf
        have hv2 : ¬ ¬ S.1 1 + nI N ≤ nI 9999 := fun h => h h2
        refine je_v0v hR kX5_pass_33 rfl (c_remember l G S hC hb) rfl ?_
        intro G2 hq
        obtain ⟨hC2, hfr⟩ := hq
        have e2 := CR_1 hC2
        rw [rec6_1] at e2
        refine hR.2 [] 400 _ _ _ _ ?_
        conv => whnf
        refine je_v1v hR kX5_pass_44 rfl (c_find l G2 0 0 (by rw [e2]; exact hd)) rfl ?_
        intro G3 hq
        rw [e2] at hq
        obtain ⟨hf, hW⟩ := hq
        have hC3 := CR_f4 hC2 hf
        have e3 := CR_1 hC3
        rw [rec6_1] at e3
        have hF3 : FrC G G3 := (FrC_rem hfr).fr1 hf (by omega)
        have hnu := Wy_nu hW
        have hnu2 : ∀ c ∈ tl S.1, c < 35 ∧ nu S.1 c < 35 := fun c h => ⟨(hnu c h).1, (hnu c h).2.1⟩
        have h4 : ∀ a b x, je_set (je_set G3 1 0 0 a) 2 0 0 b 4 0 x = G3 4 0 x := fun a b x => by rw [je_set_ne (by omega), je_set_ne (by omega)]
        refine hR.2 [51] 400 _ _ _ _ ?_
        conv => whnf
        refine (show J (je_set (je_set G3 1 0 0 (itm (nu S.1) (tl S.1) 0 S.1)) 2 0 0 (G3 2 0 0)) 51 [some (jR (5, 0, 0)), some (jI (nI N)), some (jI (ito (nu S.1) (tl S.1) 0 S.1)), some (jI (nI 0))] [] → _ from fun h => by
          have e4 : itm (nu S.1) (tl S.1) 0 S.1 = G3 1 0 0 := e3.symm
          rw [e4, je_set_id, je_set_id] at h
          exact h) ?_
        refine je_for (P := fun j => ∀ φ, J (je_set (je_set G3 1 0 0 (itm (nu S.1) (tl S.1) j S.1)) 2 0 0 φ) 51 [some (jR (5, 0, 0)), some (jI (nI N)), some (jI (ito (nu S.1) (tl S.1) j S.1)), some (jI (nI j))] []) N ?_ ?_ 0 (Nat.zero_le _) _
        · intro φ
          refine hR.2 [51] 400 _ _ _ _ ?_
          conv => whnf
          refine br_t ((nI_leI (by omega) (by omega)).mpr (by omega)) ?_
          conv => whnf
          refine ⟨_, rfl, ?_, ?_, (hF3.set (by omega)).set (by omega)⟩
          · simp only [F_pass, if_neg hv, if_neg hv2, hcl]
          · simp only [F_pass, if_neg hv, if_neg hv2, hcl]
            exact CR_fr (CR_set hC3 _) (fun n _ => by rw [je_set_ne (by omega)]) (fun r => by rw [je_set_ne (by omega)]) (fun r => by rw [je_set_ne (by omega)])
        · intro j hj ih φ
          refine hR.2 [51] 400 _ _ _ _ ?_
          conv => whnf
          refine br_f (fun h => absurd ((nI_leI (by omega) (by omega)).mp h) (by omega)) ?_
          conv => whnf
          refine je_v2i hR kX5_pass_69 rfl (c_run l _ 0 0 0 (tl S.1) (nu S.1) (by rw [je_r21, je_set_eq]; exact itm_dc hd hnu2 j) (by rw [h4, h4]; exact hW.2.2.2.1) tl_len (fun c hc => by rw [h4]; exact hnu c hc)) rfl ?_
          intro y G4 hq
          obtain ⟨⟨φ', rfl⟩, rfl⟩ := hq
          refine hR.2 [51] 400 _ _ _ _ ?_
          conv => whnf
          simp only [je_set_set, je_set_eq, je_sw21, je_r12, je_r21, nI_add]
          exact ih φ'
      · conv => whnf
        exact ⟨_, rfl, by simp only [F_pass, if_neg hv, if_pos h2], by simp only [F_pass, if_neg hv, if_pos h2]; exact hC, FrC.rf⟩
    · conv => whnf
      have hv : x < nI 1 ∨ ¬ x ≤ nI 99 := Or.inr h1
      exact ⟨_, rfl, by simp only [F_pass, if_pos hv], by simp only [F_pass, if_pos hv]; exact hC, FrC.rf⟩
/-- an edge where a rope could be hung -/
def canH (σ : Sg) (e : Nat) : Prop := (∃ o, bs (e / 2) (2 + e % 2) = some o) ∧ σ (91 + e) = 0
theorem eg_e (e : Nat) : eg (e / 2) (2 + e % 2) = e := by
  rcases (show e % 2 = 0 ∨ e % 2 = 1 by omega) with h | h
  · rw [h]; show 2 * (e / 2) = e; omega
  · rw [h]; show 2 * (e / 2) + 1 = e; omega
set_option maxHeartbeats 4000000 in
set_option maxRecDepth 100000 in
theorem c_canHang (l : Launch) (G : je_G) (e : Nat) (he : e < 70) : je_Ci l yX5_canHang wsX5_canHang rmX5_canHang [jR (5, 0, 0), jI (nI e)] G (fun y G' => G' = G ∧ (canH (G 1 0 0) e ∧ y = 1 ∨ ¬ canH (G 1 0 0) e ∧ y = 0)) := by
  refine je_met1 tbX5_canHang 2 okX5_canHang rfl (by decide +kernel) rfl (by unfold je_ret; simp) (by decide) (Nat.le_of_ble_eq_true rfl) ?_
  intro J hoks hR
  show J G 0 [some (jR (5, 0, 0)), some (jI (nI e))] []
  refine hR.2 [] 400 _ _ _ _ ?_
  conv => whnf
  refine je_s1i hR kX5_canHang_1 rfl (c_isEdge l G (nI e)) rfl ?_
  intro y G' hq
  obtain ⟨rfl, ⟨h1, rfl⟩ | ⟨h1, rfl⟩⟩ := hq
  · skip
    refine hR.2 [] 400 _ _ _ _ ?_
    conv => whnf
    refine br_f (by decide) ?_
    conv => whnf
    refine And.intro (by decide) ?_
    conv => whnf
    refine And.intro (by decide) ?_
    conv => whnf
    rw [pk_rem (show e < 2 ^ 31 by omega) (show 0 < 2 by decide) (by decide), pk_div (show e < 2 ^ 31 by omega) (by decide) (by decide)]
    refine je_s2i hR kX5_canHang_13 rfl (c_edgeAt l G' (nI (e / 2)) (nI (e % 2))) rfl ?_
    intro y G hq
    obtain ⟨rfl, rfl⟩ := hq
    have hw : (if nI (e % 2) = 0 then nI 2 else nI 3) = nI (2 + e % 2) := by
      rcases (show e % 2 = 0 ∨ e % 2 = 1 by omega) with h | h <;> rw [h] <;> decide
    rw [hw, etX_ok (by omega) (by omega), eg_e]
    cases hbs : bs (e / 2) (2 + e % 2) with
    | none =>
      refine hR.2 [] 400 _ _ _ _ ?_
      conv => whnf
      refine And.intro (fun _ => ?_) (fun h => absurd h.symm (nI_ne6 (by omega)))
      conv => whnf
      refine ⟨Or.inl rfl, _, rfl, rfl, Or.inr ⟨fun h => ?_, rfl⟩⟩
      obtain ⟨⟨o, ho⟩, -⟩ := h
      rw [hbs] at ho
      cases ho
    | some o =>
      show J G _ _ [jI (nI e)]
      refine hR.2 [] 400 _ _ _ _ ?_
      conv => whnf
      refine And.intro (fun h => absurd rfl h) (fun _ => ?_)
      conv => whnf
      refine ⟨vp_in_nI (by omega) (by omega), ?_⟩
      conv => whnf
      rw [nI_clamp (by omega)]
      refine ⟨fun h => ?_, fun h => ?_⟩
      · conv => whnf
        exact ⟨Or.inl rfl, _, rfl, rfl, Or.inr ⟨fun hc => h hc.2, rfl⟩⟩
      · conv => whnf
        exact ⟨Or.inr rfl, _, rfl, rfl, Or.inl ⟨⟨⟨o, hbs⟩, h⟩, rfl⟩⟩
  · exact absurd (vp_in_nI he (by omega)) h1
/-- the best of the edges below e: edge, unevenness, minutes -/
noncomputable def bro (σ : Sg) : Nat → Int32 × Int32 × Int32
  | 0 => (-6, -6, -6)
  | e + 1 => by
    classical
    exact if canH σ e ∧ std (turn σ e) ≤ std σ ∧ ¬ (fut (turn σ e)).1 = -6 ∧ ((bro σ e).1 = -6 ∨ unr (fut (turn σ e)).2 < (bro σ e).2.1 ∨ (unr (fut (turn σ e)).2 = (bro σ e).2.1 ∧ (fut (turn σ e)).1 < (bro σ e).2.2)) then (nI e, unr (fut (turn σ e)).2, (fut (turn σ e)).1) else bro σ e
noncomputable def F_bestRope (S : jS) (w : Int32) : Int32 := by
  classical
  exact if w < 0 ∨ ¬ w ≤ nI 2 then -2 else if w = 0 then (bro S.1 70).1 else if w = nI 1 then (bro S.1 70).2.1 else (bro S.1 70).2.2
set_option maxHeartbeats 4000000 in
set_option maxRecDepth 100000 in
theorem c_bestRope (l : Launch) (G : je_G) (S : jS) (hC : CR G S) (hb : bits S.1) (hd : ∀ d, d < 4 → vp_in (S.1 (5 + d)) 35) (w : Int32) : je_Ci l yX5_bestRope wsX5_bestRope rmX5_bestRope [jR (5, 0, 0), jI w] G (fun y G' => y = F_bestRope S w ∧ CR G' S ∧ FrC G G') := by
  refine je_met1 tbX5_bestRope 1 okX5_bestRope rfl (by decide +kernel) rfl (by unfold je_ret; simp) (by decide) (Nat.le_of_ble_eq_true rfl) ?_
  intro J hoks hR
  show J G 0 [some (jR (5, 0, 0)), some (jI w), none, none, none, none, none, none, none] []
  refine hR.2 [] 400 _ _ _ _ ?_
  conv => whnf
  refine ⟨fun h0 => ?_, fun h0 => ?_⟩
  · conv => whnf
    have hv : w < 0 ∨ ¬ w ≤ nI 2 := Or.inl h0
    exact ⟨_, rfl, by simp only [F_bestRope, if_pos hv], hC, FrC.rf⟩
  · conv => whnf
    refine ⟨fun h1 => ?_, fun h1 => ?_⟩
    · have hv : ¬ (w < 0 ∨ ¬ w ≤ nI 2) := fun h => h.elim h0 (fun h => h h1)
      conv => whnf
      refine je_v0i hR kX5_bestRope_13 rfl (c_strandedNow l G S hC hd) rfl ?_
      intro y G2 hq
      obtain ⟨rfl, hC2, hF2⟩ := hq
      refine hR.2 [31] 400 _ _ _ _ ?_
      conv => whnf
      refine je_for (P := fun e => ∀ G', CR G' S → FrC G G' → J G' 31 [some (jR (5, 0, 0)), some (jI w), some (jI (std S.1)), some (jI (bro S.1 e).1), some (jI (bro S.1 e).2.1), some (jI (bro S.1 e).2.2), some (jI (nI e)), none, none] []) 70 ?_ ?_ 0 (Nat.zero_le _) G2 hC2 hF2
      · intro G' hC' hF'
        refine hR.2 [31] 400 _ _ _ _ ?_
        conv => whnf
        refine br_t ((nI_leI (by omega) (by omega)).mpr (by omega)) ?_
        conv => whnf
        refine ⟨fun h2 => ?_, fun h2 => ?_⟩
        · conv => whnf
          refine ⟨fun h3 => ?_, fun h3 => ?_⟩
          · conv => whnf
            exact ⟨_, rfl, by simp only [F_bestRope, if_neg hv, if_neg h2, if_neg h3], hC', hF'⟩
          · conv => whnf
            exact ⟨_, rfl, by simp only [F_bestRope, if_neg hv, if_neg h2, if_pos h3], hC', hF'⟩
        · conv => whnf
          exact ⟨_, rfl, by simp only [F_bestRope, if_neg hv, if_pos h2], hC', hF'⟩
      · intro e he ih G' hC' hF'
        have e1 := CR_1 hC'
        have skip : ¬ (canH S.1 e ∧ std (turn S.1 e) ≤ std S.1 ∧ ¬ (fut (turn S.1 e)).1 = -6 ∧ ((bro S.1 e).1 = -6 ∨ unr (fut (turn S.1 e)).2 < (bro S.1 e).2.1 ∨ (unr (fut (turn S.1 e)).2 = (bro S.1 e).2.1 ∧ (fut (turn S.1 e)).1 < (bro S.1 e).2.2))) → ∀ G3 x y, CR G3 S → FrC G G3 → J G3 140 [some (jR (5, 0, 0)), some (jI w), some (jI (std S.1)), some (jI (bro S.1 e).1), some (jI (bro S.1 e).2.1), some (jI (bro S.1 e).2.2), some (jI (nI e)), x, y] [] := by
          intro hn G3 x y hC3 hF3
          refine hR.2 [31] 400 _ _ _ _ ?_
          conv => whnf
          simp (disch := omega) only [nI_clamp, nI_add]
          refine je_loc hR (L' := [some _, some _, some _, some _, some _, some _, some _, none, none]) ⟨rfl, rfl, rfl, rfl, rfl, rfl, rfl, trivial⟩ ?_
          have hbe : bro S.1 (e + 1) = bro S.1 e := by
            rw [bro]
            exact if_neg hn
          rw [hbe] at ih
          exact ih G3 hC3 hF3
        refine hR.2 [31, 140] 400 _ _ _ _ ?_
        conv => whnf
        refine br_f (fun h => absurd ((nI_leI (by omega) (by omega)).mp h) (by omega)) ?_
        conv => whnf
        refine je_v1i hR kX5_bestRope_41 rfl (c_canHang l G' e he) rfl ?_
        intro y G3 hq
        rw [e1] at hq
        obtain ⟨rfl, ⟨hcan, rfl⟩ | ⟨hcan, rfl⟩⟩ := hq
        · skip
          refine hR.2 [31, 140] 400 _ _ _ _ ?_
          conv => whnf
          refine And.intro (fun _ => ?_) (fun h => absurd h (by decide))
          conv => whnf
          refine je_v2v hR kX5_bestRope_60 rfl (c_startWith l G3 0 e he (by omega) (by rw [e1]; exact hb) (by rw [e1]; exact hd)) rfl ?_
          intro G4 hq
          rw [e1] at hq
          obtain ⟨hf, hW⟩ := hq
          have h9 : G4 1 9 0 = turn S.1 e := by rw [hf 1 9 0 (by omega), je_set_eq]
          have hC4 := CR_f9 hC' hf
          have hF4 : FrC G G4 := (hF'.set (by omega)).fr1 hf (by omega)
          refine hR.2 [31, 140] 400 _ _ _ _ ?_
          conv => whnf
          refine je_v0i hR kX5_bestRope_67 rfl (c_stranded0 l G4) rfl ?_
          intro y G5 hq
          obtain ⟨rfl, rfl⟩ := hq
          rw [Wy_std hW h9]
          refine hR.2 [31, 140] 400 _ _ _ _ ?_
          conv => whnf
          refine ⟨fun hst => ?_, fun hst => ?_⟩
          · conv => whnf
            refine je_v0i hR kX5_bestRope_81 rfl (c_runUntilOut l G5 (tl (turn S.1 e)) (nu (turn S.1 e)) (by rw [h9]; exact turn_d hd) hW.2.2.2.1 tl_len (Wy_nu hW)) rfl ?_
            intro y G6 hq
            obtain ⟨⟨φ, rfl⟩, rfl⟩ := hq
            rw [Wy_std hW h9, h9]
            refine hR.2 [31, 140] 400 _ _ _ _ ?_
            conv => whnf
            refine je_v0i hR kX5_bestRope_90 rfl (c_unevenness0 l _) rfl ?_
            intro y G6 hq
            obtain ⟨rfl, rfl⟩ := hq
            have ea : ∀ a b, je_set (je_set G5 1 9 0 a) 2 1 0 b 1 9 0 = a := fun a b => by rw [je_set_ne (by omega), je_set_eq]
            rw [ea]
            have hC6 : CR (je_set (je_set G5 1 9 0 (fut (turn S.1 e)).2) 2 1 0 φ) S := CR_f2 hC4
            have hF6 : FrC G (je_set (je_set G5 1 9 0 (fut (turn S.1 e)).2) 2 1 0 φ) := (hF4.set (by omega)).set (by omega)
            have take : (¬ (fut (turn S.1 e)).1 = -6 ∧ ((bro S.1 e).1 = -6 ∨ unr (fut (turn S.1 e)).2 < (bro S.1 e).2.1 ∨ (unr (fut (turn S.1 e)).2 = (bro S.1 e).2.1 ∧ (fut (turn S.1 e)).1 < (bro S.1 e).2.2))) → J (je_set (je_set G5 1 9 0 (fut (turn S.1 e)).2) 2 1 0 φ) 129 [some (jR (5, 0, 0)), some (jI w), some (jI (std S.1)), some (jI (bro S.1 e).1), some (jI (bro S.1 e).2.1), some (jI (bro S.1 e).2.2), some (jI (nI e)), some (jI (fut (turn S.1 e)).1), some (jI (unr (fut (turn S.1 e)).2))] [] := by
              intro ht
              refine hR.2 [31] 400 _ _ _ _ ?_
              conv => whnf
              simp (disch := omega) only [nI_clamp, nI_add]
              refine je_loc hR (L' := [some _, some _, some _, some _, some _, some _, some _, none, none]) ⟨rfl, rfl, rfl, rfl, rfl, rfl, rfl, trivial⟩ ?_
              have hbe : bro S.1 (e + 1) = (nI e, unr (fut (turn S.1 e)).2, (fut (turn S.1 e)).1) := by
                rw [bro]
                exact if_pos ⟨hcan, hst, ht⟩
              rw [hbe] at ih
              exact ih _ hC6 hF6
            show J (je_set (je_set G5 1 9 0 (fut (turn S.1 e)).2) 2 1 0 φ) 93 [some (jR (5, 0, 0)), some (jI w), some (jI (std S.1)), some (jI (bro S.1 e).1), some (jI (bro S.1 e).2.1), some (jI (bro S.1 e).2.2), some (jI (nI e)), some (jI (fut (turn S.1 e)).1), none] [jI (unr (fut (turn S.1 e)).2)]
            refine hR.2 [31, 129, 140] 400 _ _ _ _ ?_
            conv => whnf
            refine ⟨fun u1 => ?_, fun u1 => ?_⟩
            · conv => whnf
              exact skip (fun h => h.2.2.1 u1) _ _ _ hC6 hF6
            · conv => whnf
              refine ⟨fun u2 => ?_, fun u2 => ?_⟩
              · conv => whnf
                exact take ⟨u1, Or.inl u2⟩
              · conv => whnf
                refine ⟨fun u3 => ?_, fun u3 => ?_⟩
                · conv => whnf
                  exact take ⟨u1, Or.inr (Or.inl u3)⟩
                · conv => whnf
                  refine ⟨fun u4 => ?_, fun u4 => ?_⟩
                  · conv => whnf
                    exact skip (fun h => h.2.2.2.elim u2 (fun h => h.elim u3 (fun h => u4 h.1))) _ _ _ hC6 hF6
                  · conv => whnf
                    refine ⟨fun u5 => ?_, fun u5 => ?_⟩
                    · conv => whnf
                      exact skip (fun h => h.2.2.2.elim u2 (fun h => h.elim u3 (fun h => absurd h.2 (by
                        have a1 := Int32.le_iff_toInt_le.mp u5
                        exact fun h2 => absurd (Int32.lt_iff_toInt_lt.mp h2) (by omega))))) _ _ _ hC6 hF6
                    · conv => whnf
                      exact take ⟨u1, Or.inr (Or.inr ⟨u4, by
                        have a1 : ¬ (bro S.1 e).2.2.toInt ≤ (fut (turn S.1 e)).1.toInt := fun h => u5 (Int32.le_iff_toInt_le.mpr h)
                        exact Int32.lt_iff_toInt_lt.mpr (by omega)⟩)⟩
          · conv => whnf
            exact skip (fun h => hst h.2.1) _ _ _ hC4 hF4
        · skip
          refine hR.2 [31, 140] 400 _ _ _ _ ?_
          conv => whnf
          refine And.intro (fun h => absurd rfl h) (fun _ => ?_)
          conv => whnf
          exact skip (fun h => hcan h.1) _ _ _ hC' hF'
    · conv => whnf
      have hv : w < 0 ∨ ¬ w ≤ nI 2 := Or.inr h1
      exact ⟨_, rfl, by simp only [F_bestRope, if_pos hv], hC, FrC.rf⟩
