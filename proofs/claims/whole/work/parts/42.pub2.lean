/-! RopedHalls: rope, open, cell, doorOf, count, distance -/
def shr (x : Int32) (k : Nat) : Int32 := (x.toUInt32 >>> ((nI k).toUInt32 &&& Int32.toUInt32 31)).toInt32
def bc1 (x : Int32) : Int32 := x - (shr x 1 &&& nI 1431655765)
def bc2 (x : Int32) : Int32 := (x &&& nI 858993459) + (shr x 2 &&& nI 858993459)
def bc3 (x : Int32) : Int32 := (x + shr x 4) &&& nI 252645135
def bc4 (x : Int32) : Int32 := x + shr x 8
def bc5 (x : Int32) : Int32 := x + shr x 16
def bcX (x : Int32) : Int32 := bc5 (bc4 (bc3 (bc2 (bc1 x)))) &&& nI 63
theorem bcX_all : ∀ b : Fin 16, bcX (nI b.val) = nI (b.val % 2 + b.val / 2 % 2 + b.val / 4 % 2 + b.val / 8 % 2) := by decide +kernel
set_option maxHeartbeats 4000000 in
set_option maxRecDepth 100000 in
theorem c_bitCount (l : Launch) (G : je_G) (x : Int32) : je_Ci l yJ6_bitCount_0f7a4 wsJ6_bitCount_0f7a4 rmJ6_bitCount_0f7a4 [jI x] G (fun r G' => G' = G ∧ r = bcX x) := by
  refine je_met1 tbJ6_bitCount_0f7a4 1 okJ6_bitCount_0f7a4 rfl (by decide +kernel) rfl (by unfold je_ret; simp) (by decide) (Nat.le_of_ble_eq_true rfl) ?_
  intro J hoks hR
  show J G 0 [some (jI x)] []
  refine hR.2 [] 400 _ _ _ _ ?_
  conv => whnf
  exact ⟨_, rfl, rfl, rfl⟩
def rps (σ : Sg) : Int32 := isum (fun e => if σ (91 + e) = 0 then nI 0 else nI 1) 70
noncomputable def F_rope (S : jS) (x s h : Int32) : Int32 × jS := by
  classical
  exact if ¬ vp_in x 35 then (-1, S) else if ¬ vp_in s 2 then (-2, S) else match bs x.toNatClampNeg (2 + s.toNatClampNeg) with
    | none => (-5, S)
    | some _ => if S.1 (91 + eg x.toNatClampNeg (2 + s.toNatClampNeg)) = h then (-5, S) else if ¬ h = 0 ∧ ¬ rps S.1 < nI 24 then (-4, S) else (rps (upd S.1 (91 + eg x.toNatClampNeg (2 + s.toNatClampNeg)) h), wS (rec6 S) (upd S.1 (91 + eg x.toNatClampNeg (2 + s.toNatClampNeg)) h))
set_option maxHeartbeats 4000000 in
set_option maxRecDepth 100000 in
theorem c_rope (l : Launch) (G : je_G) (S : jS) (hC : CR G S) (hb : bits S.1) (x s h : Int32) (h01 : h = 0 ∨ h = 1) : je_Ci l yX5_rope wsX5_rope rmX5_rope [jR (5, 0, 0), jI x, jI s, jI h] G (fun y G' => y = (F_rope S x s h).1 ∧ CR G' (F_rope S x s h).2 ∧ FrC G G') := by
  refine je_met1 tbX5_rope 1 okX5_rope rfl (by decide +kernel) rfl (by unfold je_ret; simp) (by decide) (Nat.le_of_ble_eq_true rfl) ?_
  intro J hoks hR
  show J G 0 [some (jR (5, 0, 0)), some (jI x), some (jI s), some (jI h), none] []
  refine hR.2 [] 400 _ _ _ _ ?_
  conv => whnf
  refine je_s1i hR kX5_rope_1 rfl (c_isCell l G x) rfl ?_
  intro y G' hq
  obtain ⟨rfl, ⟨h1, rfl⟩ | ⟨h1, rfl⟩⟩ := hq
  · have hv : ¬ ¬ vp_in x 35 := fun h => h h1
    obtain ⟨c, hc, rfl⟩ := vp_in_of h1 (by omega)
    have hcl : (nI c).toNatClampNeg = c := nI_clamp (by omega)
    refine hR.2 [] 400 _ _ _ _ ?_
    conv => whnf
    refine And.intro (fun _ => ?_) (fun h => absurd h (by decide))
    conv => whnf
    refine je_s1i hR kX5_rope_10 rfl (c_isSide l G' s) rfl ?_
    intro y G hq
    obtain ⟨rfl, ⟨h2, rfl⟩ | ⟨h2, rfl⟩⟩ := hq
    · have hv2 : ¬ ¬ vp_in s 2 := fun h => h h2
      obtain ⟨i, hi, rfl⟩ := vp_in_of h2 (by omega)
      have hci : (nI i).toNatClampNeg = i := nI_clamp (by omega)
      refine hR.2 [] 400 _ _ _ _ ?_
      conv => whnf
      refine And.intro (fun _ => ?_) (fun h => absurd h (by decide))
      conv => whnf
      refine je_s2i hR kX5_rope_21 rfl (c_edgeAt l G (nI c) (nI i)) rfl ?_
      intro y G' hq
      obtain ⟨rfl, rfl⟩ := hq
      have hw : (if nI i = 0 then nI 2 else nI 3) = nI (2 + i) := by
        rcases (show i = 0 ∨ i = 1 by omega) with rfl | rfl <;> decide
      rw [hw, etX_ok hc (by omega)]
      cases hbs : bs c (2 + i) with
      | none =>
        refine hR.2 [] 400 _ _ _ _ ?_
        conv => whnf
        refine je_s1i hR kX5_rope_28 rfl (c_isEdge l G' (-6)) rfl ?_
        intro y G hq
        obtain ⟨rfl, ⟨h3, rfl⟩ | ⟨h3, rfl⟩⟩ := hq
        · exact absurd h3 (n6_vp 70)
        · skip
          refine hR.2 [] 400 _ _ _ _ ?_
          conv => whnf
          refine br_t (by decide) ?_
          conv => whnf
          exact ⟨_, rfl, by simp only [F_rope, if_neg hv, if_neg hv2, hcl, hci, hbs], by simp only [F_rope, if_neg hv, if_neg hv2, hcl, hci, hbs]; exact hC, FrC.rf⟩
      | some o =>
        have he := (bs_lt c hc (2 + i) (by omega) o hbs).2.2
        show J G' _ _ [jI (nI (eg c (2 + i)))]
        refine hR.2 [] 400 _ _ _ _ ?_
        conv => whnf
        refine je_s1i hR kX5_rope_28 rfl (c_isEdge l G' (nI (eg c (2 + i)))) rfl ?_
        intro y G hq
        obtain ⟨rfl, ⟨h3, rfl⟩ | ⟨h3, rfl⟩⟩ := hq
        · have hce : (nI (eg c (2 + i))).toNatClampNeg = eg c (2 + i) := nI_clamp (by omega)
          have fin : ¬ S.1 (91 + eg c (2 + i)) = h → ¬ (¬ h = 0 ∧ ¬ rps S.1 < nI 24) → J G 70 [some (jR (5, 0, 0)), some (jI (nI c)), some (jI (nI i)), some (jI h), some (jI (nI (eg c (2 + i))))] [] := by
            intro n1 n2
            refine hR.2 [] 400 _ _ _ _ ?_
            conv => whnf
            refine je_v0v hR kX5_rope_71 rfl (c_remember l G S hC hb) rfl ?_
            intro G2 hq
            obtain ⟨hC2, hf⟩ := hq
            have e2 := CR_1 hC2
            rw [rec6_1] at e2
            refine hR.2 [] 400 _ _ _ _ ?_
            conv => whnf
            refine And.intro h3 ?_
            conv => whnf
            refine And.intro h01 ?_
            conv => whnf
            simp only [hce, e2]
            refine je_v0i hR kX5_rope_89 rfl (c_ropeCount l _ 0) rfl ?_
            intro y G3 hq
            obtain ⟨rfl, rfl⟩ := hq
            rw [je_set_eq]
            refine hR.2 [] 400 _ _ _ _ ?_
            conv => whnf
            refine ⟨_, rfl, ?_, ?_, (FrC_rem hf).set (by omega)⟩
            · simp only [F_rope, if_neg hv, if_neg hv2, hcl, hci, hbs, if_neg n1, if_neg n2]
              rfl
            · simp only [F_rope, if_neg hv, if_neg hv2, hcl, hci, hbs, if_neg n1, if_neg n2]
              exact CR_set hC2 _
          refine hR.2 [70] 400 _ _ _ _ ?_
          conv => whnf
          refine br_f (by decide) ?_
          conv => whnf
          refine And.intro h3 ?_
          conv => whnf
          rw [hce, CR_1 hC]
          refine ⟨fun h4 => ?_, fun h4 => ?_⟩
          · conv => whnf
            refine ⟨fun h5 => ?_, fun h5 => ?_⟩
            · conv => whnf
              exact fin h4 (fun q => q.1 h5)
            · conv => whnf
              refine je_v0i hR kX5_rope_59 rfl (c_ropeCount l _ 0) rfl ?_
              intro y G3 hq
              obtain ⟨rfl, rfl⟩ := hq
              rw [CR_1 hC]
              refine hR.2 [70] 400 _ _ _ _ ?_
              conv => whnf
              refine ⟨fun h6 => ?_, fun h6 => ?_⟩
              · conv => whnf
                exact fin h4 (fun q => q.2 h6)
              · conv => whnf
                have n2 : ¬ h = 0 ∧ ¬ rps S.1 < nI 24 := ⟨h5, h6⟩
                exact ⟨_, rfl, by simp only [F_rope, if_neg hv, if_neg hv2, hcl, hci, hbs, if_neg h4, if_pos n2], by simp only [F_rope, if_neg hv, if_neg hv2, hcl, hci, hbs, if_neg h4, if_pos n2]; exact hC, FrC.rf⟩
          · conv => whnf
            exact ⟨_, rfl, by simp only [F_rope, if_neg hv, if_neg hv2, hcl, hci, hbs, if_pos h4], by simp only [F_rope, if_neg hv, if_neg hv2, hcl, hci, hbs, if_pos h4]; exact hC, FrC.rf⟩
        · exact absurd (vp_in_nI he (by omega)) h3
    · skip
      refine hR.2 [] 400 _ _ _ _ ?_
      conv => whnf
      refine And.intro (fun h => absurd rfl h) (fun _ => ?_)
      conv => whnf
      exact ⟨_, rfl, by simp only [F_rope, if_neg hv, if_pos h2], by simp only [F_rope, if_neg hv, if_pos h2]; exact hC, FrC.rf⟩
  · skip
    refine hR.2 [] 400 _ _ _ _ ?_
    conv => whnf
    refine And.intro (fun h => absurd rfl h) (fun _ => ?_)
    conv => whnf
    exact ⟨_, rfl, by simp only [F_rope, if_pos h1], by simp only [F_rope, if_pos h1]; exact hC, FrC.rf⟩
def opn (σ : Sg) : Int32 := σ 13 + σ 14 + σ 15 + σ 16
theorem opn_bc {σ : Sg} (hb : bits σ) : bcX (ior (fun d => if σ (13 + d) = 0 then nI 0 else nI 1 <<< (nI d &&& 31)) 4) = opn σ := by
  have h0 := hb.2 0 (by omega)
  have h1 := hb.2 1 (by omega)
  have h2 := hb.2 2 (by omega)
  have h3 := hb.2 3 (by omega)
  simp only [ior, opn]
  rcases h0 with h0 | h0 <;> rcases h1 with h1 | h1 <;> rcases h2 with h2 | h2 <;> rcases h3 with h3 | h3 <;> simp only [h0, h1, h2, h3, show σ 13 = σ (13 + 0) from rfl, show σ 14 = σ (13 + 1) from rfl, show σ 15 = σ (13 + 2) from rfl, show σ 16 = σ (13 + 3) from rfl] <;> decide +kernel
noncomputable def F_open (S : jS) (x o : Int32) : Int32 × jS := by
  classical
  exact if ¬ vp_in x 4 then (-1, S) else if S.1 (13 + x.toNatClampNeg) = o then (-5, S) else (opn (upd S.1 (13 + x.toNatClampNeg) o), wS (rec6 S) (upd S.1 (13 + x.toNatClampNeg) o))
theorem bits_open {σ : Sg} (hb : bits σ) {d : Nat} {o : Int32} (hd : d < 4) (h01 : o = 0 ∨ o = 1) : bits (upd σ (13 + d) o) := by
  refine ⟨fun e he => ?_, fun e he => ?_⟩
  · rw [pk_un (by omega)]
    exact hb.1 e he
  · by_cases h : e = d
    · subst h
      rw [pk_us]
      exact h01
    · rw [pk_un (by omega)]
      exact hb.2 e he
set_option maxHeartbeats 4000000 in
set_option maxRecDepth 100000 in
theorem c_open (l : Launch) (G : je_G) (S : jS) (hC : CR G S) (hb : bits S.1) (x o : Int32) (h01 : o = 0 ∨ o = 1) : je_Ci l yX5_open wsX5_open rmX5_open [jR (5, 0, 0), jI x, jI o] G (fun y G' => y = (F_open S x o).1 ∧ CR G' (F_open S x o).2 ∧ FrC G G') := by
  refine je_met1 tbX5_open 1 okX5_open rfl (by decide +kernel) rfl (by unfold je_ret; simp) (by decide) (Nat.le_of_ble_eq_true rfl) ?_
  intro J hoks hR
  show J G 0 [some (jR (5, 0, 0)), some (jI x), some (jI o)] []
  refine hR.2 [] 400 _ _ _ _ ?_
  conv => whnf
  refine je_s1i hR kX5_open_1 rfl (c_isDoor l G x) rfl ?_
  intro y G' hq
  obtain ⟨rfl, ⟨h1, rfl⟩ | ⟨h1, rfl⟩⟩ := hq
  · have hv : ¬ ¬ vp_in x 4 := fun h => h h1
    obtain ⟨d, hd, rfl⟩ := vp_in_of h1 (by omega)
    have hcl : (nI d).toNatClampNeg = d := nI_clamp (by omega)
    refine hR.2 [] 400 _ _ _ _ ?_
    conv => whnf
    refine And.intro (fun _ => ?_) (fun h => absurd h (by decide))
    conv => whnf
    refine ⟨vp_in_nI (by omega) (by omega), ?_⟩
    conv => whnf
    rw [hcl, CR_1 hC]
    refine ⟨fun h4 => ?_, fun h4 => ?_⟩
    · conv => whnf
      refine je_v0v hR kX5_open_26 rfl (c_remember l G' S hC hb) rfl ?_
      intro G2 hq
      obtain ⟨hC2, hf⟩ := hq
      have e2 := CR_1 hC2
      rw [rec6_1] at e2
      refine hR.2 [] 400 _ _ _ _ ?_
      conv => whnf
      refine ⟨vp_in_nI (by omega) (by omega), ?_⟩
      conv => whnf
      refine And.intro h01 ?_
      conv => whnf
      simp only [hcl, e2]
      refine je_v0i hR kX5_open_43 rfl (c_openDoors l _ 0) rfl ?_
      intro y G3 hq
      obtain ⟨rfl, rfl⟩ := hq
      rw [je_set_eq]
      refine hR.2 [] 400 _ _ _ _ ?_
      conv => whnf
      refine je_s1i hR kX5_open_46 rfl (c_bitCount l _ _) rfl ?_
      intro y G3 hq
      obtain ⟨rfl, rfl⟩ := hq
      rw [opn_bc (bits_open hb hd h01)]
      refine hR.2 [] 400 _ _ _ _ ?_
      conv => whnf
      refine ⟨_, rfl, ?_, ?_, (FrC_rem hf).set (by omega)⟩
      · simp only [F_open, if_neg hv, hcl, if_neg h4]
      · simp only [F_open, if_neg hv, hcl, if_neg h4]
        exact CR_set hC2 _
    · conv => whnf
      exact ⟨_, rfl, by simp only [F_open, if_neg hv, hcl, if_pos h4], by simp only [F_open, if_neg hv, hcl, if_pos h4]; exact hC, FrC.rf⟩
  · skip
    refine hR.2 [] 400 _ _ _ _ ?_
    conv => whnf
    refine And.intro (fun h => absurd rfl h) (fun _ => ?_)
    conv => whnf
    exact ⟨_, rfl, by simp only [F_open, if_pos h1], by simp only [F_open, if_pos h1]; exact hC, FrC.rf⟩
noncomputable def F_cell (S : jS) (x w : Int32) : Int32 := by
  classical
  exact if ¬ vp_in x 35 then -1 else if w = nI 0 then S.1 (21 + x.toNatClampNeg) else if w = nI 1 then oI (gl S.1 x.toNatClampNeg) else if w = nI 2 then sg S.1 x.toNatClampNeg else if w = nI 3 then oI (nx S.1 x.toNatClampNeg) else if w = nI 4 then (if S.1 (56 + x.toNatClampNeg) = -1 then -6 else S.1 (56 + x.toNatClampNeg)) else if w = nI 5 then ior (rpe S.1 x.toNatClampNeg) 4 else -2
set_option maxHeartbeats 4000000 in
set_option maxRecDepth 100000 in
theorem c_cell (l : Launch) (G : je_G) (S : jS) (hC : CR G S) (hd : ∀ d, d < 4 → vp_in (S.1 (5 + d)) 35) (x w : Int32) : je_Ci l yX5_cell wsX5_cell rmX5_cell [jR (5, 0, 0), jI x, jI w] G (fun y G' => y = F_cell S x w ∧ CR G' S ∧ FrC G G') := by
  refine je_met1 tbX5_cell 1 okX5_cell rfl (by decide +kernel) rfl (by unfold je_ret; simp) (by decide) (Nat.le_of_ble_eq_true rfl) ?_
  intro J hoks hR
  show J G 0 [some (jR (5, 0, 0)), some (jI x), some (jI w)] []
  refine hR.2 [] 400 _ _ _ _ ?_
  conv => whnf
  refine je_s1i hR kX5_cell_1 rfl (c_isCell l G x) rfl ?_
  intro y G' hq
  obtain ⟨rfl, ⟨h1, rfl⟩ | ⟨h1, rfl⟩⟩ := hq
  · have hv : ¬ ¬ vp_in x 35 := fun h => h h1
    obtain ⟨c, hc, rfl⟩ := vp_in_of h1 (by omega)
    have hcl : (nI c).toNatClampNeg = c := nI_clamp (by omega)
    refine hR.2 [] 400 _ _ _ _ ?_
    conv => whnf
    refine And.intro (fun _ => ?_) (fun h => absurd h (by decide))
    conv => whnf
    refine je_v1v hR kX5_cell_17 rfl (c_find l G' 0 0 (by rw [CR_1 hC]; exact hd)) rfl ?_
    intro G2 hq
    rw [CR_1 hC] at hq
    obtain ⟨hf, hW⟩ := hq
    have hC2 := CR_f4 hC hf
    have hF := FrC.rf.fr1 hf (by omega)
    have e1 := CR_1 hC2
    refine hR.2 [] 400 _ _ _ _ ?_
    conv => whnf
    refine ⟨fun w0 => ?_, fun w0 => ⟨fun w1 => ?_, fun w1 => ⟨fun w2 => ?_, fun w2 => ⟨fun w3 => ?_, fun w3 => ⟨fun w4 => ?_, fun w4 => ⟨fun w5 => ?_, fun w5 => ?_⟩⟩⟩⟩⟩⟩
    · conv => whnf
      refine ⟨vp_in_nI (by omega) (by omega), ?_⟩
      conv => whnf
      exact ⟨_, rfl, by simp only [F_cell, if_neg hv, hcl, if_pos w0, e1], hC2, hF⟩
    · conv => whnf
      refine je_v1i hR kX5_cell_75 rfl (c_goalOf l G2 0 c hc) rfl ?_
      intro y G3 hq
      obtain ⟨rfl, rfl⟩ := hq
      refine hR.2 [] 400 _ _ _ _ ?_
      conv => whnf
      exact ⟨_, rfl, by simp only [F_cell, if_neg hv, hcl, if_neg w0, if_pos w1]; exact hW.2.1 c hc, hC2, hF⟩
    · conv => whnf
      refine je_v1i hR kX5_cell_84 rfl (c_stepsToGoal l G2 0 c hc (gl S.1 c) (fun b h => (gl_ok h).1) (hW.2.1 c hc)) rfl ?_
      intro y G3 hq
      obtain ⟨rfl, rfl⟩ := hq
      rw [gst_sg hW.1 hc]
      refine hR.2 [] 400 _ _ _ _ ?_
      conv => whnf
      exact ⟨_, rfl, by simp only [F_cell, if_neg hv, hcl, if_neg w0, if_neg w1, if_pos w2], hC2, hF⟩
    · conv => whnf
      refine je_v1i hR kX5_cell_93 rfl (c_nextOf l G2 0 c hc) rfl ?_
      intro y G3 hq
      obtain ⟨rfl, rfl⟩ := hq
      refine hR.2 [] 400 _ _ _ _ ?_
      conv => whnf
      exact ⟨_, rfl, by simp only [F_cell, if_neg hv, hcl, if_neg w0, if_neg w1, if_neg w2, if_pos w3]; exact hW.2.2.1 c hc, hC2, hF⟩
    · conv => whnf
      refine ⟨vp_in_nI (by omega) (by omega), ?_⟩
      conv => whnf
      rw [hcl, e1]
      refine ⟨fun h5 => ?_, fun h5 => ?_⟩
      · conv => whnf
        refine ⟨vp_in_nI (by omega) (by omega), ?_⟩
        conv => whnf
        exact ⟨_, rfl, by simp only [F_cell, if_neg hv, hcl, if_neg w0, if_neg w1, if_neg w2, if_neg w3, if_pos w4, if_neg h5, e1], hC2, hF⟩
      · conv => whnf
        exact ⟨_, rfl, by simp only [F_cell, if_neg hv, hcl, if_neg w0, if_neg w1, if_neg w2, if_neg w3, if_pos w4, if_pos h5], hC2, hF⟩
    · conv => whnf
      refine je_v1i hR kX5_cell_130 rfl (c_ropesAround l G2 0 c hc) rfl ?_
      intro y G3 hq
      obtain ⟨rfl, rfl⟩ := hq
      rw [e1]
      refine hR.2 [] 400 _ _ _ _ ?_
      conv => whnf
      exact ⟨_, rfl, by simp only [F_cell, if_neg hv, hcl, if_neg w0, if_neg w1, if_neg w2, if_neg w3, if_neg w4, if_pos w5], hC2, hF⟩
    · conv => whnf
      exact ⟨_, rfl, by simp only [F_cell, if_neg hv, hcl, if_neg w0, if_neg w1, if_neg w2, if_neg w3, if_neg w4, if_neg w5], hC2, hF⟩
  · skip
    refine hR.2 [] 400 _ _ _ _ ?_
    conv => whnf
    refine And.intro (fun h => absurd rfl h) (fun _ => ?_)
    conv => whnf
    exact ⟨_, rfl, by simp only [F_cell, if_pos h1], hC, FrC.rf⟩
theorem isum_cong {f g : Nat → Int32} : ∀ {n : Nat}, (∀ k, k < n → f k = g k) → isum f n = isum g n
  | 0, _ => rfl
  | n + 1, h => by
    show isum f n + f n = isum g n + g n
    rw [isum_cong (fun k hk => h k (by omega)), h n (by omega)]
noncomputable def F_doorOf (S : jS) (x w : Int32) : Int32 := by
  classical
  exact if ¬ vp_in x 4 then -1 else if w = nI 0 then S.1 (5 + x.toNatClampNeg) else if w = nI 1 then S.1 (9 + x.toNatClampNeg) else if w = nI 2 then (if S.1 (13 + x.toNatClampNeg) = 0 then nI 0 else nI 1) else if w = nI 3 then S.1 (17 + x.toNatClampNeg) else if w = nI 4 then isum (fun c => if oI (gl S.1 c) = x then nI 1 else nI 0) 35 else if w = nI 5 then isum (fun c => if oI (gl S.1 c) = x then S.1 (21 + c) else nI 0) 35 else -2
set_option maxHeartbeats 4000000 in
set_option maxRecDepth 100000 in
theorem c_doorOf (l : Launch) (G : je_G) (S : jS) (hC : CR G S) (hd : ∀ d, d < 4 → vp_in (S.1 (5 + d)) 35) (x w : Int32) : je_Ci l yX5_doorOf wsX5_doorOf rmX5_doorOf [jR (5, 0, 0), jI x, jI w] G (fun y G' => y = F_doorOf S x w ∧ CR G' S ∧ FrC G G') := by
  refine je_met1 tbX5_doorOf 1 okX5_doorOf rfl (by decide +kernel) rfl (by unfold je_ret; simp) (by decide) (Nat.le_of_ble_eq_true rfl) ?_
  intro J hoks hR
  show J G 0 [some (jR (5, 0, 0)), some (jI x), some (jI w)] []
  refine hR.2 [] 400 _ _ _ _ ?_
  conv => whnf
  refine je_s1i hR kX5_doorOf_1 rfl (c_isDoor l G x) rfl ?_
  intro y G' hq
  obtain ⟨rfl, ⟨h1, rfl⟩ | ⟨h1, rfl⟩⟩ := hq
  · have hv : ¬ ¬ vp_in x 4 := fun h => h h1
    obtain ⟨d, hd4, rfl⟩ := vp_in_of h1 (by omega)
    have hcl : (nI d).toNatClampNeg = d := nI_clamp (by omega)
    refine hR.2 [] 400 _ _ _ _ ?_
    conv => whnf
    refine And.intro (fun _ => ?_) (fun h => absurd h (by decide))
    conv => whnf
    refine je_v1v hR kX5_doorOf_17 rfl (c_find l G' 0 0 (by rw [CR_1 hC]; exact hd)) rfl ?_
    intro G2 hq
    rw [CR_1 hC] at hq
    obtain ⟨hf, hW⟩ := hq
    have hC2 := CR_f4 hC hf
    have hF := FrC.rf.fr1 hf (by omega)
    have e1 := CR_1 hC2
    refine hR.2 [] 400 _ _ _ _ ?_
    conv => whnf
    refine ⟨fun w0 => ?_, fun w0 => ⟨fun w1 => ?_, fun w1 => ⟨fun w2 => ?_, fun w2 => ⟨fun w3 => ?_, fun w3 => ⟨fun w4 => ?_, fun w4 => ⟨fun w5 => ?_, fun w5 => ?_⟩⟩⟩⟩⟩⟩
    · conv => whnf
      refine ⟨vp_in_nI (by omega) (by omega), ?_⟩
      conv => whnf
      exact ⟨_, rfl, by simp only [F_doorOf, if_neg hv, hcl, if_pos w0, e1], hC2, hF⟩
    · conv => whnf
      refine ⟨vp_in_nI (by omega) (by omega), ?_⟩
      conv => whnf
      exact ⟨_, rfl, by simp only [F_doorOf, if_neg hv, hcl, if_neg w0, if_pos w1, e1], hC2, hF⟩
    · conv => whnf
      refine ⟨vp_in_nI (by omega) (by omega), ?_⟩
      conv => whnf
      rw [hcl, e1]
      refine ⟨fun h5 => ?_, fun h5 => ?_⟩
      · conv => whnf
        exact ⟨_, rfl, by simp only [F_doorOf, if_neg hv, hcl, if_neg w0, if_neg w1, if_pos w2, if_pos h5], hC2, hF⟩
      · conv => whnf
        exact ⟨_, rfl, by simp only [F_doorOf, if_neg hv, hcl, if_neg w0, if_neg w1, if_pos w2, if_neg h5], hC2, hF⟩
    · conv => whnf
      refine ⟨vp_in_nI (by omega) (by omega), ?_⟩
      conv => whnf
      exact ⟨_, rfl, by simp only [F_doorOf, if_neg hv, hcl, if_neg w0, if_neg w1, if_neg w2, if_pos w3, e1], hC2, hF⟩
    · conv => whnf
      refine je_v1i hR kX5_doorOf_113 rfl (c_cellsWithGoal l G2 0 (nI d)) rfl ?_
      intro y G3 hq
      obtain ⟨rfl, rfl⟩ := hq
      refine hR.2 [] 400 _ _ _ _ ?_
      conv => whnf
      exact ⟨_, rfl, by simp only [F_doorOf, if_neg hv, if_neg w0, if_neg w1, if_neg w2, if_neg w3, if_pos w4]; exact isum_cong (fun k hk => by rw [hW.2.1 k hk]), hC2, hF⟩
    · conv => whnf
      refine je_v2i hR kX5_doorOf_126 rfl (c_peopleWithGoal l G2 0 0 (nI d)) rfl ?_
      intro y G3 hq
      obtain ⟨rfl, rfl⟩ := hq
      refine hR.2 [] 400 _ _ _ _ ?_
      conv => whnf
      exact ⟨_, rfl, by simp only [F_doorOf, if_neg hv, if_neg w0, if_neg w1, if_neg w2, if_neg w3, if_neg w4, if_pos w5]; exact isum_cong (fun k hk => by rw [hW.2.1 k hk, e1]), hC2, hF⟩
    · conv => whnf
      exact ⟨_, rfl, by simp only [F_doorOf, if_neg hv, hcl, if_neg w0, if_neg w1, if_neg w2, if_neg w3, if_neg w4, if_neg w5], hC2, hF⟩
  · skip
    refine hR.2 [] 400 _ _ _ _ ?_
    conv => whnf
    refine And.intro (fun h => absurd rfl h) (fun _ => ?_)
    conv => whnf
    exact ⟨_, rfl, by simp only [F_doorOf, if_pos h1], hC, FrC.rf⟩
noncomputable def F_distance (S : jS) (x y : Int32) : Int32 := by
  classical
  exact if vp_in x 35 ∧ vp_in y 4 then dI (dst S.1 y.toNatClampNeg x.toNatClampNeg) else -1
set_option maxHeartbeats 4000000 in
set_option maxRecDepth 100000 in
theorem c_distance (l : Launch) (G : je_G) (S : jS) (hC : CR G S) (hd : ∀ d, d < 4 → vp_in (S.1 (5 + d)) 35) (x w : Int32) : je_Ci l yX5_distance wsX5_distance rmX5_distance [jR (5, 0, 0), jI x, jI w] G (fun y G' => y = F_distance S x w ∧ CR G' S ∧ FrC G G') := by
  refine je_met1 tbX5_distance 1 okX5_distance rfl (by decide +kernel) rfl (by unfold je_ret; simp) (by decide) (Nat.le_of_ble_eq_true rfl) ?_
  intro J hoks hR
  show J G 0 [some (jR (5, 0, 0)), some (jI x), some (jI w)] []
  refine hR.2 [] 400 _ _ _ _ ?_
  conv => whnf
  refine je_s1i hR kX5_distance_1 rfl (c_isCell l G x) rfl ?_
  intro y G' hq
  obtain ⟨rfl, ⟨h1, rfl⟩ | ⟨h1, rfl⟩⟩ := hq
  · skip
    refine hR.2 [] 400 _ _ _ _ ?_
    conv => whnf
    refine br_f (by decide) ?_
    conv => whnf
    refine je_s1i hR kX5_distance_8 rfl (c_isDoor l G' w) rfl ?_
    intro y G hq
    obtain ⟨rfl, ⟨h2, rfl⟩ | ⟨h2, rfl⟩⟩ := hq
    · have hv : vp_in x 35 ∧ vp_in w 4 := ⟨h1, h2⟩
      obtain ⟨c, hc, rfl⟩ := vp_in_of h1 (by omega)
      have hcl : (nI c).toNatClampNeg = c := nI_clamp (by omega)
      obtain ⟨d, hd4, rfl⟩ := vp_in_of h2 (by omega)
      have hcd : (nI d).toNatClampNeg = d := nI_clamp (by omega)
      refine hR.2 [] 400 _ _ _ _ ?_
      conv => whnf
      refine And.intro (fun _ => ?_) (fun h => absurd h (by decide))
      conv => whnf
      refine je_v1v hR kX5_distance_24 rfl (c_find l G 0 0 (by rw [CR_1 hC]; exact hd)) rfl ?_
      intro G2 hq
      rw [CR_1 hC] at hq
      obtain ⟨hf, hW⟩ := hq
      have hC2 := CR_f4 hC hf
      have hF := FrC.rf.fr1 hf (by omega)
      refine hR.2 [] 400 _ _ _ _ ?_
      conv => whnf
      refine je_v2i hR kX5_distance_33 rfl (c_stepsTo l G2 0 d c hd4 hc) rfl ?_
      intro y G3 hq
      obtain ⟨rfl, rfl⟩ := hq
      refine hR.2 [] 400 _ _ _ _ ?_
      conv => whnf
      exact ⟨_, rfl, by simp only [F_distance, if_pos hv, hcl, hcd]; exact hW.1 d hd4 c hc, hC2, hF⟩
    · skip
      refine hR.2 [] 400 _ _ _ _ ?_
      conv => whnf
      refine And.intro (fun h => absurd rfl h) (fun _ => ?_)
      conv => whnf
      have hv : ¬ (vp_in x 35 ∧ vp_in w 4) := fun h => h2 h.2
      exact ⟨_, rfl, by simp only [F_distance, if_neg hv], hC, FrC.rf⟩
  · skip
    refine hR.2 [] 400 _ _ _ _ ?_
    conv => whnf
    refine br_t (by decide) ?_
    conv => whnf
    have hv : ¬ (vp_in x 35 ∧ vp_in w 4) := fun h => h1 h.1
    exact ⟨_, rfl, by simp only [F_distance, if_neg hv], hC, FrC.rf⟩
