/-! THE REFERENCE: wipe, rope, door, open, guard, enter -/
theorem InvS.gd {T : Nat} {σ : Sg} (h : InvS T σ) : ∀ c, c < 35 → σ (56 + c) = -1 ∨ vp_in (σ (56 + c)) 4 := by
  obtain ⟨rm, t, p, o, h1, h2, h3, h4, h5, h6, h7, h8, h9⟩ := h
  exact h8
def InvR (σ : Sg) : Prop := ∃ r, r ≤ 24 ∧ rps σ = nI r
theorem nvp {x : Int32} {n : Nat} (hn : n + 1 < 2 ^ 31) (h : x < nI 0 ∨ nI n < x) : ¬ vp_in x (n + 1) := fun hv => h.elim ((vp_rng hn).mp hv).1 ((vp_rng hn).mp hv).2
set_option maxHeartbeats 4000000 in
set_option maxRecDepth 100000 in
theorem m_wipe (l : Launch) (G : je_G) (S : jS) (hM : MR G S) : je_Ci l yX6_wipe wsX6_wipe rmX6_wipe [jR (6, 0, 0)] G (fun y G' => y = (F_wipe S).1 ∧ MR G' (F_wipe S).2 ∧ FrM G G') := by
  refine je_met1 tbX6_wipe 1 okX6_wipe rfl (by decide +kernel) rfl (by unfold je_ret; simp) (by decide) (Nat.le_of_ble_eq_true rfl) ?_
  intro J hoks hR
  show J G 0 [some (jR (6, 0, 0)), none] []
  obtain ⟨σ, k, hs, sv, sl, len, pad⟩ := S
  obtain ⟨e1, ⟨e2, hk, e3⟩, e5, e6, hl, e7⟩ := hM
  refine hR.2 [] 400 _ _ _ _ ?_
  conv => whnf
  have hr : ∀ f r, r ≠ 7 → je_set G 6 0 7 f 6 0 r = G 6 0 r := fun f r h1 => je_set_ne (by omega)
  refine ⟨_, rfl, e6, ⟨by rw [hr _ 0 (by omega)]; exact e1, ⟨by rw [hr _ 3 (by omega)]; exact e2, hk, fun i hi j hj => by rw [hr _ 2 (by omega)]; exact e3 i hi j hj⟩, fun i hi => ⟨by rw [hr _ 5 (by omega)]; exact (e5 i hi).1, fun h j hj => by rw [hr _ 4 (by omega)]; exact (e5 i hi).2 h j hj⟩, by rw [je_set_eq]; exact upd_eq, Nat.zero_le _, fun j hj => absurd hj (Nat.not_lt_zero j)⟩, FrM.rf.set⟩
set_option maxHeartbeats 4000000 in
set_option maxRecDepth 100000 in
theorem m_isEdge (l : Launch) (G : je_G) (c s : Nat) (hc : c < 35) (hs : s < 2) : je_Ci l yX6_isEdge wsX6_isEdge rmX6_isEdge [jI (nI c), jI (nI s)] G (fun r G' => G' = G ∧ ((∃ o, bs c (2 + s) = some o) ∧ r = 1 ∨ bs c (2 + s) = none ∧ r = 0)) := by
  refine je_met1 tbX6_isEdge 2 okX6_isEdge rfl (by decide +kernel) rfl (by unfold je_ret; simp) (by decide) (Nat.le_of_ble_eq_true rfl) ?_
  intro J hoks hR
  show J G 0 [some (jI (nI c)), some (jI (nI s))] []
  refine hR.2 [] 400 _ _ _ _ ?_
  conv => whnf
  rw [nI_add]
  refine je_s2i hR kX6_isEdge_4 rfl (m_beside l G hc (show 2 + s < 4 by omega)) rfl ?_
  intro y G' hq
  obtain ⟨rfl, rfl⟩ := hq
  cases hb : bs c (2 + s) with
  | none =>
    refine hR.2 [] 400 _ _ _ _ ?_
    conv => whnf
    refine And.intro (fun _ => ?_) (fun h => absurd rfl h)
    conv => whnf
    exact ⟨Or.inl rfl, _, rfl, rfl, Or.inr ⟨hb, rfl⟩⟩
  | some o =>
    have ho := bs_lt c hc (2 + s) (by omega) o hb
    show J G' _ _ [jI (nI o)]
    refine hR.2 [] 400 _ _ _ _ ?_
    conv => whnf
    refine And.intro (fun h => absurd h (nI_ne6 (by omega))) (fun _ => ?_)
    conv => whnf
    exact ⟨Or.inr rfl, _, rfl, rfl, Or.inl ⟨⟨o, hb⟩, rfl⟩⟩
theorem bits_rope {σ : Sg} (hb : bits σ) {e : Nat} {h : Int32} (he : e < 70) (h01 : h = 0 ∨ h = 1) : bits (upd σ (91 + e) h) := by
  refine ⟨fun e2 he2 => ?_, fun d hd => ?_⟩
  · by_cases e1 : e2 = e
    · rw [e1, upd_eq]; exact h01
    · rw [upd_ne (by omega)]; exact hb.1 e2 he2
  · rw [upd_ne (by omega)]; exact hb.2 d hd
theorem b01_if {h : Int32} (h01 : h = 0 ∨ h = 1) : (if h = 0 then nI 0 else nI 1) = h := by
  rcases h01 with rfl | rfl <;> decide
set_option maxHeartbeats 4000000 in
set_option maxRecDepth 100000 in
theorem m_rope (l : Launch) (G : je_G) (S : jS) (hM : MR G S) (hb : bits S.1) (hI : InvR S.1) (x s h : Int32) (h01 : h = 0 ∨ h = 1) : je_Ci l yX6_rope wsX6_rope rmX6_rope [jR (6, 0, 0), jI x, jI s, jI h] G (fun y G' => y = (F_rope S x s h).1 ∧ MR G' (F_rope S x s h).2 ∧ FrM G G') := by
  refine je_met1 tbX6_rope 1 okX6_rope rfl (by decide +kernel) rfl (by unfold je_ret; simp) (by decide) (Nat.le_of_ble_eq_true rfl) ?_
  intro J hoks hR
  show J G 0 [some (jR (6, 0, 0)), some (jI x), some (jI s), some (jI h), none] []
  have h0 : G 6 0 0 = S.1 := MR_1 hM
  refine hR.2 [] 400 _ _ _ _ ?_
  conv => whnf
  refine je_s1i hR kX6_rope_1 rfl (m_isCell l G x) rfl ?_
  intro y G' hq
  obtain ⟨rfl, ⟨h1, rfl⟩ | ⟨h1, rfl⟩⟩ := hq
  · have hv : ¬ ¬ vp_in x 35 := fun h => h h1
    obtain ⟨c, hc, rfl⟩ := vp_in_of h1 (by omega)
    have hcl : (nI c).toNatClampNeg = c := nI_clamp (by omega)
    refine hR.2 [] 400 _ _ _ _ ?_
    conv => whnf
    refine And.intro (fun _ => ?_) (fun h => absurd h (by decide))
    conv => whnf
    refine je_s3i hR kX6_rope_12 rfl (m_in l G' s (nI 0) (nI 1)) rfl ?_
    intro y G hq
    obtain ⟨rfl, ⟨h2, h3, rfl⟩ | ⟨h2, rfl⟩⟩ := hq
    · have hvs : vp_in s 2 := (vp_rng (by omega)).mpr ⟨h2, h3⟩
      have hv2 : ¬ ¬ vp_in s 2 := fun h => h hvs
      obtain ⟨i, hi, rfl⟩ := vp_in_of hvs (by omega)
      have hci : (nI i).toNatClampNeg = i := nI_clamp (by omega)
      refine hR.2 [] 400 _ _ _ _ ?_
      conv => whnf
      refine And.intro (fun _ => ?_) (fun h => absurd h (by decide))
      conv => whnf
      refine je_s2i hR kX6_rope_23 rfl (m_isEdge l G c i hc hi) rfl ?_
      intro y G' hq
      obtain ⟨rfl, ⟨⟨o, hbs⟩, rfl⟩ | ⟨hbs, rfl⟩⟩ := hq
      · have hbl := bs_lt c hc (2 + i) (by omega) o hbs
        have heg := hbl.2.2
        refine hR.2 [] 400 _ _ _ _ ?_
        conv => whnf
        refine br_f (by decide) ?_
        conv => whnf
        rw [nI_add]
        refine je_s2i hR kX6_rope_37 rfl (m_ropeAt l G' (nI c) (nI (2 + i))) rfl ?_
        intro y G hq
        obtain ⟨rfl, rfl⟩ := hq
        rw [raX_ok hc (by omega) hbs]
        have later : ¬ S.1 (91 + eg c (2 + i)) = h → J G 56 [some (jR (6, 0, 0)), some (jI (nI c)), some (jI (nI i)), some (jI h), none] [] := by
          intro hne
          have lay : ¬ (¬ h = 0 ∧ ¬ rps S.1 < nI 24) → J G 72 [some (jR (6, 0, 0)), some (jI (nI c)), some (jI (nI i)), some (jI h), none] [] := by
            intro hn24
            have hF : F_rope S (nI c) (nI i) h = (rps (upd S.1 (91 + eg c (2 + i)) h), wS (rec6 S) (upd S.1 (91 + eg c (2 + i)) h)) := by
              unfold F_rope
              rw [if_neg hv, if_neg hv2, hcl, hci, hbs]
              dsimp only
              rw [if_neg hne, if_neg hn24]
            have go : J G 89 [some (jR (6, 0, 0)), some (jI (nI c)), some (jI (nI i)), some (jI h), none] [jI h, jI (nI (91 + eg c (2 + i))), jR (6, 0, 0)] := by
              refine je_v2i hR kX6_rope_89 rfl (m_lays l G S hM (91 + eg c (2 + i)) (by omega) h) rfl ?_
              intro y G2 hq
              obtain ⟨rfl, hM2, hF2⟩ := hq
              have q0 := MR_1 hM2
              refine hR.2 [] 400 _ _ _ _ ?_
              conv => whnf
              refine je_v0i hR kX6_rope_95 rfl (m_ropes l G2) rfl ?_
              intro y G3 hq
              obtain ⟨rfl, rfl⟩ := hq
              refine hR.2 [] 400 _ _ _ _ ?_
              conv => whnf
              rw [hF]
              refine ⟨_, rfl, ?_, hM2, hF2⟩
              rw [q0]
              exact rps_bits (bits_rope hb heg h01)
            refine hR.2 [89] 400 _ _ _ _ ?_
            conv => whnf
            rw [nI_add]
            refine je_s2i hR kX6_rope_77 rfl (m_ropeAt l G (nI c) (nI (2 + i))) rfl ?_
            intro y G2 hq
            obtain ⟨rfl, rfl⟩ := hq
            rw [raX_ok hc (by omega) hbs]
            refine hR.2 [89] 400 _ _ _ _ ?_
            conv => whnf
            rcases h01 with rfl | rfl
            · refine And.intro (fun _ => ?_) (fun h => absurd rfl h)
              conv => whnf
              exact go
            · refine And.intro (fun h => absurd h (by decide)) (fun _ => ?_)
              conv => whnf
              exact go
          refine hR.2 [72] 400 _ _ _ _ ?_
          conv => whnf
          refine ⟨fun hz => ?_, fun hz => ?_⟩
          · conv => whnf
            exact lay (fun h => h.1 hz)
          · conv => whnf
            refine je_v0i hR kX6_rope_61 rfl (m_ropes l G) rfl ?_
            intro y G2 hq
            obtain ⟨rfl, rfl⟩ := hq
            rw [h0, rps_bits hb]
            obtain ⟨r, hr, hre⟩ := hI
            refine hR.2 [72] 400 _ _ _ _ ?_
            conv => whnf
            rw [hre]
            by_cases e24 : r = 24
            · have hc24 : ¬ h = 0 ∧ ¬ rps S.1 < nI 24 := ⟨hz, by rw [hre, e24]; decide⟩
              refine And.intro (fun h => absurd (by rw [e24]) h) (fun _ => ?_)
              conv => whnf
              refine ⟨_, rfl, ?_⟩
              unfold F_rope
              rw [if_neg hv, if_neg hv2, hcl, hci, hbs]
              dsimp only
              rw [if_neg hne, if_pos hc24]
              exact ⟨rfl, hM, FrM.rf⟩
            · refine And.intro (fun _ => ?_) (fun h => absurd ((nI_eq (by omega) (by omega)).mp h) e24)
              conv => whnf
              refine lay (fun h => h.2 ?_)
              rw [hre]
              exact (nI_ltI (by omega) (by omega)).mpr (by omega)
        refine hR.2 [56, 53] 400 _ _ _ _ ?_
        conv => whnf
        refine And.intro (vp_in_nI (by omega) (by omega)) ?_
        conv => whnf
        simp only [nI_clamp (show 91 + eg c (2 + i) < 2 ^ 31 by omega), Nat.zero_add, h0]
        have same : S.1 (91 + eg c (2 + i)) = h → ∀ a, J G 53 a [] := by
          intro he a
          refine hR.2 [] 400 _ _ _ _ ?_
          conv => whnf
          refine ⟨_, rfl, ?_⟩
          unfold F_rope
          rw [if_neg hv, if_neg hv2, hcl, hci, hbs]
          dsimp only
          rw [if_pos he]
          exact ⟨rfl, hM, FrM.rf⟩
        rcases h01 with rfl | rfl
        · refine And.intro (fun _ => ?_) (fun h => absurd rfl h)
          conv => whnf
          refine ⟨fun e => ?_, fun e => ?_⟩
          · conv => whnf
            exact later e
          · conv => whnf
            exact same e _
        · refine And.intro (fun h => absurd h (by decide)) (fun _ => ?_)
          conv => whnf
          refine ⟨fun e => ?_, fun e => ?_⟩
          · conv => whnf
            exact later e
          · conv => whnf
            exact same e _
      · skip
        refine hR.2 [] 400 _ _ _ _ ?_
        conv => whnf
        refine br_t (by decide) ?_
        conv => whnf
        refine ⟨_, rfl, ?_⟩
        unfold F_rope
        rw [if_neg hv, if_neg hv2, hcl, hci, hbs]
        exact ⟨rfl, hM, FrM.rf⟩
    · have hv2 : ¬ vp_in s 2 := nvp (by omega) h2
      refine hR.2 [] 400 _ _ _ _ ?_
      conv => whnf
      refine And.intro (fun h => absurd rfl h) (fun _ => ?_)
      conv => whnf
      refine ⟨_, rfl, ?_⟩
      unfold F_rope
      rw [if_neg hv, if_pos hv2]
      exact ⟨rfl, hM, FrM.rf⟩
  · skip
    refine hR.2 [] 400 _ _ _ _ ?_
    conv => whnf
    refine And.intro (fun h => absurd rfl h) (fun _ => ?_)
    conv => whnf
    refine ⟨_, rfl, ?_⟩
    unfold F_rope
    rw [if_pos h1]
    exact ⟨rfl, hM, FrM.rf⟩
