/-! THE REFERENCE: fault, reads with letting in, read -/
theorem fa_cong {P Q : Sg} : ∀ (f i : Nat) (st : Int32), (∀ j, i ≤ j → j < i + f → P j = Q j) → fa P f i st = fa Q f i st
  | 0, i, st, _ => rfl
  | f + 1, i, st, h => by
    rw [fa, fa, h i (Nat.le_refl _) (by omega)]
    split
    · rfl
    · exact fa_cong f (i + 1) _ (fun j h1 h2 => h j (by omega) (by omega))
theorem MR_P {G : je_G} {S : jS} (h : MR G S) : S.2.2.2.2.2.1 ≤ 60 ∧ ∀ j, j < S.2.2.2.2.2.1 → G 6 0 6 j = S.2.2.2.2.2.2 j := by
  obtain ⟨σ, k, hs, sv, sl, len, pad⟩ := S
  exact ⟨h.2.2.2.2.1, h.2.2.2.2.2⟩
theorem MR_T {G G' : je_G} {S : jS} (h : MR G S) (hf : FrT G G') : MR G' S := MR_fr h (fun r hr h1 => hf.r (by omega))
set_option maxHeartbeats 4000000 in
set_option maxRecDepth 100000 in
theorem m_fault (l : Launch) (G : je_G) (S : jS) (hM : MR G S) : je_Ci l yX6_fault wsX6_fault rmX6_fault [jR (6, 0, 0)] G (fun y G' => y = F_fault S ∧ MR G' S ∧ FrM G G') := by
  refine je_met1 tbX6_fault 1 okX6_fault rfl (by decide +kernel) rfl (by unfold je_ret; simp) (by decide) (Nat.le_of_ble_eq_true rfl) ?_
  intro J hoks hR
  show J G 0 [some (jR (6, 0, 0)), none] []
  obtain ⟨hl, hp⟩ := MR_P hM
  have hF : F_fault S = fa (G 6 0 6) S.2.2.2.2.2.1 0 (nI 0) := (fa_cong _ 0 _ (fun j _ hj => hp j (by rw [Nat.zero_add] at hj; exact hj))).symm
  refine hR.2 [] 400 _ _ _ _ ?_
  conv => whnf
  refine je_v1i hR kX6_fault_2 rfl (m_reads0 l G S.2.2.2.2.2.1 (MR_len hM) hl) rfl ?_
  intro y G1 hq
  obtain ⟨hF1, p, w, hP, hfa⟩ := hq
  obtain ⟨b1, b2, b3, b4, b5⟩ := hP
  rw [hfa] at hF
  refine hR.2 [] 400 _ _ _ _ ?_
  conv => whnf
  rw [b5]
  cases w with
  | true =>
    refine br_f (by decide) ?_
    conv => whnf
    rw [hF]
    exact ⟨_, rfl, b4, MR_T hM hF1, hF1.m⟩
  | false =>
    refine br_t (by decide) ?_
    conv => whnf
    rw [hF]
    exact ⟨_, rfl, rfl, MR_T hM hF1, hF1.m⟩
theorem ch_in {P : Sg} {p a k n : Nat} (h : P p = nI (a + k)) (hk : k ≤ n) (hn : a + n < 2 ^ 31) : ¬ P p < nI a ∧ ¬ nI (a + n) < P p := by
  rw [h]
  exact ⟨fun h => absurd ((nI_ltI (by omega) (by omega)).mp h) (by omega), fun h => absurd ((nI_ltI (by omega) (by omega)).mp h) (by omega)⟩
theorem crowd {P : Sg} {len p q cx ry m : Nat} (hc : crw P p q cx ry m) (hq : q ≤ len) (h60 : len ≤ 60) (he : q = len ∨ (q < len ∧ P q = nI 44)) (hf : fs P len (nI 6) (tm P len (p + 3, false)).1 = -6) : tm P len (p + 3, false) = ((q, false), nI m) := by
  obtain ⟨h1, h2, h3, h4, h5, d1, h6, h7, h8, h9⟩ := hc
  have hp4 : p + 4 ≤ q := by rcases h9 with h9 | h9 <;> omega
  have ht : tk P len (nI 49) (nI 57) (p + 3, false) = (p + 4, false) := by
    have := ch_in (P := P) (p := p + 3) (a := 49) (k := d1 - 1) (n := 8) (by rw [h8]; congr 1; omega) (by omega) (by omega)
    exact tk_y (by omega) this.1 this.2
  have hv : tv0 P len (p + 3) = nI d1 := by
    unfold tv0 chr
    rw [if_pos (by omega), h8, pk_sub (by omega), nI_add]
    congr 1
    omega
  by_cases h2w : two P len (tv0 P len (p + 3)) (tk P len (nI 49) (nI 57) (p + 3, false))
  · have e : tm P len (p + 3, false) = (tk P len (nI 48) (nI 57) (tk P len (nI 49) (nI 57) (p + 3, false)), nI 10 * tv0 P len (p + 3) + (chr P len (tk P len (nI 49) (nI 57) (p + 3, false)).1 - nI 48)) := if_pos h2w
    have hd : p + 4 < len ∧ ¬ P (p + 4) < nI 48 ∧ ¬ nI 57 < P (p + 4) := by
      rw [ht] at h2w
      rcases h2w with h | h
      · exact h.2.2
      · refine ⟨h.2.2.1, h.2.2.2.1, fun h3 => h.2.2.2.2 ?_⟩
        exact fa_trans (show nI 48 < nI 57 by decide) (fa_of_lt h3).1
    rw [e, ht, hv]
    rw [tk_y hd.1 hd.2.1 hd.2.2]
    rcases h9 with ⟨rfl, rfl⟩ | ⟨rfl, d2, hd2, h10, rfl⟩
    · rcases he with he | he
      · omega
      · exact absurd (by rw [he.2]; decide) hd.2.1
    · have hch : chr P len (p + 4) = nI (48 + d2) := by unfold chr; rw [if_pos hd.1, h10]
      show ((p + 4 + 1, false), nI 10 * nI d1 + (chr P len (p + 4) - nI 48)) = _
      rw [hch, pk_sub (by omega), show nI 10 * nI d1 = nI (10 * d1) from pk_mul 10 d1, nI_add]
      congr 2
      omega
  · have e : tm P len (p + 3, false) = (tk P len (nI 49) (nI 57) (p + 3, false), tv0 P len (p + 3)) := if_neg h2w
    rw [e, ht] at hf
    rw [e, ht, hv]
    rcases h9 with ⟨rfl, rfl⟩ | ⟨rfl, d2, hd2, h10, rfl⟩
    · rfl
    · exfalso
      have hp4 : p + 4 < len := by omega
      have hne : ¬ P (p + 4) = nI 44 := by
        rw [h10]
        intro h
        have := (nI_eq (by omega) (by omega)).mp h
        omega
      rw [fs6 hp4, tk_n (fun h => hne (rng_eq.mp h.2)), fs_t] at hf
      exact nI_ne6 (by omega) hf
/-- the reading place and the hall may differ -/
def FrX (G G' : je_G) : Prop := ∀ c n r, (c = 6 → n = 0 → 0 < r ∧ r < 14) → G' c n r = G c n r
theorem FrX.rf {G : je_G} : FrX G G := fun _ _ _ _ => rfl
theorem FrX.t {G G1 G2 : je_G} (h : FrX G G1) (h2 : FrT G1 G2) : FrX G G2 := fun c n r hc => (h2 c n r (by omega)).trans (h c n r hc)
theorem FrX.set0 {G G1 : je_G} (h : FrX G G1) {f : Sg} : FrX G (je_set G1 6 0 0 f) := fun c n r' hc => by
  rw [je_set_ne (by omega)]
  exact h c n r' hc
theorem FrX.r {G G1 : je_G} (h : FrX G G1) {r : Nat} (h0 : 0 < r) (hr : r < 14) : G1 6 0 r = G 6 0 r := h 6 0 r (by omega)
theorem FrX.m {G G1 : je_G} (h : FrX G G1) : FrM G G1 := fun c n r hc => h c n r (by omega)
theorem atP_set0 {G : je_G} {len p : Nat} {w : Bool} (h : atP G len p w) {f : Sg} : atP (je_set G 6 0 0 f) len p w := by
  obtain ⟨b1, b2, b3, b4, b5⟩ := h
  exact ⟨by rw [je_set_ne (by omega)]; exact b1, b2, b3, by rw [je_set_ne (by omega)]; exact b4, by rw [je_set_ne (by omega)]; exact b5⟩
theorem inl_2 {τ : Sg} {c m : Nat} (hc : c < 35) : inl τ (c, m) = upd (upd τ (21 + c) (τ (21 + c) + (if τ 0 - τ (21 + c) < nI m then τ 0 - τ (21 + c) else nI m))) 2 (τ 2 + (if τ 0 - τ (21 + c) < nI m then τ 0 - τ (21 + c) else nI m)) := rfl
set_option maxHeartbeats 4000000 in
set_option maxRecDepth 100000 in
theorem m_reads1 (l : Launch) (G : je_G) (σ : Sg) (len : Nat) (cs : List (Nat × Nat)) (h0 : G 6 0 0 = σ) (h7 : G 6 0 7 0 = nI len) (h60 : len ≤ 60) (ht : txt (G 6 0 6) len 0 cs) (hfa : fa (G 6 0 6) len 0 (nI 0) = -6) : je_Ci l yX6_reads wsX6_reads rmX6_reads [jR (6, 0, 0), jI (nI 1)] G (fun y G' => y = (cs.foldl inl σ) 2 - σ 2 ∧ G' 6 0 0 = cs.foldl inl σ ∧ FrX G G') := by
  refine je_met1 tbX6_reads 1 okX6_reads rfl (by decide +kernel) rfl (by unfold je_ret; simp) (by decide) (Nat.le_of_ble_eq_true rfl) ?_
  intro J hoks hR
  show J G 0 [some (jR (6, 0, 0)), some (jI (nI 1)), none, none, none, none, none, none, none, none] []
  generalize hRR : cs.foldl inl σ = R at hR
  have fin : ∀ G', FrX G G' → G' 6 0 0 = R → J G' 14 [some (jR (6, 0, 0)), some (jI (nI 1)), some (jI (R 2 - σ 2)), some (jI (nI 0)), none, none, none, none, none, none] [] := by
    intro G' hF h0'
    refine hR.2 [] 400 _ _ _ _ ?_
    conv => whnf
    refine br_t (by decide) ?_
    conv => whnf
    exact ⟨_, rfl, rfl, h0', hF⟩
  have loop : ∀ (cs : List (Nat × Nat)) (p : Nat) (τ : Sg) (G' : je_G), FrX G G' → atP G' len p false → G' 6 0 0 = τ → txt (G 6 0 6) len p cs → fs (G 6 0 6) len (nI 0) (p, false) = -6 → cs.foldl inl τ = R → J G' 14 [some (jR (6, 0, 0)), some (jI (nI 1)), some (jI (τ 2 - σ 2)), some (jI (nI 1)), none, none, none, none, none, none] [] := by
    intro cs
    induction cs with
    | nil => intro p τ G' _ _ _ ht; exact absurd ht id
    | cons cm rest ih =>
      obtain ⟨c, m⟩ := cm
      intro p τ G0 hF0 hP0 hτ ht hf hres
      obtain ⟨q, cx, ry, hc, hcc, hq, hrest⟩ := ht
      have hc' := hc
      obtain ⟨k1, k2, k3, k4, k5, d1, k6, k7, k8, k9⟩ := hc'
      have hq4 : p + 4 ≤ q := by rcases k9 with k9 | k9 <;> omega
      have hp := hP0.2.2.1
      have q0 : G0 6 0 6 = G 6 0 6 := hF0.r (by omega) (by omega)
      have t1 : tk (G 6 0 6) len (nI 97) (nI 103) (p, false) = (p + 1, false) := by
        have := ch_in (P := G 6 0 6) (p := p) (a := 97) (k := cx) (n := 6) k1 (by omega) (by omega)
        exact tk_y (by omega) this.1 this.2
      have t2 : tk (G 6 0 6) len (nI 49) (nI 53) (p + 1, false) = (p + 2, false) := by
        have := ch_in (P := G 6 0 6) (p := p + 1) (a := 49) (k := ry) (n := 4) k3 (by omega) (by omega)
        exact tk_y (by omega) this.1 this.2
      have t3 : tk (G 6 0 6) len (nI 58) (nI 58) (p + 2, false) = (p + 3, false) := by
        have := rng_eq.mpr k5
        exact tk_y (by omega) this.1 this.2
      have hcw : cw (G 6 0 6) len p = (tm (G 6 0 6) len (p + 3, false)).1 := by
        unfold cw
        rw [t1, t2, t3]
      rw [cw_fs hp, hcw] at hf
      have t4 := crowd hc hq h60 (hrest.elim (fun h => Or.inl h.2) (fun h => Or.inr ⟨h.1, h.2.1⟩)) hf
      rw [t4] at hf
      have v1 : chr (G 6 0 6) len p - nI 97 = nI cx := by
        unfold chr
        rw [if_pos (by omega), k1, pk_sub (by omega)]
        congr 1
        omega
      have v2 : chr (G 6 0 6) len (p + 1) - nI 49 = nI ry := by
        unfold chr
        rw [if_pos (by omega), k3, pk_sub (by omega)]
        congr 1
        omega
      have hc35 : c < 35 := by omega
      refine hR.2 [14] 400 _ _ _ _ ?_
      conv => whnf
      refine br_f (by decide) ?_
      conv => whnf
      refine je_v2i hR kX6_reads_23 rfl (m_takes l G0 len p false hP0 (nI 97) (nI 103) (by decide)) rfl ?_
      intro y G1 hq
      obtain ⟨rfl, hP1, hF1⟩ := hq
      rw [q0, t1] at hP1
      rw [q0, v1]
      have q1 : G1 6 0 6 = G 6 0 6 := (hF1.r (by omega)).trans q0
      have s1 : G1 6 0 0 = τ := (hF1.r (by omega)).trans hτ
      have hF1 := hF0.t hF1
      refine hR.2 [] 400 _ _ _ _ ?_
      conv => whnf
      refine je_v2i hR kX6_reads_35 rfl (m_takes l G1 len _ _ hP1 (nI 49) (nI 53) (by decide)) rfl ?_
      intro y G2 hq
      obtain ⟨rfl, hP2, hF2⟩ := hq
      rw [q1] at hP2 ⊢
      have hP2 : atP G2 len (tk (G 6 0 6) len (nI 49) (nI 53) (p + 1, false)).1 (tk (G 6 0 6) len (nI 49) (nI 53) (p + 1, false)).2 := hP2
      rw [t2] at hP2
      rw [v2]
      have q2 : G2 6 0 6 = G 6 0 6 := (hF2.r (by omega)).trans q1
      have s2 : G2 6 0 0 = τ := (hF2.r (by omega)).trans s1
      have hF2 := hF1.t hF2
      refine hR.2 [] 400 _ _ _ _ ?_
      conv => whnf
      rw [show nI 7 * nI ry = nI (7 * ry) from pk_mul 7 ry, nI_add, ← hcc]
      refine je_v2i hR kX6_reads_49 rfl (m_takes l G2 len _ _ hP2 (nI 58) (nI 58) (by decide)) rfl ?_
      intro y G3 hq
      obtain ⟨rfl, hP3, hF3⟩ := hq
      rw [q2] at hP3 ⊢
      have hP3 : atP G3 len (tk (G 6 0 6) len (nI 58) (nI 58) (p + 2, false)).1 (tk (G 6 0 6) len (nI 58) (nI 58) (p + 2, false)).2 := hP3
      rw [t3] at hP3
      have q3 : G3 6 0 6 = G 6 0 6 := (hF3.r (by omega)).trans q2
      have s3 : G3 6 0 0 = τ := (hF3.r (by omega)).trans s2
      have hF3 := hF2.t hF3
      refine hR.2 [] 400 _ _ _ _ ?_
      conv => whnf
      refine je_v0i hR kX6_reads_55 rfl (m_takesMany l G3 len _ _ hP3) rfl ?_
      intro y G4 hq
      obtain ⟨rfl, hP4, hF4⟩ := hq
      rw [q3] at hP4 ⊢
      have hP4 : atP G4 len (tm (G 6 0 6) len (p + 3, false)).1.1 (tm (G 6 0 6) len (p + 3, false)).1.2 := hP4
      have e2 : (tm (G 6 0 6) len ((p + 3, false).1, (p + 3, false).2)).2 = nI m := by
        show (tm (G 6 0 6) len (p + 3, false)).2 = nI m
        rw [t4]
      rw [e2]
      rw [t4] at hP4
      have q4 : G4 6 0 6 = G 6 0 6 := (hF4.r (by omega)).trans q3
      have s4 : G4 6 0 0 = τ := (hF4.r (by omega)).trans s3
      have hF4 := hF3.t hF4
      -- they come in
      have at130 : ∀ L8 L9 : Int32, J (je_set G4 6 0 0 (inl τ (c, m))) 130 [some (jR (6, 0, 0)), some (jI (nI 1)), some (jI (inl τ (c, m) 2 - σ 2)), some (jI (nI 1)), some (jI (nI cx)), some (jI (nI c)), some (jI (chr (G 6 0 6) len (p + 2, false).1 - nI 58)), some (jI (nI m)), some (jI L8), some (jI L9)] [] := by
        intro L8 L9
        have hP5 : atP (je_set G4 6 0 0 (inl τ (c, m))) len q false := atP_set0 hP4
        have hF5 : FrX G (je_set G4 6 0 0 (inl τ (c, m))) := hF4.set0
        have s5 : je_set G4 6 0 0 (inl τ (c, m)) 6 0 0 = inl τ (c, m) := je_set_eq
        have q5 : je_set G4 6 0 0 (inl τ (c, m)) 6 0 6 = G 6 0 6 := by rw [je_set_ne (by omega)]; exact q4
        have hres2 : rest.foldl inl (inl τ (c, m)) = R := hres
        generalize je_set G4 6 0 0 (inl τ (c, m)) = G5 at hP5 hF5 s5 q5 ⊢
        generalize inl τ (c, m) = τ' at s5 hres2 ⊢
        have hP5' := hP5
        obtain ⟨b1, b2, b3, b4, b5⟩ := hP5'
        refine hR.2 [14] 400 _ _ _ _ ?_
        conv => whnf
        rw [b5]
        refine And.intro (fun h => absurd rfl h) (fun _ => ?_)
        conv => whnf
        rw [b4, b1]
        rcases hrest with ⟨rfl, rfl⟩ | ⟨hql, h44, ht2⟩
        · refine br_t ((nI_leI (by omega) (by omega)).mpr (by omega)) ?_
          conv => whnf
          refine br_t (by decide) ?_
          conv => whnf
          have hRe : τ' = R := hres2
          rw [hRe]
          exact je_loc hR (L' := [some _, some _, some _, some _, none, none, none, none, none, none]) ⟨rfl, rfl, rfl, rfl, trivial⟩ (fin G5 hF5 (s5.trans hRe))
        · refine br_f (fun h => absurd ((nI_leI (by omega) (by omega)).mp h) (by omega)) ?_
          conv => whnf
          refine br_f (by decide) ?_
          conv => whnf
          refine je_v2i hR kX6_reads_163 rfl (m_takes l G5 len q false hP5 (nI 44) (nI 44) (by decide)) rfl ?_
          intro y G6 hq
          obtain ⟨rfl, hP6, hF6⟩ := hq
          have h44' := rng_eq.mpr h44
          rw [q5, tk_y hql h44'.1 h44'.2] at hP6
          rw [fs6 hql, tk_y hql h44'.1 h44'.2] at hf
          have s6 : G6 6 0 0 = τ' := (hF6.r (by omega)).trans s5
          have hF6 := hF5.t hF6
          have hP6' := hP6
          obtain ⟨c1, c2, c3, c4, c5⟩ := hP6'
          refine hR.2 [14] 400 _ _ _ _ ?_
          conv => whnf
          rw [c5]
          refine And.intro (fun h => absurd rfl h) (fun _ => ?_)
          conv => whnf
          exact je_loc hR (L' := [some _, some _, some _, some _, none, none, none, none, none, none]) ⟨rfl, rfl, rfl, rfl, trivial⟩ (ih (q + 1) τ' G6 hF6 hP6 s6 ht2 hf hres2)
      have at99 : ∀ r k : Int32, k = (if τ 0 - τ (21 + c) < nI m then τ 0 - τ (21 + c) else nI m) → J G4 99 [some (jR (6, 0, 0)), some (jI (nI 1)), some (jI (τ 2 - σ 2)), some (jI (nI 1)), some (jI (nI cx)), some (jI (nI c)), some (jI (chr (G 6 0 6) len (p + 2, false).1 - nI 58)), some (jI (nI m)), some (jI r), some (jI k)] [] := by
        intro r k hk
        have f := at130 r k
        have hin : inl τ (c, m) = upd (upd τ (21 + c) (τ (21 + c) + k)) 2 (τ 2 + k) := by rw [hk]; exact inl_2 hc35
        have h2 : inl τ (c, m) 2 - σ 2 = τ 2 - σ 2 + k := by
          rw [hin, upd_eq]
          simp only [Int32.sub_eq_add_neg]
          exact i_sw
        rw [h2, hin] at f
        refine hR.2 [130] 400 _ _ _ _ ?_
        conv => whnf
        rw [nI_add]
        refine ⟨vp_in_nI (by omega) (by omega), ?_⟩
        conv => whnf
        refine ⟨vp_in_nI (by omega) (by omega), ?_⟩
        conv => whnf
        refine And.intro (vp_in_nI (by omega) (by omega)) ?_
        conv => whnf
        refine And.intro (vp_in_nI (by omega) (by omega)) ?_
        conv => whnf
        simp only [je_set_set, je_set_eq, s4]
        simp only [nI_clamp (show 21 + c < 2 ^ 31 by omega), nI_clamp (show 2 < 2 ^ 31 by omega), Nat.zero_add]
        rw [show upd τ (21 + c) (τ (21 + c) + k) 2 = τ 2 from upd_ne (by omega)]
        exact f
      refine hR.2 [99] 400 _ _ _ _ ?_
      conv => whnf
      refine br_f (by decide) ?_
      conv => whnf
      refine And.intro (vp_in_nI (by omega) (by omega)) ?_
      conv => whnf
      rw [nI_add]
      refine ⟨vp_in_nI (by omega) (by omega), ?_⟩
      conv => whnf
      simp only [nI_clamp (show 21 + c < 2 ^ 31 by omega), nI_clamp (show 0 < 2 ^ 31 by omega), Nat.zero_add, s4]
      have f9 := at99 (τ 0 - τ (21 + c)) _ rfl
      rw [← min_eq] at f9
      refine ⟨fun h => ?_, fun h => ?_⟩
      · conv => whnf
        rw [if_pos h] at f9
        exact f9
      · conv => whnf
        rw [if_neg h] at f9
        exact f9
  refine hR.2 [14] 400 _ _ _ _ ?_
  conv => whnf
  refine And.intro (Or.inl rfl) ?_
  conv => whnf
  have r1 : ∀ f, je_set G 6 0 14 f 6 0 15 = G 6 0 15 := fun f => je_set_ne (by omega)
  have r2 : ∀ f g, je_set (je_set G 6 0 14 f) 6 0 15 g 6 0 14 = f := fun f g => by rw [je_set_ne (by omega), je_set_eq]
  have r3 : ∀ f g r, r < 14 → je_set (je_set G 6 0 14 f) 6 0 15 g 6 0 r = G 6 0 r := fun f g r hr => by rw [je_set_ne (by omega), je_set_ne (by omega)]
  have f0 := loop cs 0 σ (je_set (je_set G 6 0 14 (upd (G 6 0 14) 0 (nI 0))) 6 0 15 (upd (je_set G 6 0 14 (upd (G 6 0 14) 0 (nI 0)) 6 0 15) 0 (nI 0))) (FrX.rf.t ((FrT.rf.set (by omega)).set (by omega))) ⟨by rw [r3 _ _ _ (by omega)]; exact h7, h60, Nat.zero_le _, by rw [r2, upd_eq], by rw [je_set_eq, upd_eq]; rfl⟩ (by rw [r3 _ _ _ (by omega)]; exact h0) ht hfa hRR
  rw [show σ 2 - σ 2 = nI 0 from Int32.sub_self _] at f0
  exact f0
theorem txt_cong {P Q : Sg} {len : Nat} (h : ∀ j, j < len → P j = Q j) : ∀ (cs : List (Nat × Nat)) (p : Nat), txt P len p cs → txt Q len p cs
  | [], _, ht => absurd ht id
  | (c, m) :: rest, p, ht => by
    obtain ⟨q, cx, ry, ⟨k1, k2, k3, k4, k5, d1, k6, k7, k8, k9⟩, hcc, hq, hrest⟩ := ht
    have hq4 : p + 4 ≤ q := by rcases k9 with k9 | k9 <;> omega
    refine ⟨q, cx, ry, ⟨by rw [← h p (by omega)]; exact k1, k2, by rw [← h (p + 1) (by omega)]; exact k3, k4, by rw [← h (p + 2) (by omega)]; exact k5, d1, k6, k7, by rw [← h (p + 3) (by omega)]; exact k8, ?_⟩, hcc, hq, ?_⟩
    · rcases k9 with k9 | ⟨k9, d2, k10, k11, k12⟩
      · exact Or.inl k9
      · exact Or.inr ⟨k9, d2, k10, by rw [← h (p + 4) (by omega)]; exact k11, k12⟩
    · rcases hrest with h1 | ⟨h1, h2, h3⟩
      · exact Or.inl h1
      · exact Or.inr ⟨h1, by rw [← h q h1]; exact h2, txt_cong h rest (q + 1) h3⟩
theorem crs_ok {S : jS} (h : ∃ cs, txt S.2.2.2.2.2.2 S.2.2.2.2.2.1 0 cs) : txt S.2.2.2.2.2.2 S.2.2.2.2.2.1 0 (crs S) := by
  unfold crs
  rw [dif_pos h]
  exact Classical.choose_spec h
set_option maxHeartbeats 4000000 in
set_option maxRecDepth 100000 in
theorem m_read (l : Launch) (G : je_G) (S : jS) (hM : MR G S) (ht : fa S.2.2.2.2.2.2 S.2.2.2.2.2.1 0 (nI 0) = -6 → ∃ cs, txt S.2.2.2.2.2.2 S.2.2.2.2.2.1 0 cs) : je_Ci l yX6_read wsX6_read rmX6_read [jR (6, 0, 0)] G (fun y G' => y = (F_read S).1 ∧ MR G' (F_read S).2 ∧ FrM G G') := by
  refine je_met1 tbX6_read 1 okX6_read rfl (by decide +kernel) rfl (by unfold je_ret; simp) (by decide) (Nat.le_of_ble_eq_true rfl) ?_
  intro J hoks hR
  show J G 0 [some (jR (6, 0, 0)), none, none] []
  obtain ⟨hl, hp⟩ := MR_P hM
  have hfc : fa (G 6 0 6) S.2.2.2.2.2.1 0 (nI 0) = fa S.2.2.2.2.2.2 S.2.2.2.2.2.1 0 (nI 0) := fa_cong _ 0 _ (fun j _ hj => hp j (by rw [Nat.zero_add] at hj; exact hj))
  refine hR.2 [] 400 _ _ _ _ ?_
  conv => whnf
  refine je_v1i hR kX6_read_2 rfl (m_reads0 l G S.2.2.2.2.2.1 (MR_len hM) hl) rfl ?_
  intro y G1 hq
  obtain ⟨hF1, p, w, hP, hfa⟩ := hq
  obtain ⟨b1, b2, b3, b4, b5⟩ := hP
  rw [hfc] at hfa
  have hM1 := MR_T hM hF1
  refine hR.2 [] 400 _ _ _ _ ?_
  conv => whnf
  rw [b5]
  cases w with
  | true =>
    have hne : ¬ fa S.2.2.2.2.2.2 S.2.2.2.2.2.1 0 (nI 0) = -6 := by
      rw [hfa, if_pos rfl]
      exact nI_ne6 (by omega)
    have hF : F_read S = (-3, S) := by
      obtain ⟨σ, k, hs, sv, sl, len, pad⟩ := S
      simp only [F_read]
      exact if_neg hne
    refine br_f (by decide) ?_
    conv => whnf
    rw [hF]
    exact ⟨_, rfl, rfl, hM1, hF1.m⟩
  | false =>
    have hok : fa S.2.2.2.2.2.2 S.2.2.2.2.2.1 0 (nI 0) = -6 := hfa
    have hcs := crs_ok (ht hok)
    have hF : F_read S = (((crs S).foldl inl S.1) 2 - S.1 2, wS (F_wipe (rec6 S)).2 ((crs S).foldl inl S.1)) := by
      generalize hcr : crs S = cs
      obtain ⟨σ, k, hs, sv, sl, len, pad⟩ := S
      simp only [F_read]
      rw [if_pos (show fa pad len 0 (nI 0) = -6 from hok), hcr]
    generalize crs S = cs at hcs hF
    refine br_t (by decide) ?_
    conv => whnf
    refine je_v0v hR kX6_read_17 rfl (m_record l G1 S hM1) rfl ?_
    intro G2 hq
    obtain ⟨hM2, hF2⟩ := hq
    have q0 : G2 6 0 0 = S.1 := (MR_1 hM2).trans (rec6_1 S)
    have q7 : G2 6 0 7 0 = nI S.2.2.2.2.2.1 := by
      have := MR_len hM2
      rw [rec6_sl S] at this
      exact this
    have q6 : ∀ j, j < S.2.2.2.2.2.1 → S.2.2.2.2.2.2 j = G2 6 0 6 j := fun j hj => by
      rw [hF2.r (r := 6) (by omega) (by omega), hF1.r (r := 6) (by omega)]
      exact (hp j hj).symm
    refine hR.2 [] 400 _ _ _ _ ?_
    conv => whnf
    refine je_v1i hR kX6_read_22 rfl (m_reads1 l G2 S.1 S.2.2.2.2.2.1 cs q0 q7 hl (txt_cong q6 cs 0 hcs) ((fa_cong _ 0 _ (fun j _ hj => q6 j (by rw [Nat.zero_add] at hj; exact hj))).symm.trans hok)) rfl ?_
    intro y G3 hq
    obtain ⟨rfl, s3, hF3⟩ := hq
    refine hR.2 [] 400 _ _ _ _ ?_
    conv => whnf
    rw [hF]
    refine ⟨_, rfl, rfl, ?_, ?_⟩
    · have hM3 : MR (je_set G3 6 0 0 (cs.foldl inl S.1)) (wS (rec6 S) (cs.foldl inl S.1)) := by
        refine MR_fr (MR_set hM2 (cs.foldl inl S.1)) (fun r hr h1 => ?_)
        by_cases h0 : r = 0
        · rw [h0, je_set_eq, je_set_eq]
        · rw [je_set_ne (by omega), je_set_ne (by omega)]
          exact hF3.r (by omega) (by omega)
      rw [← s3, je_set_id] at hM3
      rw [s3] at hM3
      generalize cs.foldl inl S.1 = τ at hM3
      obtain ⟨σ, k, hs, sv, sl, len, pad⟩ := S
      obtain ⟨e1, ⟨e2, hk, e3⟩, e5, e6, hl, e7⟩ := hM3
      have hr : ∀ f r, r ≠ 7 → je_set G3 6 0 7 f 6 0 r = G3 6 0 r := fun f r h1 => je_set_ne (by omega)
      exact ⟨by rw [hr _ 0 (by omega)]; exact e1, ⟨by rw [hr _ 3 (by omega)]; exact e2, hk, fun i hi j hj => by rw [hr _ 2 (by omega)]; exact e3 i hi j hj⟩, fun i hi => ⟨by rw [hr _ 5 (by omega)]; exact (e5 i hi).1, fun h j hj => by rw [hr _ 4 (by omega)]; exact (e5 i hi).2 h j hj⟩, by rw [je_set_eq, upd_eq]; rfl, Nat.zero_le _, fun j hj => absurd hj (Nat.not_lt_zero j)⟩
    · exact ((hF1.m.tr hF2.m).tr hF3.m).set
