/-! THE REFERENCE: reads without letting in, fault -/
theorem tk_lt {P : Sg} {len : Nat} {lo hi : Int32} {s : Nat × Bool} (h : (tk P len lo hi s).2 = false) : s.2 = false ∧ (tk P len lo hi s).1 = s.1 + 1 := by
  obtain ⟨p, w⟩ := s
  cases w with
  | true => rw [tk_t] at h; exact absurd (show true = false from h) (by decide)
  | false =>
    refine ⟨rfl, ?_⟩
    by_cases hx : p < len ∧ ¬ P p < lo ∧ ¬ hi < P p
    · rw [tk_y hx.1 hx.2.1 hx.2.2]
    · rw [tk_n hx] at h; exact absurd (show true = false from h) (by decide)
theorem tm_lt {P : Sg} {len : Nat} {s : Nat × Bool} (h : (tm P len s).1.2 = false) : s.2 = false ∧ s.1 < (tm P len s).1.1 := by
  by_cases ht : two P len (tv0 P len s.1) (tk P len (nI 49) (nI 57) s)
  · have e : tm P len s = (tk P len (nI 48) (nI 57) (tk P len (nI 49) (nI 57) s), nI 10 * tv0 P len s.1 + (chr P len (tk P len (nI 49) (nI 57) s).1 - nI 48)) := if_pos ht
    rw [e] at h ⊢
    have h1 := tk_lt (s := tk P len (nI 49) (nI 57) s) h
    have h3 := tk_lt (s := s) h1.1
    refine ⟨h3.1, ?_⟩
    show s.1 < (tk P len (nI 48) (nI 57) (tk P len (nI 49) (nI 57) s)).1
    rw [h1.2, h3.2]
    omega
  · have e : tm P len s = (tk P len (nI 49) (nI 57) s, tv0 P len s.1) := if_neg ht
    rw [e] at h ⊢
    have h3 := tk_lt (s := s) h
    refine ⟨h3.1, ?_⟩
    show s.1 < (tk P len (nI 49) (nI 57) s).1
    rw [h3.2]
    omega
theorem tm_le {P : Sg} {len p : Nat} {w : Bool} (h : p ≤ len) : (tm P len (p, w)).1.1 ≤ len := by
  by_cases ht : two P len (tv0 P len p) (tk P len (nI 49) (nI 57) (p, w))
  · have e : tm P len (p, w) = (tk P len (nI 48) (nI 57) (tk P len (nI 49) (nI 57) (p, w)), nI 10 * tv0 P len p + (chr P len (tk P len (nI 49) (nI 57) (p, w)).1 - nI 48)) := if_pos ht
    rw [e]
    exact tk_le (tk_le h)
  · have e : tm P len (p, w) = (tk P len (nI 49) (nI 57) (p, w), tv0 P len p) := if_neg ht
    rw [e]
    exact tk_le h
/-- where a crowd's reading from p ends -/
noncomputable def cw (P : Sg) (len p : Nat) : Nat × Bool := (tm P len (tk P len (nI 58) (nI 58) (tk P len (nI 49) (nI 53) (tk P len (nI 97) (nI 103) (p, false))))).1
theorem cw_fs {P : Sg} {len p : Nat} (hp : p ≤ len) : fs P len (nI 0) (p, false) = fs P len (nI 6) (cw P len p) := by
  rw [fs0 hp, fs1 (tk_le hp), fs2 (tk_le (tk_le hp)), fs3 (tk_le (tk_le (tk_le hp)))]
  rfl
theorem cw_lt {P : Sg} {len p : Nat} (h : (cw P len p).2 = false) : p < (cw P len p).1 := by
  have h1 := tm_lt (s := tk P len (nI 58) (nI 58) (tk P len (nI 49) (nI 53) (tk P len (nI 97) (nI 103) (p, false)))) h
  have a := tk_lt (s := tk P len (nI 49) (nI 53) (tk P len (nI 97) (nI 103) (p, false))) h1.1
  have b := tk_lt (s := tk P len (nI 97) (nI 103) (p, false)) a.1
  have c := tk_lt (s := (p, false)) b.1
  have h2 := h1.2
  rw [a.2, b.2, c.2] at h2
  have h3 : p + 1 + 1 + 1 < (cw P len p).1 := h2
  omega
theorem cw_le {P : Sg} {len p : Nat} (h : p ≤ len) : (cw P len p).1 ≤ len := tm_le (tk_le (tk_le (tk_le h)))
set_option maxHeartbeats 4000000 in
set_option maxRecDepth 100000 in
theorem m_reads0 (l : Launch) (G : je_G) (len : Nat) (h7 : G 6 0 7 0 = nI len) (h60 : len ≤ 60) : je_Ci l yX6_reads wsX6_reads rmX6_reads [jR (6, 0, 0), jI (nI 0)] G (fun _ G' => FrT G G' ∧ ∃ p w, atP G' len p w ∧ fa (G 6 0 6) len 0 (nI 0) = if w = true then nI p else -6) := by
  refine je_met1 tbX6_reads 1 okX6_reads rfl (by decide +kernel) rfl (by unfold je_ret; simp) (by decide) (Nat.le_of_ble_eq_true rfl) ?_
  intro J hoks hR
  show J G 0 [some (jR (6, 0, 0)), some (jI (nI 0)), none, none, none, none, none, none, none, none] []
  have fin : ∀ G' p w, FrT G G' → atP G' len p w → fa (G 6 0 6) len 0 (nI 0) = (if w = true then nI p else -6) → J G' 14 [some (jR (6, 0, 0)), some (jI (nI 0)), some (jI (nI 0)), some (jI (nI 0)), none, none, none, none, none, none] [] := by
    intro G' p w hF hP hf
    refine hR.2 [] 400 _ _ _ _ ?_
    conv => whnf
    refine br_t (by decide) ?_
    conv => whnf
    exact ⟨_, rfl, hF, p, w, hP, hf⟩
  have loop : ∀ (N p : Nat), len - p < N → ∀ G', FrT G G' → atP G' len p false → fa (G 6 0 6) len 0 (nI 0) = fs (G 6 0 6) len (nI 0) (p, false) → J G' 14 [some (jR (6, 0, 0)), some (jI (nI 0)), some (jI (nI 0)), some (jI (nI 1)), none, none, none, none, none, none] [] := by
    intro N
    induction N with
    | zero => intro p hN; omega
    | succ N ihN =>
      intro p hN G0 hF0 hP0 hf
      have hp := hP0.2.2.1
      have q0 : G0 6 0 6 = G 6 0 6 := hF0.r (by omega)
      rw [cw_fs hp] at hf
      have hcl := cw_lt (P := G 6 0 6) (len := len) (p := p)
      refine hR.2 [14] 400 _ _ _ _ ?_
      conv => whnf
      refine br_f (by decide) ?_
      conv => whnf
      refine je_v2i hR kX6_reads_23 rfl (m_takes l G0 len p false hP0 (nI 97) (nI 103) (by decide)) rfl ?_
      intro y G1 hq
      obtain ⟨rfl, hP1, hF1⟩ := hq
      rw [q0] at hP1 ⊢
      have q1 : G1 6 0 6 = G 6 0 6 := (hF1.r (by omega)).trans q0
      have hF1 := hF0.tr hF1
      refine hR.2 [] 400 _ _ _ _ ?_
      conv => whnf
      refine je_v2i hR kX6_reads_35 rfl (m_takes l G1 len _ _ hP1 (nI 49) (nI 53) (by decide)) rfl ?_
      intro y G2 hq
      obtain ⟨rfl, hP2, hF2⟩ := hq
      rw [q1] at hP2 ⊢
      have q2 : G2 6 0 6 = G 6 0 6 := (hF2.r (by omega)).trans q1
      have hF2 := hF1.tr hF2
      refine hR.2 [] 400 _ _ _ _ ?_
      conv => whnf
      refine je_v2i hR kX6_reads_49 rfl (m_takes l G2 len _ _ hP2 (nI 58) (nI 58) (by decide)) rfl ?_
      intro y G3 hq
      obtain ⟨rfl, hP3, hF3⟩ := hq
      rw [q2] at hP3 ⊢
      have q3 : G3 6 0 6 = G 6 0 6 := (hF3.r (by omega)).trans q2
      have hF3 := hF2.tr hF3
      refine hR.2 [] 400 _ _ _ _ ?_
      conv => whnf
      refine je_v0i hR kX6_reads_55 rfl (m_takesMany l G3 len _ _ hP3) rfl ?_
      intro y G4 hq
      obtain ⟨rfl, hP4, hF4⟩ := hq
      rw [q3] at hP4 ⊢
      have q4 : G4 6 0 6 = G 6 0 6 := (hF4.r (by omega)).trans q3
      have hF4 := hF3.tr hF4
      have hP5 : atP G4 len (cw (G 6 0 6) len p).1 (cw (G 6 0 6) len p).2 := hP4
      have hle := cw_le (P := G 6 0 6) hp
      generalize cw (G 6 0 6) len p = s at hP5 hf hcl hle
      obtain ⟨p5, w5⟩ := s
      have hP5 : atP G4 len p5 w5 := hP5
      have hP5' := hP5
      obtain ⟨b1, b2, b3, b4, b5⟩ := hP5'
      refine hR.2 [14] 400 _ _ _ _ ?_
      conv => whnf
      refine br_t (by decide) ?_
      conv => whnf
      rw [b5]
      cases w5 with
      | true =>
        refine And.intro (fun _ => ?_) (fun h => absurd h (by decide))
        conv => whnf
        refine br_t (by decide) ?_
        conv => whnf
        exact je_loc hR (L' := [some _, some _, some _, some _, none, none, none, none, none, none]) ⟨rfl, rfl, rfl, rfl, trivial⟩ (fin G4 p5 true hF4 hP5 hf)
      | false =>
        refine And.intro (fun h => absurd rfl h) (fun _ => ?_)
        conv => whnf
        rw [b4, b1]
        by_cases hp5 : p5 < len
        · refine br_f (fun h => absurd ((nI_leI (by omega) (by omega)).mp h) (by omega)) ?_
          conv => whnf
          refine br_f (by decide) ?_
          conv => whnf
          refine je_v2i hR kX6_reads_163 rfl (m_takes l G4 len p5 false hP5 (nI 44) (nI 44) (by decide)) rfl ?_
          intro y G5 hq
          obtain ⟨rfl, hP6, hF5⟩ := hq
          rw [q4] at hP6 ⊢
          have hF5 := hF4.tr hF5
          rw [fs6 hp5] at hf
          have htl := tk_lt (P := G 6 0 6) (len := len) (s := (p5, false)) (lo := nI 44) (hi := nI 44)
          generalize tk (G 6 0 6) len (nI 44) (nI 44) (p5, false) = s6 at hP6 hf htl
          obtain ⟨p6, w6⟩ := s6
          have hP6 : atP G5 len p6 w6 := hP6
          have hP6' := hP6
          obtain ⟨c1, c2, c3, c4, c5⟩ := hP6'
          refine hR.2 [14] 400 _ _ _ _ ?_
          conv => whnf
          rw [c5]
          cases w6 with
          | true =>
            refine And.intro (fun _ => ?_) (fun h => absurd h (by decide))
            conv => whnf
            exact je_loc hR (L' := [some _, some _, some _, some _, none, none, none, none, none, none]) ⟨rfl, rfl, rfl, rfl, trivial⟩ (fin G5 p6 true hF5 hP6 hf)
          | false =>
            refine And.intro (fun h => absurd rfl h) (fun _ => ?_)
            conv => whnf
            have h6 : p6 = p5 + 1 := (htl rfl).2
            have h7 : p < p5 := hcl rfl
            exact je_loc hR (L' := [some _, some _, some _, some _, none, none, none, none, none, none]) ⟨rfl, rfl, rfl, rfl, trivial⟩ (ihN p6 (by omega) G5 hF5 hP6 hf)
        · have : p5 = len := by have : p5 ≤ len := hle; omega
          subst this
          refine br_t ((nI_leI (by omega) (by omega)).mpr (by omega)) ?_
          conv => whnf
          refine br_t (by decide) ?_
          conv => whnf
          rw [fs6e] at hf
          exact je_loc hR (L' := [some _, some _, some _, some _, none, none, none, none, none, none]) ⟨rfl, rfl, rfl, rfl, trivial⟩ (fin G4 p5 false hF4 hP5 hf)
  refine hR.2 [14] 400 _ _ _ _ ?_
  conv => whnf
  refine And.intro (Or.inl rfl) ?_
  conv => whnf
  have r1 : ∀ f, je_set G 6 0 14 f 6 0 15 = G 6 0 15 := fun f => je_set_ne (by omega)
  have r2 : ∀ f g, je_set (je_set G 6 0 14 f) 6 0 15 g 6 0 14 = f := fun f g => by rw [je_set_ne (by omega), je_set_eq]
  have r3 : ∀ f g, je_set (je_set G 6 0 14 f) 6 0 15 g 6 0 7 = G 6 0 7 := fun f g => by rw [je_set_ne (by omega), je_set_ne (by omega)]
  exact loop (len + 1) 0 (by omega) _ ((FrT.rf.set (by omega)).set (by omega)) ⟨by rw [r3]; exact h7, h60, Nat.zero_le _, by rw [r2, upd_eq], by rw [je_set_eq, upd_eq]; rfl⟩ rfl
