/-! THE REFERENCE: takes, takesMany -/
/-- only the reading place differs -/
def FrT (G G' : je_G) : Prop := ∀ c n r, (c = 6 → n = 0 → r < 14) → G' c n r = G c n r
theorem FrT.rf {G : je_G} : FrT G G := fun _ _ _ _ => rfl
theorem FrT.tr {G G1 G2 : je_G} (h : FrT G G1) (h2 : FrT G1 G2) : FrT G G2 := fun c n r hc => (h2 c n r hc).trans (h c n r hc)
theorem FrT.set {G G1 : je_G} (h : FrT G G1) {r : Nat} {f : Sg} (hr : 14 ≤ r) : FrT G (je_set G1 6 0 r f) := fun c n r' hc => by
  rw [je_set_ne (by omega)]
  exact h c n r' hc
theorem FrT.m {G G1 : je_G} (h : FrT G G1) : FrM G G1 := fun c n r hc => h c n r (by omega)
theorem FrT.r {G G1 : je_G} (h : FrT G G1) {r : Nat} (hr : r < 14) : G1 6 0 r = G 6 0 r := h 6 0 r (by omega)
/-- at which place the reading stands, and whether it went wrong -/
def atP (G : je_G) (len p : Nat) (w : Bool) : Prop := G 6 0 7 0 = nI len ∧ len ≤ 60 ∧ p ≤ len ∧ G 6 0 14 0 = nI p ∧ G 6 0 15 0 = b01 w
def chr (P : Sg) (len p : Nat) : Int32 := if p < len then P p else nI 0
noncomputable def tk (P : Sg) (len : Nat) (lo hi : Int32) (s : Nat × Bool) : Nat × Bool := by
  classical
  exact if s.2 = false ∧ s.1 < len ∧ ¬ P s.1 < lo ∧ ¬ hi < P s.1 then (s.1 + 1, false) else (s.1, true)
theorem tk_t {P : Sg} {len p : Nat} {lo hi : Int32} : tk P len lo hi (p, true) = (p, true) := by
  unfold tk
  rw [if_neg (show ¬ ((p, true).2 = false ∧ (p, true).1 < len ∧ ¬ P (p, true).1 < lo ∧ ¬ hi < P (p, true).1) from fun h => absurd (show true = false from h.1) (by decide))]
theorem tk_y {P : Sg} {len p : Nat} {lo hi : Int32} (h : p < len) (h1 : ¬ P p < lo) (h2 : ¬ hi < P p) : tk P len lo hi (p, false) = (p + 1, false) := by
  unfold tk
  rw [if_pos (show (p, false).2 = false ∧ (p, false).1 < len ∧ ¬ P (p, false).1 < lo ∧ ¬ hi < P (p, false).1 from ⟨rfl, h, h1, h2⟩)]
theorem tk_n {P : Sg} {len p : Nat} {lo hi : Int32} (h : ¬ (p < len ∧ ¬ P p < lo ∧ ¬ hi < P p)) : tk P len lo hi (p, false) = (p, true) := by
  unfold tk
  rw [if_neg (show ¬ ((p, false).2 = false ∧ (p, false).1 < len ∧ ¬ P (p, false).1 < lo ∧ ¬ hi < P (p, false).1) from fun h2 => h h2.2)]
theorem tk_le {P : Sg} {len : Nat} {lo hi : Int32} {s : Nat × Bool} (h : s.1 ≤ len) : (tk P len lo hi s).1 ≤ len := by
  unfold tk
  split
  · rename_i h1
    exact h1.2.1
  · exact h
set_option maxHeartbeats 4000000 in
set_option maxRecDepth 100000 in
theorem m_isNext (l : Launch) (G : je_G) (len p : Nat) (w : Bool) (h : atP G len p w) (lo hi : Int32) : je_Ci l yX6_isNext wsX6_isNext rmX6_isNext [jR (6, 0, 0), jI lo, jI hi] G (fun r G' => G' = G ∧ ((w = false ∧ p < len ∧ ¬ G 6 0 6 p < lo ∧ ¬ hi < G 6 0 6 p) ∧ r = 1 ∨ ¬ (w = false ∧ p < len ∧ ¬ G 6 0 6 p < lo ∧ ¬ hi < G 6 0 6 p) ∧ r = 0)) := by
  refine je_met1 tbX6_isNext 2 okX6_isNext rfl (by decide +kernel) rfl (by unfold je_ret; simp) (by decide) (Nat.le_of_ble_eq_true rfl) ?_
  intro J hoks hR
  show J G 0 [some (jR (6, 0, 0)), some (jI lo), some (jI hi)] []
  obtain ⟨h1, h2, h3, h4, h5⟩ := h
  refine hR.2 [] 400 _ _ _ _ ?_
  conv => whnf
  rw [h5]
  cases w with
  | true =>
    refine And.intro (fun _ => ?_) (fun h => absurd h (by decide))
    conv => whnf
    exact ⟨Or.inl rfl, _, rfl, rfl, Or.inr ⟨fun h => absurd h.1 (by decide), rfl⟩⟩
  | false =>
    refine And.intro (fun h => absurd rfl h) (fun _ => ?_)
    conv => whnf
    rw [h4, h1]
    by_cases hp : p < len
    · refine br_f (fun h => absurd ((nI_leI (by omega) (by omega)).mp h) (by omega)) ?_
      conv => whnf
      rw [h4]
      refine ⟨vp_in_nI (by omega) (by omega), ?_⟩
      conv => whnf
      simp (disch := omega) only [nI_clamp, Nat.zero_add]
      refine je_s3i hR kX6_isNext_29 rfl (m_in l G (G 6 0 6 p) lo hi) rfl ?_
      intro y G' hq
      obtain ⟨rfl, ⟨a1, a2, rfl⟩ | ⟨a1, rfl⟩⟩ := hq
      · skip
        refine hR.2 [] 400 _ _ _ _ ?_
        conv => whnf
        refine br_f (by decide) ?_
        conv => whnf
        exact ⟨Or.inr rfl, _, rfl, rfl, Or.inl ⟨⟨rfl, hp, a1, a2⟩, rfl⟩⟩
      · skip
        refine hR.2 [] 400 _ _ _ _ ?_
        conv => whnf
        refine br_t (by decide) ?_
        conv => whnf
        exact ⟨Or.inl rfl, _, rfl, rfl, Or.inr ⟨fun h => a1.elim h.2.2.1 h.2.2.2, rfl⟩⟩
    · refine br_t ((nI_leI (by omega) (by omega)).mpr (by omega)) ?_
      conv => whnf
      exact ⟨Or.inl rfl, _, rfl, rfl, Or.inr ⟨fun h => hp h.2.1, rfl⟩⟩
set_option maxHeartbeats 4000000 in
set_option maxRecDepth 100000 in
theorem m_takes (l : Launch) (G : je_G) (len p : Nat) (w : Bool) (h : atP G len p w) (lo hi : Int32) (hlo : nI 0 < lo) : je_Ci l yX6_takes wsX6_takes rmX6_takes [jR (6, 0, 0), jI lo, jI hi] G (fun r G' => r = chr (G 6 0 6) len p - lo ∧ atP G' len (tk (G 6 0 6) len lo hi (p, w)).1 (tk (G 6 0 6) len lo hi (p, w)).2 ∧ FrT G G') := by
  refine je_met1 tbX6_takes 1 okX6_takes rfl (by decide +kernel) rfl (by unfold je_ret; simp) (by decide) (Nat.le_of_ble_eq_true rfl) ?_
  intro J hoks hR
  show J G 0 [some (jR (6, 0, 0)), some (jI lo), some (jI hi), none] []
  obtain ⟨h1, h2, h3, h4, h5⟩ := h
  have at25 : J G 25 [some (jR (6, 0, 0)), some (jI lo), some (jI hi), some (jI (chr (G 6 0 6) len p))] [] := by
    have fin : ∀ v : Bool, (if v then (p, true) else (p + 1, false)) = tk (G 6 0 6) len lo hi (p, w) → J G 47 [some (jR (6, 0, 0)), some (jI lo), some (jI hi), some (jI (chr (G 6 0 6) len p))] [jI (b01 v), jR (6, 0, 0)] := by
      intro v hv
      have htl := tk_le (P := G 6 0 6) (lo := lo) (hi := hi) (s := (p, w)) h3
      rw [← hv] at hR htl
      have r1 : ∀ f, je_set G 6 0 15 f 6 0 14 = G 6 0 14 := fun f => je_set_ne (by omega)
      have r2 : ∀ f g, je_set (je_set G 6 0 15 f) 6 0 14 g 6 0 7 = G 6 0 7 := fun f g => by rw [je_set_ne (by omega), je_set_ne (by omega)]
      have r3 : ∀ f g, je_set (je_set G 6 0 15 f) 6 0 14 g 6 0 15 = f := fun f g => by rw [je_set_ne (by omega), je_set_eq]
      cases v with
      | true =>
        refine hR.2 [] 400 _ _ _ _ ?_
        conv => whnf
        refine And.intro (Or.inr rfl) ?_
        conv => whnf
        simp only [je_set_eq, upd_eq]
        refine br_f (by decide) ?_
        conv => whnf
        refine ⟨_, rfl, rfl, ⟨by rw [r2]; exact h1, h2, htl, ?_, ?_⟩, (FrT.rf.set (by omega)).set (by omega)⟩
        · rw [je_set_eq, upd_eq, r1, h4, nI_add]
          rfl
        · rw [r3, upd_eq]
          rfl
      | false =>
        refine hR.2 [] 400 _ _ _ _ ?_
        conv => whnf
        refine And.intro (Or.inl rfl) ?_
        conv => whnf
        simp only [je_set_eq, upd_eq]
        refine br_t (by decide) ?_
        conv => whnf
        refine ⟨_, rfl, rfl, ⟨by rw [r2]; exact h1, h2, htl, ?_, ?_⟩, (FrT.rf.set (by omega)).set (by omega)⟩
        · rw [je_set_eq, upd_eq, r1, h4, nI_add]
          rfl
        · rw [r3, upd_eq]
          rfl
    refine hR.2 [47] 400 _ _ _ _ ?_
    conv => whnf
    rw [h5]
    cases w with
    | true =>
      have f := fin true tk_t.symm
      refine And.intro (fun _ => ?_) (fun h => absurd h (by decide))
      conv => whnf
      exact f
    | false =>
      refine And.intro (fun h => absurd rfl h) (fun _ => ?_)
      conv => whnf
      refine je_s3i hR kX6_takes_36 rfl (m_in l G (chr (G 6 0 6) len p) lo hi) rfl ?_
      intro y G' hq
      obtain ⟨rfl, ⟨a1, a2, rfl⟩ | ⟨a1, rfl⟩⟩ := hq
      · have hp : p < len := by
          by_cases hp : p < len
          · exact hp
          · exact absurd (by unfold chr; rw [if_neg hp]; exact hlo) a1
        have f := fin false (by
          unfold chr at a1 a2
          rw [if_pos hp] at a1 a2
          exact (tk_y hp a1 a2).symm)
        refine hR.2 [47] 400 _ _ _ _ ?_
        conv => whnf
        refine And.intro (fun _ => ?_) (fun h => absurd h (by decide))
        conv => whnf
        exact f
      · have f := fin true (by
          refine (tk_n (fun h => ?_)).symm
          unfold chr at a1
          rw [if_pos h.1] at a1
          exact a1.elim h.2.1 h.2.2)
        refine hR.2 [47] 400 _ _ _ _ ?_
        conv => whnf
        refine And.intro (fun h => absurd rfl h) (fun _ => ?_)
        conv => whnf
        exact f
  refine hR.2 [25] 400 _ _ _ _ ?_
  conv => whnf
  rw [h4, h1]
  by_cases hp : p < len
  · refine br_f (fun h => absurd ((nI_leI (by omega) (by omega)).mp h) (by omega)) ?_
    conv => whnf
    rw [h4]
    refine ⟨vp_in_nI (by omega) (by omega), ?_⟩
    conv => whnf
    simp (disch := omega) only [nI_clamp, Nat.zero_add]
    unfold chr at at25
    rw [if_pos hp] at at25
    exact at25
  · refine br_t ((nI_leI (by omega) (by omega)).mpr (by omega)) ?_
    conv => whnf
    unfold chr at at25
    rw [if_neg hp] at at25
    exact at25
noncomputable def tv0 (P : Sg) (len p : Nat) : Int32 := nI 1 + (chr P len p - nI 49)
/-- a second digit follows -/
def two (P : Sg) (len : Nat) (v : Int32) (s : Nat × Bool) : Prop := (v = nI 1 ∧ s.2 = false ∧ s.1 < len ∧ ¬ P s.1 < nI 48 ∧ ¬ nI 57 < P s.1) ∨ (v = nI 2 ∧ s.2 = false ∧ s.1 < len ∧ ¬ P s.1 < nI 48 ∧ ¬ nI 48 < P s.1)
noncomputable def tm (P : Sg) (len : Nat) (s : Nat × Bool) : (Nat × Bool) × Int32 := by
  classical
  exact if two P len (tv0 P len s.1) (tk P len (nI 49) (nI 57) s) then (tk P len (nI 48) (nI 57) (tk P len (nI 49) (nI 57) s), nI 10 * tv0 P len s.1 + (chr P len (tk P len (nI 49) (nI 57) s).1 - nI 48)) else (tk P len (nI 49) (nI 57) s, tv0 P len s.1)
set_option maxHeartbeats 4000000 in
set_option maxRecDepth 100000 in
theorem m_takesMany (l : Launch) (G : je_G) (len p : Nat) (w : Bool) (h : atP G len p w) : je_Ci l yX6_takesMany wsX6_takesMany rmX6_takesMany [jR (6, 0, 0)] G (fun r G' => r = (tm (G 6 0 6) len (p, w)).2 ∧ atP G' len (tm (G 6 0 6) len (p, w)).1.1 (tm (G 6 0 6) len (p, w)).1.2 ∧ FrT G G') := by
  refine je_met1 tbX6_takesMany 1 okX6_takesMany rfl (by decide +kernel) rfl (by unfold je_ret; simp) (by decide) (Nat.le_of_ble_eq_true rfl) ?_
  intro J hoks hR
  show J G 0 [some (jR (6, 0, 0)), none, none] []
  refine hR.2 [] 400 _ _ _ _ ?_
  conv => whnf
  refine je_v2i hR kX6_takesMany_6 rfl (m_takes l G len p w h (nI 49) (nI 57) (by decide)) rfl ?_
  intro y G1 hq
  obtain ⟨rfl, hP1, hF1⟩ := hq
  have q6 : G1 6 0 6 = G 6 0 6 := hF1.r (by omega)
  have at49 : ∀ b : Int32, ((two (G 6 0 6) len (tv0 (G 6 0 6) len p) (tk (G 6 0 6) len (nI 49) (nI 57) (p, w)) ∧ b = nI 1) ∨ (¬ two (G 6 0 6) len (tv0 (G 6 0 6) len p) (tk (G 6 0 6) len (nI 49) (nI 57) (p, w)) ∧ b = nI 0)) → J G1 49 [some (jR (6, 0, 0)), some (jI (tv0 (G 6 0 6) len p)), some (jI b)] [] := by
    intro b hb
    rcases hb with ⟨ht, rfl⟩ | ⟨ht, rfl⟩
    · have e : tm (G 6 0 6) len (p, w) = (tk (G 6 0 6) len (nI 48) (nI 57) (tk (G 6 0 6) len (nI 49) (nI 57) (p, w)), nI 10 * tv0 (G 6 0 6) len p + (chr (G 6 0 6) len (tk (G 6 0 6) len (nI 49) (nI 57) (p, w)).1 - nI 48)) := if_pos ht
      rw [e] at hR
      refine hR.2 [] 400 _ _ _ _ ?_
      conv => whnf
      refine br_f (by decide) ?_
      conv => whnf
      refine je_v2i hR kX6_takesMany_62 rfl (m_takes l G1 len _ _ hP1 (nI 48) (nI 57) (by decide)) rfl ?_
      intro y G2 hq
      obtain ⟨rfl, hP2, hF2⟩ := hq
      rw [q6] at hP2 ⊢
      refine hR.2 [] 400 _ _ _ _ ?_
      conv => whnf
      exact ⟨_, rfl, rfl, hP2, hF1.tr hF2⟩
    · have e : tm (G 6 0 6) len (p, w) = (tk (G 6 0 6) len (nI 49) (nI 57) (p, w), tv0 (G 6 0 6) len p) := if_neg ht
      rw [e] at hR
      refine hR.2 [] 400 _ _ _ _ ?_
      conv => whnf
      refine br_t (by decide) ?_
      conv => whnf
      exact ⟨_, rfl, rfl, hP1, hF1⟩
  refine hR.2 [27, 49] 400 _ _ _ _ ?_
  conv => whnf
  rw [show nI 1 + (chr (G 6 0 6) len p - nI 49) = tv0 (G 6 0 6) len p from rfl]
  have at27 : ¬ (tv0 (G 6 0 6) len p = nI 1 ∧ (tk (G 6 0 6) len (nI 49) (nI 57) (p, w)).2 = false ∧ (tk (G 6 0 6) len (nI 49) (nI 57) (p, w)).1 < len ∧ ¬ G 6 0 6 (tk (G 6 0 6) len (nI 49) (nI 57) (p, w)).1 < nI 48 ∧ ¬ nI 57 < G 6 0 6 (tk (G 6 0 6) len (nI 49) (nI 57) (p, w)).1) → J G1 27 [some (jR (6, 0, 0)), some (jI (tv0 (G 6 0 6) len p)), none] [] := by
    intro hn
    refine hR.2 [49] 400 _ _ _ _ ?_
    conv => whnf
    refine ⟨fun h2 => ?_, fun h2 => ?_⟩
    · conv => whnf
      exact at49 (nI 0) (Or.inr ⟨fun h => h.elim hn (fun h => h2 h.1), rfl⟩)
    · conv => whnf
      refine je_v2i hR kX6_takesMany_37 rfl (m_isNext l G1 len _ _ hP1 (nI 48) (nI 48)) rfl ?_
      intro y G2 hq
      rw [q6] at hq
      obtain ⟨rfl, ⟨a1, rfl⟩ | ⟨a1, rfl⟩⟩ := hq
      · skip
        refine hR.2 [49] 400 _ _ _ _ ?_
        conv => whnf
        refine br_f (by decide) ?_
        conv => whnf
        exact at49 (nI 1) (Or.inl ⟨Or.inr ⟨h2, a1⟩, rfl⟩)
      · skip
        refine hR.2 [49] 400 _ _ _ _ ?_
        conv => whnf
        refine br_t (by decide) ?_
        conv => whnf
        exact at49 (nI 0) (Or.inr ⟨fun h => h.elim hn (fun h => a1 h.2), rfl⟩)
  refine ⟨fun h1 => ?_, fun h1 => ?_⟩
  · conv => whnf
    exact at27 (fun h => h1 h.1)
  · conv => whnf
    refine je_v2i hR kX6_takesMany_21 rfl (m_isNext l G1 len _ _ hP1 (nI 48) (nI 57)) rfl ?_
    intro y G2 hq
    rw [q6] at hq
    obtain ⟨rfl, ⟨a1, rfl⟩ | ⟨a1, rfl⟩⟩ := hq
    · skip
      refine hR.2 [27, 49] 400 _ _ _ _ ?_
      conv => whnf
      refine And.intro (fun _ => ?_) (fun h => absurd h (by decide))
      conv => whnf
      exact at49 (nI 1) (Or.inl ⟨Or.inl ⟨h1, a1⟩, rfl⟩)
    · skip
      refine hR.2 [27, 49] 400 _ _ _ _ ?_
      conv => whnf
      refine And.intro (fun h => absurd rfl h) (fun _ => ?_)
      conv => whnf
      exact at27 (fun h => a1 h.2)
