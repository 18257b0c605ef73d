/-! THE REFERENCE: small ones, distances -/
set_option maxHeartbeats 4000000 in
set_option maxRecDepth 100000 in
theorem m_in (l : Launch) (G : je_G) (v a b : Int32) : je_Ci l yX6_in wsX6_in rmX6_in [jI v, jI a, jI b] G (fun r G' => G' = G ∧ (¬ v < a ∧ ¬ b < v ∧ r = 1 ∨ (v < a ∨ b < v) ∧ r = 0)) := by
  refine je_met1 tbX6_in 2 okX6_in rfl (by decide +kernel) rfl (by unfold je_ret; simp) (by decide) (Nat.le_of_ble_eq_true rfl) ?_
  intro J hoks hR
  show J G 0 [some (jI v), some (jI a), some (jI b)] []
  refine hR.2 [] 400 _ _ _ _ ?_
  conv => whnf
  refine ⟨fun h1 => ?_, fun h1 => ?_⟩
  · conv => whnf
    exact ⟨Or.inl rfl, _, rfl, rfl, Or.inr ⟨Or.inl h1, rfl⟩⟩
  · conv => whnf
    refine ⟨fun h2 => ?_, fun h2 => ?_⟩
    · conv => whnf
      exact ⟨Or.inl rfl, _, rfl, rfl, Or.inr ⟨Or.inr h2, rfl⟩⟩
    · conv => whnf
      exact ⟨Or.inr rfl, _, rfl, rfl, Or.inl ⟨h1, h2, rfl⟩⟩
theorem i_nlt {x y : Int32} : ¬ x < y ↔ y ≤ x := by
  rw [Int32.lt_iff_toInt_lt, Int32.le_iff_toInt_le]
  omega
theorem i_nle {x y : Int32} : ¬ x ≤ y ↔ y < x := by
  rw [Int32.lt_iff_toInt_lt, Int32.le_iff_toInt_le]
  omega
theorem vp_rng {x : Int32} {n : Nat} (hn : n + 1 < 2 ^ 31) : vp_in x (n + 1) ↔ ¬ x < nI 0 ∧ ¬ nI n < x := by
  constructor
  · intro h
    obtain ⟨j, hj, rfl⟩ := vp_in_of h hn
    exact ⟨nI_pos (by omega), fun h => absurd ((nI_ltI (by omega) (by omega)).mp h) (by omega)⟩
  · intro ⟨h1, h2⟩
    obtain ⟨j, hj, rfl⟩ := nI_of h1
    exact vp_in_nI (by
      have : ¬ n < j := fun h => h2 ((nI_ltI (by omega) hj).mpr h)
      omega) hn
set_option maxHeartbeats 4000000 in
set_option maxRecDepth 100000 in
theorem m_isCell (l : Launch) (G : je_G) (x : Int32) : je_Ci l yX6_isCell wsX6_isCell rmX6_isCell [jI x] G (fun r G' => G' = G ∧ (vp_in x 35 ∧ r = 1 ∨ ¬ vp_in x 35 ∧ r = 0)) := by
  refine je_met1 tbX6_isCell 2 okX6_isCell rfl (by decide +kernel) rfl (by unfold je_ret; simp) (by decide) (Nat.le_of_ble_eq_true rfl) ?_
  intro J hoks hR
  show J G 0 [some (jI x)] []
  refine hR.2 [] 400 _ _ _ _ ?_
  conv => whnf
  refine je_s3i hR kX6_isCell_4 rfl (m_in l G x (nI 0) (nI 34)) rfl ?_
  intro y G' hq
  obtain ⟨rfl, ⟨h1, h2, rfl⟩ | ⟨h1, rfl⟩⟩ := hq
  · skip
    refine hR.2 [] 400 _ _ _ _ ?_
    conv => whnf
    exact ⟨Or.inr rfl, _, rfl, rfl, Or.inl ⟨(vp_rng (by omega)).mpr ⟨h1, h2⟩, rfl⟩⟩
  · skip
    refine hR.2 [] 400 _ _ _ _ ?_
    conv => whnf
    exact ⟨Or.inl rfl, _, rfl, rfl, Or.inr ⟨fun h => h1.elim ((vp_rng (by omega)).mp h).1 ((vp_rng (by omega)).mp h).2, rfl⟩⟩
set_option maxHeartbeats 4000000 in
set_option maxRecDepth 100000 in
theorem m_isDoor (l : Launch) (G : je_G) (x : Int32) : je_Ci l yX6_isDoor wsX6_isDoor rmX6_isDoor [jI x] G (fun r G' => G' = G ∧ (vp_in x 4 ∧ r = 1 ∨ ¬ vp_in x 4 ∧ r = 0)) := by
  refine je_met1 tbX6_isDoor 2 okX6_isDoor rfl (by decide +kernel) rfl (by unfold je_ret; simp) (by decide) (Nat.le_of_ble_eq_true rfl) ?_
  intro J hoks hR
  show J G 0 [some (jI x)] []
  refine hR.2 [] 400 _ _ _ _ ?_
  conv => whnf
  refine je_s3i hR kX6_isDoor_3 rfl (m_in l G x (nI 0) (nI 3)) rfl ?_
  intro y G' hq
  obtain ⟨rfl, ⟨h1, h2, rfl⟩ | ⟨h1, rfl⟩⟩ := hq
  · skip
    refine hR.2 [] 400 _ _ _ _ ?_
    conv => whnf
    exact ⟨Or.inr rfl, _, rfl, rfl, Or.inl ⟨(vp_rng (by omega)).mpr ⟨h1, h2⟩, rfl⟩⟩
  · skip
    refine hR.2 [] 400 _ _ _ _ ?_
    conv => whnf
    exact ⟨Or.inl rfl, _, rfl, rfl, Or.inr ⟨fun h => h1.elim ((vp_rng (by omega)).mp h).1 ((vp_rng (by omega)).mp h).2, rfl⟩⟩
def bmX (x w : Int32) : Int32 := if w = nI 0 then (if x < nI 7 then -6 else x - nI 7) else if w = nI 1 then (if x - x / nI 7 * nI 7 ≤ 0 then -6 else x - nI 1) else if w = nI 2 then (if nI 6 ≤ x - x / nI 7 * nI 7 then -6 else x + nI 1) else (if nI 4 ≤ x / nI 7 then -6 else x + nI 7)
theorem bmX_all : ∀ c : Fin 35, ∀ w : Fin 4, bmX (nI c.val) (nI w.val) = oI (bs c.val w.val) := by decide +kernel
theorem bmX_ok {c w : Nat} (hc : c < 35) (hw : w < 4) : bmX (nI c) (nI w) = oI (bs c w) := bmX_all ⟨c, hc⟩ ⟨w, hw⟩
set_option maxHeartbeats 4000000 in
set_option maxRecDepth 100000 in
theorem m_besideX (l : Launch) (G : je_G) (x w : Int32) : je_Ci l yX6_beside wsX6_beside rmX6_beside [jI x, jI w] G (fun r G' => G' = G ∧ r = bmX x w) := by
  refine je_met1 tbX6_beside 1 okX6_beside rfl (by decide +kernel) rfl (by unfold je_ret; simp) (by decide) (Nat.le_of_ble_eq_true rfl) ?_
  intro J hoks hR
  show J G 0 [some (jI x), some (jI w)] []
  refine hR.2 [] 400 _ _ _ _ ?_
  conv => whnf
  refine ⟨fun h1 => ?_, fun h1 => ⟨fun h2 => ?_, fun h2 => ⟨fun h3 => ?_, fun h3 => ?_⟩⟩⟩
  · conv => whnf
    refine ⟨fun h5 => ?_, fun h5 => ?_⟩
    · conv => whnf
      exact ⟨_, rfl, rfl, by simp only [bmX, if_pos h1, if_pos h5]⟩
    · conv => whnf
      exact ⟨_, rfl, rfl, by simp only [bmX, if_pos h1, if_neg h5]⟩
  · conv => whnf
    refine ⟨by decide, ?_⟩
    conv => whnf
    refine ⟨fun h5 => ?_, fun h5 => ?_⟩
    · conv => whnf
      exact ⟨_, rfl, rfl, by simp only [bmX, if_neg h1, if_pos h2, if_pos h5]⟩
    · conv => whnf
      exact ⟨_, rfl, rfl, by simp only [bmX, if_neg h1, if_pos h2, if_neg h5]⟩
  · conv => whnf
    refine ⟨by decide, ?_⟩
    conv => whnf
    refine ⟨fun h5 => ?_, fun h5 => ?_⟩
    · conv => whnf
      exact ⟨_, rfl, rfl, by simp only [bmX, if_neg h1, if_neg h2, if_pos h3, if_pos h5]⟩
    · conv => whnf
      exact ⟨_, rfl, rfl, by simp only [bmX, if_neg h1, if_neg h2, if_pos h3, if_neg h5]⟩
  · conv => whnf
    refine ⟨by decide, ?_⟩
    conv => whnf
    refine ⟨fun h5 => ?_, fun h5 => ?_⟩
    · conv => whnf
      exact ⟨_, rfl, rfl, by simp only [bmX, if_neg h1, if_neg h2, if_neg h3, if_pos h5]⟩
    · conv => whnf
      exact ⟨_, rfl, rfl, by simp only [bmX, if_neg h1, if_neg h2, if_neg h3, if_neg h5]⟩
theorem m_beside (l : Launch) (G : je_G) {c w : Nat} (hc : c < 35) (hw : w < 4) : je_Ci l yX6_beside wsX6_beside rmX6_beside [jI (nI c), jI (nI w)] G (fun r G' => G' = G ∧ r = oI (bs c w)) := by
  have := m_besideX l G (nI c) (nI w)
  rw [bmX_ok hc hw] at this
  exact this
def raX (x w : Int32) : Int32 := nI 91 + (if w = 0 then nI 2 * (x - nI 7) + nI 1 else if w = nI 1 then nI 2 * (x - nI 1) else if w = nI 2 then nI 2 * x else nI 2 * x + nI 1)
theorem raX_all : ∀ c : Fin 35, ∀ w : Fin 4, (bs c.val w.val).all (fun _ => decide (raX (nI c.val) (nI w.val) = nI (91 + eg c.val w.val))) = true := by decide +kernel
theorem raX_ok {c w o : Nat} (hc : c < 35) (hw : w < 4) (h : bs c w = some o) : raX (nI c) (nI w) = nI (91 + eg c w) := by
  have := raX_all ⟨c, hc⟩ ⟨w, hw⟩
  dsimp only at this
  rw [h] at this
  exact of_decide_eq_true this
set_option maxHeartbeats 4000000 in
set_option maxRecDepth 100000 in
theorem m_ropeAt (l : Launch) (G : je_G) (x w : Int32) : je_Ci l yX6_ropeAt wsX6_ropeAt rmX6_ropeAt [jI x, jI w] G (fun r G' => G' = G ∧ r = raX x w) := by
  refine je_met1 tbX6_ropeAt 1 okX6_ropeAt rfl (by decide +kernel) rfl (by unfold je_ret; simp) (by decide) (Nat.le_of_ble_eq_true rfl) ?_
  intro J hoks hR
  show J G 0 [some (jI x), some (jI w)] []
  refine hR.2 [] 400 _ _ _ _ ?_
  conv => whnf
  refine ⟨fun h1 => ?_, fun h1 => ?_⟩
  · conv => whnf
    refine ⟨fun h2 => ?_, fun h2 => ?_⟩
    · conv => whnf
      refine ⟨fun h3 => ?_, fun h3 => ?_⟩
      · conv => whnf
        exact ⟨_, rfl, rfl, by simp only [raX, if_neg h1, if_neg h2, if_neg h3]⟩
      · conv => whnf
        exact ⟨_, rfl, rfl, by simp only [raX, if_neg h1, if_neg h2, if_pos h3]⟩
    · conv => whnf
      exact ⟨_, rfl, rfl, by simp only [raX, if_neg h1, if_pos h2]⟩
  · conv => whnf
    exact ⟨_, rfl, rfl, by simp only [raX, if_pos h1]⟩
set_option maxHeartbeats 4000000 in
set_option maxRecDepth 100000 in
theorem m_isFree (l : Launch) (G : je_G) (c w : Nat) (hc : c < 35) (hw : w < 4) : je_Ci l yX6_isFree wsX6_isFree rmX6_isFree [jR (6, 0, 0), jI (nI c), jI (nI w)] G (fun r G' => G' = G ∧ ((∃ o, stp (G 6 0 0) c w = some o) ∧ r = 1 ∨ stp (G 6 0 0) c w = none ∧ r = 0)) := by
  refine je_met1 tbX6_isFree 2 okX6_isFree rfl (by decide +kernel) rfl (by unfold je_ret; simp) (by decide) (Nat.le_of_ble_eq_true rfl) ?_
  intro J hoks hR
  show J G 0 [some (jR (6, 0, 0)), some (jI (nI c)), some (jI (nI w))] []
  refine hR.2 [] 400 _ _ _ _ ?_
  conv => whnf
  refine je_s2i hR kX6_isFree_2 rfl (m_beside l G hc hw) rfl ?_
  intro y G' hq
  obtain ⟨rfl, rfl⟩ := hq
  cases hb : bs c w with
  | none =>
    refine hR.2 [] 400 _ _ _ _ ?_
    conv => whnf
    refine And.intro (fun _ => ?_) (fun h => absurd rfl h)
    conv => whnf
    exact ⟨Or.inl rfl, _, rfl, rfl, Or.inr ⟨by unfold stp; rw [hb], rfl⟩⟩
  | some o =>
    have ho := bs_lt c hc w hw o hb
    show J G' _ _ [jI (nI o)]
    refine hR.2 [] 400 _ _ _ _ ?_
    conv => whnf
    refine And.intro (fun h => absurd h (nI_ne6 (by omega))) (fun _ => ?_)
    conv => whnf
    refine je_s2i hR kX6_isFree_16 rfl (m_ropeAt l G' (nI c) (nI w)) rfl ?_
    intro y G hq
    obtain ⟨rfl, rfl⟩ := hq
    rw [raX_ok hc hw hb]
    refine hR.2 [] 400 _ _ _ _ ?_
    conv => whnf
    refine ⟨vp_in_nI (by omega) (by omega), ?_⟩
    conv => whnf
    rw [nI_clamp (by omega), Nat.zero_add]
    refine ⟨fun h => ?_, fun h => ?_⟩
    · conv => whnf
      exact ⟨Or.inl rfl, _, rfl, rfl, Or.inr ⟨by unfold stp; rw [hb]; dsimp only; rw [if_neg h], rfl⟩⟩
    · conv => whnf
      exact ⟨Or.inr rfl, _, rfl, rfl, Or.inl ⟨⟨o, by unfold stp; rw [hb]; dsimp only; rw [if_pos h]⟩, rfl⟩⟩
/-- a door's block of distances, as numbers; the first k of it -/
def blN (d k : Nat) (f : Nat → Nat) (st : Sg) : Sg := fun i => if 35 * d ≤ i ∧ i < 35 * d + k then nI (f (i - 35 * d)) else st i
theorem blN_0 (d : Nat) (f : Nat → Nat) (st : Sg) : blN d 0 f st = st := by
  funext i
  unfold blN
  rw [if_neg (by omega)]
theorem blN_1 (d k : Nat) (f : Nat → Nat) (st : Sg) : upd (blN d k f st) (35 * d + k) (nI (f k)) = blN d (k + 1) f st := by
  funext i
  unfold upd blN
  by_cases h : i = 35 * d + k
  · rw [if_pos h, if_pos (by omega)]
    congr 2
    omega
  · rw [if_neg h]
    by_cases h2 : 35 * d ≤ i ∧ i < 35 * d + k
    · rw [if_pos h2, if_pos (by omega)]
    · rw [if_neg h2, if_neg (by omega)]
theorem blN_upd {d o v : Nat} {f : Nat → Nat} {st : Sg} (ho : o < 35) : upd (blN d 35 f st) (35 * d + o) (nI v) = blN d 35 (fun c => if c = o then v else f c) st := by
  funext i
  unfold upd blN
  by_cases h : i = 35 * d + o
  · rw [if_pos h, if_pos (by omega)]
    dsimp only
    rw [if_pos (by omega)]
  · rw [if_neg h]
    by_cases h2 : 35 * d ≤ i ∧ i < 35 * d + 35
    · rw [if_pos h2, if_pos h2]
      dsimp only
      rw [if_neg (by omega)]
    · rw [if_neg h2, if_neg h2]
theorem blN_at {d o : Nat} {f : Nat → Nat} {st : Sg} (ho : o < 35) : blN d 35 f st (35 * d + o) = nI (f o) := by
  unfold blN
  rw [if_pos (by omega)]
  congr 2
  omega
theorem blN_cong {d : Nat} {f g : Nat → Nat} {st : Sg} (h : ∀ c, c < 35 → f c = g c) : blN d 35 f st = blN d 35 g st := by
  funext i
  unfold blN
  by_cases h2 : 35 * d ≤ i ∧ i < 35 * d + 35
  · rw [if_pos h2, if_pos h2, h _ (by omega)]
  · rw [if_neg h2, if_neg h2]
set_option maxHeartbeats 4000000 in
set_option maxRecDepth 100000 in
theorem m_layFar (l : Launch) (G : je_G) (d : Nat) (hd : d < 4) (hs : vp_in (G 6 0 0 (5 + d)) 35) : je_Cv l yX6_layFar wsX6_layFar rmX6_layFar [jR (6, 0, 0), jI (nI d)] G (fun G' => isD (G 6 0 0) d (dst (G 6 0 0) d) ∧ G' = je_set G 6 0 8 (blN d 35 (dst (G 6 0 0) d) (G 6 0 8))) := by
  refine je_met1 tbX6_layFar 0 okX6_layFar rfl (by decide +kernel) rfl (by unfold je_ret; simp) (by decide) (Nat.le_of_ble_eq_true rfl) ?_
  intro J hoks hR
  show J G 0 [some (jR (6, 0, 0)), some (jI (nI d)), none, none, none, none] []
  have hG : ∀ a, je_set G 6 0 8 a 6 0 0 = G 6 0 0 := fun a => by rw [je_set_ne (by omega)]
  obtain ⟨hst, hse⟩ := dcell_nI hs
  refine hR.2 [7] 400 _ _ _ _ ?_
  conv => whnf
  rw [mul35']
  refine (show J (je_set G 6 0 8 (blN d 0 (fun c => if c = dcell (G 6 0 0) d then 0 else 100) (G 6 0 8))) 7 _ [] → J G 7 _ [] from fun h => by rw [blN_0, je_set_id] at h; exact h) ?_
  refine je_for (P := fun k => J (je_set G 6 0 8 (blN d k (fun c => if c = dcell (G 6 0 0) d then 0 else 100) (G 6 0 8))) 7 [some (jR (6, 0, 0)), some (jI (nI d)), some (jI (nI (35 * d))), some (jI (nI k)), none, none] []) 35 ?_ ?_ 0 (Nat.zero_le _)
  · skip
    refine hR.2 [7, 47] 400 _ _ _ _ ?_
    conv => whnf
    refine br_t ((nI_leI (by omega) (by omega)).mpr (by omega)) ?_
    conv => whnf
    have outer : ∀ (N : Nat) (f : Nat → Nat), fb_sm f 35 < N → rxI (G 6 0 0) d f → J (je_set G 6 0 8 (blN d 35 f (G 6 0 8))) 47 [some (jR (6, 0, 0)), some (jI (nI d)), some (jI (nI (35 * d))), some (jI (nI 1)), none, none] [] := by
      intro N
      induction N with
      | zero => intro f hf; omega
      | succ N ihN =>
        intro f hfN hI
        refine hR.2 [47, 56] 400 _ _ _ _ ?_
        conv => whnf
        refine br_f (by decide) ?_
        conv => whnf
        refine je_loc hR (L' := [some _, some _, some _, some _, some _, none]) ⟨rfl, rfl, rfl, rfl, rfl, trivial⟩ ?_
        refine je_for (P := fun k => ∀ (g : Nat → Nat) (more : Nat), rxI (G 6 0 0) d g → ((more = 0 ∧ g = f ∧ ∀ k', k' < k → ∀ o, stp (G 6 0 0) (k' / 4) (k' % 4) = some o → f (k' / 4) ≤ f o + 1) ∨ (more = 1 ∧ fb_sm g 35 < fb_sm f 35)) → J (je_set G 6 0 8 (blN d 35 g (G 6 0 8))) 56 [some (jR (6, 0, 0)), some (jI (nI d)), some (jI (nI (35 * d))), some (jI (nI more)), some (jI (nI k)), none] []) 140 ?_ ?_ 0 (Nat.zero_le _) f 0 hI (Or.inl ⟨rfl, rfl, fun k' hk' => absurd hk' (Nat.not_lt_zero k')⟩)
        · intro g more hg hm
          refine hR.2 [47, 56] 400 _ _ _ _ ?_
          conv => whnf
          refine br_t ((nI_leI (by omega) (by omega)).mpr (by omega)) ?_
          conv => whnf
          refine je_loc hR (L' := [some _, some _, some _, some _, none, none]) ⟨rfl, rfl, rfl, rfl, trivial⟩ ?_
          rcases hm with ⟨rfl, rfl, hk⟩ | ⟨rfl, hlt⟩
          · skip
            refine hR.2 [] 400 _ _ _ _ ?_
            conv => whnf
            refine br_t (by decide) ?_
            conv => whnf
            have hD : isD (G 6 0 0) d g := rx_end hg (fun c hc w hw o ho => by
              have := hk (4 * c + w) (by omega) o (by rw [show (4 * c + w) / 4 = c by omega, show (4 * c + w) % 4 = w by omega]; exact ho)
              rw [show (4 * c + w) / 4 = c by omega] at this
              exact this)
            exact ⟨rfl, dst_is hD, by rw [blN_cong (dst_eq hD)]⟩
          · exact ihN g (by omega) hg
        · intro k hk ih g more hg hm
          have hk4 : k / 4 < 35 := by omega
          have hm4 : k % 4 < 4 := by omega
          refine hR.2 [56] 400 _ _ _ _ ?_
          conv => whnf
          refine br_f (fun h => absurd ((nI_leI (by omega) (by omega)).mp h) (by omega)) ?_
          conv => whnf
          refine And.intro (by decide) ?_
          conv => whnf
          refine And.intro (by decide) ?_
          conv => whnf
          rw [pk_rem (show k < 2 ^ 31 by omega) (show 0 < 4 by decide) (by decide), pk_div (show k < 2 ^ 31 by omega) (by decide) (by decide)]
          refine je_v2i hR kX6_layFar_77 rfl (m_isFree l _ (k / 4) (k % 4) hk4 hm4) rfl ?_
          intro y G' hq
          rw [hG] at hq
          obtain ⟨rfl, ⟨⟨o, hsp⟩, rfl⟩ | ⟨hsp, rfl⟩⟩ := hq
          · obtain ⟨hob, -⟩ := stp_bs hsp
            have ho := (stp_lt hk4 hm4 hsp).1
            have hfo := hg.2.1 o ho
            have hfc := hg.2.1 (k / 4) hk4
            refine hR.2 [56] 400 _ _ _ _ ?_
            conv => whnf
            refine br_f (by decide) ?_
            conv => whnf
            refine And.intro (by decide) ?_
            conv => whnf
            rw [pk_rem (show k < 2 ^ 31 by omega) (show 0 < 4 by decide) (by decide)]
            refine je_s2i hR kX6_layFar_94 rfl (m_beside l _ hk4 hm4) rfl ?_
            intro y G' hq
            obtain ⟨rfl, rfl⟩ := hq
            rw [hob]
            show J _ _ _ [jI (nI o), _, _]
            refine hR.2 [56] 400 _ _ _ _ ?_
            conv => whnf
            rw [nI_add]
            refine And.intro (vp_in_nI (by omega) (by omega)) ?_
            conv => whnf
            rw [nI_add]
            refine And.intro (vp_in_nI (by omega) (by omega)) ?_
            conv => whnf
            simp only [je_set_eq, nI_add]
            simp (disch := omega) only [nI_clamp, Nat.zero_add]
            rw [blN_at ho, blN_at hk4, nI_add]
            by_cases hlt : g o + 1 < g (k / 4)
            · refine br_f (fun h => absurd ((nI_leI (by omega) (by omega)).mp h) (by omega)) ?_
              conv => whnf
              refine And.intro (by decide) ?_
              conv => whnf
              rw [pk_rem (show k < 2 ^ 31 by omega) (show 0 < 4 by decide) (by decide)]
              refine je_s2i hR kX6_layFar_132 rfl (m_beside l _ hk4 hm4) rfl ?_
              intro y G' hq
              obtain ⟨rfl, rfl⟩ := hq
              rw [hob]
              show J _ _ _ [jI (nI o), _, _, _, _]
              refine hR.2 [56] 400 _ _ _ _ ?_
              conv => whnf
              rw [nI_add]
              refine And.intro (vp_in_nI (by omega) (by omega)) ?_
              conv => whnf
              rw [nI_add]
              refine And.intro (vp_in_nI (by omega) (by omega)) ?_
              conv => whnf
              simp only [je_set_eq, je_set_set, nI_add]
              simp (disch := omega) only [nI_clamp, Nat.zero_add]
              rw [blN_at ho, nI_add, blN_upd hk4]
              obtain ⟨hg2, hsm⟩ := rx_step hg hk4 hm4 hsp hlt
              refine je_loc hR (L' := [some _, some _, some _, some _, some _, none]) ⟨rfl, rfl, rfl, rfl, rfl, trivial⟩ ?_
              refine ih _ 1 hg2 (Or.inr ⟨rfl, ?_⟩)
              rcases hm with ⟨-, rfl, -⟩ | ⟨-, hlt2⟩
              · exact hsm
              · omega
            · refine br_t ((nI_leI (by omega) (by omega)).mpr (by omega)) ?_
              conv => whnf
              simp only [nI_add]
              refine je_loc hR (L' := [some _, some _, some _, some _, some _, none]) ⟨rfl, rfl, rfl, rfl, rfl, trivial⟩ ?_
              refine ih g more hg ?_
              rcases hm with ⟨h1, rfl, h2⟩ | h1
              · refine Or.inl ⟨h1, rfl, fun k' hk' o' ho' => ?_⟩
                by_cases e : k' = k
                · subst e
                  rw [hsp] at ho'
                  cases ho'
                  omega
                · exact h2 k' (by omega) o' ho'
              · exact Or.inr h1
          · skip
            refine hR.2 [56] 400 _ _ _ _ ?_
            conv => whnf
            refine br_t (by decide) ?_
            conv => whnf
            simp only [nI_add]
            refine je_loc hR (L' := [some _, some _, some _, some _, some _, none]) ⟨rfl, rfl, rfl, rfl, rfl, trivial⟩ ?_
            refine ih g more hg ?_
            rcases hm with ⟨h1, rfl, h2⟩ | h1
            · refine Or.inl ⟨h1, rfl, fun k' hk' o' ho' => ?_⟩
              by_cases e : k' = k
              · subst e
                rw [hsp] at ho'
                cases ho'
              · exact h2 k' (by omega) o' ho'
            · exact Or.inr h1
    exact outer (fb_sm (fun c => if c = dcell (G 6 0 0) d then 0 else 100) 35 + 1) _ (Nat.lt_succ_self _) rx_start
  · intro k hk ih
    refine hR.2 [7] 400 _ _ _ _ ?_
    conv => whnf
    refine br_f (fun h => absurd ((nI_leI (by omega) (by omega)).mp h) (by omega)) ?_
    conv => whnf
    rw [nI_add]
    refine And.intro (vp_in_nI (by omega) (by omega)) ?_
    conv => whnf
    simp only [nI_add, hG]
    rw [nI_clamp (by omega), Nat.zero_add, hse]
    by_cases hkc : k = dcell (G 6 0 0) d
    · refine And.intro (fun h => absurd (by rw [hkc]) h) (fun _ => ?_)
      conv => whnf
      refine And.intro (vp_in_nI (by omega) (by omega)) ?_
      conv => whnf
      simp only [je_set_eq, je_set_set, nI_add]
      rw [nI_clamp (by omega), Nat.zero_add]
      have := blN_1 d k (fun c => if c = dcell (G 6 0 0) d then 0 else 100) (G 6 0 8)
      rw [if_pos hkc] at this
      rw [this]
      exact ih
    · refine And.intro (fun _ => ?_) (fun h => absurd ((nI_eq (by omega) (by omega)).mp h) hkc)
      conv => whnf
      refine And.intro (vp_in_nI (by omega) (by omega)) ?_
      conv => whnf
      simp only [je_set_eq, je_set_set, nI_add]
      rw [nI_clamp (by omega), Nat.zero_add]
      have := blN_1 d k (fun c => if c = dcell (G 6 0 0) d then 0 else 100) (G 6 0 8)
      rw [if_neg hkc] at this
      rw [this]
      exact ih
