/-! RopedHalls: the small static methods -/
theorem vp_ge {x : Int32} {n : Nat} (hn : n < 2 ^ 31) (h0 : ¬ x < 0) : nI n ≤ x ↔ n ≤ x.toNatClampNeg := by
  obtain ⟨j, hj, e⟩ := nI_of h0
  subst e
  rw [nI_clamp hj]
  exact nI_leI hn hj

set_option maxHeartbeats 4000000 in
set_option maxRecDepth 100000 in
theorem c_isCell (l : Launch) (G : je_G) (x : Int32) : je_Ci l yX5_isCell wsX5_isCell rmX5_isCell [jI x] G (fun r G' => G' = G ∧ (vp_in x 35 ∧ r = 1 ∨ ¬ vp_in x 35 ∧ r = 0)) := by
  refine je_met1 tbX5_isCell 2 okX5_isCell rfl (by decide +kernel) rfl (by unfold je_ret; simp) (by decide) (Nat.le_of_ble_eq_true rfl) ?_
  intro J hoks hR
  show J G 0 [some (jI x)] []
  refine hR.2 [] 400 _ _ _ _ ?_
  conv => whnf
  refine ⟨fun h1 => ?_, fun h1 => ?_⟩
  · conv => whnf
    exact ⟨Or.inl rfl, _, rfl, rfl, Or.inr ⟨fun h => h (Or.inl h1), rfl⟩⟩
  · conv => whnf
    refine ⟨fun h2 => ?_, fun h2 => ?_⟩
    · conv => whnf
      exact ⟨Or.inl rfl, _, rfl, rfl, Or.inr ⟨fun h => h (Or.inr ((vp_ge (by decide) h1).mp h2)), rfl⟩⟩
    · conv => whnf
      exact ⟨Or.inr rfl, _, rfl, rfl, Or.inl ⟨fun h => h.elim h1 (fun h => h2 ((vp_ge (by decide) h1).mpr h)), rfl⟩⟩

set_option maxHeartbeats 4000000 in
set_option maxRecDepth 100000 in
theorem c_isDoor (l : Launch) (G : je_G) (x : Int32) : je_Ci l yX5_isDoor wsX5_isDoor rmX5_isDoor [jI x] G (fun r G' => G' = G ∧ (vp_in x 4 ∧ r = 1 ∨ ¬ vp_in x 4 ∧ r = 0)) := by
  refine je_met1 tbX5_isDoor 2 okX5_isDoor rfl (by decide +kernel) rfl (by unfold je_ret; simp) (by decide) (Nat.le_of_ble_eq_true rfl) ?_
  intro J hoks hR
  show J G 0 [some (jI x)] []
  refine hR.2 [] 400 _ _ _ _ ?_
  conv => whnf
  refine ⟨fun h1 => ?_, fun h1 => ?_⟩
  · conv => whnf
    exact ⟨Or.inl rfl, _, rfl, rfl, Or.inr ⟨fun h => h (Or.inl h1), rfl⟩⟩
  · conv => whnf
    refine ⟨fun h2 => ?_, fun h2 => ?_⟩
    · conv => whnf
      exact ⟨Or.inl rfl, _, rfl, rfl, Or.inr ⟨fun h => h (Or.inr ((vp_ge (by decide) h1).mp h2)), rfl⟩⟩
    · conv => whnf
      exact ⟨Or.inr rfl, _, rfl, rfl, Or.inl ⟨fun h => h.elim h1 (fun h => h2 ((vp_ge (by decide) h1).mpr h)), rfl⟩⟩

set_option maxHeartbeats 4000000 in
set_option maxRecDepth 100000 in
theorem c_isSide (l : Launch) (G : je_G) (x : Int32) : je_Ci l yX5_isSide wsX5_isSide rmX5_isSide [jI x] G (fun r G' => G' = G ∧ (vp_in x 2 ∧ r = 1 ∨ ¬ vp_in x 2 ∧ r = 0)) := by
  refine je_met1 tbX5_isSide 2 okX5_isSide rfl (by decide +kernel) rfl (by unfold je_ret; simp) (by decide) (Nat.le_of_ble_eq_true rfl) ?_
  intro J hoks hR
  show J G 0 [some (jI x)] []
  refine hR.2 [] 400 _ _ _ _ ?_
  conv => whnf
  refine ⟨fun h1 => ?_, fun h1 => ?_⟩
  · conv => whnf
    exact ⟨Or.inl rfl, _, rfl, rfl, Or.inr ⟨fun h => h (Or.inl h1), rfl⟩⟩
  · conv => whnf
    refine ⟨fun h2 => ?_, fun h2 => ?_⟩
    · conv => whnf
      exact ⟨Or.inl rfl, _, rfl, rfl, Or.inr ⟨fun h => h (Or.inr ((vp_ge (by decide) h1).mp h2)), rfl⟩⟩
    · conv => whnf
      exact ⟨Or.inr rfl, _, rfl, rfl, Or.inl ⟨fun h => h.elim h1 (fun h => h2 ((vp_ge (by decide) h1).mpr h)), rfl⟩⟩

set_option maxHeartbeats 4000000 in
set_option maxRecDepth 100000 in
theorem c_isEdge (l : Launch) (G : je_G) (x : Int32) : je_Ci l yX5_isEdge wsX5_isEdge rmX5_isEdge [jI x] G (fun r G' => G' = G ∧ (vp_in x 70 ∧ r = 1 ∨ ¬ vp_in x 70 ∧ r = 0)) := by
  refine je_met1 tbX5_isEdge 2 okX5_isEdge rfl (by decide +kernel) rfl (by unfold je_ret; simp) (by decide) (Nat.le_of_ble_eq_true rfl) ?_
  intro J hoks hR
  show J G 0 [some (jI x)] []
  refine hR.2 [] 400 _ _ _ _ ?_
  conv => whnf
  refine ⟨fun h1 => ?_, fun h1 => ?_⟩
  · conv => whnf
    exact ⟨Or.inl rfl, _, rfl, rfl, Or.inr ⟨fun h => h (Or.inl h1), rfl⟩⟩
  · conv => whnf
    refine ⟨fun h2 => ?_, fun h2 => ?_⟩
    · conv => whnf
      exact ⟨Or.inl rfl, _, rfl, rfl, Or.inr ⟨fun h => h (Or.inr ((vp_ge (by decide) h1).mp h2)), rfl⟩⟩
    · conv => whnf
      exact ⟨Or.inr rfl, _, rfl, rfl, Or.inl ⟨fun h => h.elim h1 (fun h => h2 ((vp_ge (by decide) h1).mpr h)), rfl⟩⟩

def beX (x w : Int32) : Int32 := if w = nI 0 then (if x < nI 7 then -6 else x - nI 7) else if w = nI 1 then (if x - x / nI 7 * nI 7 ≤ 0 then -6 else x - nI 1) else if w = nI 2 then (if nI 6 ≤ x - x / nI 7 * nI 7 then -6 else x + nI 1) else if w = nI 3 then (if nI 28 ≤ x then -6 else x + nI 7) else -6
theorem beX_all : ∀ c : Fin 35, ∀ w : Fin 4, beX (nI c.val) (nI w.val) = oI (bs c.val w.val) := by decide +kernel
theorem beX_ok {c w : Nat} (hc : c < 35) (hw : w < 4) : beX (nI c) (nI w) = oI (bs c w) := beX_all ⟨c, hc⟩ ⟨w, hw⟩
set_option maxHeartbeats 4000000 in
set_option maxRecDepth 100000 in
theorem c_besideX (l : Launch) (G : je_G) (x w : Int32) : je_Ci l yX5_beside wsX5_beside rmX5_beside [jI x, jI w] G (fun r G' => G' = G ∧ r = beX x w) := by
  refine je_met1 tbX5_beside 1 okX5_beside rfl (by decide +kernel) rfl (by unfold je_ret; simp) (by decide) (Nat.le_of_ble_eq_true rfl) ?_
  intro J hoks hR
  show J G 0 [some (jI x), some (jI w)] []
  refine hR.2 [] 400 _ _ _ _ ?_
  conv => whnf
  refine ⟨fun h1 => ?_, fun h1 => ⟨fun h2 => ?_, fun h2 => ⟨fun h3 => ?_, fun h3 => ⟨fun h4 => ?_, fun h4 => ?_⟩⟩⟩⟩
  · conv => whnf
    refine ⟨fun h5 => ?_, fun h5 => ?_⟩
    · conv => whnf
      exact ⟨_, rfl, rfl, by simp only [beX, if_pos h1, if_pos h5]⟩
    · conv => whnf
      exact ⟨_, rfl, rfl, by simp only [beX, if_pos h1, if_neg h5]⟩
  · conv => whnf
    refine ⟨by decide, ?_⟩
    conv => whnf
    refine ⟨fun h5 => ?_, fun h5 => ?_⟩
    · conv => whnf
      exact ⟨_, rfl, rfl, by simp only [beX, if_neg h1, if_pos h2, if_pos h5]⟩
    · conv => whnf
      exact ⟨_, rfl, rfl, by simp only [beX, if_neg h1, if_pos h2, if_neg h5]⟩
  · conv => whnf
    refine ⟨by decide, ?_⟩
    conv => whnf
    refine ⟨fun h5 => ?_, fun h5 => ?_⟩
    · conv => whnf
      exact ⟨_, rfl, rfl, by simp only [beX, if_neg h1, if_neg h2, if_pos h3, if_pos h5]⟩
    · conv => whnf
      exact ⟨_, rfl, rfl, by simp only [beX, if_neg h1, if_neg h2, if_pos h3, if_neg h5]⟩
  · conv => whnf
    refine ⟨fun h5 => ?_, fun h5 => ?_⟩
    · conv => whnf
      exact ⟨_, rfl, rfl, by simp only [beX, if_neg h1, if_neg h2, if_neg h3, if_pos h4, if_pos h5]⟩
    · conv => whnf
      exact ⟨_, rfl, rfl, by simp only [beX, if_neg h1, if_neg h2, if_neg h3, if_pos h4, if_neg h5]⟩
  · conv => whnf
    exact ⟨_, rfl, rfl, by simp only [beX, if_neg h1, if_neg h2, if_neg h3, if_neg h4]⟩
def etX (x w : Int32) : Int32 := if beX x w = -6 then -6 else nI 2 * (if beX x w < x then beX x w else x) + (if w = nI 1 ∨ w = nI 2 then nI 0 else nI 1)
theorem etX_all : ∀ c : Fin 35, ∀ w : Fin 4, etX (nI c.val) (nI w.val) = oI ((bs c.val w.val).map fun _ => eg c.val w.val) := by decide +kernel
theorem etX_ok {c w : Nat} (hc : c < 35) (hw : w < 4) : etX (nI c) (nI w) = oI ((bs c w).map fun _ => eg c w) := etX_all ⟨c, hc⟩ ⟨w, hw⟩
set_option maxHeartbeats 4000000 in
set_option maxRecDepth 100000 in
theorem c_edgeTowards (l : Launch) (G : je_G) (x w : Int32) : je_Ci l yX5_edgeTowards wsX5_edgeTowards rmX5_edgeTowards [jI x, jI w] G (fun r G' => G' = G ∧ r = etX x w) := by
  refine je_met1 tbX5_edgeTowards 1 okX5_edgeTowards rfl (by decide +kernel) rfl (by unfold je_ret; simp) (by decide) (Nat.le_of_ble_eq_true rfl) ?_
  intro J hoks hR
  show J G 0 [some (jI x), some (jI w), none, none] []
  refine hR.2 [] 400 _ _ _ _ ?_
  conv => whnf
  refine je_s2i hR kX5_edgeTowards_2 rfl (c_besideX l G x w) rfl ?_
  intro y G' hq
  obtain ⟨rfl, rfl⟩ := hq
  refine hR.2 [] 400 _ _ _ _ ?_
  conv => whnf
  refine ⟨fun h1 => ?_, fun h1 => ?_⟩
  · conv => whnf
    repeat' (first | (refine And.intro (fun _ => ?_) (fun _ => ?_) <;> conv => whnf) | (refine And.intro (by decide) ?_; conv => whnf))
    all_goals exact ⟨_, rfl, rfl, by unfold etX; rw [if_neg h1]; congr 1; simp [*]⟩
  · conv => whnf
    exact ⟨_, rfl, rfl, by simp only [etX, if_pos h1]⟩
set_option maxHeartbeats 4000000 in
set_option maxRecDepth 100000 in
theorem c_edgeAt (l : Launch) (G : je_G) (x s : Int32) : je_Ci l yX5_edgeAt wsX5_edgeAt rmX5_edgeAt [jI x, jI s] G (fun r G' => G' = G ∧ r = etX x (if s = 0 then nI 2 else nI 3)) := by
  refine je_met1 tbX5_edgeAt 1 okX5_edgeAt rfl (by decide +kernel) rfl (by unfold je_ret; simp) (by decide) (Nat.le_of_ble_eq_true rfl) ?_
  intro J hoks hR
  show J G 0 [some (jI x), some (jI s)] []
  refine hR.2 [] 400 _ _ _ _ ?_
  conv => whnf
  refine ⟨fun h1 => ?_, fun h1 => ?_⟩
  · conv => whnf
    refine je_s2i hR kX5_edgeAt_10 rfl (c_edgeTowards l G x (nI 3)) rfl ?_
    intro y G' hq
    obtain ⟨rfl, rfl⟩ := hq
    refine hR.2 [] 400 _ _ _ _ ?_
    conv => whnf
    exact ⟨_, rfl, rfl, by rw [if_neg h1]⟩
  · conv => whnf
    refine je_s2i hR kX5_edgeAt_10 rfl (c_edgeTowards l G x (nI 2)) rfl ?_
    intro y G' hq
    obtain ⟨rfl, rfl⟩ := hq
    refine hR.2 [] 400 _ _ _ _ ?_
    conv => whnf
    exact ⟨_, rfl, rfl, by rw [if_pos h1]⟩
