/-! RopedHalls$Pad -/
def hasP (G : je_G) (len : Nat) (P : Sg) : Prop := G 3 0 0 0 = nI len ∧ len ≤ 60 ∧ ∀ j, j < len → G 3 0 1 j = P j
set_option maxHeartbeats 4000000 in
set_option maxRecDepth 100000 in
theorem c_codeAt (l : Launch) (G : je_G) (len : Nat) (P : Sg) (hp : hasP G len P) (i : Nat) (hi : i < 1000) : je_Ci l yX3_codeAt wsX3_codeAt rmX3_codeAt [jR (3, 0, 0), jI (nI i)] G (fun x G' => G' = G ∧ x = if i < len then P i else nI 0) := by
  refine je_met1 tbX3_codeAt 1 okX3_codeAt rfl (by decide +kernel) rfl (by unfold je_ret; simp) (by decide) (Nat.le_of_ble_eq_true rfl) ?_
  intro J hoks hR
  show J G 0 [some (jR (3, 0, 0)), some (jI (nI i))] []
  obtain ⟨h1, h2, h3⟩ := hp
  refine hR.2 [] 400 _ _ _ _ ?_
  conv => whnf
  refine br_f (nI_pos (by omega)) ?_
  conv => whnf
  rw [h1]
  by_cases hl : i < len
  · refine br_f (fun h => absurd ((nI_leI (by omega) (by omega)).mp h) (by omega)) ?_
    conv => whnf
    refine br_f (fun h => absurd ((nI_leI (by omega) (by omega)).mp h) (by omega)) ?_
    conv => whnf
    refine ⟨vp_in_nI (by omega) (by omega), ?_⟩
    conv => whnf
    rw [nI_clamp (by omega), Nat.zero_add, h3 i hl]
    exact ⟨_, rfl, rfl, by rw [if_pos hl]⟩
  · refine br_t ((nI_leI (by omega) (by omega)).mpr (by omega)) ?_
    conv => whnf
    exact ⟨_, rfl, rfl, by rw [if_neg hl]⟩
def pbf (x : Int32) : Int32 := if x < nI 49 then -6 else if ¬ x ≤ nI 57 then -6 else if x = nI 49 then nI 4 else if x = nI 50 then nI 5 else nI 6
set_option maxHeartbeats 4000000 in
set_option maxRecDepth 100000 in
theorem c_pbf (l : Launch) (G : je_G) (x : Int32) : je_Ci l yX3_placeBehindFirstDigit wsX3_placeBehindFirstDigit rmX3_placeBehindFirstDigit [jI x] G (fun r G' => G' = G ∧ r = pbf x) := by
  refine je_met1 tbX3_placeBehindFirstDigit 1 okX3_placeBehindFirstDigit rfl (by decide +kernel) rfl (by unfold je_ret; simp) (by decide) (Nat.le_of_ble_eq_true rfl) ?_
  intro J hoks hR
  show J G 0 [some (jI x)] []
  refine hR.2 [] 400 _ _ _ _ ?_
  conv => whnf
  repeat' (first | (refine And.intro (fun _ => ?_) (fun _ => ?_) <;> conv => whnf) | (refine And.intro (by decide) ?_; conv => whnf))
  all_goals (refine ⟨_, rfl, rfl, ?_⟩; unfold pbf; first | (simp only [*, if_true, if_false, not_true_eq_false, not_false_eq_true]; done) | (simp only [*, if_true, if_false, not_true_eq_false, not_false_eq_true]; decide))
def pB (p x : Int32) : Int32 := if p = nI 0 then (if x < nI 97 then -6 else if ¬ x ≤ nI 103 then -6 else nI 1) else if p = nI 1 then (if x < nI 49 then -6 else if ¬ x ≤ nI 53 then -6 else nI 2) else if p = nI 2 then (if x = nI 58 then nI 3 else -6) else if p = nI 3 then pbf x else if x = nI 44 then nI 0 else if p = nI 4 then (if x < nI 48 then -6 else if ¬ x ≤ nI 57 then -6 else nI 6) else if p = nI 5 then (if x = nI 48 then nI 6 else -6) else -6
set_option maxHeartbeats 4000000 in
set_option maxRecDepth 100000 in
theorem c_placeBehind (l : Launch) (G : je_G) (p x : Int32) : je_Ci l yX3_placeBehind wsX3_placeBehind rmX3_placeBehind [jI p, jI x] G (fun r G' => G' = G ∧ r = pB p x) := by
  refine je_met1 tbX3_placeBehind 1 okX3_placeBehind rfl (by decide +kernel) rfl (by unfold je_ret; simp) (by decide) (Nat.le_of_ble_eq_true rfl) ?_
  intro J hoks hR
  show J G 0 [some (jI p), some (jI x), none] []
  refine hR.2 [] 400 _ _ _ _ ?_
  conv => whnf
  refine ⟨fun w0 => ?_, fun w0 => ⟨fun w1 => ?_, fun w1 => ⟨fun w2 => ?_, fun w2 => ⟨fun w3 => ?_, fun w3 => ?_⟩⟩⟩⟩
  · conv => whnf
    refine ⟨fun h1 => ?_, fun h1 => ?_⟩
    · conv => whnf
      exact ⟨_, rfl, rfl, by simp only [pB, if_pos w0, if_pos h1]⟩
    · conv => whnf
      refine ⟨fun h2 => ?_, fun h2 => ?_⟩
      · conv => whnf
        exact ⟨_, rfl, rfl, by simp only [pB, if_pos w0, if_neg h1, if_pos (show ¬ x ≤ nI 103 from fun h => by have a := Int32.le_iff_toInt_le.mp h; have b := Int32.lt_iff_toInt_lt.mp h2; omega)]⟩
      · conv => whnf
        exact ⟨_, rfl, rfl, by simp only [pB, if_pos w0, if_neg h1, if_neg (show ¬ ¬ x ≤ nI 103 from fun h => h2 (by
          have a : ¬ x.toInt ≤ (nI 103).toInt := fun h3 => h (Int32.le_iff_toInt_le.mpr h3)
          exact Int32.lt_iff_toInt_lt.mpr (by omega)))]⟩
  · conv => whnf
    refine ⟨fun h1 => ?_, fun h1 => ?_⟩
    · conv => whnf
      exact ⟨_, rfl, rfl, by simp only [pB, if_neg w0, if_pos w1, if_pos h1]⟩
    · conv => whnf
      refine ⟨fun h2 => ?_, fun h2 => ?_⟩
      · conv => whnf
        exact ⟨_, rfl, rfl, by simp only [pB, if_neg w0, if_pos w1, if_neg h1, if_pos (show ¬ x ≤ nI 53 from fun h => by have a := Int32.le_iff_toInt_le.mp h; have b := Int32.lt_iff_toInt_lt.mp h2; omega)]⟩
      · conv => whnf
        exact ⟨_, rfl, rfl, by simp only [pB, if_neg w0, if_pos w1, if_neg h1, if_neg (show ¬ ¬ x ≤ nI 53 from fun h => h2 (by
          have a : ¬ x.toInt ≤ (nI 53).toInt := fun h3 => h (Int32.le_iff_toInt_le.mpr h3)
          exact Int32.lt_iff_toInt_lt.mpr (by omega)))]⟩
  · conv => whnf
    refine ⟨fun h1 => ?_, fun h1 => ?_⟩
    · conv => whnf
      exact ⟨_, rfl, rfl, by simp only [pB, if_neg w0, if_neg w1, if_pos w2, if_neg h1]⟩
    · conv => whnf
      exact ⟨_, rfl, rfl, by simp only [pB, if_neg w0, if_neg w1, if_pos w2, if_pos h1]⟩
  · conv => whnf
    refine je_s1i hR kX3_placeBehind_84 rfl (c_pbf l G x) rfl ?_
    intro y G' hq
    obtain ⟨rfl, rfl⟩ := hq
    refine hR.2 [] 400 _ _ _ _ ?_
    conv => whnf
    exact ⟨_, rfl, rfl, by simp only [pB, if_neg w0, if_neg w1, if_neg w2, if_pos w3]⟩
  · conv => whnf
    refine ⟨fun h1 => ?_, fun h1 => ?_⟩
    · conv => whnf
      refine ⟨fun w4 => ?_, fun w4 => ?_⟩
      · conv => whnf
        refine ⟨fun w5 => ?_, fun w5 => ?_⟩
        · conv => whnf
          refine br_t (by decide) ?_
          conv => whnf
          exact ⟨_, rfl, rfl, by simp only [pB, if_neg w0, if_neg w1, if_neg w2, if_neg w3, if_neg h1, if_neg w4, if_neg w5]⟩
        · conv => whnf
          refine ⟨fun h2 => ?_, fun h2 => ?_⟩
          · conv => whnf
            refine br_t (by decide) ?_
            conv => whnf
            exact ⟨_, rfl, rfl, by simp only [pB, if_neg w0, if_neg w1, if_neg w2, if_neg w3, if_neg h1, if_neg w4, if_pos w5, if_neg h2]⟩
          · conv => whnf
            refine br_f (by decide) ?_
            conv => whnf
            exact ⟨_, rfl, rfl, by simp only [pB, if_neg w0, if_neg w1, if_neg w2, if_neg w3, if_neg h1, if_neg w4, if_pos w5, if_pos h2]⟩
      · conv => whnf
        refine ⟨fun h2 => ?_, fun h2 => ?_⟩
        · conv => whnf
          refine br_t (by decide) ?_
          conv => whnf
          exact ⟨_, rfl, rfl, by simp only [pB, if_neg w0, if_neg w1, if_neg w2, if_neg w3, if_neg h1, if_pos w4, if_pos h2]⟩
        · conv => whnf
          refine ⟨fun h3 => ?_, fun h3 => ?_⟩
          · conv => whnf
            refine br_t (by decide) ?_
            conv => whnf
            exact ⟨_, rfl, rfl, by simp only [pB, if_neg w0, if_neg w1, if_neg w2, if_neg w3, if_neg h1, if_pos w4, if_neg h2, if_pos (show ¬ x ≤ nI 57 from fun h => by have a := Int32.le_iff_toInt_le.mp h; have b := Int32.lt_iff_toInt_lt.mp h3; omega)]⟩
          · conv => whnf
            refine br_f (by decide) ?_
            conv => whnf
            exact ⟨_, rfl, rfl, by simp only [pB, if_neg w0, if_neg w1, if_neg w2, if_neg w3, if_neg h1, if_pos w4, if_neg h2, if_neg (show ¬ ¬ x ≤ nI 57 from fun h => h3 (by
              have a : ¬ x.toInt ≤ (nI 57).toInt := fun h4 => h (Int32.le_iff_toInt_le.mpr h4)
              exact Int32.lt_iff_toInt_lt.mpr (by omega)))]⟩
    · conv => whnf
      exact ⟨_, rfl, rfl, by simp only [pB, if_neg w0, if_neg w1, if_neg w2, if_neg w3, if_pos h1]⟩
/-- the first fault: f characters are left, i read, st may stand now -/
def fa (P : Sg) : Nat → Nat → Int32 → Int32
  | 0, i, st => if st < nI 4 then nI i else -6
  | f + 1, i, st => if pB st (P i) = -6 then nI i else fa P f (i + 1) (pB st (P i))
set_option maxHeartbeats 4000000 in
set_option maxRecDepth 100000 in
theorem c_firstFault (l : Launch) (G : je_G) (len : Nat) (P : Sg) (hp : hasP G len P) : je_Ci l yX3_firstFault wsX3_firstFault rmX3_firstFault [jR (3, 0, 0)] G (fun x G' => G' = G ∧ x = fa P len 0 (nI 0)) := by
  refine je_met1 tbX3_firstFault 1 okX3_firstFault rfl (by decide +kernel) rfl (by unfold je_ret; simp) (by decide) (Nat.le_of_ble_eq_true rfl) ?_
  intro J hoks hR
  show J G 0 [some (jR (3, 0, 0)), none, none] []
  have h1 := hp.1
  have h2 := hp.2.1
  have key : ∀ (f i : Nat) (st : Int32), i + f = len → fa P f i st = fa P len 0 (nI 0) → J G 4 [some (jR (3, 0, 0)), some (jI st), some (jI (nI i))] [] := by
    intro f
    induction f with
    | zero =>
      intro i st hi he
      refine hR.2 [4] 400 _ _ _ _ ?_
      conv => whnf
      rw [h1]
      refine br_t ((nI_leI (by omega) (by omega)).mpr (by omega)) ?_
      conv => whnf
      refine ⟨fun h => ?_, fun h => ?_⟩
      · conv => whnf
        refine ⟨_, rfl, rfl, ?_⟩
        rw [← he, h1]
        show nI len = if st < nI 4 then nI i else -6
        rw [if_pos h, show i = len by omega]
      · conv => whnf
        refine ⟨_, rfl, rfl, ?_⟩
        rw [← he]
        show -6 = if st < nI 4 then nI i else -6
        rw [if_neg h]
    | succ f ih =>
      intro i st hi he
      refine hR.2 [4] 400 _ _ _ _ ?_
      conv => whnf
      rw [h1]
      refine br_f (fun h => absurd ((nI_leI (by omega) (by omega)).mp h) (by omega)) ?_
      conv => whnf
      refine je_v1i hR kX3_firstFault_15 rfl (c_codeAt l G len P hp i (by omega)) rfl ?_
      intro y G' hq
      obtain ⟨rfl, rfl⟩ := hq
      rw [if_pos (show i < len by omega)]
      refine hR.2 [4] 400 _ _ _ _ ?_
      conv => whnf
      refine je_s2i hR kX3_firstFault_18 rfl (c_placeBehind l G' st (P i)) rfl ?_
      intro y G hq
      obtain ⟨rfl, rfl⟩ := hq
      refine hR.2 [4] 400 _ _ _ _ ?_
      conv => whnf
      refine ⟨fun h => ?_, fun h => ?_⟩
      · conv => whnf
        simp (disch := omega) only [nI_clamp, nI_add]
        refine ih (i + 1) _ (by omega) ?_
        rw [← he, fa, if_neg h]
      · conv => whnf
        exact ⟨_, rfl, rfl, by rw [← he, fa, if_pos h]⟩
  refine hR.2 [4] 400 _ _ _ _ ?_
  conv => whnf
  exact key len 0 (nI 0) (by omega) rfl
set_option maxHeartbeats 4000000 in
set_option maxRecDepth 100000 in
theorem c_append (l : Launch) (G : je_G) (len : Nat) (h1 : G 3 0 0 0 = nI len) (hl : len < 60) (x : Int32) : je_Cv l yX3_append wsX3_append rmX3_append [jR (3, 0, 0), jI x] G (fun G' => G' = je_set (je_set G 3 0 1 (upd (G 3 0 1) len x)) 3 0 0 (upd (G 3 0 0) 0 (nI (len + 1)))) := by
  refine je_met1 tbX3_append 0 okX3_append rfl (by decide +kernel) rfl (by unfold je_ret; simp) (by decide) (Nat.le_of_ble_eq_true rfl) ?_
  intro J hoks hR
  show J G 0 [some (jR (3, 0, 0)), some (jI x)] []
  refine hR.2 [] 400 _ _ _ _ ?_
  conv => whnf
  rw [h1]
  refine br_f (nI_pos (by omega)) ?_
  conv => whnf
  rw [h1]
  refine br_f (fun h => absurd ((nI_leI (by omega) (by omega)).mp h) (by omega)) ?_
  conv => whnf
  rw [h1]
  refine ⟨vp_in_nI (by omega) (by omega), ?_⟩
  conv => whnf
  refine ⟨rfl, ?_⟩
  rw [nI_clamp (by omega), Nat.zero_add, je_set_ne (by omega), h1, nI_add]
/-- a crowd stands from p to q -/
def crw (P : Sg) (p q cx ry mn : Nat) : Prop := P p = nI (97 + cx) ∧ cx < 7 ∧ P (p + 1) = nI (49 + ry) ∧ ry < 5 ∧ P (p + 2) = nI 58 ∧ ∃ d1, 1 ≤ d1 ∧ d1 ≤ 9 ∧ P (p + 3) = nI (48 + d1) ∧ ((q = p + 4 ∧ mn = d1) ∨ (q = p + 5 ∧ ∃ d2, d2 ≤ 9 ∧ P (p + 4) = nI (48 + d2) ∧ mn = 10 * d1 + d2))
/-- the text from p on is crowds -/
def txt (P : Sg) (len : Nat) : Nat → List (Nat × Nat) → Prop
  | _, [] => False
  | p, (c, m) :: rest => ∃ q cx ry, crw P p q cx ry m ∧ c = 7 * ry + cx ∧ q ≤ len ∧ ((rest = [] ∧ q = len) ∨ (q < len ∧ P q = nI 44 ∧ txt P len (q + 1) rest))
/-- a crowd comes in, as many as there is room -/
def inl (σ : Sg) (q : Nat × Nat) : Sg :=
  let k := if σ 0 - σ (21 + q.1) < nI q.2 then σ 0 - σ (21 + q.1) else nI q.2
  upd (upd σ (21 + q.1) (σ (21 + q.1) + k)) 2 (σ 2 + k)
set_option maxHeartbeats 4000000 in
set_option maxRecDepth 100000 in
theorem c_letCrowdIn (l : Launch) (G : je_G) (len : Nat) (P : Sg) (hp : hasP G len P) (p q cx ry mn : Nat) (hc : crw P p q cx ry mn) (hq : q ≤ len) : je_Cv l yX3_letCrowdIn wsX3_letCrowdIn rmX3_letCrowdIn [jR (3, 0, 0), jR (1, 0, 0), jI (nI p), jI (nI q)] G (fun G' => G' = je_set G 1 0 0 (inl (G 1 0 0) (7 * ry + cx, mn))) := by
  refine je_met1 tbX3_letCrowdIn 0 okX3_letCrowdIn rfl (by decide +kernel) rfl (by unfold je_ret; simp) (by decide) (Nat.le_of_ble_eq_true rfl) ?_
  intro J hoks hR
  show J G 0 [some (jR (3, 0, 0)), some (jR (1, 0, 0)), some (jI (nI p)), some (jI (nI q)), none, none] []
  obtain ⟨e0, hcx, e1, hry, e2, d1, hd1, hd9, e3, hq2⟩ := hc
  have hp1 := hp.1
  have hp2 := hp.2.1
  have hpq : p + 4 ≤ q := by rcases hq2 with h | h <;> omega
  have fin : J G 61 [some (jR (3, 0, 0)), some (jR (1, 0, 0)), some (jI (nI p)), some (jI (nI q)), some (jI (nI (7 * ry + cx))), some (jI (nI mn))] [] := by
    refine hR.2 [] 400 _ _ _ _ ?_
    conv => whnf
    refine je_v1i hR kX3_letCrowdIn_69 rfl (c_roomIn l G 0 (7 * ry + cx) (by omega)) rfl ?_
    intro y G' hq
    obtain ⟨rfl, rfl⟩ := hq
    refine hR.2 [] 400 _ _ _ _ ?_
    conv => whnf
    refine je_v2v hR kX3_letCrowdIn_75 rfl (c_letIn l G' 0 (7 * ry + cx) (by omega) _) rfl ?_
    intro G2 hq
    subst hq
    refine hR.2 [] 400 _ _ _ _ ?_
    conv => whnf
    exact ⟨rfl, rfl⟩
  refine hR.2 [] 400 _ _ _ _ ?_
  conv => whnf
  refine je_v1i hR kX3_letCrowdIn_2 rfl (c_codeAt l G len P hp p (by omega)) rfl ?_
  intro y G' hq
  obtain ⟨rfl, rfl⟩ := hq
  rw [if_pos (show p < len by omega), e0]
  refine hR.2 [] 400 _ _ _ _ ?_
  conv => whnf
  simp only [nI_add]
  refine je_v1i hR kX3_letCrowdIn_14 rfl (c_codeAt l G' len P hp (p + 1) (by omega)) rfl ?_
  intro y G hq
  obtain ⟨rfl, rfl⟩ := hq
  rw [if_pos (show p + 1 < len by omega), e1]
  refine hR.2 [] 400 _ _ _ _ ?_
  conv => whnf
  simp only [nI_add]
  refine je_v1i hR kX3_letCrowdIn_28 rfl (c_codeAt l G len P hp (p + 3) (by omega)) rfl ?_
  intro y G' hq
  obtain ⟨rfl, rfl⟩ := hq
  rw [if_pos (show p + 3 < len by omega), e3]
  refine hR.2 [61] 400 _ _ _ _ ?_
  conv => whnf
  rw [pk_sub (by omega), pk_sub (by omega), pk_sub (by omega), show 97 + cx - 97 = cx by omega, show 49 + ry - 49 = ry by omega, show 48 + d1 - 48 = d1 by omega]
  simp only [nI_add]
  have hcell : nI cx + nI 7 * nI ry = nI (7 * ry + cx) := by rw [pk_mul, nI_add, Nat.add_comm]
  rw [hcell]
  rcases hq2 with ⟨hq2, rfl⟩ | ⟨hq2, d2, hd2, e4, rfl⟩
  · refine br_t ((nI_leI (by omega) (by omega)).mpr (by omega)) ?_
    conv => whnf
    exact fin
  · refine br_f (fun h => absurd ((nI_leI (by omega) (by omega)).mp h) (by omega)) ?_
    conv => whnf
    simp only [nI_add]
    refine je_v1i hR kX3_letCrowdIn_52 rfl (c_codeAt l G' len P hp (p + 4) (by omega)) rfl ?_
    intro y G hq
    obtain ⟨rfl, rfl⟩ := hq
    rw [if_pos (show p + 4 < len by omega), e4]
    refine hR.2 [61] 400 _ _ _ _ ?_
    conv => whnf
    rw [pk_mul, nI_add, pk_sub (by omega), show 10 * d1 + (48 + d2) - 48 = 10 * d1 + d2 by omega]
    exact fin
theorem hasP_set {G : je_G} {len : Nat} {P : Sg} (h : hasP G len P) {f : Sg} : hasP (je_set G 1 0 0 f) len P := ⟨by rw [je_set_ne (by omega)]; exact h.1, h.2.1, fun j hj => by rw [je_set_ne (by omega)]; exact h.2.2 j hj⟩
set_option maxHeartbeats 4000000 in
set_option maxRecDepth 100000 in
theorem c_letCrowdsIn (l : Launch) (G : je_G) (len : Nat) (P : Sg) (hp : hasP G len P) (cs : List (Nat × Nat)) (ht : txt P len 0 cs) : je_Cv l yX3_letCrowdsIn wsX3_letCrowdsIn rmX3_letCrowdsIn [jR (3, 0, 0), jR (1, 0, 0)] G (fun G' => G' = je_set G 1 0 0 (cs.foldl inl (G 1 0 0))) := by
  refine je_met1 tbX3_letCrowdsIn 0 okX3_letCrowdsIn rfl (by decide +kernel) rfl (by unfold je_ret; simp) (by decide) (Nat.le_of_ble_eq_true rfl) ?_
  intro J hoks hR
  show J G 0 [some (jR (3, 0, 0)), some (jR (1, 0, 0)), none, none] []
  have hl := hp.2.1
  have key : ∀ (cs' : List (Nat × Nat)) (p : Nat) (σ : Sg) (e : Nat), txt P len p cs' → (e = p ∨ e = p + 1) → p < len → cs'.foldl inl σ = cs.foldl inl (G 1 0 0) → J (je_set G 1 0 0 σ) 4 [some (jR (3, 0, 0)), some (jR (1, 0, 0)), some (jI (nI p)), some (jI (nI e))] [] := by
    intro cs'
    induction cs' with
    | nil => intro p σ e ht; exact ht.elim
    | cons cm rest ih =>
      intro p σ e ht he hpl hfold
      obtain ⟨c, m⟩ := cm
      obtain ⟨q, cx, ry, hc, hcc, hql, hend⟩ := ht
      have hp' := hasP_set hp (f := σ)
      have hc' := hc
      obtain ⟨e0, hcx, e1, hry, e2, d1, hd1, hd9, e3, hq2⟩ := hc
      have hpq : p + 4 ≤ q := by rcases hq2 with h | h <;> omega
      have noc : ∀ x, p ≤ x → x < q → P x ≠ nI 44 := by
        intro x h1 h2
        rcases (show x = p ∨ x = p + 1 ∨ x = p + 2 ∨ x = p + 3 ∨ x = p + 4 by rcases hq2 with h | h <;> omega) with rfl | rfl | rfl | rfl | rfl
        · rw [e0]; intro h; have := (nI_eq (by omega) (by omega)).mp h; omega
        · rw [e1]; intro h; have := (nI_eq (by omega) (by omega)).mp h; omega
        · rw [e2]; intro h; have := (nI_eq (by omega) (by omega)).mp h; omega
        · rw [e3]; intro h; have := (nI_eq (by omega) (by omega)).mp h; omega
        · rcases hq2 with h | ⟨h, d2, hd2, e4, h5⟩
          · omega
          · rw [e4]; intro h; have := (nI_eq (by omega) (by omega)).mp h; omega
      -- the end of the crowd
      have last : J (je_set G 1 0 0 σ) 4 [some (jR (3, 0, 0)), some (jR (1, 0, 0)), some (jI (nI p)), some (jI (nI q))] [] := by
        have go30 : J (je_set G 1 0 0 σ) 30 [some (jR (3, 0, 0)), some (jR (1, 0, 0)), some (jI (nI p)), some (jI (nI q))] [] := by
          refine hR.2 [] 400 _ _ _ _ ?_
          conv => whnf
          refine je_v3v hR kX3_letCrowdsIn_34 rfl (c_letCrowdIn l _ len P hp' p q cx ry m hc' hql) rfl ?_
          intro G2 hq
          subst hq
          rw [je_set_eq, je_set_set]
          refine hR.2 [4] 400 _ _ _ _ ?_
          conv => whnf
          simp only [nI_add]
          rcases hend with ⟨h1, h2⟩ | ⟨h1, h2, h3⟩
          · subst h1
            have h1' : je_set G 1 0 0 (inl σ (7 * ry + cx, m)) 3 0 0 0 = nI len := by rw [je_set_ne (by omega)]; exact hp.1
            refine hR.2 [] 400 _ _ _ _ ?_
            conv => whnf
            rw [h1']
            refine And.intro (fun _ => ?_) (fun h => absurd ((nI_ltI (by omega) (by omega)).mpr (by omega)) h)
            conv => whnf
            refine ⟨rfl, ?_⟩
            rw [← hfold, hcc]
            rfl
          · refine ih (q + 1) _ (q + 1) h3 (Or.inl rfl) ?_ (by rw [← hfold, hcc]; rfl)
            cases rest with
            | nil => exact h3.elim
            | cons cm2 rest2 =>
              obtain ⟨q2, cx2, ry2, hc2, -, hq2l, -⟩ := h3
              obtain ⟨-, -, -, -, -, d1', -, -, -, hq2'⟩ := hc2
              rcases hq2' with h | h <;> omega
        have h1' : je_set G 1 0 0 σ 3 0 0 0 = nI len := by rw [je_set_ne (by omega)]; exact hp.1
        refine hR.2 [4, 30] 400 _ _ _ _ ?_
        conv => whnf
        rw [h1']
        refine And.intro (fun h => absurd ((nI_ltI (by omega) (by omega)).mp h) (by omega)) (fun _ => ?_)
        conv => whnf
        rw [h1']
        by_cases hqe : q = len
        · refine br_t (by rw [hqe]) ?_
          conv => whnf
          exact go30
        · refine br_f (fun h => hqe ((nI_eq (by omega) (by omega)).mp h)) ?_
          conv => whnf
          refine je_v1i hR kX3_letCrowdsIn_22 rfl (c_codeAt l _ len P hp' q (by omega)) rfl ?_
          intro y G2 hq
          obtain ⟨rfl, rfl⟩ := hq
          rw [if_pos (show q < len by omega)]
          have hcm : P q = nI 44 := by
            rcases hend with ⟨h1, h2⟩ | ⟨h1, h2, h3⟩
            · exact absurd h2 hqe
            · exact h2
          rw [hcm]
          refine hR.2 [4, 30] 400 _ _ _ _ ?_
          conv => whnf
          refine And.intro (fun h => absurd rfl h) (fun _ => ?_)
          conv => whnf
          exact go30
      have back : ∀ j x, x + j = q → p ≤ x → J (je_set G 1 0 0 σ) 4 [some (jR (3, 0, 0)), some (jR (1, 0, 0)), some (jI (nI p)), some (jI (nI x))] [] := by
        intro j
        induction j with
        | zero => intro x hx _; rw [show x = q by omega]; exact last
        | succ j ihj =>
          intro x hx hpx
          have h1' : je_set G 1 0 0 σ 3 0 0 0 = nI len := by rw [je_set_ne (by omega)]; exact hp.1
          refine hR.2 [4, 30] 400 _ _ _ _ ?_
          conv => whnf
          rw [h1']
          refine And.intro (fun h => absurd ((nI_ltI (by omega) (by omega)).mp h) (by omega)) (fun _ => ?_)
          conv => whnf
          rw [h1']
          refine br_f (fun h => absurd ((nI_eq (by omega) (by omega)).mp h) (by omega)) ?_
          conv => whnf
          refine je_v1i hR kX3_letCrowdsIn_22 rfl (c_codeAt l _ len P hp' x (by omega)) rfl ?_
          intro y G2 hq
          obtain ⟨rfl, rfl⟩ := hq
          rw [if_pos (show x < len by omega)]
          refine hR.2 [4, 30] 400 _ _ _ _ ?_
          conv => whnf
          refine And.intro (fun _ => ?_) (fun h => absurd h (noc x hpx (by omega)))
          conv => whnf
          simp only [nI_add]
          exact ihj (x + 1) (by omega) (by omega)
      exact back (q - e) e (by omega) (by omega)
  refine hR.2 [4] 400 _ _ _ _ ?_
  conv => whnf
  refine (show J (je_set G 1 0 0 (G 1 0 0)) 4 _ [] → _ from fun h => by rw [je_set_id] at h; exact h) ?_
  have hpl : 0 < len := by
    cases cs with
    | nil => exact ht.elim
    | cons cm2 rest2 =>
      obtain ⟨q2, cx2, ry2, hc2, -, hq2l, -⟩ := ht
      obtain ⟨-, -, -, -, -, d1', -, -, -, hq2'⟩ := hc2
      rcases hq2' with h | h <;> omega
  exact key cs 0 (G 1 0 0) 1 ht (Or.inr rfl) hpl rfl
/-! RopedHalls: fault, read, put -/
def F_fault (S : jS) : Int32 := match S with
  | (σ, k, hs, sv, sl, len, pad) => fa pad len 0 (nI 0)
theorem CR_P {G : je_G} {S : jS} (h : CR G S) : hasP G S.2.2.2.2.2.1 S.2.2.2.2.2.2 := ⟨h.2.2.2.1, h.2.2.2.2.1, h.2.2.2.2.2⟩
set_option maxHeartbeats 4000000 in
set_option maxRecDepth 100000 in
theorem c_fault (l : Launch) (G : je_G) (S : jS) (hC : CR G S) : je_Ci l yX5_fault wsX5_fault rmX5_fault [jR (5, 0, 0)] G (fun y G' => y = F_fault S ∧ CR G' S ∧ FrC G G') := by
  refine je_met1 tbX5_fault 1 okX5_fault rfl (by decide +kernel) rfl (by unfold je_ret; simp) (by decide) (Nat.le_of_ble_eq_true rfl) ?_
  intro J hoks hR
  show J G 0 [some (jR (5, 0, 0))] []
  refine hR.2 [] 400 _ _ _ _ ?_
  conv => whnf
  refine je_v0i hR kX5_fault_4 rfl (c_firstFault l G _ _ (CR_P hC)) rfl ?_
  intro y G' hq
  obtain ⟨rfl, rfl⟩ := hq
  refine hR.2 [] 400 _ _ _ _ ?_
  conv => whnf
  exact ⟨_, rfl, rfl, hC, FrC.rf⟩
/-- the crowds that stand on the pad -/
noncomputable def crs (S : jS) : List (Nat × Nat) := by
  classical
  exact if h : ∃ cs, txt S.2.2.2.2.2.2 S.2.2.2.2.2.1 0 cs then Classical.choose h else []
noncomputable def F_read (S : jS) : Int32 × jS := match S with
  | (σ, k, hs, sv, sl, len, pad) => if fa pad len 0 (nI 0) = -6 then (((crs S).foldl inl σ) 2 - σ 2, wS (F_wipe (rec6 S)).2 ((crs S).foldl inl σ)) else (-3, S)
set_option maxHeartbeats 4000000 in
set_option maxRecDepth 100000 in
theorem c_read (l : Launch) (G : je_G) (S : jS) (hC : CR G S) (hb : bits S.1) (ht : fa S.2.2.2.2.2.2 S.2.2.2.2.2.1 0 (nI 0) = -6 → ∃ cs, txt S.2.2.2.2.2.2 S.2.2.2.2.2.1 0 cs) : je_Ci l yX5_read wsX5_read rmX5_read [jR (5, 0, 0)] G (fun y G' => y = (F_read S).1 ∧ CR G' (F_read S).2 ∧ FrC G G') := by
  refine je_met1 tbX5_read 1 okX5_read rfl (by decide +kernel) rfl (by unfold je_ret; simp) (by decide) (Nat.le_of_ble_eq_true rfl) ?_
  intro J hoks hR
  show J G 0 [some (jR (5, 0, 0)), none] []
  obtain ⟨σ, k, hs, sv, sl, len, pad⟩ := S
  refine hR.2 [] 400 _ _ _ _ ?_
  conv => whnf
  refine je_v0i hR kX5_read_4 rfl (c_firstFault l G len pad (CR_P hC)) rfl ?_
  intro y G' hq
  obtain ⟨rfl, rfl⟩ := hq
  refine hR.2 [] 400 _ _ _ _ ?_
  conv => whnf
  refine ⟨fun h0 => ?_, fun h0 => ?_⟩
  · conv => whnf
    have hcs : ∃ cs, txt pad len 0 cs := ht h0
    have hcr : txt pad len 0 (crs (σ, k, hs, sv, sl, len, pad)) := by
      unfold crs
      rw [dif_pos hcs]
      exact Classical.choose_spec hcs
    refine je_v0v hR kX5_read_16 rfl (c_remember l G' (σ, k, hs, sv, sl, len, pad) hC hb) rfl ?_
    intro G2 hq
    obtain ⟨hC2, hf⟩ := hq
    have e2 := CR_1 hC2
    rw [rec6_1] at e2
    refine hR.2 [] 400 _ _ _ _ ?_
    conv => whnf
    refine je_v1v hR kX5_read_35 rfl (c_letCrowdsIn l G2 len pad (CR_P hC2) _ hcr) rfl ?_
    intro G3 hq
    subst hq
    refine hR.2 [] 400 _ _ _ _ ?_
    conv => whnf
    have ea : ∀ a b, je_set (je_set G2 1 0 0 a) 3 0 0 b 1 0 0 = a := fun a b => by rw [je_set_ne (by omega), je_set_eq]
    rw [ea, e2]
    refine ⟨_, rfl, ?_, ?_, ((FrC_rem hf).set (by omega)).set (by omega)⟩
    · simp only [F_read, if_pos h0]
    · simp only [F_read, if_pos h0]
      obtain ⟨f1, ⟨m, hm, f2, f3, hk, f4⟩, f5, f6, hl, f7⟩ := CR_set hC2 (List.foldl inl σ (crs (σ, k, hs, sv, sl, len, pad)))
      refine ⟨?_, ⟨m, hm, ?_, ?_, hk, fun i hi => ?_⟩, fun i hi => ⟨?_, fun hs => ?_⟩, ?_, Nat.zero_le 60, fun j hj => absurd hj (Nat.not_lt_zero j)⟩
      · rw [je_set_ne (by omega)]; exact f1
      · rw [je_set_ne (by omega)]; exact f2
      · rw [je_set_ne (by omega)]; exact f3
      · rw [je_set_ne (by omega)]; exact f4 i hi
      · rw [je_set_ne (by omega)]; exact (f5 i hi).1
      · rw [je_set_ne (by omega)]; exact (f5 i hi).2 hs
      · rw [je_set_eq]; exact pk_us
  · conv => whnf
    exact ⟨_, rfl, by simp only [F_read, if_neg h0], by simp only [F_read, if_neg h0]; exact hC, FrC.rf⟩
/-- the code at a place of a packed number, and how many there are -/
def pch (x : Int64) (i : Nat) : Int64 := (x.toUInt64 >>> ((nI 8 * nI i).toInt64.toUInt64 &&& Int64.toUInt64 63)).toInt64
def pco (x : Int64) (i : Nat) : Int32 := (pch x i).toInt32 &&& nI 255
/-- characters counted from place i on; f places are left -/
noncomputable def chi (x : Int64) : Nat → Nat → Int32
  | 0, _ => nI 8
  | f + 1, i => by
    classical
    exact if pch x i = 0 then nI i else if pco x i < nI 33 ∨ ¬ pco x i ≤ nI 126 then nI 0 else chi x f (i + 1)
theorem lg_cmp0 (x y : Int64) : lg_cmp x y = 0 ↔ x = y := by
  unfold lg_cmp
  split
  · rename_i h
    refine ⟨fun e => absurd e (by decide), fun e => ?_⟩
    subst e
    exact absurd (Int64.lt_iff_toInt_lt.mp h) (by omega)
  · split
    · rename_i h
      exact ⟨fun _ => h, fun _ => rfl⟩
    · rename_i h1 h
      exact ⟨fun e => absurd e (by decide), fun e => absurd e h⟩
set_option maxHeartbeats 4000000 in
set_option maxRecDepth 100000 in
theorem c_charactersIn (l : Launch) (G : je_G) (x : Int64) : je_Ci l yX5_charactersIn wsX5_charactersIn rmX5_charactersIn [jL x] G (fun r G' => G' = G ∧ r = chi x 8 0) := by
  refine je_met1 tbX5_charactersIn 1 okX5_charactersIn rfl (by decide +kernel) rfl (by unfold je_ret; simp) (by decide) (Nat.le_of_ble_eq_true rfl) ?_
  intro J hoks hR
  show J G 0 [some (jL x), none, none, none, none, none] []
  have key : ∀ (f i : Nat), i + f = 8 → chi x f i = chi x 8 0 → J G 2 [some (jL x), none, some (jI (nI i)), none, none, none] [] := by
    intro f
    induction f with
    | zero =>
      intro i hi he
      refine hR.2 [2] 400 _ _ _ _ ?_
      conv => whnf
      refine br_t ((nI_leI (by omega) (by omega)).mpr (by omega)) ?_
      conv => whnf
      exact ⟨_, rfl, rfl, by rw [← he]; rfl⟩
    | succ f ih =>
      intro i hi he
      refine hR.2 [2] 400 _ _ _ _ ?_
      conv => whnf
      refine br_f (fun h => absurd ((nI_leI (by omega) (by omega)).mp h) (by omega)) ?_
      conv => whnf
      by_cases hz : pch x i = 0
      · refine And.intro (fun h => absurd ((lg_cmp0 _ _).mpr hz) h) (fun _ => ?_)
        conv => whnf
        refine ⟨_, rfl, rfl, ?_⟩
        rw [← he, chi]
        exact (if_pos hz).symm
      · refine And.intro (fun _ => ?_) (fun h => absurd ((lg_cmp0 _ _).mp h) hz)
        conv => whnf
        refine ⟨fun h1 => ?_, fun h1 => ?_⟩
        · conv => whnf
          have hv : pco x i < nI 33 ∨ ¬ pco x i ≤ nI 126 := Or.inl h1
          refine ⟨_, rfl, rfl, ?_⟩
          rw [← he, chi]
          exact ((if_neg hz).trans (if_pos hv)).symm
        · conv => whnf
          refine ⟨fun h2 => ?_, fun h2 => ?_⟩
          · conv => whnf
            have hv : ¬ (pco x i < nI 33 ∨ ¬ pco x i ≤ nI 126) := fun h => h.elim h1 (fun h => h h2)
            simp (disch := omega) only [nI_clamp, nI_add]
            refine je_loc hR (L' := [some _, none, some _, none, none, none]) ⟨rfl, rfl, trivial⟩ (ih (i + 1) (by omega) ?_)
            rw [← he]
            conv => rhs; rw [chi]
            exact ((if_neg hz).trans (if_neg hv)).symm
          · conv => whnf
            have hv : pco x i < nI 33 ∨ ¬ pco x i ≤ nI 126 := Or.inr h2
            refine ⟨_, rfl, rfl, ?_⟩
            rw [← he, chi]
            exact ((if_neg hz).trans (if_pos hv)).symm
  refine hR.2 [2] 400 _ _ _ _ ?_
  conv => whnf
  exact key 8 0 rfl rfl
theorem chi_ok (x : Int64) : ∀ (f i : Nat), i + f = 8 → ∃ m, m ≤ 8 ∧ chi x f i = nI m
  | 0, i, h => ⟨8, Nat.le_refl _, rfl⟩
  | f + 1, i, h => by
    rw [chi]
    split
    · exact ⟨i, by omega, rfl⟩
    · split
      · exact ⟨0, by omega, rfl⟩
      · exact chi_ok x f (i + 1) (by omega)
noncomputable def F_put (S : jS) (x : Int64) : Int32 × jS := match S with
  | (σ, k, hs, sv, sl, len, pad) => if chi x 8 0 < nI 1 then (-2, S) else if ¬ nI len + chi x 8 0 ≤ nI 60 then (-4, S) else (nI len + chi x 8 0, (σ, k, hs, sv, sl, len + (chi x 8 0).toNatClampNeg, fun j => if j < len then pad j else pco x ((chi x 8 0).toNatClampNeg - 1 - (j - len))))
theorem CR_app {G : je_G} {σ : Sg} {k : Nat} {hs : Nat → Sg} {sv : Nat → Bool} {sl : Nat → Sg} {len : Nat} {pad : Sg} (h : CR G (σ, k, hs, sv, sl, len, pad)) (hl : len < 60) {x : Int32} (hx : pad len = x) : CR (je_set (je_set G 3 0 1 (upd (G 3 0 1) len x)) 3 0 0 (upd (G 3 0 0) 0 (nI (len + 1)))) (σ, k, hs, sv, sl, len + 1, pad) := by
  obtain ⟨e1, ⟨m, hm, e2, e3, hk, e4⟩, e5, e6, hl2, e7⟩ := h
  refine ⟨?_, ⟨m, hm, ?_, ?_, hk, fun i hi => ?_⟩, fun i hi => ⟨?_, fun hs => ?_⟩, ?_, by omega, fun j hj => ?_⟩
  · rw [je_set_ne (by omega), je_set_ne (by omega)]; exact e1
  · rw [je_set_ne (by omega), je_set_ne (by omega)]; exact e2
  · rw [je_set_ne (by omega), je_set_ne (by omega)]; exact e3
  · rw [je_set_ne (by omega), je_set_ne (by omega)]; exact e4 i hi
  · rw [je_set_ne (by omega), je_set_ne (by omega)]; exact (e5 i hi).1
  · rw [je_set_ne (by omega), je_set_ne (by omega)]; exact (e5 i hi).2 hs
  · rw [je_set_eq]; exact pk_us
  · rw [je_set_ne (by omega), je_set_eq]
    by_cases h : j = len
    · subst h; rw [pk_us, hx]
    · rw [pk_un h]; exact e7 j (by omega)
set_option maxHeartbeats 4000000 in
set_option maxRecDepth 100000 in
theorem c_put (l : Launch) (G : je_G) (S : jS) (hC : CR G S) (x : Int64) : je_Ci l yX5_put wsX5_put rmX5_put [jR (5, 0, 0), jL x] G (fun y G' => y = (F_put S x).1 ∧ CR G' (F_put S x).2 ∧ FrC G G') := by
  refine je_met1 tbX5_put 1 okX5_put rfl (by decide +kernel) rfl (by unfold je_ret; simp) (by decide) (Nat.le_of_ble_eq_true rfl) ?_
  intro J hoks hR
  show J G 0 [some (jR (5, 0, 0)), some (jL x), none, none, none] []
  obtain ⟨σ, k, hs, sv, sl, len, pad⟩ := S
  have hlen : G 3 0 0 0 = nI len := CR_len hC
  have hl60 : len ≤ 60 := (CR_P hC).2.1
  obtain ⟨m, hm, hchi⟩ := chi_ok x 8 0 rfl
  refine hR.2 [] 400 _ _ _ _ ?_
  conv => whnf
  refine je_s1i hR kX5_put_1 rfl (c_charactersIn l G x) rfl ?_
  intro y G' hq
  obtain ⟨rfl, rfl⟩ := hq
  rw [hchi]
  simp only [F_put, hchi] at hR
  refine hR.2 [35] 400 _ _ _ _ ?_
  conv => whnf
  by_cases hm1 : m < 1
  · refine br_f (fun h => absurd ((nI_leI (by omega) (by omega)).mp h) (by omega)) ?_
    conv => whnf
    have hv : nI m < nI 1 := (nI_ltI (by omega) (by omega)).mpr (by omega)
    exact ⟨_, rfl, by simp only [if_pos hv], by simp only [if_pos hv]; exact hC, FrC.rf⟩
  · refine br_t ((nI_leI (by omega) (by omega)).mpr (by omega)) ?_
    conv => whnf
    have hv : ¬ nI m < nI 1 := fun h => absurd ((nI_ltI (by omega) (by omega)).mp h) (by omega)
    rw [hlen]
    by_cases h60 : len + m ≤ 60
    · refine br_t (by rw [nI_add]; exact (nI_leI (by omega) (by omega)).mpr (by omega)) ?_
      conv => whnf
      have hv2 : ¬ ¬ nI len + nI m ≤ nI 60 := fun h => h (by rw [nI_add]; exact (nI_leI (by omega) (by omega)).mpr (by omega))
      simp only [if_neg hv, if_neg hv2, nI_clamp (show m < 2 ^ 31 by omega)] at hR ⊢
      have key : ∀ j, j ≤ m → ∀ G2, CR G2 (σ, k, hs, sv, sl, len + (m - j), fun t => if t < len then pad t else pco x (m - 1 - (t - len))) → FrC G' G2 → J G2 35 [some (jR (5, 0, 0)), some (jL x), none, some (jI (nI m)), some (jI (nI j + (-1)))] [] := by
        intro j
        induction j with
        | zero =>
          intro _ G2 hC2 hF2
          refine hR.2 [] 400 _ _ _ _ ?_
          conv => whnf
          refine And.intro (fun _ => ?_) (fun h => absurd (by decide) h)
          conv => whnf
          refine ⟨_, rfl, ?_, hC2, hF2⟩
          rw [CR_len hC2, nI_add]
          rfl
        | succ j ih =>
          intro hj G2 hC2 hF2
          rw [pk_m1]
          refine hR.2 [35] 400 _ _ _ _ ?_
          conv => whnf
          refine br_f (nI_pos (by omega)) ?_
          conv => whnf
          refine je_v1v hR kX5_put_56 rfl (c_append l G2 (len + (m - (j + 1))) (CR_len hC2) (by omega) _) rfl ?_
          intro G3 hq
          subst hq
          refine hR.2 [35] 400 _ _ _ _ ?_
          conv => whnf
          refine ih (by omega) _ ?_ ((hF2.set (by omega)).set (by omega))
          have := CR_app hC2 (by omega) (x := pco x j) (by
            rw [if_neg (by omega)]
            congr 1
            omega)
          rw [show len + (m - (j + 1)) + 1 = len + (m - j) by omega] at this ⊢
          exact this
      rw [show nI m - nI 1 = nI m + (-1) by rw [pk_sub (by omega), show m = m - 1 + 1 by omega, pk_m1]; rfl]
      refine key m (Nat.le_refl _) G' ?_ FrC.rf
      rw [Nat.sub_self]
      obtain ⟨e1, e2, e3, e6, hl2, e7⟩ := hC
      exact ⟨e1, e2, e3, e6, hl2, fun j hj => by show _ = if j < len then pad j else _; rw [if_pos (show j < len from hj)]; exact e7 j hj⟩
    · refine br_f (fun h => by rw [nI_add] at h; exact absurd ((nI_leI (by omega) (by omega)).mp h) (by omega)) ?_
      conv => whnf
      have hv2 : ¬ nI len + nI m ≤ nI 60 := fun h => by rw [nI_add] at h; exact absurd ((nI_leI (by omega) (by omega)).mp h) (by omega)
      exact ⟨_, rfl, by simp only [if_neg hv, if_pos hv2], by simp only [if_neg hv, if_pos hv2]; exact hC, FrC.rf⟩
