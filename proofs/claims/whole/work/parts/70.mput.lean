/-! THE REFERENCE: put -/
theorem pch_sh : ∀ i : Fin 8, (nI 8 * nI i.val).toInt64.toUInt64 &&& Int64.toUInt64 63 = UInt64.ofNat (8 * i.val) := by decide +kernel
theorem pch_0 {x : Int64} {i : Nat} (hi : i < 8) : pch x i = 0 ↔ x.toUInt64.toNat >>> (8 * i) = 0 := by
  unfold pch
  rw [pch_sh ⟨i, hi⟩]
  have e : (x.toUInt64 >>> UInt64.ofNat (8 * i)).toNat = x.toUInt64.toNat >>> (8 * i) := by
    rw [UInt64.toNat_shiftRight, UInt64.toNat_ofNat', Nat.mod_eq_of_lt (show 8 * i < 2 ^ 64 by omega), Nat.mod_eq_of_lt (show 8 * i < 64 by omega)]
  rw [← e]
  constructor
  · intro h
    have := congrArg Int64.toUInt64 h
    have h2 : x.toUInt64 >>> UInt64.ofNat (8 * i) = 0 := this
    rw [h2]
    rfl
  · intro h
    have h2 : x.toUInt64 >>> UInt64.ofNat (8 * i) = 0 := UInt64.toNat_inj.mp h
    show (x.toUInt64 >>> UInt64.ofNat (8 * i)).toInt64 = 0
    rw [h2]
    rfl
theorem pch_mono {x : Int64} {i j : Nat} (hij : i ≤ j) (hj : j < 8) (h : pch x i = 0) : pch x j = 0 := by
  rw [pch_0 (by omega)] at h
  rw [pch_0 hj]
  rw [Nat.shiftRight_eq_div_pow] at h ⊢
  have h1 : x.toUInt64.toNat < 2 ^ (8 * i) := by
    rcases Nat.lt_or_ge x.toUInt64.toNat (2 ^ (8 * i)) with h2 | h2
    · exact h2
    · have := Nat.div_pos h2 (Nat.two_pow_pos _)
      omega
  exact Nat.div_eq_of_lt (Nat.lt_of_lt_of_le h1 (Nat.pow_le_pow_right (by omega) (by omega)))
def pov (x : Int64) (i : Nat) : Prop := 0 < i ∧ pch x i = 0
def pbc (x : Int64) (i : Nat) : Prop := pco x i < nI 33 ∨ nI 126 < pco x i
noncomputable def pcn (x : Int64) : Nat → Nat
  | 0 => 0
  | i + 1 => by
    classical
    exact if pov x i then pcn x i else pcn x i + 1
def pbd (x : Int64) : Nat → Prop
  | 0 => False
  | i + 1 => pbd x i ∨ (¬ pov x i ∧ pbc x i)
theorem pbd_mono {x : Int64} {i : Nat} (h : pbd x i) : ∀ k, pbd x (i + k)
  | 0 => h
  | k + 1 => Or.inl (pbd_mono h k)
theorem pov_from {x : Int64} {i : Nat} (h : pov x i) : ∀ k, i + k ≤ 8 → (pcn x (i + k) = pcn x i ∧ (pbd x (i + k) → pbd x i))
  | 0, _ => ⟨rfl, id⟩
  | k + 1, hk => by
    obtain ⟨h1, h2⟩ := pov_from h k (by omega)
    have ho : pov x (i + k) := ⟨by have := h.1; omega, pch_mono (by omega) (by omega) h.2⟩
    refine ⟨?_, fun h3 => ?_⟩
    · show pcn x (i + k + 1) = _
      rw [pcn, if_pos ho, h1]
    · rcases h3 with h3 | h3
      · exact h2 h3
      · exact absurd ho h3.1
theorem chi_m (x : Int64) : ∀ (f i : Nat), i + f = 8 → pcn x i = i → ¬ pbd x i → (pbd x 8 → chi x f i = nI 0) ∧ (¬ pbd x 8 → chi x f i = nI (pcn x 8) ∧ 1 ≤ pcn x 8)
  | 0, i, h, h1, h2 => by
    have : i = 8 := by omega
    subst this
    exact ⟨fun h => absurd h h2, fun _ => by rw [h1]; exact ⟨rfl, by omega⟩⟩
  | f + 1, i, h, h1, h2 => by
    rw [chi]
    by_cases hz : pch x i = 0
    · rw [if_pos hz]
      by_cases h0 : i = 0
      · subst h0
        refine ⟨fun _ => rfl, fun hb => absurd (pbd_mono (i := 1) (Or.inr ⟨fun h => absurd h.1 (Nat.lt_irrefl 0), Or.inl ?_⟩) 7) hb⟩
        unfold pco
        rw [hz]
        decide
      · have ho := pov_from (x := x) (i := i) ⟨by omega, hz⟩ (8 - i) (by omega)
        rw [show i + (8 - i) = 8 by omega] at ho
        exact ⟨fun hb => absurd (ho.2 hb) h2, fun _ => by rw [ho.1, h1]; exact ⟨rfl, by omega⟩⟩
    · have hno : ¬ pov x i := fun h => hz h.2
      rw [if_neg hz]
      by_cases hc : pbc x i
      · rw [if_pos (hc.elim Or.inl (fun h => Or.inr (i_nle.mpr h)))]
        have hb : pbd x 8 := by
          have := pbd_mono (x := x) (i := i + 1) (Or.inr ⟨hno, hc⟩) (7 - i)
          rw [show i + 1 + (7 - i) = 8 by omega] at this
          exact this
        exact ⟨fun _ => rfl, fun h => absurd hb h⟩
      · rw [if_neg (fun h => hc (h.elim Or.inl (fun h => Or.inr (i_nle.mp h))))]
        exact chi_m x f (i + 1) (by omega) (by rw [pcn, if_neg hno, h1]) (fun h => h.elim h2 (fun h => hc h.2))
theorem land_l2i (y : Int64) : (y &&& 255).toInt32 = y.toInt32 &&& nI 255 := by
  rw [Int64.toInt32_and]
  rfl
noncomputable def peb (x : Int64) (i : Nat) : Int32 := by
  classical
  exact if pbd x i then nI 1 else nI 0
theorem pcn_le {x : Int64} : ∀ i, pcn x i ≤ i
  | 0 => Nat.le_refl _
  | i + 1 => by
    have := pcn_le (x := x) i
    rw [pcn]
    split <;> omega
set_option maxHeartbeats 4000000 in
set_option maxRecDepth 100000 in
theorem m_put (l : Launch) (G : je_G) (S : jS) (hM : MR G S) (x : Int64) : je_Ci l yX6_put wsX6_put rmX6_put [jR (6, 0, 0), jL x] G (fun y G' => y = (F_put S x).1 ∧ MR G' (F_put S x).2 ∧ FrM G G') := by
  refine je_met1 tbX6_put 1 okX6_put rfl (by decide +kernel) rfl (by unfold je_ret; simp) (by decide) (Nat.le_of_ble_eq_true rfl) ?_
  intro J hoks hR
  show J G 0 [some (jR (6, 0, 0)), some (jL x), none, none, none, none, none, none] []
  refine hR.2 [8] 400 _ _ _ _ ?_
  conv => whnf
  refine (show J G 8 [some (jR (6, 0, 0)), some (jL x), none, some (jI (nI (pcn x 0))), some (jI (peb x 0)), some (jI (nI 0)), none, none] [] → _ from fun h => by rw [show peb x 0 = nI 0 from if_neg id] at h; exact h) ?_
  refine je_for (P := fun i => J G 8 [some (jR (6, 0, 0)), some (jL x), none, some (jI (nI (pcn x i))), some (jI (peb x i)), some (jI (nI i)), none, none] []) 8 ?_ ?_ 0 (Nat.zero_le _)
  · have h8 := pcn_le (x := x) 8
    obtain ⟨hc1, hc2⟩ := chi_m x 8 0 rfl rfl (fun h => h)
    by_cases hb : pbd x 8
    · have e1 : peb x 8 = nI 1 := if_pos hb
      have hF : F_put S x = (-2, S) := by
        obtain ⟨σ, k, hs, sv, sl, len, pad⟩ := S
        simp only [F_put]
        rw [hc1 hb, if_pos (by decide)]
      rw [e1]
      refine hR.2 [8] 400 _ _ _ _ ?_
      conv => whnf
      refine br_t ((nI_leI (by omega) (by omega)).mpr (by omega)) ?_
      conv => whnf
      refine br_f (by decide) ?_
      conv => whnf
      rw [hF]
      exact ⟨_, rfl, rfl, hM, FrM.rf⟩
    · have e1 : peb x 8 = nI 0 := if_neg hb
      obtain ⟨hc, hm1⟩ := hc2 hb
      generalize pcn x 8 = m at hc hm1 h8 ⊢
      rw [e1]
      have hlen := MR_len hM
      have hMc := hM
      obtain ⟨σ, k, hs, sv, sl, len, pad⟩ := S
      obtain ⟨m1, ⟨m2, hk, m3⟩, m5, m6, hl, m7⟩ := hM
      have hlen' : G 6 0 7 0 = nI len := hlen
      simp only [F_put, hc] at hR
      have hv : ¬ nI m < nI 1 := fun h => absurd ((nI_ltI (by omega) (by omega)).mp h) (by omega)
      rw [if_neg hv] at hR
      refine hR.2 [8, 126] 400 _ _ _ _ ?_
      conv => whnf
      refine br_t ((nI_leI (by omega) (by omega)).mpr (by omega)) ?_
      conv => whnf
      refine br_t (by decide) ?_
      conv => whnf
      rw [hlen', nI_add]
      by_cases h60 : len + m ≤ 60
      · refine br_t ((nI_leI (by omega) (by omega)).mpr (by omega)) ?_
        conv => whnf
        have hv2 : ¬ ¬ nI len + nI m ≤ nI 60 := fun h => h (by rw [nI_add]; exact (nI_leI (by omega) (by omega)).mpr (by omega))
        rw [if_neg hv2] at hR
        have r7 : ∀ f, je_set G 6 0 6 f 6 0 7 = G 6 0 7 := fun f => je_set_ne (by omega)
        refine (show J (je_set G 6 0 6 (G 6 0 6)) 126 [some (jR (6, 0, 0)), some (jL x), none, some (jI (nI m)), some (jI (nI 0)), some (jI (nI 0)), none, none] [] → _ from fun h => by rw [je_set_id] at h; exact h) ?_
        refine je_for (P := fun i => ∀ f : Sg, (∀ j, j < i → f (len + m - 1 - j) = pco x j) → (∀ j, j < len → f j = pad j) → J (je_set G 6 0 6 f) 126 [some (jR (6, 0, 0)), some (jL x), none, some (jI (nI m)), some (jI (nI 0)), some (jI (nI i)), none, none] []) m ?_ ?_ 0 (Nat.zero_le _) _ (fun j hj => absurd hj (Nat.not_lt_zero j)) m7
        · intro f hf1 hf2
          refine hR.2 [126] 400 _ _ _ _ ?_
          conv => whnf
          refine br_t ((nI_leI (by omega) (by omega)).mpr (by omega)) ?_
          conv => whnf
          refine ⟨_, rfl, ?_, ?_, (FrM.rf.set).set⟩
          · rw [je_set_eq, upd_eq, r7, hlen']
          · rw [show (nI m).toNatClampNeg = m from nI_clamp (by omega)]
            have hr : ∀ g r, r ≠ 6 → r ≠ 7 → je_set (je_set G 6 0 6 f) 6 0 7 g 6 0 r = G 6 0 r := fun g r h1 h2 => by rw [je_set_ne (by omega), je_set_ne (by omega)]
            refine ⟨by rw [hr _ 0 (by omega) (by omega)]; exact m1, ⟨by rw [hr _ 3 (by omega) (by omega)]; exact m2, hk, fun i hi j hj => by rw [hr _ 2 (by omega) (by omega)]; exact m3 i hi j hj⟩, fun i hi => ⟨by rw [hr _ 5 (by omega) (by omega)]; exact (m5 i hi).1, fun h j hj => by rw [hr _ 4 (by omega) (by omega)]; exact (m5 i hi).2 h j hj⟩, by rw [je_set_eq, upd_eq, r7, hlen', nI_add], h60, fun j hj => ?_⟩
            rw [je_set_ne (by omega), je_set_eq]
            dsimp only
            by_cases h : j < len
            · rw [if_pos h]; exact hf2 j h
            · rw [if_neg h]
              have := hf1 (m - 1 - (j - len)) (by omega)
              rw [show len + m - 1 - (m - 1 - (j - len)) = j by omega] at this
              exact this
        · intro i hi ih f hf1 hf2
          refine hR.2 [126] 400 _ _ _ _ ?_
          conv => whnf
          refine br_f (fun h => absurd ((nI_leI (by omega) (by omega)).mp h) (by omega)) ?_
          conv => whnf
          rw [r7, hlen', nI_add, pk_sub (show 1 ≤ len + m by omega), pk_sub (show i ≤ len + m - 1 by omega)]
          refine And.intro (vp_in_nI (by omega) (by omega)) ?_
          conv => whnf
          simp only [je_set_set, je_set_eq, nI_add]
          simp only [nI_clamp (show len + m - 1 - i < 2 ^ 31 by omega), Nat.zero_add]
          rw [show ((x.toUInt64 >>> ((nI 8 * nI i).toInt64.toUInt64 &&& Int64.toUInt64 63)).toInt64 &&& Int64.ofNat 255).toInt32 = pco x i from land_l2i _]
          refine ih _ (fun j hj => ?_) (fun j hj => ?_)
          · by_cases e : j = i
            · rw [e, upd_eq]
            · rw [upd_ne (by omega)]; exact hf1 j (by omega)
          · rw [upd_ne (by omega)]; exact hf2 j hj
      · refine br_f (fun h => h60 ((nI_leI (by omega) (by omega)).mp h)) ?_
        conv => whnf
        have hv3 : ¬ nI (len + m) ≤ nI 60 := fun h => h60 ((nI_leI (by omega) (by omega)).mp h)
        exact ⟨_, rfl, by rw [if_pos hv3], by rw [if_pos hv3]; exact hMc, FrM.rf⟩
  · intro i hi ih
    have at82 : ∀ ov c, (ov = nI 1 ∧ pov x i ∨ ov = nI 0 ∧ ¬ pov x i) → J G 82 [some (jR (6, 0, 0)), some (jL x), none, some (jI (nI (pcn x i))), some (jI (peb x (i + 1))), some (jI (nI i)), some (jI c), some (jI ov)] [] := by
      intro ov c ho
      rcases ho with ⟨rfl, ho⟩ | ⟨rfl, ho⟩
      · have e : pcn x (i + 1) = pcn x i + 0 := by rw [pcn, if_pos ho]; rfl
        rw [e] at ih
        refine hR.2 [8] 400 _ _ _ _ ?_
        conv => whnf
        refine br_f (by decide) ?_
        conv => whnf
        rw [nI_add, nI_add]
        exact je_loc hR (L' := [some _, some _, none, some _, some _, some _, none, none]) ⟨rfl, rfl, rfl, rfl, rfl, trivial⟩ ih
      · have e : pcn x (i + 1) = pcn x i + 1 := by rw [pcn, if_neg ho]
        rw [e] at ih
        refine hR.2 [8] 400 _ _ _ _ ?_
        conv => whnf
        refine br_t (by decide) ?_
        conv => whnf
        rw [nI_add, nI_add]
        exact je_loc hR (L' := [some _, some _, none, some _, some _, some _, none, none]) ⟨rfl, rfl, rfl, rfl, rfl, trivial⟩ ih
    have at53 : ∀ ov, (ov = nI 1 ∧ pov x i ∨ ov = nI 0 ∧ ¬ pov x i) → J G 53 [some (jR (6, 0, 0)), some (jL x), none, some (jI (nI (pcn x i))), some (jI (peb x i)), some (jI (nI i)), some (jI (pco x i)), some (jI ov)] [] := by
      intro ov ho
      have f82 := at82 ov (pco x i) ho
      by_cases hb : pbd x i
      · have e1 : peb x i = nI 1 := if_pos hb
        have e2 : peb x (i + 1) = nI 1 := if_pos (Or.inl hb)
        rw [e2] at f82
        rw [e1]
        refine hR.2 [82] 400 _ _ _ _ ?_
        conv => whnf
        refine And.intro (fun _ => ?_) (fun h => absurd h (by decide))
        conv => whnf
        exact f82
      · have e1 : peb x i = nI 0 := if_neg hb
        rw [e1]
        refine hR.2 [82] 400 _ _ _ _ ?_
        conv => whnf
        refine And.intro (fun h => absurd rfl h) (fun _ => ?_)
        conv => whnf
        rcases ho with ⟨rfl, ho⟩ | ⟨rfl, ho⟩
        · have e2 : peb x (i + 1) = nI 0 := if_neg (fun h => h.elim hb (fun h => h.1 ho))
          rw [e2] at f82
          refine And.intro (fun _ => ?_) (fun h => absurd h (by decide))
          conv => whnf
          exact f82
        · refine And.intro (fun h => absurd rfl h) (fun _ => ?_)
          conv => whnf
          refine je_s3i hR kX6_put_69 rfl (m_in l G (pco x i) (nI 33) (nI 126)) rfl ?_
          intro y G' hq
          obtain ⟨rfl, ⟨h1, h2, rfl⟩ | ⟨h1, rfl⟩⟩ := hq
          · have e2 : peb x (i + 1) = nI 0 := if_neg (fun h => h.elim hb (fun h => h.2.elim h1 h2))
            rw [e2] at f82
            refine hR.2 [82] 400 _ _ _ _ ?_
            conv => whnf
            refine And.intro (fun _ => ?_) (fun h => absurd h (by decide))
            conv => whnf
            exact f82
          · have e2 : peb x (i + 1) = nI 1 := if_pos (Or.inr ⟨ho, h1⟩)
            rw [e2] at f82
            refine hR.2 [82] 400 _ _ _ _ ?_
            conv => whnf
            refine And.intro (fun h => absurd rfl h) (fun _ => ?_)
            conv => whnf
            exact f82
    refine hR.2 [8, 53] 400 _ _ _ _ ?_
    conv => whnf
    refine br_f (fun h => absurd ((nI_leI (by omega) (by omega)).mp h) (by omega)) ?_
    conv => whnf
    rw [show ((x.toUInt64 >>> ((nI 8 * nI i).toInt64.toUInt64 &&& Int64.toUInt64 63)).toInt64 &&& Int64.ofNat 255).toInt32 = pco x i from land_l2i _]
    by_cases h0 : i = 0
    · refine br_t (by rw [h0]; decide) ?_
      conv => whnf
      exact at53 (nI 0) (Or.inr ⟨rfl, fun h => absurd h.1 (by omega)⟩)
    · refine br_f (fun h => absurd ((nI_leI (b := 0) (by omega) (by omega)).mp h) (by omega)) ?_
      conv => whnf
      by_cases hz : pch x i = 0
      · refine And.intro (fun h => absurd ((lg_cmp0 _ _).mpr hz) h) (fun _ => ?_)
        conv => whnf
        exact at53 (nI 1) (Or.inl ⟨rfl, by omega, hz⟩)
      · refine And.intro (fun _ => ?_) (fun h => absurd ((lg_cmp0 _ _).mp h) hz)
        conv => whnf
        exact at53 (nI 0) (Or.inr ⟨rfl, fun h => hz h.2⟩)
