/-! RopedHalls$Minute: a minute -/
theorem je_eqvS {c r N : Nat} (hA : ∀ j : Fin 16, (je_Ar c j.val).all (fun x => decide (x.2.2.1 = r → x.2.1 + x.2.2.2 ≤ N)) = true) (hF : ∀ j : Fin 16, (je_nth (je_pF c) j.val).all (fun x => x.all fun x => decide (x.1 = r → x.2 < N)) = true) {G : je_G} {n : Nat} {f g : Nat → Int32} (h : ∀ i, i < N → f i = g i) : je_eqv (je_set G c n r f) (je_set G c n r g) := by
  refine ⟨fun c' n' j q _ hq => ?_, fun c' n' j r' i _ hi => ?_⟩
  · rw [je_rd, je_rd]
    by_cases hc : (q.1 = r ∧ c' = c) ∧ n' = n
    · rw [if_pos hc, if_pos hc]
      obtain ⟨⟨h1, h2⟩, h3⟩ := hc
      subst h2
      obtain ⟨-, hj, e⟩ := je_pF_of hq
      have := hF ⟨j, hj⟩
      simp only [e, Option.all_some, decide_eq_true_eq] at this
      exact h _ (this h1)
    · rw [if_neg hc, if_neg hc]
  · rw [je_rd, je_rd]
    by_cases hc : (r' = r ∧ c' = c) ∧ n' = n
    · rw [if_pos hc, if_pos hc]
      obtain ⟨⟨h1, h2⟩, h3⟩ := hc
      subst h2
      obtain ⟨t, len, b, e, e1, e2⟩ := hi
      have := hA ⟨j, (je_Ar_lt e).2⟩
      simp only [e, Option.all_some, decide_eq_true_eq] at this
      exact h _ (by have := this h1; omega)
    · rw [if_neg hc, if_neg hc]
theorem je_eqv2 {G : je_G} {n : Nat} {f g : Nat → Int32} (h : ∀ i, i < 35 → f i = g i) : je_eqv (je_set G 2 n 0 f) (je_set G 2 n 0 g) := je_eqvS (by decide +kernel) (by decide +kernel) h
/-- how many a door lets out, and the hall behind it -/
def lom (σ : Sg) (d : Nat) : Int32 := if σ (13 + d) = 0 then nI 0 else if σ (21 + dcell σ d) < σ (9 + d) then σ (21 + dcell σ d) else σ (9 + d)
def los (σ : Sg) (d : Nat) : Sg := if σ (13 + d) = 0 then σ else upd (upd σ (21 + dcell σ d) (σ (21 + dcell σ d) - lom σ d)) (17 + d) (σ (17 + d) + lom σ d)
set_option maxHeartbeats 4000000 in
set_option maxRecDepth 100000 in
theorem c_letOut (l : Launch) (G : je_G) (n d : Nat) (hd : d < 4) (hs : vp_in (G 1 n 0 (5 + d)) 35) : je_Ci l yX2_letOut wsX2_letOut rmX2_letOut [jR (1, n, 0), jI (nI d)] G (fun x G' => G' = je_set G 1 n 0 (los (G 1 n 0) d) ∧ x = lom (G 1 n 0) d) := by
  refine je_met1 tbX2_letOut 1 okX2_letOut rfl (by decide +kernel) rfl (by unfold je_ret; simp) (by decide) (Nat.le_of_ble_eq_true rfl) ?_
  intro J hoks hR
  show J G 0 [some (jR (1, n, 0)), some (jI (nI d)), none, none] []
  obtain ⟨hst, hse⟩ := dcell_nI hs
  refine hR.2 [] 400 _ _ _ _ ?_
  conv => whnf
  refine ⟨vp_in_nI (by omega) (by omega), ?_⟩
  conv => whnf
  rw [nI_clamp (by omega), hse]
  refine And.intro (vp_in_nI (by omega) (by omega)) ?_
  conv => whnf
  rw [nI_clamp (by omega)]
  refine ⟨fun h1 => ?_, fun h1 => ?_⟩
  · conv => whnf
    exact ⟨_, rfl, by unfold los; rw [if_pos h1, je_set_id], by unfold lom; rw [if_pos h1]⟩
  · conv => whnf
    refine je_s1i hR kX2_letOut_17 rfl (c_isCell l G (nI (dcell (G 1 n 0) d))) rfl ?_
    intro y G' hq
    obtain ⟨rfl, ⟨h2, rfl⟩ | ⟨h2, rfl⟩⟩ := hq
    · skip
      refine hR.2 [] 400 _ _ _ _ ?_
      conv => whnf
      refine And.intro (fun _ => ?_) (fun h => absurd h (by decide))
      conv => whnf
      refine And.intro (vp_in_nI (by omega) (by omega)) ?_
      conv => whnf
      refine And.intro (vp_in_nI (by omega) (by omega)) ?_
      conv => whnf
      refine And.intro (vp_in_nI (by omega) (by omega)) ?_
      conv => whnf
      refine And.intro (vp_in_nI (by omega) (by omega)) ?_
      conv => whnf
      refine And.intro (vp_in_nI (by omega) (by omega)) ?_
      conv => whnf
      refine And.intro (vp_in_nI (by omega) (by omega)) ?_
      conv => whnf
      refine ⟨_, rfl, ?_, ?_⟩
      · simp only [je_set_set, je_set_eq]
        simp (disch := omega) only [nI_clamp]
        unfold los lom
        rw [if_neg h1, if_neg h1]
        congr 2
        rw [show ∀ (f : Sg) a v, upd f a v (17 + d) = if 17 + d = a then v else f (17 + d) from fun _ _ _ => rfl, if_neg (by omega)]
      · simp (disch := omega) only [nI_clamp]
        unfold lom
        rw [if_neg h1]
    · exact absurd (vp_in_nI hst (by omega)) h2
/-- a cell's turn: the hall and the fresh ones -/
def go1 (q : Sg × Sg) (c o : Nat) : Sg × Sg :=
  let rd := q.1 (21 + c) - q.2 c
  let rm := q.1 0 - q.1 (21 + o)
  let m := if rm < rd then rm else rd
  let s1 := upd q.1 (21 + c) (q.1 (21 + c) - m)
  let s2 := upd s1 (21 + o) (s1 (21 + o) + m)
  let f1 := upd q.2 o (q.2 o + m)
  if rd ≤ m then (s2, f1) else
    let s3 := upd s2 4 (s2 4 + nI 1)
    (upd s3 3 (s3 3 + (rd - m)), f1)
theorem je_sw21 {G : je_G} {n k : Nat} {a b : Sg} : je_set (je_set G 2 k 0 b) 1 n 0 a = je_set (je_set G 1 n 0 a) 2 k 0 b := by
  funext c' n' r'
  simp only [je_rd]
  by_cases h0 : (r' = 0 ∧ c' = 1) ∧ n' = n
  · rw [if_pos h0, if_neg (by omega), if_pos h0]
  · rw [if_neg h0, if_neg h0]
theorem je_r12 {G : je_G} {n k : Nat} {a : Sg} : je_set G 1 n 0 a 2 k 0 = G 2 k 0 := je_set_ne (by omega)
theorem je_r21 {G : je_G} {n k : Nat} {a : Sg} : je_set G 2 k 0 a 1 n 0 = G 1 n 0 := je_set_ne (by omega)
set_option maxHeartbeats 4000000 in
set_option maxRecDepth 100000 in
theorem c_move (l : Launch) (G : je_G) (k n c o : Nat) (hc : c < 35) (ho : o < 35) : je_Cv l yX2_move wsX2_move rmX2_move [jR (2, k, 0), jR (1, n, 0), jI (nI c), jI (nI o)] G (fun G' => G' = je_set (je_set G 1 n 0 (go1 (G 1 n 0, G 2 k 0) c o).1) 2 k 0 (go1 (G 1 n 0, G 2 k 0) c o).2) := by
  refine je_met1 tbX2_move 0 okX2_move rfl (by decide +kernel) rfl (by unfold je_ret; simp) (by decide) (Nat.le_of_ble_eq_true rfl) ?_
  intro J hoks hR
  show J G 0 [some (jR (2, k, 0)), some (jR (1, n, 0)), some (jI (nI c)), some (jI (nI o)), none, none] []
  refine hR.2 [] 400 _ _ _ _ ?_
  conv => whnf
  refine je_s1i hR kX2_move_1 rfl (c_isCell l G (nI c)) rfl ?_
  intro y G' hq
  obtain ⟨rfl, ⟨h1, rfl⟩ | ⟨h1, rfl⟩⟩ := hq
  · skip
    refine hR.2 [] 400 _ _ _ _ ?_
    conv => whnf
    refine br_f (by decide) ?_
    conv => whnf
    refine je_s1i hR kX2_move_8 rfl (c_isCell l G' (nI o)) rfl ?_
    intro y G hq
    obtain ⟨rfl, ⟨h2, rfl⟩ | ⟨h2, rfl⟩⟩ := hq
    · skip
      refine hR.2 [] 400 _ _ _ _ ?_
      conv => whnf
      refine And.intro (fun _ => ?_) (fun h => absurd h (by decide))
      conv => whnf
      refine ⟨vp_in_nI (by omega) (by omega), ?_⟩
      conv => whnf
      refine ⟨vp_in_nI (by omega) (by omega), ?_⟩
      conv => whnf
      refine je_v1i hR kX2_move_34 rfl (c_roomIn l G n o ho) rfl ?_
      intro y G' hq
      obtain ⟨rfl, rfl⟩ := hq
      simp (disch := omega) only [nI_clamp, Nat.zero_add]
      generalize hrd : G' 1 n 0 (21 + c) - G' 2 k 0 c = rd
      generalize hrm : G' 1 n 0 0 - G' 1 n 0 (21 + o) = rm
      refine hR.2 [] 400 _ _ _ _ ?_
      conv => whnf
      generalize hm : (if rm < rd then rm else rd) = m
      refine ⟨vp_in_nI (by omega) (by omega), ?_⟩
      conv => whnf
      refine ⟨vp_in_nI (by omega) (by omega), ?_⟩
      conv => whnf
      refine ⟨vp_in_nI (by omega) (by omega), ?_⟩
      conv => whnf
      refine ⟨vp_in_nI (by omega) (by omega), ?_⟩
      conv => whnf
      refine ⟨vp_in_nI (by omega) (by omega), ?_⟩
      conv => whnf
      refine ⟨vp_in_nI (by omega) (by omega), ?_⟩
      conv => whnf
      refine ⟨fun h3 => ?_, fun h3 => ?_⟩
      · conv => whnf
        refine ⟨rfl, ?_⟩
        simp only [je_set_set, je_set_eq, je_sw21, je_r12, je_r21]
        simp (disch := omega) only [nI_clamp, Nat.zero_add]
        simp only [go1, hrd, hrm, hm, if_pos h3]
      · conv => whnf
        refine ⟨rfl, ?_⟩
        simp only [je_set_set, je_set_eq, je_sw21, je_r12, je_r21]
        simp (disch := omega) only [nI_clamp, Nat.zero_add]
        simp only [go1, hrd, hrm, hm, if_neg h3]
    · exact absurd (vp_in_nI ho (by omega)) h2
  · exact absurd (vp_in_nI hc (by omega)) h1
/-- the doors of a minute, one after the other -/
def ds (σ : Sg) : Nat → Sg × Int32
  | 0 => (σ, nI 0)
  | d + 1 => (los (ds σ d).1 d, (ds σ d).2 + lom (ds σ d).1 d)
theorem los_at {σ : Sg} {d i : Nat} (hs : dcell σ d < 35) (h : (i < 21 ∨ 56 ≤ i) ∧ i ≠ 17 + d) : los σ d i = σ i := by
  unfold los
  split
  · rfl
  · unfold upd
    rw [if_neg h.2, if_neg (by omega)]
theorem ds_at {σ : Sg} (hs : ∀ d, d < 4 → dcell σ d < 35) {i : Nat} (hi : (i < 17 ∨ 56 ≤ i)) : ∀ d, d ≤ 4 → (ds σ d).1 i = σ i ∧ ∀ e, e < 4 → dcell (ds σ d).1 e = dcell σ e
  | 0, _ => ⟨rfl, fun _ _ => rfl⟩
  | d + 1, h => by
    obtain ⟨h1, h2⟩ := ds_at hs hi d (by omega)
    have h3 : dcell (ds σ d).1 d < 35 := by rw [h2 d (by omega)]; exact hs d (by omega)
    refine ⟨?_, fun e he => ?_⟩
    · show los (ds σ d).1 d i = _
      rw [los_at h3 (by omega), h1]
    · rw [← h2 e he]
      show (los (ds σ d).1 d (5 + e)).toNatClampNeg = _
      rw [los_at h3 (by omega)]
      rfl
def tick (σ : Sg) : Sg := upd σ 1 (σ 1 + nI 1)
/-- the turns of a minute -/
def trs (ν : Nat → Nat) (L : List Nat) (σ : Sg) : Sg × Sg := L.foldl (fun q c => go1 q c (ν c)) (σ, fun _ => nI 0)
/-- a minute: the hall behind it; how many went out -/
def mnt (ν : Nat → Nat) (L : List Nat) (σ : Sg) : Sg := (trs ν L (ds (tick σ) 4).1).1
def outs (σ : Sg) : Int32 := (ds (tick σ) 4).2
theorem trs_s {ν : Nat → Nat} {L : List Nat} {σ : Sg} {t : Nat} (h : t < L.length) : trs ν (L.take (t + 1)) σ = go1 (trs ν (L.take t) σ) L[t] (ν L[t]) := by
  unfold trs
  rw [List.take_add_one, List.getElem?_eq_getElem h, Option.toList_some, List.foldl_append]
  rfl
set_option maxHeartbeats 4000000 in
set_option maxRecDepth 100000 in
theorem c_run (l : Launch) (G : je_G) (k n r : Nat) (L : List Nat) (ν : Nat → Nat) (hs : ∀ d, d < 4 → vp_in (G 1 n 0 (5 + d)) 35) (hL : okT L (G 4 r 4) (G 4 r 5)) (hlen : L.length ≤ 35) (hν : ∀ c ∈ L, c < 35 ∧ ν c < 35 ∧ G 4 r 3 c = nI (ν c)) : je_Ci l yX2_run wsX2_run rmX2_run [jR (2, k, 0), jR (1, n, 0), jR (4, r, 0)] G (fun x G' => (∃ φ, G' = je_set (je_set G 1 n 0 (mnt ν L (G 1 n 0))) 2 k 0 φ) ∧ x = outs (G 1 n 0)) := by
  refine je_met1 tbX2_run 1 okX2_run rfl (by decide +kernel) rfl (by unfold je_ret; simp) (by decide) (Nat.le_of_ble_eq_true rfl) ?_
  intro J hoks hR
  show J G 0 [some (jR (2, k, 0)), some (jR (1, n, 0)), some (jR (4, r, 0)), none, none, none] []
  have hst : ∀ d, d < 4 → dcell (G 1 n 0) d < 35 := fun d hd => (dcell_nI (hs d hd)).1
  have hst2 : ∀ d, d < 4 → dcell (tick (G 1 n 0)) d < 35 := fun d hd => by
    have e : dcell (tick (G 1 n 0)) d = dcell (G 1 n 0) d := by
      unfold dcell tick upd
      rw [if_neg (by omega)]
    rw [e]
    exact hst d hd
  have h4 : ∀ a b x, je_set (je_set G 1 n 0 a) 2 k 0 b 4 r x = G 4 r x := fun a b x => by rw [je_set_ne (by omega), je_set_ne (by omega)]
  refine hR.2 [15] 400 _ _ _ _ ?_
  conv => whnf
  refine (show J (je_set G 1 n 0 (ds (tick (G 1 n 0)) 0).1) 15 [some (jR (2, k, 0)), some (jR (1, n, 0)), some (jR (4, r, 0)), some (jI (ds (tick (G 1 n 0)) 0).2), some (jI (nI 0)), none] [] → _ from id) ?_
  refine je_for (P := fun d => J (je_set G 1 n 0 (ds (tick (G 1 n 0)) d).1) 15 [some (jR (2, k, 0)), some (jR (1, n, 0)), some (jR (4, r, 0)), some (jI (ds (tick (G 1 n 0)) d).2), some (jI (nI d)), none] []) 4 ?_ ?_ 0 (Nat.zero_le _)
  · generalize hs4 : (ds (tick (G 1 n 0)) 4).1 = s4
    refine hR.2 [15, 39] 400 _ _ _ _ ?_
    conv => whnf
    refine br_t ((nI_leI (by omega) (by omega)).mpr (by omega)) ?_
    conv => whnf
    refine (show J (je_set (je_set G 1 n 0 s4) 2 k 0 (G 2 k 0)) 39 _ [] → _ from fun h => by rw [show je_set (je_set G 1 n 0 s4) 2 k 0 (G 2 k 0) = je_set G 1 n 0 s4 from by rw [← je_r12 (G := G) (n := n) (a := s4), je_set_id]] at h; exact h) ?_
    refine je_for (P := fun i => ∀ φ : Sg, (∀ j, j < i → φ j = nI 0) → J (je_set (je_set G 1 n 0 s4) 2 k 0 φ) 39 [some (jR (2, k, 0)), some (jR (1, n, 0)), some (jR (4, r, 0)), some (jI (ds (tick (G 1 n 0)) 4).2), some (jI (nI i)), none] []) 35 ?_ ?_ 0 (Nat.zero_le _) _ (fun j hj => absurd hj (Nat.not_lt_zero j))
    · intro φ hφ
      refine je_ext hR (je_eqv2 (g := fun _ => nI 0) hφ) ?_
      refine hR.2 [39, 63] 400 _ _ _ _ ?_
      conv => whnf
      refine br_t ((nI_leI (by omega) (by omega)).mpr (by omega)) ?_
      conv => whnf
      refine (show J (je_set (je_set G 1 n 0 (trs ν (L.take 0) s4).1) 2 k 0 (trs ν (L.take 0) s4).2) 63 [some (jR (2, k, 0)), some (jR (1, n, 0)), some (jR (4, r, 0)), some (jI (ds (tick (G 1 n 0)) 4).2), some (jI (nI 0)), none] [] → _ from id) ?_
      refine je_for (P := fun t => J (je_set (je_set G 1 n 0 (trs ν (L.take t) s4).1) 2 k 0 (trs ν (L.take t) s4).2) 63 [some (jR (2, k, 0)), some (jR (1, n, 0)), some (jR (4, r, 0)), some (jI (ds (tick (G 1 n 0)) 4).2), some (jI (nI t)), none] []) L.length ?_ ?_ 0 (Nat.zero_le _)
      · skip
        refine hR.2 [63] 400 _ _ _ _ ?_
        conv => whnf
        refine je_v0i hR kX2_run_66 rfl (c_turnsAMinute l _ r) rfl ?_
        intro y G' hq
        obtain ⟨rfl, rfl⟩ := hq
        rw [h4, hL.1]
        refine hR.2 [63] 400 _ _ _ _ ?_
        conv => whnf
        refine br_t ((nI_leI (by omega) (by omega)).mpr (by omega)) ?_
        conv => whnf
        refine ⟨_, rfl, ⟨(trs ν (L.take L.length) s4).2, ?_⟩, rfl⟩
        rw [List.take_length]
        unfold mnt
        rw [hs4]
      · intro t ht ih
        refine hR.2 [63] 400 _ _ _ _ ?_
        conv => whnf
        refine je_v0i hR kX2_run_66 rfl (c_turnsAMinute l _ r) rfl ?_
        intro y G' hq
        obtain ⟨rfl, rfl⟩ := hq
        rw [h4, hL.1]
        refine hR.2 [63] 400 _ _ _ _ ?_
        conv => whnf
        refine br_f (fun h => absurd ((nI_leI (by omega) (by omega)).mp h) (by omega)) ?_
        conv => whnf
        refine je_v1i hR kX2_run_75 rfl (c_cellAtTurn l _ r t (by omega)) rfl ?_
        intro y G' hq
        obtain ⟨rfl, rfl⟩ := hq
        rw [h4, hL.2 t ht]
        obtain ⟨hc, ho, hn⟩ := hν L[t] (List.getElem_mem ht)
        refine hR.2 [63] 400 _ _ _ _ ?_
        conv => whnf
        refine je_v1i hR kX2_run_87 rfl (c_nextOf l _ r L[t] hc) rfl ?_
        intro y G' hq
        obtain ⟨rfl, rfl⟩ := hq
        rw [h4, hn]
        refine hR.2 [63] 400 _ _ _ _ ?_
        conv => whnf
        refine je_v3v hR kX2_run_90 rfl (c_move l _ k n L[t] (ν L[t]) hc ho) rfl ?_
        intro G' hq
        subst hq
        refine hR.2 [63] 400 _ _ _ _ ?_
        conv => whnf
        simp only [je_set_set, je_set_eq, je_sw21, je_r12, je_r21, nI_add]
        rw [trs_s ht] at ih
        exact je_loc hR (L' := [some _, some _, some _, some _, some _, none]) ⟨rfl, rfl, rfl, rfl, rfl, trivial⟩ ih
    · intro i hi ih φ hφ
      refine hR.2 [39] 400 _ _ _ _ ?_
      conv => whnf
      refine br_f (fun h => absurd ((nI_leI (by omega) (by omega)).mp h) (by omega)) ?_
      conv => whnf
      refine ⟨vp_in_nI (by omega) (by omega), ?_⟩
      conv => whnf
      simp only [je_set_set, je_set_eq, nI_add]
      rw [nI_clamp (by omega), Nat.zero_add]
      refine ih _ (fun j hj => ?_)
      unfold upd
      split
      · rfl
      · exact hφ j (by omega)
  · intro d hd ih
    obtain ⟨e1, e2⟩ := ds_at hst2 (i := 5 + d) (by omega) d (by omega)
    refine hR.2 [15] 400 _ _ _ _ ?_
    conv => whnf
    refine br_f (fun h => absurd ((nI_leI (by omega) (by omega)).mp h) (by omega)) ?_
    conv => whnf
    refine je_s2i hR kX2_run_25 rfl (c_letOut l _ n d hd (by rw [je_set_eq, e1]; unfold tick upd; rw [if_neg (by omega)]; exact hs d hd)) rfl ?_
    intro y G' hq
    obtain ⟨rfl, rfl⟩ := hq
    refine hR.2 [15] 400 _ _ _ _ ?_
    conv => whnf
    simp only [je_set_set, je_set_eq, nI_add]
    exact ih
