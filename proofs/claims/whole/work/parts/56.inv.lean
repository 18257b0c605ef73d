/-! WHAT A MINUTE KEEPS -/
theorem lom_nI {σ : Sg} {d p ρ : Nat} (hp : σ (21 + dcell σ d) = nI p) (hr : σ (9 + d) = nI ρ) (hp2 : p < 1000) (hr2 : ρ < 1000) : lom σ d = nI (if σ (13 + d) = 0 then 0 else if p < ρ then p else ρ) := by
  unfold lom
  rw [hp, hr]
  by_cases h : σ (13 + d) = 0
  · rw [if_pos h, if_pos h]
  · rw [if_neg h, if_neg h]
    by_cases h2 : p < ρ
    · rw [if_pos h2, if_pos ((nI_ltI (by omega) (by omega)).mpr h2)]
    · rw [if_neg h2, if_neg (fun h => h2 ((nI_ltI (by omega) (by omega)).mp h))]
def InvU (rm t d : Nat) (σ : Sg) : Prop := ∃ p o : Nat → Nat, (∀ c, c < 35 → σ (21 + c) = nI (p c) ∧ p c ≤ rm) ∧ ∀ e, e < 4 → σ (17 + e) = nI (o e) ∧ o e ≤ 9 * t + (if e < d then 9 else 0)
theorem InvU_los {rm t d : Nat} {σ : Sg} (hrm : rm ≤ 20) (ht : t < 100000) (hd : d < 4) (hdc : dcell σ d < 35) (hr : ∃ ρ, σ (9 + d) = nI ρ ∧ 1 ≤ ρ ∧ ρ ≤ 9) (h : InvU rm t d σ) : InvU rm t (d + 1) (los σ d) := by
  obtain ⟨p, o, h1, h2⟩ := h
  obtain ⟨ρ, hρ, -, hρ9⟩ := hr
  obtain ⟨hp, hp2⟩ := h1 _ hdc
  have hl := lom_nI hp hρ (by omega) (by omega)
  unfold los
  by_cases h0 : σ (13 + d) = 0
  · rw [if_pos h0]
    refine ⟨p, o, h1, fun e he => ⟨(h2 e he).1, ?_⟩⟩
    have := (h2 e he).2
    by_cases h3 : e < d
    · rw [if_pos h3] at this; rw [if_pos (by omega)]; exact this
    · rw [if_neg h3] at this; omega
  · rw [if_neg h0]
    rw [if_neg h0] at hl
    have hk1 : (if p (dcell σ d) < ρ then p (dcell σ d) else ρ) ≤ p (dcell σ d) := by split <;> omega
    have hk2 : (if p (dcell σ d) < ρ then p (dcell σ d) else ρ) ≤ 9 := by split <;> omega
    generalize (if p (dcell σ d) < ρ then p (dcell σ d) else ρ) = k at hl hk1 hk2
    rw [hl, hp, pk_sub hk1]
    refine ⟨fun c => if c = dcell σ d then p (dcell σ d) - k else p c, fun e => if e = d then o d + k else o e, fun c hc => ?_, fun e he => ?_⟩
    · dsimp only
      rw [upd_ne (by omega)]
      by_cases e : c = dcell σ d
      · rw [if_pos e, e, upd_eq]
        exact ⟨rfl, by omega⟩
      · rw [if_neg e, upd_ne (by omega)]
        exact h1 c hc
    · have h3 := h2 e he
      dsimp only
      by_cases e1 : e = d
      · subst e1
        rw [upd_eq, h3.1, nI_add, if_pos rfl]
        rw [if_neg (by omega)] at h3
        exact ⟨rfl, by rw [if_pos (by omega)]; omega⟩
      · rw [upd_ne (by omega), upd_ne (by omega), if_neg e1]
        refine ⟨h3.1, ?_⟩
        by_cases h4 : e < d
        · rw [if_pos h4] at h3; rw [if_pos (by omega)]; exact h3.2
        · rw [if_neg h4] at h3; rw [if_neg (by omega)]; exact h3.2
theorem tick_ne {σ : Sg} {i : Nat} (h : i ≠ 1) : tick σ i = σ i := upd_ne h
theorem InvU_ds {rm t : Nat} {σ : Sg} (hrm : rm ≤ 20) (ht : t < 100000) (hs : ∀ d, d < 4 → dcell σ d < 35) (hr : ∀ d, d < 4 → ∃ ρ, σ (9 + d) = nI ρ ∧ 1 ≤ ρ ∧ ρ ≤ 9) (h : InvU rm t 0 σ) : ∀ d, d ≤ 4 → InvU rm t d (ds σ d).1
  | 0, _ => h
  | d + 1, hd => by
    have ih := InvU_ds hrm ht hs hr h d (by omega)
    have e1 := ds_at hs (i := 9 + d) (by omega) d (by omega)
    refine InvU_los hrm ht (by omega) ?_ ?_ ih
    · rw [e1.2 d (by omega)]; exact hs d (by omega)
    · rw [e1.1]; exact hr d (by omega)
/-- behind the doors and amid the turns: the arrived are among the people, who fit in -/
def InvF (rm : Nat) (q : Sg × Sg) : Prop := q.1 0 = nI rm ∧ ∃ p f : Nat → Nat, ∀ c, c < 35 → q.1 (21 + c) = nI (p c) ∧ p c ≤ rm ∧ q.2 c = nI (f c) ∧ f c ≤ p c
theorem go1_m {q : Sg × Sg} {rm c o : Nat} {p f : Nat → Nat} (hrm : rm ≤ 20) (h0 : q.1 0 = nI rm) (h : ∀ c, c < 35 → q.1 (21 + c) = nI (p c) ∧ p c ≤ rm ∧ q.2 c = nI (f c) ∧ f c ≤ p c) (hc : c < 35) (ho : o < 35) : q.1 (21 + c) - q.2 c = nI (p c - f c) ∧ (if q.1 0 - q.1 (21 + o) < q.1 (21 + c) - q.2 c then q.1 0 - q.1 (21 + o) else q.1 (21 + c) - q.2 c) = nI (if rm - p o < p c - f c then rm - p o else p c - f c) := by
  obtain ⟨a1, a2, a3, a4⟩ := h c hc
  obtain ⟨b1, b2, b3, b4⟩ := h o ho
  rw [a1, a3, h0, b1, pk_sub a4, pk_sub b2]
  refine ⟨rfl, ?_⟩
  by_cases h2 : rm - p o < p c - f c
  · rw [if_pos h2, if_pos ((nI_ltI (by omega) (by omega)).mpr h2)]
  · rw [if_neg h2, if_neg (fun h => h2 ((nI_ltI (by omega) (by omega)).mp h))]
theorem InvF_go1 {q : Sg × Sg} {rm c o : Nat} (hrm : rm ≤ 20) (hc : c < 35) (ho : o < 35) (hne : o ≠ c) (h : InvF rm q) : InvF rm (go1 q c o) := by
  refine ⟨by rw [go1_at hc ho (by omega)]; exact h.1, ?_⟩
  obtain ⟨h0, p, f, h1⟩ := h
  obtain ⟨e1, e2⟩ := go1_m hrm h0 h1 hc ho
  obtain ⟨a1, a2, a3, a4⟩ := h1 c hc
  obtain ⟨b1, b2, b3, b4⟩ := h1 o ho
  have hk1 : (if rm - p o < p c - f c then rm - p o else p c - f c) ≤ p c - f c := by split <;> omega
  have hk2 : (if rm - p o < p c - f c then rm - p o else p c - f c) ≤ rm - p o := by split <;> omega
  generalize (if rm - p o < p c - f c then rm - p o else p c - f c) = k at e2 hk1 hk2
  have key : ∀ (s : Sg) (x : Sg), (∀ c', c' < 35 → s (21 + c') = upd (upd q.1 (21 + c) (nI (p c - k))) (21 + o) (nI (p o + k)) (21 + c')) → x = upd q.2 o (nI (f o + k)) → ∃ p' f' : Nat → Nat, ∀ c', c' < 35 → (s, x).1 (21 + c') = nI (p' c') ∧ p' c' ≤ rm ∧ (s, x).2 c' = nI (f' c') ∧ f' c' ≤ p' c' := by
    intro s x hs hx
    subst hx
    refine ⟨fun c' => if c' = o then p o + k else if c' = c then p c - k else p c', fun c' => if c' = o then f o + k else f c', fun c' hc' => ?_⟩
    obtain ⟨d1, d2, d3, d4⟩ := h1 c' hc'
    show s (21 + c') = _ ∧ _ ∧ upd q.2 o (nI (f o + k)) c' = _ ∧ _
    rw [hs c' hc']
    dsimp only
    by_cases e3 : c' = o
    · subst e3
      rw [upd_eq, upd_eq, if_pos rfl, if_pos rfl]
      exact ⟨rfl, by omega, rfl, by omega⟩
    · rw [upd_ne (by omega), upd_ne e3, if_neg e3, if_neg e3]
      by_cases e4 : c' = c
      · subst e4
        rw [upd_eq, if_pos rfl]
        exact ⟨rfl, by omega, d3, by omega⟩
      · rw [upd_ne (by omega), if_neg e4]
        exact ⟨d1, d2, d3, d4⟩
  simp only [go1]
  rw [e2, a1, pk_sub (show k ≤ p c by omega), b3, nI_add, show upd q.1 (21 + c) (nI (p c - k)) (21 + o) = q.1 (21 + o) from upd_ne (by omega), b1, nI_add]
  split
  · exact key _ _ (fun _ _ => rfl) rfl
  · refine key _ _ (fun c' hc' => ?_) rfl
    rw [upd_ne (by omega), upd_ne (by omega)]
theorem go1_skip {q : Sg × Sg} {rm c o : Nat} (hrm : rm ≤ 20) (hc : c < 35) (ho : o < 35) (h : InvF rm q) (hz : q.1 (21 + c) ≤ 0) : go1 q c o = q := by
  obtain ⟨h0, p, f, h1⟩ := h
  obtain ⟨e1, e2⟩ := go1_m hrm h0 h1 hc ho
  obtain ⟨a1, a2, a3, a4⟩ := h1 c hc
  have hp : p c = 0 := by
    rw [a1] at hz
    have := (nI_leI (b := 0) (by omega) (by omega)).mp hz
    omega
  rw [show (if rm - p o < p c - f c then rm - p o else p c - f c) = 0 by rw [if_neg (by omega)]; omega] at e2
  simp only [go1]
  rw [e2, e1, show p c - f c = 0 by omega, if_pos (by decide)]
  have hz : ∀ x : Int32, x - nI 0 = x ∧ x + nI 0 = x := fun x => ⟨Int32.sub_zero x, Int32.add_zero x⟩
  rw [(hz _).1, (hz _).2, (hz _).2]
  have hu : ∀ (g : Sg) i, upd g i (g i) = g := fun g i => by
    funext j
    unfold upd
    split
    · rename_i h; rw [h]
    · rfl
  rw [hu q.1, hu, hu]
theorem InvF_trs {rm : Nat} {ν : Nat → Nat} (hrm : rm ≤ 20) : ∀ (L : List Nat) (q : Sg × Sg), (∀ c ∈ L, c < 35 ∧ ν c < 35 ∧ ν c ≠ c) → InvF rm q → InvF rm (L.foldl (fun q c => go1 q c (ν c)) q)
  | [], q, _, h => h
  | c :: L, q, hν, h => by
    rw [List.foldl_cons]
    obtain ⟨h1, h2, h3⟩ := hν c List.mem_cons_self
    exact InvF_trs hrm L _ (fun c hc => hν c (List.mem_cons_of_mem _ hc)) (InvF_go1 hrm h1 h2 h3 h)
theorem InvF_0 {rm t d : Nat} {s : Sg} (h0 : s 0 = nI rm) (h : InvU rm t d s) : InvF rm (s, fun _ => nI 0) := by
  obtain ⟨p, o, h1, h2⟩ := h
  exact ⟨h0, p, fun _ => 0, fun c hc => ⟨(h1 c hc).1, (h1 c hc).2, rfl, Nat.zero_le _⟩⟩
