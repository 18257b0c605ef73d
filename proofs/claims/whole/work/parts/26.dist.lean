/-! DISTANCES: the breadth-first search of the class and the relaxation of the reference both come to isD -/
def vis (f : Nat → Nat) : Nat → Bool := fun c => decide (f c < 100)
/-- the search: head h, m queued, ways below w of the head's cell done -/
def bfI (σ : Sg) (d h m w : Nat) (q f : Nat → Nat) : Prop :=
  (h ≤ m ∧ 1 ≤ m ∧ m ≤ 35) ∧ (∀ i, i < m → q i < 35 ∧ f (q i) ≤ i) ∧ (∀ c, c < 35 → f c ≤ 100 ∧ (f c < 100 → ∃ i, i < m ∧ q i = c)) ∧ fb_ct (vis f) 35 = m ∧ f (dcell σ d) = 0 ∧
  (∀ c, c < 35 → f c < 100 → c = dcell σ d ∨ ∃ w, w < 4 ∧ ∃ o, stp σ c w = some o ∧ f c = f o + 1) ∧ (∀ i j, i < j → j < m → f (q i) ≤ f (q j)) ∧ (h < m → ∀ j, j < m → f (q j) ≤ f (q h) + 1) ∧
  (∀ i, i < h → ∀ w, w < 4 → ∀ o, stp σ (q i) w = some o → f o ≤ f (q i) + 1) ∧ (h < m → ∀ v, v < w → ∀ o, stp σ (q h) v = some o → f o ≤ f (q h) + 1)
theorem ct_one {s : Nat} : ∀ n, fb_ct (fun c => decide (c = s)) n = if s < n then 1 else 0
  | 0 => rfl
  | n + 1 => by
    rw [fb_ct_succ, ct_one n]
    by_cases h : n = s
    · subst h; simp
    · have e : decide (n = s) = false := by simp [h]
      by_cases h2 : s < n
      · simp only [e, if_pos h2, if_pos (show s < n + 1 by omega)]; rfl
      · simp only [e, if_neg h2, if_neg (show ¬ s < n + 1 by omega)]; rfl
theorem bf_start {σ : Sg} {d : Nat} (hs : dcell σ d < 35) {q : Nat → Nat} (hq : q 0 = dcell σ d) : bfI σ d 0 1 0 q (fun c => if c = dcell σ d then 0 else 100) := by
  have hf : ∀ c, (if c = dcell σ d then 0 else 100) < 100 → c = dcell σ d := fun c h => by
    by_cases e : c = dcell σ d
    · exact e
    · rw [if_neg e] at h; omega
  refine ⟨⟨by omega, by omega, by omega⟩, fun i hi => ?_, fun c hc => ⟨?_, fun h => ⟨0, by omega, by rw [hq]; exact (hf c h).symm⟩⟩, ?_, if_pos rfl, fun c _ h => Or.inl (hf c h), fun i j h1 h2 => by omega, fun _ j hj => ?_, fun i hi => by omega, fun _ v hv => by omega⟩
  · have : i = 0 := by omega
    subst this
    rw [hq]
    exact ⟨hs, by show (if dcell σ d = dcell σ d then 0 else 100) ≤ 0; rw [if_pos rfl]; exact Nat.le_refl _⟩
  · show (if c = dcell σ d then 0 else 100) ≤ 100
    split <;> omega
  · have e : fb_ct (vis fun c => if c = dcell σ d then 0 else 100) 35 = fb_ct (fun c => decide (c = dcell σ d)) 35 := fb_ct_cong (fun k _ => by
      unfold vis
      by_cases e : k = dcell σ d <;> simp [e])
    rw [e, ct_one, if_pos hs]
  · have : j = 0 := by omega
    subst this
    omega
/-- a way that leads nowhere, or to a cell that was found before -/
theorem bf_skip {σ : Sg} {d h m w : Nat} {q f : Nat → Nat} (I : bfI σ d h m w q f) (hh : h < m) (hs : ∀ o, stp σ (q h) w = some o → f o < 100) (hw : w < 4) : bfI σ d h m (w + 1) q f := by
  obtain ⟨i1, i2, i3, i4, i5, i6, i7, i8, i9, i10⟩ := I
  refine ⟨i1, i2, i3, i4, i5, i6, i7, i8, i9, fun _ v hv o ho => ?_⟩
  by_cases e : v = w
  · subst e
    have ho35 := (stp_lt (i2 h hh).1 hw ho).1
    obtain ⟨j, hj, e⟩ := (i3 o ho35).2 (hs o ho)
    rw [← e]
    exact i8 hh j hj
  · exact i10 hh v (by omega) o ho
theorem bf_full {σ : Sg} {d h w : Nat} {q f : Nat → Nat} (I : bfI σ d h 35 w q f) : ∀ c, c < 35 → f c < 100 := by
  have := fb_ct_all.mp I.2.2.2.1
  intro c hc
  exact of_decide_eq_true (this c hc)
theorem bf_new {σ : Sg} {d h m w o : Nat} {q f : Nat → Nat} (I : bfI σ d h m w q f) (hh : h < m) (hw : w < 4) (hs : stp σ (q h) w = some o) (hf : ¬ f o < 100) : m < 35 ∧ bfI σ d h (m + 1) (w + 1) (fun i => if i = m then o else q i) (fun c => if c = o then f (q h) + 1 else f c) := by
  have I' := I
  obtain ⟨⟨a1, a2, a3⟩, i2, i3, i4, i5, i6, i7, i8, i9, i10⟩ := I
  obtain ⟨ho, hne⟩ := stp_lt (i2 h hh).1 hw hs
  have hm : m < 35 := by
    by_cases e : m = 35
    · subst e
      exact absurd (bf_full I' o ho) hf
    · omega
  have hq : ∀ i, i < m → q i ≠ o := fun i hi e => hf (by rw [← e]; have := (i2 i hi).2; omega)
  have hqv : ∀ i, i < m → (if q i = o then f (q h) + 1 else f (q i)) = f (q i) := fun i hi => if_neg (hq i hi)
  have hst : dcell σ d ≠ o := fun e => hf (by rw [← e, i5]; omega)
  have hfh := (i2 h hh).2
  refine ⟨hm, ⟨by omega, by omega, by omega⟩, fun i hi => ?_, fun c hc => ?_, ?_, ?_, fun c hc hc2 => ?_, fun i j hij hj => ?_, fun _ j hj => ?_, fun i hi v hv p hp => ?_, fun _ v hv p hp => ?_⟩
  · by_cases e : i = m
    · subst e
      simp only [if_pos]
      exact ⟨ho, by omega⟩
    · simp only [if_neg e]
      rw [hqv i (by omega)]
      exact i2 i (by omega)
  · by_cases e : c = o
    · subst e
      simp only [if_pos]
      exact ⟨by omega, fun _ => ⟨m, by omega, by rw [if_pos rfl]⟩⟩
    · simp only [if_neg e]
      refine ⟨(i3 c hc).1, fun h2 => ?_⟩
      obtain ⟨i, hi, e2⟩ := (i3 c hc).2 h2
      exact ⟨i, by omega, by rw [if_neg (by omega)]; exact e2⟩
  · have e : fb_ct (vis fun c => if c = o then f (q h) + 1 else f c) 35 = fb_ct (fun k => if k = o then true else vis f k) 35 := fb_ct_cong (fun k _ => by
      unfold vis
      by_cases e : k = o
      · simp only [if_pos e]; exact decide_eq_true (by omega)
      · simp only [if_neg e])
    have h2 := fb_ct_upd (vis f) true ho
    rw [e]
    have h3 : vis f o = false := by unfold vis; exact decide_eq_false hf
    rw [h3] at h2
    simp only [if_true, Bool.false_eq_true, if_false] at h2
    omega
  · simp only [if_neg hst]
    exact i5
  · by_cases e : c = o
    · subst e
      refine Or.inr ⟨3 - w, by omega, q h, stp_sym (i2 h hh).1 hw hs, ?_⟩
      simp only [if_pos, if_neg (hq h hh)]
    · simp only [if_neg e] at hc2 ⊢
      rcases i6 c hc hc2 with h1 | ⟨v, hv, p, hp, e2⟩
      · exact Or.inl h1
      · refine Or.inr ⟨v, hv, p, hp, ?_⟩
        rw [if_neg (fun e3 => by subst e3; omega)]
        exact e2
  · by_cases ej : j = m
    · subst ej
      simp only [if_pos, if_neg (show ¬ i = j by omega)]
      rw [hqv i (by omega)]
      exact i8 hh i (by omega)
    · simp only [if_neg ej, if_neg (show ¬ i = m by omega)]
      rw [hqv i (by omega), hqv j (by omega)]
      exact i7 i j hij (by omega)
  · simp only [if_neg (show ¬ h = m by omega)]
    rw [hqv h hh]
    by_cases ej : j = m
    · subst ej
      simp only [if_pos]
      exact Nat.le_refl _
    · simp only [if_neg ej]
      rw [hqv j (by omega)]
      exact i8 hh j (by omega)
  · simp only [if_neg (show ¬ i = m by omega)] at hp ⊢
    rw [hqv i (by omega)]
    have h1 := i9 i hi v hv p hp
    have h2 := (i2 i (by omega)).2
    rw [if_neg (fun e3 => by subst e3; omega)]
    exact h1
  · simp only [if_neg (show ¬ h = m by omega)] at hp ⊢
    rw [hqv h hh]
    by_cases e : v = w
    · subst e
      rw [hs] at hp
      cases hp
      rw [if_pos rfl]
      exact Nat.le_refl _
    · have h1 := i10 hh v (by omega) p hp
      rw [if_neg (fun e3 => by subst e3; omega)]
      exact h1
theorem bf_next {σ : Sg} {d h m : Nat} {q f : Nat → Nat} (I : bfI σ d h m 4 q f) (hh : h < m) : bfI σ d (h + 1) m 0 q f := by
  obtain ⟨⟨a1, a2, a3⟩, i2, i3, i4, i5, i6, i7, i8, i9, i10⟩ := I
  refine ⟨⟨by omega, a2, a3⟩, i2, i3, i4, i5, i6, i7, fun h1 j hj => ?_, fun i hi v hv o ho => ?_, fun _ v hv => by omega⟩
  · have h2 := i8 hh j hj
    have h3 := i7 h (h + 1) (by omega) h1
    omega
  · by_cases e : i = h
    · subst e
      exact i10 hh v hv o ho
    · exact i9 i (by omega) v hv o ho
theorem bf_end {σ : Sg} {d m w : Nat} {q f : Nat → Nat} (I : bfI σ d m m w q f) : isD σ d f := by
  obtain ⟨⟨a1, a2, a3⟩, i2, i3, i4, i5, i6, i7, i8, i9, i10⟩ := I
  refine ⟨i5, fun c hc => (i3 c hc).1, fun c hc v hv o ho hfo => ?_, i6⟩
  obtain ⟨i, hi, e⟩ := (i3 o (stp_lt hc hv ho).1).2 hfo
  subst e
  exact i9 i hi (3 - v) (by omega) c (stp_sym hc hv ho)
-- ===== relaxation =====
def rxI (σ : Sg) (d : Nat) (f : Nat → Nat) : Prop := f (dcell σ d) = 0 ∧ (∀ c, c < 35 → f c ≤ 100) ∧ ∀ c, c < 35 → f c < 100 → c = dcell σ d ∨ ∃ w, w < 4 ∧ ∃ o, stp σ c w = some o ∧ f o + 1 ≤ f c
theorem rx_start {σ : Sg} {d : Nat} : rxI σ d (fun c => if c = dcell σ d then 0 else 100) := by
  refine ⟨if_pos rfl, fun c _ => ?_, fun c _ h => Or.inl ?_⟩
  · show (if c = dcell σ d then 0 else 100) ≤ 100
    split <;> omega
  · by_cases e : c = dcell σ d
    · exact e
    · dsimp only at h; rw [if_neg e] at h; omega
theorem rx_step {σ : Sg} {d c w o : Nat} {f : Nat → Nat} (I : rxI σ d f) (hc : c < 35) (hw : w < 4) (hs : stp σ c w = some o) (hlt : f o + 1 < f c) : rxI σ d (fun k => if k = c then f o + 1 else f k) ∧ fb_sm (fun k => if k = c then f o + 1 else f k) 35 < fb_sm f 35 := by
  obtain ⟨i1, i2, i3⟩ := I
  have hne := (stp_lt hc hw hs).2
  have hcs : dcell σ d ≠ c := fun e => by rw [← e, i1] at hlt; omega
  refine ⟨⟨?_, fun k hk => ?_, fun k hk h => ?_⟩, ?_⟩
  · simp only [if_neg hcs]; exact i1
  · by_cases e : k = c
    · subst e; simp only [if_pos]; have := i2 k hc; omega
    · simp only [if_neg e]; exact i2 k hk
  · by_cases e : k = c
    · subst e
      refine Or.inr ⟨w, hw, o, hs, ?_⟩
      simp only [if_pos, if_neg hne]
      exact Nat.le_refl _
    · simp only [if_neg e] at h ⊢
      rcases i3 k hk h with h1 | ⟨v, hv, p, hp, e2⟩
      · exact Or.inl h1
      · refine Or.inr ⟨v, hv, p, hp, ?_⟩
        by_cases e3 : p = c
        · subst e3; simp only [if_pos]; omega
        · simp only [if_neg e3]; exact e2
  · have := fb_sm_upd f (f o + 1) hc
    omega
theorem rx_end {σ : Sg} {d : Nat} {f : Nat → Nat} (I : rxI σ d f) (h : ∀ c, c < 35 → ∀ w, w < 4 → ∀ o, stp σ c w = some o → f c ≤ f o + 1) : isD σ d f := by
  obtain ⟨i1, i2, i3⟩ := I
  refine ⟨i1, i2, fun c hc w hw o ho _ => h c hc w hw o ho, fun c hc hf => ?_⟩
  rcases i3 c hc hf with h1 | ⟨w, hw, o, ho, e⟩
  · exact Or.inl h1
  · have := h c hc w hw o ho
    exact Or.inr ⟨w, hw, o, ho, by omega⟩
