/-! THE HALL AS NUMBERS: what both sides compute. A hall is a row of 161 numbers: 0 room, 1 minutes, 2 came, 3 waited, 4 jams, 5.. doors, 9.. rates, 13.. open, 17.. out, 21.. people, 56.. guards, 91.. ropes -/
abbrev Sg : Type := Nat → Int32
def oI (o : Option Nat) : Int32 := match o with
  | some n => nI n
  | none => -6
def bs (c w : Nat) : Option Nat := match w with
  | 0 => if 7 ≤ c then some (c - 7) else none
  | 1 => if 0 < c % 7 then some (c - 1) else none
  | 2 => if c % 7 < 6 then some (c + 1) else none
  | _ => if c < 28 then some (c + 7) else none
def eg (c w : Nat) : Nat := match w with
  | 0 => 2 * (c - 7) + 1
  | 1 => 2 * (c - 1)
  | 2 => 2 * c
  | _ => 2 * c + 1
theorem bs_lt : ∀ c, c < 35 → ∀ w, w < 4 → ∀ o, bs c w = some o → o < 35 ∧ o ≠ c ∧ eg c w < 70 := by
  intro c hc w hw o h
  rcases (show w = 0 ∨ w = 1 ∨ w = 2 ∨ w = 3 by omega) with rfl | rfl | rfl | rfl <;> simp only [bs] at h <;> split at h <;> cases h <;> simp only [eg] <;> omega
theorem bs_sym_all : ∀ c : Fin 35, ∀ w : Fin 4, (bs c.val w.val).all (fun o => decide (bs o (3 - w.val) = some c.val ∧ eg o (3 - w.val) = eg c.val w.val)) = true := by decide +kernel
theorem bs_sym : ∀ c, c < 35 → ∀ w, w < 4 → ∀ o, bs c w = some o → bs o (3 - w) = some c ∧ eg o (3 - w) = eg c w := by
  intro c hc w hw o h
  have := bs_sym_all ⟨c, hc⟩ ⟨w, hw⟩
  dsimp only at this
  rw [h] at this
  exact of_decide_eq_true this
/-- the step from a cell, one way, if no rope hangs there -/
def stp (σ : Sg) (c w : Nat) : Option Nat := match bs c w with
  | some o => if σ (91 + eg c w) = 0 then some o else none
  | none => none
theorem stp_bs {σ : Sg} {c w o : Nat} (h : stp σ c w = some o) : bs c w = some o ∧ σ (91 + eg c w) = 0 := by
  unfold stp at h
  cases hb : bs c w with
  | none => rw [hb] at h; cases h
  | some p =>
    rw [hb] at h
    dsimp only at h
    split at h
    · rename_i h0
      cases h
      exact ⟨rfl, h0⟩
    · cases h
theorem stp_lt {σ : Sg} {c w o : Nat} (hc : c < 35) (hw : w < 4) (h : stp σ c w = some o) : o < 35 ∧ o ≠ c := by
  have := bs_lt c hc w hw o (stp_bs h).1
  exact ⟨this.1, this.2.1⟩
theorem stp_sym {σ : Sg} {c w o : Nat} (hc : c < 35) (hw : w < 4) (h : stp σ c w = some o) : stp σ o (3 - w) = some c := by
  obtain ⟨h1, h2⟩ := stp_bs h
  obtain ⟨h3, h4⟩ := bs_sym c hc w hw o h1
  unfold stp
  rw [h3]
  dsimp only
  rw [h4, if_pos h2]
def dcell (σ : Sg) (d : Nat) : Nat := (σ (5 + d)).toNatClampNeg
/-- f is the distance from the door d; 100: none -/
def isD (σ : Sg) (d : Nat) (f : Nat → Nat) : Prop := f (dcell σ d) = 0 ∧ (∀ c, c < 35 → f c ≤ 100) ∧ (∀ c, c < 35 → ∀ w, w < 4 → ∀ o, stp σ c w = some o → f o < 100 → f c ≤ f o + 1) ∧ ∀ c, c < 35 → f c < 100 → c = dcell σ d ∨ ∃ w, w < 4 ∧ ∃ o, stp σ c w = some o ∧ f c = f o + 1
theorem isD_le {σ : Sg} {d : Nat} {f g : Nat → Nat} (hf : isD σ d f) (hg : isD σ d g) : ∀ n, n < 100 → ∀ c, c < 35 → g c = n → f c ≤ n := by
  intro n
  induction n with
  | zero =>
    intro _ c hc e
    rcases hg.2.2.2 c hc (by omega) with h | ⟨w, hw, o, ho, e2⟩
    · subst h; rw [hf.1]; exact Nat.le_refl _
    · omega
  | succ n ih =>
    intro hn c hc e
    rcases hg.2.2.2 c hc (by omega) with h | ⟨w, hw, o, ho, e2⟩
    · subst h; rw [hf.1]; exact Nat.zero_le _
    · have h1 := ih (by omega) o (stp_lt hc hw ho).1 (by omega)
      have h2 := hf.2.2.1 c hc w hw o ho (by omega)
      omega
theorem isD_eq {σ : Sg} {d : Nat} {f g : Nat → Nat} (hf : isD σ d f) (hg : isD σ d g) : ∀ c, c < 35 → f c = g c := by
  intro c hc
  have a1 := hf.2.1 c hc
  have a2 := hg.2.1 c hc
  by_cases h1 : g c < 100
  · have e1 := isD_le hf hg (g c) h1 c hc rfl
    have e2 := isD_le hg hf (f c) (by omega) c hc rfl
    omega
  · by_cases h2 : f c < 100
    · have e2 := isD_le hg hf (f c) h2 c hc rfl
      omega
    · omega
noncomputable def dst (σ : Sg) (d : Nat) : Nat → Nat := by
  classical
  exact if h : ∃ f, isD σ d f then Classical.choose h else fun _ => 0
theorem dst_is {σ : Sg} {d : Nat} {f : Nat → Nat} (h : isD σ d f) : isD σ d (dst σ d) := by
  have hx : ∃ f, isD σ d f := ⟨f, h⟩
  unfold dst
  rw [dif_pos hx]
  exact Classical.choose_spec hx
theorem dst_eq {σ : Sg} {d : Nat} {f : Nat → Nat} (h : isD σ d f) : ∀ c, c < 35 → f c = dst σ d c := isD_eq h (dst_is h)
def dI (n : Nat) : Int32 := if n < 100 then nI n else -6
/-- a door leads a cell: it is open, and can be come to -/
def leads (σ : Sg) (d c : Nat) : Prop := ¬ σ (13 + d) = 0 ∧ dst σ d c < 100
noncomputable def glp (σ : Sg) (c : Nat) : Nat → Option Nat
  | 0 => none
  | d + 1 => by
    classical
    exact if leads σ d c ∧ (∀ b, glp σ c d = some b → dst σ d c < dst σ b c) then some d else glp σ c d
/-- the goal of a cell -/
noncomputable def gl (σ : Sg) (c : Nat) : Option Nat := by
  classical
  exact if vp_in (σ (56 + c)) 4 ∧ leads σ (σ (56 + c)).toNatClampNeg c then some (σ (56 + c)).toNatClampNeg else glp σ c 4
theorem glp_ok {σ : Sg} {c : Nat} : ∀ (d b : Nat), glp σ c d = some b → b < d ∧ leads σ b c
  | 0, b, h => by cases h
  | d + 1, b, h => by
    unfold glp at h
    split at h
    · rename_i h1
      cases h
      exact ⟨by omega, h1.1⟩
    · obtain ⟨h1, h2⟩ := glp_ok d b h
      exact ⟨by omega, h2⟩
/-- one way leads nearer to the door g -/
noncomputable def nr (σ : Sg) (g c w : Nat) : Option Nat := match stp σ c w with
  | some o => if dst σ g o + 1 = dst σ g c then some o else none
  | none => none
noncomputable def nxw (σ : Sg) (g c : Nat) : Option Nat := match nr σ g c 0 with
  | some o => some o
  | none => match nr σ g c 1 with
    | some o => some o
    | none => match nr σ g c 2 with
      | some o => some o
      | none => nr σ g c 3
/-- the next cell -/
noncomputable def nx (σ : Sg) (c : Nat) : Option Nat := match gl σ c with
  | some g => if 0 < dst σ g c then nxw σ g c else none
  | none => none
/-- steps to the goal -/
noncomputable def sg (σ : Sg) (c : Nat) : Int32 := match gl σ c with
  | some g => dI (dst σ g c)
  | none => -6
theorem nr_ok {σ : Sg} {g c w o : Nat} (h : nr σ g c w = some o) : stp σ c w = some o ∧ dst σ g o + 1 = dst σ g c := by
  unfold nr at h
  cases hs : stp σ c w with
  | none => rw [hs] at h; cases h
  | some p =>
    rw [hs] at h
    dsimp only at h
    split at h
    · cases h
      exact ⟨rfl, by assumption⟩
    · cases h
theorem nxw_ok {σ : Sg} {g c o : Nat} (h : nxw σ g c = some o) : ∃ w, w < 4 ∧ nr σ g c w = some o := by
  unfold nxw at h
  split at h
  · cases h; exact ⟨0, by omega, by assumption⟩
  · split at h
    · cases h; exact ⟨1, by omega, by assumption⟩
    · split at h
      · cases h; exact ⟨2, by omega, by assumption⟩
      · exact ⟨3, by omega, h⟩
theorem nx_lt {σ : Sg} {c o : Nat} (hc : c < 35) (h : nx σ c = some o) : o < 35 ∧ o ≠ c := by
  unfold nx at h
  split at h
  · split at h
    · obtain ⟨w, hw, h2⟩ := nxw_ok h
      exact stp_lt hc hw (nr_ok h2).1
    · cases h
  · cases h
theorem nxw_some {σ : Sg} {g c : Nat} (hD : isD σ g (dst σ g)) (hc : c < 35) (h1 : 0 < dst σ g c) (h2 : dst σ g c < 100) : ∃ o, nxw σ g c = some o := by
  rcases hD.2.2.2 c hc h2 with h | ⟨w, hw, o, ho, e⟩
  · subst h
    rw [hD.1] at h1
    exact absurd h1 (Nat.lt_irrefl _)
  · have hn : nr σ g c w = some o := by
      unfold nr
      rw [ho]
      dsimp only
      rw [if_pos e.symm]
    unfold nxw
    split
    · exact ⟨_, rfl⟩
    · rename_i h0
      split
      · exact ⟨_, rfl⟩
      · rename_i h1'
        split
        · exact ⟨_, rfl⟩
        · rename_i h2'
          rcases (show w = 0 ∨ w = 1 ∨ w = 2 ∨ w = 3 by omega) with rfl | rfl | rfl | rfl
          · rw [h0] at hn; cases hn
          · rw [h1'] at hn; cases hn
          · rw [h2'] at hn; cases hn
          · exact ⟨o, hn⟩
