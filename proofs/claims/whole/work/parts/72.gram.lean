/-! THE TEXT: the class's places and the reference's reading -/
theorem fa_e {P : Sg} {len : Nat} {st : Int32} : fa P (len - len) len st = if st < nI 4 then nI len else -6 := by
  rw [Nat.sub_self, fa]
theorem fa_s {P : Sg} {len p : Nat} {st : Int32} (h : p < len) : fa P (len - p) p st = if pB st (P p) = -6 then nI p else fa P (len - (p + 1)) (p + 1) (pB st (P p)) := by
  rw [show len - p = (len - (p + 1)) + 1 by omega, fa]
/-- the answer from a place of reading on -/
def fs (P : Sg) (len : Nat) (st : Int32) (s : Nat × Bool) : Int32 := if s.2 = true then nI s.1 else fa P (len - s.1) s.1 st
theorem fs_t {P : Sg} {len p : Nat} {st : Int32} : fs P len st (p, true) = nI p := rfl
theorem fs_f {P : Sg} {len p : Nat} {st : Int32} : fs P len st (p, false) = fa P (len - p) p st := rfl
/-- a state that takes one character of a range, and else is at fault -/
theorem fs_one {P : Sg} {len p : Nat} {st st' lo hi : Int32} {w : Bool} (hp : p ≤ len) (h4 : st < nI 4) (h5 : nI 4 ≠ nI 4 → False) (h6 : ¬ st' = -6) (hin : ∀ x, ¬ x < lo → ¬ hi < x → pB st x = st') (hout : ∀ x, ¬ (¬ x < lo ∧ ¬ hi < x) → pB st x = -6) : fs P len st (p, w) = fs P len st' (tk P len lo hi (p, w)) := by
  cases w with
  | true => rw [tk_t, fs_t, fs_t]
  | false =>
    by_cases h : p < len
    · rw [fs_f, fa_s h]
      by_cases hx : ¬ P p < lo ∧ ¬ hi < P p
      · rw [tk_y h hx.1 hx.2, hin _ hx.1 hx.2, if_neg h6, fs_f]
      · rw [tk_n (fun h => hx h.2), hout _ hx, if_pos rfl, fs_t]
    · have : p = len := by omega
      subst this
      rw [tk_n (fun h2 => h h2.1), fs_f, fs_t, fa_e, if_pos h4]
theorem i_irr {k : Int32} : ¬ k < k := fun h => absurd (Int32.lt_iff_toInt_lt.mp h) (by omega)
theorem rng_eq {x k : Int32} : (¬ x < k ∧ ¬ k < x) ↔ x = k := by
  rcases fa_three x k with h | h | h
  · exact ⟨fun h2 => absurd h h2.1, fun h2 => by rw [h2] at h; exact absurd h i_irr⟩
  · exact ⟨fun _ => h, fun _ => by rw [h]; exact ⟨i_irr, i_irr⟩⟩
  · exact ⟨fun h2 => absurd h h2.2, fun h2 => by rw [h2] at h; exact absurd h i_irr⟩
theorem fs0 {P : Sg} {len p : Nat} {w : Bool} (hp : p ≤ len) : fs P len (nI 0) (p, w) = fs P len (nI 1) (tk P len (nI 97) (nI 103) (p, w)) := by
  refine fs_one hp (by decide) (fun h => h rfl) (by decide) (fun x h1 h2 => ?_) (fun x h => ?_)
  · unfold pB
    rw [if_pos rfl, if_neg h1, if_neg (fun h => h (i_nlt.mp h2))]
  · unfold pB
    rw [if_pos rfl]
    by_cases h1 : x < nI 97
    · rw [if_pos h1]
    · rw [if_neg h1, if_pos (fun h2 => h ⟨h1, i_nlt.mpr h2⟩)]
theorem fs1 {P : Sg} {len p : Nat} {w : Bool} (hp : p ≤ len) : fs P len (nI 1) (p, w) = fs P len (nI 2) (tk P len (nI 49) (nI 53) (p, w)) := by
  refine fs_one hp (by decide) (fun h => h rfl) (by decide) (fun x h1 h2 => ?_) (fun x h => ?_)
  · unfold pB
    rw [if_neg (by decide), if_pos rfl, if_neg h1, if_neg (fun h => h (i_nlt.mp h2))]
  · unfold pB
    rw [if_neg (by decide), if_pos rfl]
    by_cases h1 : x < nI 49
    · rw [if_pos h1]
    · rw [if_neg h1, if_pos (fun h2 => h ⟨h1, i_nlt.mpr h2⟩)]
theorem fs2 {P : Sg} {len p : Nat} {w : Bool} (hp : p ≤ len) : fs P len (nI 2) (p, w) = fs P len (nI 3) (tk P len (nI 58) (nI 58) (p, w)) := by
  refine fs_one hp (by decide) (fun h => h rfl) (by decide) (fun x h1 h2 => ?_) (fun x h => ?_)
  · unfold pB
    rw [if_neg (by decide), if_neg (by decide), if_pos rfl, if_pos (rng_eq.mp ⟨h1, h2⟩)]
  · unfold pB
    rw [if_neg (by decide), if_neg (by decide), if_pos rfl, if_neg (fun h2 => h (rng_eq.mpr h2))]
theorem pB3 {x : Int32} : pB (nI 3) x = pbf x := by
  unfold pB
  rw [if_neg (by decide), if_neg (by decide), if_neg (by decide), if_pos rfl]
theorem pB4 {x : Int32} : pB (nI 4) x = if x = nI 44 then nI 0 else if x < nI 48 then -6 else if ¬ x ≤ nI 57 then -6 else nI 6 := by
  unfold pB
  rw [if_neg (by decide), if_neg (by decide), if_neg (by decide), if_neg (by decide), if_pos rfl]
theorem pB5 {x : Int32} : pB (nI 5) x = if x = nI 44 then nI 0 else if x = nI 48 then nI 6 else -6 := by
  unfold pB
  rw [if_neg (by decide), if_neg (by decide), if_neg (by decide), if_neg (by decide), if_neg (show ¬ nI 5 = nI 4 by decide), if_pos rfl]
theorem pB6 {x : Int32} : pB (nI 6) x = if x = nI 44 then nI 0 else -6 := by
  unfold pB
  rw [if_neg (by decide), if_neg (by decide), if_neg (by decide), if_neg (by decide), if_neg (show ¬ nI 6 = nI 4 by decide), if_neg (show ¬ nI 6 = nI 5 by decide)]
/-- behind a whole crowd: the end, or a comma -/
theorem fs6 {P : Sg} {len p : Nat} (hp : p < len) : fs P len (nI 6) (p, false) = fs P len (nI 0) (tk P len (nI 44) (nI 44) (p, false)) := by
  rw [fs_f, fa_s hp, pB6]
  by_cases h : P p = nI 44
  · have h2 := rng_eq.mpr h
    rw [if_pos h, if_neg (by decide), tk_y hp h2.1 h2.2, fs_f]
  · rw [if_neg h, if_pos rfl, tk_n (fun h2 => h (rng_eq.mp h2.2)), fs_t]
theorem fs6e {P : Sg} {len : Nat} : fs P len (nI 6) (len, false) = -6 := by
  rw [fs_f, fa_e, if_neg (by decide)]
/-- a state behind a first digit acts as the last one, but where a second digit follows -/
theorem fs_like6 {P : Sg} {len p : Nat} {st : Int32} (hp : p ≤ len) (h4 : ¬ st < nI 4) (h : p < len → pB st (P p) = pB (nI 6) (P p)) : fs P len st (p, false) = fs P len (nI 6) (p, false) := by
  by_cases h1 : p < len
  · rw [fs_f, fs_f, fa_s h1, fa_s h1, h h1]
  · have : p = len := by omega
    subst this
    rw [fs_f, fs_f, fa_e, fa_e, if_neg h4, if_neg (by decide)]
theorem fs3 {P : Sg} {len p : Nat} {w : Bool} (hp : p ≤ len) : fs P len (nI 3) (p, w) = fs P len (nI 6) (tm P len (p, w)).1 := by
  cases w with
  | true =>
    have hn : ¬ two P len (tv0 P len p) (tk P len (nI 49) (nI 57) (p, true)) := fun h => by
      rw [tk_t] at h
      exact h.elim (fun h => absurd (show true = false from h.2.1) (by decide)) (fun h => absurd (show true = false from h.2.1) (by decide))
    have e : tm P len (p, true) = (tk P len (nI 49) (nI 57) (p, true), tv0 P len p) := if_neg hn
    rw [e, tk_t, fs_t, fs_t]
  | false =>
    by_cases hd : p < len ∧ ¬ P p < nI 49 ∧ ¬ nI 57 < P p
    · obtain ⟨h1, h2, h3⟩ := hd
      have ht := tk_y (P := P) h1 h2 h3
      have hv : tv0 P len p = nI 1 + (P p - nI 49) := by unfold tv0 chr; rw [if_pos h1]
      have hpb : pB (nI 3) (P p) = if P p = nI 49 then nI 4 else if P p = nI 50 then nI 5 else nI 6 := by
        rw [pB3]
        unfold pbf
        rw [if_neg h2, if_neg (fun h => h (i_nlt.mp h3))]
      have hne : ¬ pB (nI 3) (P p) = -6 := by
        rw [hpb]
        split
        · decide
        · split <;> decide
      rw [fs_f, fa_s h1, if_neg hne, hpb]
      have hvi : ∀ k : Int32, tv0 P len p = nI 1 + (k - nI 49) ↔ P p = k := fun k => by
        rw [hv]
        constructor
        · intro h
          have h7 : P p - nI 49 = k - nI 49 := by
            have := congrArg (fun z => z - nI 1) h
            simp only [i_z2] at this
            exact this
          have := congrArg (fun z => z + nI 49) h7
          simp only [Int32.sub_add_cancel] at this
          exact this
        · intro h
          rw [h]
      have hv1 : tv0 P len p = nI 1 ↔ P p = nI 49 := hvi (nI 49)
      have hv2 : tv0 P len p = nI 2 ↔ P p = nI 50 := hvi (nI 50)
      have hno : ¬ two P len (tv0 P len p) (tk P len (nI 49) (nI 57) (p, false)) → fs P len (nI 6) (tm P len (p, false)).1 = fs P len (nI 6) (p + 1, false) := fun h => by
        have e : tm P len (p, false) = (tk P len (nI 49) (nI 57) (p, false), tv0 P len p) := if_neg h
        rw [e, ht]
      have hyes : two P len (tv0 P len p) (tk P len (nI 49) (nI 57) (p, false)) → fs P len (nI 6) (tm P len (p, false)).1 = fs P len (nI 6) (tk P len (nI 48) (nI 57) (p + 1, false)) := fun h => by
        have e : tm P len (p, false) = (tk P len (nI 48) (nI 57) (tk P len (nI 49) (nI 57) (p, false)), nI 10 * tv0 P len p + (chr P len (tk P len (nI 49) (nI 57) (p, false)).1 - nI 48)) := if_pos h
        rw [e, ht]
      by_cases c1 : P p = nI 49
      · rw [if_pos c1]
        by_cases hdg : p + 1 < len ∧ ¬ P (p + 1) < nI 48 ∧ ¬ nI 57 < P (p + 1)
        · rw [hyes (Or.inl ⟨hv1.mpr c1, by rw [ht], by rw [ht]; exact hdg.1, by rw [ht]; exact hdg.2.1, by rw [ht]; exact hdg.2.2⟩), tk_y hdg.1 hdg.2.1 hdg.2.2, fs_f, fa_s hdg.1]
          have e4 : pB (nI 4) (P (p + 1)) = nI 6 := by
            rw [pB4, if_neg (show ¬ P (p + 1) = nI 44 from fun h => hdg.2.1 (by rw [h]; decide)), if_neg hdg.2.1, if_neg (show ¬ ¬ P (p + 1) ≤ nI 57 from fun h => h (i_nlt.mp hdg.2.2))]
          rw [e4, if_neg (by decide)]
        · rw [hno (fun h => h.elim (fun h => hdg (by rw [ht] at h; exact h.2.2)) (fun h => absurd (h.1.symm.trans (hv1.mpr c1)) (by decide)))]
          rw [← fs_f]
          refine fs_like6 (by omega) (by decide) (fun hp1 => ?_)
          rw [pB4, pB6]
          by_cases c44 : P (p + 1) = nI 44
          · rw [if_pos c44, if_pos c44]
          · rw [if_neg c44, if_neg c44]
            by_cases c48 : P (p + 1) < nI 48
            · rw [if_pos c48]
            · rw [if_neg c48, if_pos (fun h => hdg ⟨hp1, c48, i_nlt.mpr h⟩)]
      · rw [if_neg c1]
        by_cases c2 : P p = nI 50
        · rw [if_pos c2]
          by_cases hdg : p + 1 < len ∧ P (p + 1) = nI 48
          · have h48 := rng_eq.mpr hdg.2
            rw [hyes (Or.inr ⟨hv2.mpr c2, by rw [ht], by rw [ht]; exact hdg.1, by rw [ht]; exact h48.1, by rw [ht]; exact h48.2⟩), tk_y hdg.1 h48.1 (by rw [hdg.2]; decide), fs_f, fa_s hdg.1, pB5]
            rw [if_neg (fun h => absurd (hdg.2.symm.trans h) (by decide)), if_pos hdg.2, if_neg (by decide)]
          · rw [hno (fun h => h.elim (fun h => absurd (h.1.symm.trans (hv2.mpr c2)) (by decide)) (fun h => hdg (by rw [ht] at h; exact ⟨h.2.2.1, rng_eq.mp h.2.2.2⟩)))]
            rw [← fs_f]
            refine fs_like6 (by omega) (by decide) (fun hp1 => ?_)
            rw [pB5, pB6]
            by_cases c44 : P (p + 1) = nI 44
            · rw [if_pos c44, if_pos c44]
            · rw [if_neg c44, if_neg c44, if_neg (fun h => hdg ⟨hp1, h⟩)]
        · rw [if_neg c2, hno (fun h => h.elim (fun h => c1 (hv1.mp h.1)) (fun h => c2 (hv2.mp h.1)))]
          rfl
    · have ht : tk P len (nI 49) (nI 57) (p, false) = (p, true) := tk_n hd
      have hn : ¬ two P len (tv0 P len p) (tk P len (nI 49) (nI 57) (p, false)) := fun h => by
        rw [ht] at h
        exact h.elim (fun h => absurd (show true = false from h.2.1) (by decide)) (fun h => absurd (show true = false from h.2.1) (by decide))
      have e : tm P len (p, false) = (tk P len (nI 49) (nI 57) (p, false), tv0 P len p) := if_neg hn
      rw [e, ht, fs_t, fs_f]
      by_cases h1 : p < len
      · rw [fa_s h1, pB3, if_pos]
        unfold pbf
        by_cases c1 : P p < nI 49
        · rw [if_pos c1]
        · rw [if_neg c1, if_pos (fun h => hd ⟨h1, c1, i_nlt.mpr h⟩)]
      · have : p = len := by omega
        subst this
        rw [fa_e, if_pos (by decide)]
