/-! WHAT rope, pass AND read KEEP; an accepted text is crowds -/
theorem Inv_rope {S : jS} (h : Inv S) (x s v : Int32) (h01 : v = 0 ∨ v = 1) : Inv (F_rope S x s v).2 := by
  unfold F_rope
  split
  · exact h
  · rename_i h1
    split
    · exact h
    · rename_i h2
      have hx : vp_in x 35 := Classical.byContradiction fun h => h1 h
      have hs : vp_in s 2 := Classical.byContradiction fun h => h2 h
      obtain ⟨c, hc, rfl⟩ := vp_in_of hx (by omega)
      have hcl : (nI c).toNatClampNeg = c := nI_clamp (by omega)
      obtain ⟨i, hi, rfl⟩ := vp_in_of hs (by omega)
      have hci : (nI i).toNatClampNeg = i := nI_clamp (by omega)
      rw [hcl, hci]
      cases hbs : bs c (2 + i) with
      | none => exact h
      | some o =>
        have heg := (bs_lt c hc (2 + i) (by omega) o hbs).2.2
        dsimp only
        split
        · exact h
        · rename_i h3
          split
          · exact h
          · rename_i h4
            generalize eg c (2 + i) = e at heg h3 ⊢
            refine Inv_wS (Inv_rec h) ⟨?_, ?_⟩
            · obtain ⟨rm, t, p, oo, g1, g2, g3, g4, g5, g6, g7, g8, g9⟩ := h.1.1
              have hk : ∀ j, j < 91 → upd S.1 (91 + e) v j = S.1 j := fun j hj => upd_ne (by omega)
              refine ⟨rm, t, p, oo, by rw [hk 0 (by omega)]; exact g1, by rw [hk 1 (by omega)]; exact g2, fun c hc => by rw [hk _ (by omega)]; exact g3 c hc, fun d hd => by rw [hk _ (by omega)]; exact g4 d hd, fun d hd => by rw [hk _ (by omega)]; exact g5 d hd, fun d hd => by rw [hk _ (by omega)]; exact g6 d hd, fun d hd => by rw [hk _ (by omega)]; exact g7 d hd, fun d hd => by rw [hk _ (by omega)]; exact g8 d hd, fun e2 he => ?_⟩
              by_cases e1 : e2 = e
              · rw [e1, upd_eq]; exact h01
              · rw [upd_ne (by omega)]; exact g9 e2 he
            · obtain ⟨r, hr, hre⟩ := h.1.2
              have hb := h.1.1.bits.1 e heg
              have hup : rps (upd S.1 (91 + e) v) = rps S.1 + ((if v = 0 then nI 0 else nI 1) - (if S.1 (91 + e) = 0 then nI 0 else nI 1)) := by
                unfold rps
                rw [← isum_upd (f := fun e => if S.1 (91 + e) = 0 then nI 0 else nI 1) 70 heg]
                refine isum_cong (fun k hk => ?_)
                by_cases e1 : k = e
                · rw [if_pos e1, e1, upd_eq]
                · rw [if_neg e1, upd_ne (by omega)]
              rcases h01 with rfl | rfl
              · have h1e : S.1 (91 + e) = 1 := hb.resolve_left h3
                -- a rope less
                have hs : ∀ σ : Sg, rps σ = nI (fb_sm (fun k => if σ (91 + k) = 0 then 0 else 1) 70) := fun σ => isum_nI 70 (fun k hk => by by_cases h : σ (91 + k) = 0 <;> simp only [h, if_true, if_false])
                have hle := fb_sm_le (n := 70) (f := fun k => if upd S.1 (91 + e) 0 (91 + k) = 0 then 0 else 1) (g := fun k => if S.1 (91 + k) = 0 then 0 else 1) (fun k hk => by
                  by_cases e1 : k = e
                  · rw [e1, upd_eq, if_pos rfl]; exact Nat.zero_le _
                  · rw [upd_ne (by omega)]; exact Nat.le_refl _)
                have hb2 := fb_sm_bd (p := fun k => if S.1 (91 + k) = 0 then 0 else 1) (b := 1) 70 (fun k hk => by split <;> omega)
                have he := (nI_eq (by omega) (by omega)).mp ((hs S.1).symm.trans hre)
                exact ⟨_, by omega, hs _⟩
              · have h0e : S.1 (91 + e) = 0 := hb.resolve_right h3
                have hlt : rps S.1 < nI 24 := Classical.byContradiction fun h => h4 ⟨by decide, h⟩
                rw [hre] at hlt
                have := (nI_ltI (by omega) (by omega)).mp hlt
                refine ⟨r + 1, by omega, ?_⟩
                rw [hup, h0e, if_neg (by decide), if_pos rfl, hre, ← nI_add]
                rfl
theorem InvR_mnt {σ : Sg} {ν : Nat → Nat} {L : List Nat} (hs : ∀ d, d < 4 → dcell σ d < 35) (hν : ∀ c ∈ L, c < 35 ∧ ν c < 35) (h : InvR σ) : InvR (mnt ν L σ) := by
  obtain ⟨r, h1, h2⟩ := h
  refine ⟨r, h1, ?_⟩
  rw [← h2]
  unfold rps
  exact isum_cong (fun k hk => by rw [mnt_at hs hν (by omega)])
theorem Inv_pass {S : jS} (h : Inv S) (x : Int32) (ha : allD S.1 ∨ (F_pass S x).2 = S) : Inv (F_pass S x).2 := by
  rcases ha with ha | ha
  · unfold F_pass
    split
    · exact h
    · rename_i h2
      split
      · exact h
      · rename_i h3
        obtain ⟨n, rfl, hn1, hn2⟩ := nI_rng (fun h => h2 (Or.inl h)) (Classical.byContradiction fun h => h2 (Or.inr h)) (by omega) (by omega)
        have hcl : (nI n).toNatClampNeg = n := nI_clamp (by omega)
        rw [hcl]
        have h4 : S.1 1 + nI n ≤ nI 9999 := Classical.byContradiction fun h => h3 h
        have hν : ∀ c ∈ tl S.1, c < 35 ∧ nu S.1 c < 35 ∧ nu S.1 c ≠ c := fun c hc => by
          obtain ⟨x1, x2, x3⟩ := tl_mem ha hc
          exact ⟨x1, x2, (nx_lt x1 x3).2⟩
        have hν2 : ∀ c ∈ tl S.1, c < 35 ∧ nu S.1 c < 35 := fun c hc => ⟨(hν c hc).1, (hν c hc).2.1⟩
        refine Inv_wS (Inv_rec h) ?_
        obtain ⟨rm, t, p, oo, g1, g2, g3⟩ := h.1.1
        rw [g2.1, nI_add] at h4
        have h5 := (nI_leI (by omega) (by omega)).mp h4
        have hIt : InvS t S.1 := ⟨rm, t, p, oo, g1, ⟨g2.1, Nat.le_refl _⟩, g3⟩
        refine ⟨(InvS_itm hIt hν n (by omega)).mono h5, ?_⟩
        have : ∀ j, j ≤ n → InvR (itm (nu S.1) (tl S.1) j S.1) := by
          intro j
          induction j with
          | zero => intro _; exact h.1.2
          | succ j ih =>
            intro hj
            exact InvR_mnt (InvS_itm hIt hν j (by omega)).dc hν2 (ih (by omega))
        exact this n (Nat.le_refl _)
  · rw [ha]; exact h
theorem Good_foldl {P : Sg} {len : Nat} : ∀ (cs : List (Nat × Nat)) (p : Nat) (σ : Sg), txt P len p cs → Good σ → Good (cs.foldl inl σ)
  | [], _, _, ht, _ => absurd ht id
  | (c, m) :: rest, p, σ, ht, h => by
    obtain ⟨q, cx, ry, ⟨k1, k2, k3, k4, k5, d1, k6, k7, k8, k9⟩, hcc, hq, hrest⟩ := ht
    have hm : m < 1000 := by
      rcases k9 with ⟨-, rfl⟩ | ⟨-, d2, k10, -, rfl⟩ <;> omega
    have h1 := Good_inl (σ := σ) (c := c) (m := m) (by omega) hm h
    rw [List.foldl_cons]
    rcases hrest with ⟨rfl, -⟩ | ⟨-, -, h3⟩
    · exact h1
    · exact Good_foldl rest (q + 1) _ h3 h1
theorem Inv_read {S : jS} (h : Inv S) (ht : fa S.2.2.2.2.2.2 S.2.2.2.2.2.1 0 (nI 0) = -6 → ∃ cs, txt S.2.2.2.2.2.2 S.2.2.2.2.2.1 0 cs) : Inv (F_read S).2 := by
  have hcs := fun hok => crs_ok (ht hok)
  generalize hcr : crs S = cs at hcs
  obtain ⟨σ, k, hs, sv, sl, len, pad⟩ := S
  unfold F_read
  dsimp only
  by_cases hok : fa pad len 0 (nI 0) = -6
  · rw [if_pos hok]
    refine Inv_wS (Inv_wipe (Inv_rec h)) ?_
    rw [hcr]
    exact Good_foldl _ 0 σ (hcs hok) h.1
  · rw [if_neg hok]; exact h
theorem tk_in {P : Sg} {len p : Nat} {lo hi : Int32} (h : (tk P len lo hi (p, false)).2 = false) : p < len ∧ ¬ P p < lo ∧ ¬ hi < P p := by
  refine Classical.byContradiction fun hx => ?_
  rw [tk_n hx] at h
  exact absurd (show true = false from h) (by decide)
theorem tk_is {P : Sg} {len p a b : Nat} (hab : a ≤ b) (hb : b < 2 ^ 31) (h : (tk P len (nI a) (nI b) (p, false)).2 = false) : tk P len (nI a) (nI b) (p, false) = (p + 1, false) ∧ p < len ∧ ∃ n, P p = nI n ∧ a ≤ n ∧ n ≤ b := by
  obtain ⟨h1, h2, h3⟩ := tk_in h
  obtain ⟨n, e, e1, e2⟩ := nI_rng h2 (i_nlt.mp h3) hb hab
  exact ⟨tk_y h1 h2 h3, h1, n, e, e1, e2⟩
theorem txt_of {P : Sg} {len : Nat} (h60 : len ≤ 60) : ∀ (N p : Nat), len - p < N → p ≤ len → fs P len (nI 0) (p, false) = -6 → ∃ cs, txt P len p cs
  | 0, p, hN, _, _ => by omega
  | N + 1, p, hN, hp, hf => by
    rw [cw_fs hp] at hf
    have hle := cw_le (P := P) hp
    have hw : (cw P len p).2 = false := by
      cases hw : (cw P len p).2 with
      | false => rfl
      | true =>
        exfalso
        unfold fs at hf
        rw [if_pos hw] at hf
        exact nI_ne6 (by omega) hf
    have a4 := tm_lt (s := tk P len (nI 58) (nI 58) (tk P len (nI 49) (nI 53) (tk P len (nI 97) (nI 103) (p, false)))) hw
    have a3 := tk_lt (s := tk P len (nI 49) (nI 53) (tk P len (nI 97) (nI 103) (p, false))) a4.1
    have a2 := tk_lt (s := tk P len (nI 97) (nI 103) (p, false)) a3.1
    obtain ⟨t1, p1, n1, e1, l1, u1⟩ := tk_is (P := P) (len := len) (p := p) (a := 97) (b := 103) (by omega) (by omega) a2.1
    have a3' := a3.1
    rw [t1] at a3'
    obtain ⟨t2, p2, n2, e2, l2, u2⟩ := tk_is (P := P) (len := len) (p := p + 1) (a := 49) (b := 53) (by omega) (by omega) a3'
    have a4' := a4.1
    rw [t1, t2] at a4'
    obtain ⟨t3, p3, n3, e3, l3, u3⟩ := tk_is (P := P) (len := len) (p := p + 2) (a := 58) (b := 58) (by omega) (by omega) a4'
    have hcw : cw P len p = (tm P len (p + 3, false)).1 := by
      unfold cw
      rw [t1, t2, t3]
    rw [hcw] at hf hw hle
    have key : ∃ q m d1, q ≤ len ∧ 1 ≤ d1 ∧ d1 ≤ 9 ∧ P (p + 3) = nI (48 + d1) ∧ ((q = p + 4 ∧ m = d1) ∨ (q = p + 5 ∧ ∃ d2, d2 ≤ 9 ∧ P (p + 4) = nI (48 + d2) ∧ m = 10 * d1 + d2)) ∧ (tm P len (p + 3, false)).1 = (q, false) := by
      by_cases h2 : two P len (tv0 P len (p + 3)) (tk P len (nI 49) (nI 57) (p + 3, false))
      · have e : tm P len (p + 3, false) = (tk P len (nI 48) (nI 57) (tk P len (nI 49) (nI 57) (p + 3, false)), nI 10 * tv0 P len (p + 3) + (chr P len (tk P len (nI 49) (nI 57) (p + 3, false)).1 - nI 48)) := if_pos h2
        rw [e] at hw hle ⊢
        have b1 := tk_lt (s := tk P len (nI 49) (nI 57) (p + 3, false)) hw
        obtain ⟨t4, p4, n4, e4, l4, u4⟩ := tk_is (P := P) (len := len) (p := p + 3) (a := 49) (b := 57) (by omega) (by omega) b1.1
        rw [t4] at hw hle ⊢
        obtain ⟨t5, p5, n5, e5, l5, u5⟩ := tk_is (P := P) (len := len) (p := p + 4) (a := 48) (b := 57) (by omega) (by omega) hw
        exact ⟨p + 5, 10 * (n4 - 48) + (n5 - 48), n4 - 48, by omega, by omega, by omega, by rw [e4]; congr 1; omega, Or.inr ⟨rfl, n5 - 48, by omega, by rw [e5]; congr 1; omega, rfl⟩, t5⟩
      · have e : tm P len (p + 3, false) = (tk P len (nI 49) (nI 57) (p + 3, false), tv0 P len (p + 3)) := if_neg h2
        rw [e] at hw hle ⊢
        obtain ⟨t4, p4, n4, e4, l4, u4⟩ := tk_is (P := P) (len := len) (p := p + 3) (a := 49) (b := 57) (by omega) (by omega) hw
        exact ⟨p + 4, n4 - 48, n4 - 48, by omega, by omega, by omega, by rw [e4]; congr 1; omega, Or.inl ⟨rfl, rfl⟩, t4⟩
    obtain ⟨q, m, d1, hq, k6, k7, k8, k9, htm⟩ := key
    have hcr : crw P p q (n1 - 97) (n2 - 49) m := ⟨by rw [e1]; congr 1; omega, by omega, by rw [e2]; congr 1; omega, by omega, by rw [e3]; congr 1; omega, d1, k6, k7, k8, k9⟩
    rw [htm] at hf
    by_cases hql : q < len
    · rw [fs6 hql] at hf
      have h44 : (tk P len (nI 44) (nI 44) (q, false)).2 = false := by
        cases hw : (tk P len (nI 44) (nI 44) (q, false)).2 with
        | false => rfl
        | true =>
          exfalso
          unfold fs at hf
          rw [if_pos hw] at hf
          exact nI_ne6 (by have := tk_le (P := P) (lo := nI 44) (hi := nI 44) (s := (q, false)) hq; omega) hf
      obtain ⟨t6, p6, n6, e6, l6, u6⟩ := tk_is (P := P) (len := len) (p := q) (a := 44) (b := 44) (by omega) (by omega) h44
      rw [t6] at hf
      have hq4 : p + 4 ≤ q := by rcases k9 with k9 | k9 <;> omega
      obtain ⟨cs, hcs⟩ := txt_of h60 N (q + 1) (by omega) (by omega) hf
      exact ⟨(7 * (n2 - 49) + (n1 - 97), m) :: cs, q, _, _, hcr, rfl, hq, Or.inr ⟨hql, by rw [e6]; congr 1; omega, hcs⟩⟩
    · exact ⟨[(7 * (n2 - 49) + (n1 - 97), m)], q, _, _, hcr, rfl, hq, Or.inl ⟨rfl, by omega⟩⟩
theorem txt_fa {P : Sg} {len : Nat} (h60 : len ≤ 60) (h : fa P len 0 (nI 0) = -6) : ∃ cs, txt P len 0 cs := txt_of h60 (len + 1) 0 (by omega) (Nat.zero_le _) h
