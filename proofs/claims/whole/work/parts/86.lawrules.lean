/-! THE LAW: the rules that its walk goes by (86..88 laid by wip/whole/gen/gen_law.py) -/
abbrev la_A (s : State) : Nat → Prop := fun q => s.heap.size ≤ q
abbrev la_L (b : Nat) (ad : je_C → Nat) (i : Nat) : List (Nat × Value) := [(3, .int (nI i)), (2, .ref (ad (6, 0, 0))), (1, .ref (ad (5, 0, 0))), (0, .ref b)]
def bz (x : Int32) : Int32 := if x = 0 then nI 0 else nI 1
theorem bz_01 (x : Int32) : bz x = 0 ∨ bz x = 1 := by
  unfold bz
  by_cases h : x = 0
  · rw [if_pos h]; exact Or.inl rfl
  · rw [if_neg h]; exact Or.inr rfl
theorem la_and31 (x : Int32) : ∃ j, j < 32 ∧ x &&& nI 31 = nI j := by
  have e : x = nI x.toBitVec.toNat := by
    apply Int32.toBitVec_inj.1
    show x.toBitVec = BitVec.ofNat 32 x.toBitVec.toNat
    simp
  have ha : ∀ a c : Nat, nI a &&& nI c = nI (a &&& c) := fun a c => by
    apply Int32.toBitVec_inj.1
    show BitVec.ofNat 32 a &&& BitVec.ofNat 32 c = BitVec.ofNat 32 (a &&& c)
    apply BitVec.eq_of_getLsbD_eq
    intro i hi
    simp [hi]
  refine ⟨x.toBitVec.toNat % 32, Nat.mod_lt _ (by omega), ?_⟩
  rw [← Nat.and_two_pow_sub_one_eq_mod x.toBitVec.toNat 5, ← ha, ← e]
theorem MR_frC {G G' : je_G} {S : jS} (h : MR G S) (hf : FrC G G') : MR G' S := MR_fr h (fun r _ _ => hf 0 r)
theorem CR_frM {G G' : je_G} {S : jS} (h : CR G S) (hf : FrM G G') : CR G' S := CR_fr h (fun n _ => hf 1 n 0 (by omega)) (fun r => hf 5 0 r (by omega)) (fun r => hf 3 0 r (by omega))
theorem Inv_bits {σ : Sg} (h : Good σ) : bits σ := by
  obtain ⟨rm, t, p, o, g1, g2, g3, g4, g5, g6, g7, g8, g9⟩ := h.1
  exact ⟨g9, g6⟩
theorem Inv_dc {σ : Sg} (h : Good σ) : ∀ d, d < 4 → vp_in (σ (5 + d)) 35 := by
  obtain ⟨rm, t, p, o, g1, g2, g3, g4, g5, g6, g7, g8, g9⟩ := h.1
  exact g4
theorem CR_txt {G : je_G} {S : jS} (h : CR G S) : fa S.2.2.2.2.2.2 S.2.2.2.2.2.1 0 (nI 0) = -6 → ∃ cs, txt S.2.2.2.2.2.2 S.2.2.2.2.2.1 0 cs := by
  obtain ⟨σ, k, hs, sv, sl, len, pad⟩ := S
  obtain ⟨e1, e2, e5, e6, hl, e7⟩ := h
  exact txt_fa hl
section LA
variable {p : Program} {l : Launch} {e : Env} {s : State} {m : MethodId} {args : Array Value} {below : List Frame} {meth : Method} {c : Code} {cells slots : Nat} {Q : State → Prop} {D : va_G} {ad : je_C → Nat} {cA : Nat → ClassId} {b L i : Nat} {xs : Nat → Int32} {ls : Array Slot} {H : Heap} {locs : List Loc} {rest : List Value}
/-- script[i + k] -/
theorem la_arg {pc k : Nat} {kI : Int} (hx : p.tables.exec = Jvm.exec) (hb : c.code = cL_law) (hX : va_X b L xs s s.heap) (hbl : b < s.heap.size) (hS : va_S (la_A s) s.heap H locs) (hl : lv_has ls 4 (la_L b ad i)) (hk : i + k < L) (hL : L ≤ 2048) (d0 : decode cL_law pc = .ok (.aload_n 0, 1)) (d1 : decode cL_law (pc + 1) = .ok (.iload_n 3, 1)) (d2 : decode cL_law (pc + 2) = .ok (.iconst kI, 1)) (hkI : Int32.ofInt kI = nI k) (d3 : decode cL_law (pc + 3) = .ok (.iadd, 1)) (d4 : decode cL_law (pc + 4) = .ok (.iaload, 1))
    (kk : W p l e room_1 s m args below meth c H locs cells slots Q (F0 m (pc + 5) ls (.int (xs (i + k)) :: rest))) : W p l e room_1 s m args below meth c H locs cells slots Q (F0 m pc ls rest) := by
  refine lv_aload_n hx hb d0 rfl (lv_at hl 3 rfl) ?_
  refine lv_iload_n hx hb d1 rfl (lv_at hl 0 rfl) ?_
  refine lv_iconst (v := nI k) hx hb d2 hkI ?_
  refine lv_iadd hx hb d3 ?_
  rw [nI_add]
  refine va_sld hx hb hX hbl (Nat.not_le.mpr hbl) hS (vp_in_nI hk (by omega)) d4 ?_
  rw [nI_clamp (by omega)]
  exact kk
/-- script[i + k] != 0 -/
theorem la_argb {pc k : Nat} {kI : Int} (hx : p.tables.exec = Jvm.exec) (hb : c.code = cL_law) (hX : va_X b L xs s s.heap) (hbl : b < s.heap.size) (hS : va_S (la_A s) s.heap H locs) (hl : lv_has ls 4 (la_L b ad i)) (hk : i + k < L) (hL : L ≤ 2048) (d0 : decode cL_law pc = .ok (.aload_n 0, 1)) (d1 : decode cL_law (pc + 1) = .ok (.iload_n 3, 1)) (d2 : decode cL_law (pc + 2) = .ok (.iconst kI, 1)) (hkI : Int32.ofInt kI = nI k) (d3 : decode cL_law (pc + 3) = .ok (.iadd, 1)) (d4 : decode cL_law (pc + 4) = .ok (.iaload, 1)) (d5 : decode cL_law (pc + 5) = .ok (.ifCond .eq 7, 3)) (d6 : decode cL_law (pc + 8) = .ok (.iconst 1, 1)) (d7 : decode cL_law (pc + 9) = .ok (.goto 4, 3)) (d8 : decode cL_law (pc + 12) = .ok (.iconst 0, 1))
    (kk : W p l e room_1 s m args below meth c H locs cells slots Q (F0 m (pc + 13) ls (.int (bz (xs (i + k))) :: rest))) : W p l e room_1 s m args below meth c H locs cells slots Q (F0 m pc ls rest) := by
  refine la_arg hx hb hX hbl hS hl hk hL d0 d1 d2 hkI d3 d4 ?_
  refine lv_if_eq hx hb d5 (tgt := pc + 12) (by omega) (fun h => ?_) (fun h => ?_)
  · refine lv_iconst (v := nI 0) hx hb d8 (by decide) ?_
    have e9 : bz (xs (i + k)) = nI 0 := if_pos h
    rw [e9] at kk
    exact kk
  · refine lv_iconst (v := nI 1) hx hb d6 (by decide) ?_
    refine lv_goto hx hb d7 (tgt := pc + 13) (by omega) ?_
    have e9 : bz (xs (i + k)) = nI 1 := if_neg h
    rw [e9] at kk
    exact kk
/-- the number that put gets -/
def pz (v w : Int32) : Int64 := (v.toInt64 <<< ((nI 32).toInt64 &&& 63)) ||| (w.toInt64 &&& (4294967295))
theorem la_argp {pc : Nat} (hx : p.tables.exec = Jvm.exec) (hb : c.code = cL_law) (hown : s.vm.findClass RL = some m.cls) (hc : (Jvm.Cond.constantLong RL 83 (4294967295)).before args s = true) (hX : va_X b L xs s s.heap) (hbl : b < s.heap.size) (hS : va_S (la_A s) s.heap H locs) (hl : lv_has ls 4 (la_L b ad i)) (hk : i + 2 < L) (hL : L ≤ 2048) (d0 : decode cL_law pc = .ok (.aload_n 0, 1)) (d1 : decode cL_law (pc + 1) = .ok (.iload_n 3, 1)) (d2 : decode cL_law (pc + 2) = .ok (.iconst 1, 1)) (d3 : decode cL_law (pc + 3) = .ok (.iadd, 1)) (d4 : decode cL_law (pc + 4) = .ok (.iaload, 1)) (d5 : decode cL_law (pc + 5) = .ok (.i2l, 1)) (d6 : decode cL_law (pc + 6) = .ok (.bipush 32, 2)) (d7 : decode cL_law (pc + 8) = .ok (.lshl, 1)) (d8 : decode cL_law (pc + 9) = .ok (.aload_n 0, 1)) (d9 : decode cL_law (pc + 10) = .ok (.iload_n 3, 1)) (d10 : decode cL_law (pc + 11) = .ok (.iconst 2, 1)) (d11 : decode cL_law (pc + 12) = .ok (.iadd, 1)) (d12 : decode cL_law (pc + 13) = .ok (.iaload, 1)) (d13 : decode cL_law (pc + 14) = .ok (.i2l, 1)) (d14 : decode cL_law (pc + 15) = .ok (.ldc2_w 83, 3)) (d15 : decode cL_law (pc + 18) = .ok (.land, 1)) (d16 : decode cL_law (pc + 19) = .ok (.lor, 1))
    (kk : W p l e room_1 s m args below meth c H locs cells slots Q (F0 m (pc + 20) ls (.long (pz (xs (i + 1)) (xs (i + 2))) :: rest))) : W p l e room_1 s m args below meth c H locs cells slots Q (F0 m pc ls rest) := by
  refine la_arg (k := 1) hx hb hX hbl hS hl (by omega) hL d0 d1 d2 (by decide) d3 d4 ?_
  refine lv_i2l hx hb d5 rfl ?_
  refine lv_bipush (v := nI 32) hx hb d6 (by decide) ?_
  refine lv_lshl hx hb d7 rfl ?_
  refine la_arg (k := 2) hx hb hX hbl hS hl (by omega) hL d8 d9 d10 (by decide) d11 d12 ?_
  refine lv_i2l hx hb d13 rfl ?_
  refine lv_ldc2 hx hb hown hc d14 ?_
  refine lv_land hx hb d15 ?_
  refine lv_lor hx hb d16 ?_
  exact kk
/-- a call of one side -/
theorem la_call {pc : Nat} {y : MethodName} {ws : List Jvm.Cond} {rm' : Room} {ci n : Nat} {As : List je_V} {G : je_G} {Qi : Int32 → je_G → Prop} {st : List Value} (hx : p.tables.exec = Jvm.exec) (hb : c.code = cL_law) (hown : s.vm.findClass RL = some m.cls) (hml : c.maxLocals = 4) (hts : ∀ w ∈ wsL_law, w.before args s = true) (hK : va_K D vwCl (je_T cA) s) (hJ : je_inj ad) (hN : ∀ w ∈ je_nest, va_Nw w s) (hA : ∀ q, je_ok q → la_A s (ad q)) (hcs : cells ≤ 600000 ∧ slots ≤ 7302250)
    (hk : je_LkV RL cL_law wsL_law room_1 pc y ws rm' ci n) (hM : je_Ci l y ws rm' (jR (ci, 0, 0) :: As) G Qi) (hok : je_ok (ci, 0, 0)) (hn : As.length = n) (hoA : je_oks As) (hst : st = (As.map (je_e ad)).reverse ++ .ref (ad (ci, 0, 0)) :: rest) (hsm : (rest.map fun v => v.category).sum ≤ 8) (hl : lv_has ls 4 (la_L b ad i)) (hW : je_W D ad cA G H) (hS : va_S (la_A s) s.heap H locs)
    (kk : ∀ (x : Int32) (G' : je_G) (H1 : Heap) (locs1 : List Loc), Qi x G' → je_W D ad cA G' H1 → va_S (la_A s) s.heap H1 locs1 → W p l e room_1 s m args below meth c H1 locs1 cells slots Q (F0 m (pc + 3) ls (.int x :: rest))) : W p l e room_1 s m args below meth c H locs cells slots Q (F0 m pc ls st) := by
  obtain ⟨idx, C, bytes, maxL, ret, ws', T, N, hd, hG, hw, hd2, hc0, hR, hcl⟩ := hk
  have hokA : je_oks (jR (ci, 0, 0) :: As) := je_oks_r hok hoA
  have hcell := hW _ hok
  have hr := va_runV (cells := cells) (slots := slots) (locs := locs) (below := below) (e := e) (meth := meth) (R := room_1) (g := F0 m pc ls st) (As := As.map (je_e ad)) (rest := rest) ⟨hx, hb, hml, hown, hts⟩ (hM D ad cA hJ (jR (ci, 0, 0) :: As) G hokA ⟨rfl, rfl⟩) (cwV n hts hG hw hc0.1 hc0.2 hd2 hR)
    ⟨je_blind, va_recv hK (je_P1 hcell) (ci := ci) (q0 := 0) hcl rfl, fun U hU hWm => ⟨rfl, by rw [hU]; exact hW, va_K.moved hWm.alike hK, je_nest_warm hWm hN⟩⟩ rfl (by rw [List.length_map]; exact hn) hl.1 hst (lv_room hsm) hd hcs
  intro T0 hT X
  obtain ⟨v, st₀, t, T', Lc, h0, X', hLc, e1, e2, ⟨⟨r, G', hv, ⟨x, hrx, hp⟩, hok2, hw2⟩, hz, hkf⟩, stp⟩ := hr T0 hT X
  subst hrx
  cases hv
  rw [h0] at hz hkf
  obtain ⟨t2, a1, b1⟩ := kk x G' T'.heap (locs ++ Lc) hp (by rw [e1]; exact hw2)
    ⟨Nat.le_trans hS.1 (by rw [e1]; exact hz), fun q h1 h2 => by
      rw [e1, hkf q (Nat.lt_of_lt_of_le h1 hS.1) (fun ⟨q', hq', e9⟩ => h2 (by rw [e9]; exact hA q' hq'))]
      exact hS.2.1 q h1 h2, fun q hq => by
      rcases List.mem_append.mp hq with h | h
      · exact hS.2.2 q h
      · obtain ⟨q', hq', e9⟩ := hLc q h
        rw [e9]
        exact hA q' hq'⟩ T' rfl X'
  exact ⟨t2, stp t2 a1, b1⟩
/-- what stands still while the law walks -/
def la_C (p : Program) (s : State) (m : MethodId) (meth : Method) (c : Code) (b L : Nat) (xs : Nat → Int32) (D : va_G) (ad : je_C → Nat) (cA : Nat → ClassId) (cells slots : Nat) : Prop := (p.tables.exec = Jvm.exec ∧ c.code = cL_law ∧ s.vm.findClass RL = some m.cls ∧ c.maxLocals = 4 ∧ (∀ w ∈ wsL_law, w.before #[Value.ref b] s = true) ∧ va_X b L xs s s.heap ∧ b < s.heap.size) ∧ va_K D vwCl (je_T cA) s ∧ je_inj ad ∧ (∀ w ∈ je_nest, va_Nw w s) ∧ (∀ q, je_ok q → la_A s (ad q)) ∧ (cells ≤ 600000 ∧ slots ≤ 7302250) ∧ L ≤ 2048
/-- what the walk of a case has: the world, both sides in the same state -/
def la_B (s : State) (D : va_G) (ad : je_C → Nat) (cA : Nat → ClassId) (S : jS) (H : Heap) (locs : List Loc) : Prop := ∃ G : je_G, CR G S ∧ MR G S ∧ Inv S ∧ je_W D ad cA G H ∧ va_S (la_A s) s.heap H locs
end LA
