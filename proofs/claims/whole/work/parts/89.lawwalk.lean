/-! THE CLAIM OUT OF ONE WALK OF THE LAW'S BODY. Your part is whole_start (and what it stands on); all else here is the same for every law, but numbers. -/
def R_law : String := "RopedHallsLaw"
def lw_P (b : Addr) (xs : List Int32) (args : Array Value) (s : State) : Prop := args = #[.ref b] ∧ s.IntsAt b xs ∧ xs.length ≤ 2048 ∧ (Jvm.Cond.and given_1 narrow_1).before args s = true
def lw_Q (_ : Array Value) (s : State) (o : Outcome) (t : State) : Prop := o = .returned (some (.int 1)) ∧ Framed s o t [] 600000 7302250
def lw_Z (below : List Frame) (a : Array Value) (s : State) : State → Prop := fun t => ∃ o, t.status = .running ∧ Ended t below o ∧ lw_Q a s o t
/-- the law's own end, with 1 on the stack, nothing written that was there before, its room as the claim has it -/
theorem lw_ret {p : Program} {l : Launch} {e : Env} {s : State} {m : MethodId} {below : List Frame} {meth : Method} {c : Code} {b : Nat} (hx : p.tables.exec = Jvm.exec) (hb : c.code = code) (hr : meth.sig.returnType = ret) (hlocks : meth.locks = false) {pc : Nat} {H : Heap} {ls : Array Slot} (hdg : decode code pc = .ok (.ireturn, 1)) : W p l e room_1 s m #[Value.ref b] below meth c H [] 600000 7302250 (lw_Z below #[Value.ref b] s) (F0 m pc ls [.int 1]) := by
  intro T hT X
  obtain ⟨fs, hret, hrun, hended, hW, hframe⟩ := X.leave (v := some (.int 1)) (hlocks := hlocks) (fun h => by rw [hr] at h; cases h)
  have hmeth' : T.vm.method? m = some meth := X.method'
  refine ⟨T.setFrames fs, ?_, .returned (some (.int 1)), hrun, hended, rfl, ⟨_, rfl⟩, hW, hframe⟩
  jvm_step X.here [X.here.top, hx, hb, hdg, hmeth', hr, ret, narrow_b1]
  (try refine ⟨rfl, ?_⟩); (try refine ⟨rfl, ?_⟩)
  first | (intro acts; rw [hret _ acts rfl rfl rfl]) | rw [hret _ _ rfl rfl rfl]
  exact Steps.refl _
/-- what holds at the law's entry: the machine, the code, the tables' words (any of lw_tbl by 'hts w (by decide +kernel)'), the script of L ints xs at the cell b, what the Statement gives of the start (any of its parts by flat_of_before) -/
def lw_At (p : Program) (s : State) (m : MethodId) (meth : Method) (c : Code) (b L : Nat) (xs : Nat → Int32) : Prop :=
  p.tables.exec = Jvm.exec ∧ c.code = code ∧ meth.sig.returnType = ret ∧ c.maxLocals = 4 ∧ s.vm.findClass R_law = some m.cls ∧ (∀ w ∈ lw_tbl, w.before #[Value.ref b] s = true) ∧ va_X b L xs s s.heap ∧ b < s.heap.size ∧ meth.locks = false ∧ (Jvm.Cond.and given_1 narrow_1).before #[Value.ref b] s = true
set_option maxHeartbeats 4000000 in
set_option maxRecDepth 100000 in
/-- the law's loop: at its head, with i ints read, both sides hold the same state -/
theorem la_loop {p : Program} {l : Launch} {e : Env} {s : State} {m : MethodId} {below : List Frame} {meth : Method} {c : Code} {b L : Nat} {xs : Nat → Int32} {D : va_G} {ad : je_C → Nat} {cA : Nat → ClassId} (C0 : lw_At p s m meth c b L xs) (CC : la_C p s m meth c b L xs D ad cA 116 4380) :
    ∀ (n i : Nat), i ≤ L → L < i + n → ∀ (S : jS) (H : Heap) (locs : List Loc) (ls : Array Slot), lv_has ls 4 (la_L b ad i) → la_B s D ad cA S H locs → W p l e room_1 s m #[Value.ref b] below meth c H locs 116 4380 (lw_Z below #[Value.ref b] s) (F0 m 18 ls []) := by
  obtain ⟨hx, hb, hr, hml, hown, hts, hX, hbl, hlocks, hgv⟩ := id C0
  have hL : L ≤ 2048 := CC.2.2.2.2.2.2
  intro n
  induction n with
  | zero =>
    intro i h1 h2
    exact absurd h2 (by omega)
  | succ n ih =>
    intro i hi hn S H locs ls hl hB
    obtain ⟨G, hC, hM, hI, hW, hS⟩ := id hB
    refine lv_iload_n hx hb dL_law_18 rfl (lv_at hl 0 rfl) ?_
    refine lv_aload_n hx hb dL_law_19 rfl (lv_at hl 3 rfl) ?_
    refine va_slen hx hb hX hbl (Nat.not_le.mpr hbl) hS dL_law_20 ?_
    refine lv_iconst (v := nI 4) hx hb dL_law_21 (by decide) ?_
    refine lv_isub hx hb dL_law_22 ?_
    refine lv_icmp_gt (tgt := 770) hx hb dL_law_23 (by decide) (fun h => ?_) (fun h => ?_)
    · refine lv_iconst (v := 1) hx hb dL_law_770 (by decide) ?_
      refine va_forget (fun q hq => hS.2.2 q hq) ?_
      refine W.widen (k := 600000) (n := 7302250) (Nat.le_of_ble_eq_true rfl) (Nat.le_of_ble_eq_true rfl) ?_
      exact lw_ret hx hb hr hlocks dL_law_771
    · have hi4 : i + 4 ≤ L := by
        refine Nat.le_of_not_lt (fun h9 => h ?_)
        refine Int32.lt_iff_toInt_lt.mpr ?_
        have e1 := pk_sub_toInt (a := L) (b := 4) (by omega) (by omega)
        rw [nI_toInt (show i < 2 ^ 31 by omega)]
        have e3 : (Int32.ofNat L - nI 4).toInt = (L : Int) - (4 : Nat) := e1
        rw [e3]
        omega
      refine lv_aload_n hx hb dL_law_26 rfl (lv_at hl 3 rfl) ?_
      refine lv_iload_n hx hb dL_law_27 rfl (lv_at hl 0 rfl) ?_
      refine va_sld hx hb hX hbl (Nat.not_le.mpr hbl) hS (vp_in_nI (by omega) (by omega)) dL_law_28 ?_
      refine lv_bipush (v := nI 31) hx hb dL_law_29 (by decide) ?_
      refine lv_iand hx hb dL_law_31 ?_
      obtain ⟨j, hj, ej⟩ := la_and31 (xs (nI i).toNatClampNeg)
      rw [ej]
      have kk : ∀ (S1 : jS) (H1 : Heap) (locs1 : List Loc), la_B s D ad cA S1 H1 locs1 → W p l e room_1 s m #[Value.ref b] below meth c H1 locs1 116 4380 (lw_Z below #[Value.ref b] s) (F0 m 764 ls []) := fun S1 H1 locs1 hB1 => by
        refine lv_iinc (v := nI (i + 4)) (lv' := la_L b ad (i + 4)) (k := 0) hx hb dL_law_764 hl rfl (nI_add i 4) (by decide) rfl (fun ls2 hl2 => ?_)
        exact lv_goto hx hb dL_law_767 (tgt := 18) (by decide) (ih (i + 4) hi4 (by omega) S1 H1 locs1 ls2 hl2 hB1)
      by_cases h22 : j < 22
      · match j, h22 with
        | 0, _ => exact lv_tableIn (off := 104) (tgt := 136) hx hb dL_law_32 (by decide) (by decide) rfl (by decide) (la_setRoom CC hi4 hl hB kk)
        | 1, _ => exact lv_tableIn (off := 127) (tgt := 159) hx hb dL_law_32 (by decide) (by decide) rfl (by decide) (la_rope CC hi4 hl hB kk)
        | 2, _ => exact lv_tableIn (off := 186) (tgt := 218) hx hb dL_law_32 (by decide) (by decide) rfl (by decide) (la_door CC hi4 hl hB kk)
        | 3, _ => exact lv_tableIn (off := 229) (tgt := 261) hx hb dL_law_32 (by decide) (by decide) rfl (by decide) (la_open CC hi4 hl hB kk)
        | 4, _ => exact lv_tableIn (off := 278) (tgt := 310) hx hb dL_law_32 (by decide) (by decide) rfl (by decide) (la_guard CC hi4 hl hB kk)
        | 5, _ => exact lv_tableIn (off := 311) (tgt := 343) hx hb dL_law_32 (by decide) (by decide) rfl (by decide) (la_enter CC hi4 hl hB kk)
        | 6, _ => exact lv_tableIn (off := 344) (tgt := 376) hx hb dL_law_32 (by decide) (by decide) rfl (by decide) (la_read CC hi4 hl hB kk)
        | 7, _ => exact lv_tableIn (off := 357) (tgt := 389) hx hb dL_law_32 (by decide) (by decide) rfl (by decide) (la_pass CC hi4 hl hB kk)
        | 8, _ => exact lv_tableIn (off := 380) (tgt := 412) hx hb dL_law_32 (by decide) (by decide) rfl (by decide) (la_cell CC hi4 hl hB kk)
        | 9, _ => exact lv_tableIn (off := 413) (tgt := 445) hx hb dL_law_32 (by decide) (by decide) rfl (by decide) (la_doorOf CC hi4 hl hB kk)
        | 10, _ => exact lv_tableIn (off := 446) (tgt := 478) hx hb dL_law_32 (by decide) (by decide) rfl (by decide) (la_count CC hi4 hl hB kk)
        | 11, _ => exact lv_tableIn (off := 469) (tgt := 501) hx hb dL_law_32 (by decide) (by decide) rfl (by decide) (la_distance CC hi4 hl hB kk)
        | 12, _ => exact lv_tableIn (off := 502) (tgt := 534) hx hb dL_law_32 (by decide) (by decide) rfl (by decide) (la_untilOut CC hi4 hl hB kk)
        | 13, _ => exact lv_tableIn (off := 515) (tgt := 547) hx hb dL_law_32 (by decide) (by decide) rfl (by decide) (la_ifRope CC hi4 hl hB kk)
        | 14, _ => exact lv_tableIn (off := 558) (tgt := 590) hx hb dL_law_32 (by decide) (by decide) rfl (by decide) (la_bestRope CC hi4 hl hB kk)
        | 15, _ => exact lv_tableIn (off := 581) (tgt := 613) hx hb dL_law_32 (by decide) (by decide) rfl (by decide) (la_waiting CC hi4 hl hB kk)
        | 16, _ => exact lv_tableIn (off := 594) (tgt := 626) hx hb dL_law_32 (by decide) (by decide) rfl (by decide) (la_put CC hi4 hl hB kk)
        | 17, _ => exact lv_tableIn (off := 647) (tgt := 679) hx hb dL_law_32 (by decide) (by decide) rfl (by decide) (la_wipe CC hi4 hl hB kk)
        | 18, _ => exact lv_tableIn (off := 660) (tgt := 692) hx hb dL_law_32 (by decide) (by decide) rfl (by decide) (la_fault CC hi4 hl hB kk)
        | 19, _ => exact lv_tableIn (off := 673) (tgt := 705) hx hb dL_law_32 (by decide) (by decide) rfl (by decide) (la_undo CC hi4 hl hB kk)
        | 20, _ => exact lv_tableIn (off := 686) (tgt := 718) hx hb dL_law_32 (by decide) (by decide) rfl (by decide) (la_save CC hi4 hl hB kk)
        | 21, _ => exact lv_tableIn (off := 709) (tgt := 741) hx hb dL_law_32 (by decide) (by decide) rfl (by decide) (la_restore CC hi4 hl hB kk)
        | j + 22, h9 => exact absurd h9 (by omega)
      · refine lv_tableOut (tgt := 764) hx hb dL_law_32 (Or.inr ?_) (by decide) (kk S H locs hB)
        rw [nI_toInt (show j < 2 ^ 31 by omega)]
        omega
theorem je_nest_in : ∀ w ∈ je_nest, w ∈ lw_tbl := by decide +kernel
theorem xnest_in : ∀ w ∈ xnest, w ∈ lw_tbl := by decide +kernel
theorem dfX6 : ∀ j, j < 16 → defaultValue (tyX6 j) = vp_V [.null, .null, .null, .int 0, .null, .null, .null, .int 0, .null, .null, .null, .null, .null, .null, .int 0, .int 0] j := by
  intro j hj
  rcases j with _ | _ | _ | _ | _ | _ | _ | _ | _ | _ | _ | _ | _ | _ | _ | _ | j <;> first | rfl | omega
set_option maxHeartbeats 4000000 in
set_option maxRecDepth 100000 in
/-- THE LAW, from its entry -/
theorem whole_start {p : Program} {e : Env} {s : State} {m : MethodId} {below : List Frame} {meth : Method} {c : Code} (l : Launch) (hflags : l.flags = flags0) {b L : Nat} {xs : Nat → Int32} (hL : L ≤ 2048) (C0 : lw_At p s m meth c b L xs) : W p l e room_1 s m #[Value.ref b] below meth c s.heap [] 0 0 (lw_Z below #[Value.ref b] s) (entryFrame m ([Value.ref b] : List Value).toArray 4) := by
  obtain ⟨hx, hb, hr, hml, hown, hts, hX, hbl, hlocks, hgv⟩ := id C0
  have htl : ∀ w ∈ wsL_law, w.before #[Value.ref b] s = true := fun w h => hts w (wsL_law_in w h)
  have hA : ∀ q : Nat, s.heap.size ≤ q → la_A s q := fun _ h => h
  obtain ⟨c0, i0, hKn0⟩ := u_known (C := RX0) (T := TX0) (N := 3) (n := 3) htl inlX0 (hts (.instantiable RX0 3) (by decide +kernel))
  obtain ⟨c1, i1, hKn1⟩ := u_known (C := RX1) (T := TX1) (N := 12) (n := 12) htl inlX1 (hts (.instantiable RX1 12) (by decide +kernel))
  obtain ⟨c2, i2, hKn2⟩ := u_known (C := RX2) (T := TX2) (N := 1) (n := 1) htl inlX2 (hts (.instantiable RX2 1) (by decide +kernel))
  obtain ⟨c3, i3, hKn3⟩ := u_known (C := RX3) (T := TX3) (N := 2) (n := 2) htl inlX3 (hts (.instantiable RX3 2) (by decide +kernel))
  obtain ⟨c4, i4, hKn4⟩ := u_known (C := RX4) (T := TX4) (N := 6) (n := 6) htl inlX4 (hts (.instantiable RX4 6) (by decide +kernel))
  obtain ⟨c5, i5, hKn5⟩ := u_known (C := RX5) (T := TX5) (N := 10) (n := 10) htl inlX5 (hts (.instantiable RX5 10) (by decide +kernel))
  obtain ⟨c6, i6, hKn6⟩ := u_known (C := RX6) (T := TX6) (N := 16) (n := 16) htl inlX6 (hts (.instantiable RX6 16) (by decide +kernel))
  obtain ⟨dC, dI, hKc⟩ : ∃ (dC : Nat → ClassId) (dI : Nat → Nat → Nat), ∀ (k : Nat) (q : vw_C), vwCl[k]? = some q → u_Kn s q.1 q.2.1 q.2.2 (dC k) (dI k) := by
    refine ⟨fun k => match k with | 0 => c0 | 1 => c1 | 2 => c2 | 3 => c3 | 4 => c4 | 5 => c5 | _ => c6, fun k => match k with | 0 => i0 | 1 => i1 | 2 => i2 | 3 => i3 | 4 => i4 | 5 => i5 | _ => i6, ?_⟩
    intro k q hq
    match k, hq with
    | 0, hq => cases hq; exact hKn0
    | 1, hq => cases hq; exact hKn1
    | 2, hq => cases hq; exact hKn2
    | 3, hq => cases hq; exact hKn3
    | 4, hq => cases hq; exact hKn4
    | 5, hq => cases hq; exact hKn5
    | 6, hq => cases hq; exact hKn6
    | k + 7, hq => simp [vwCl] at hq
  obtain ⟨cA, hKa⟩ : ∃ cA : Nat → ClassId, ∀ (k : Nat) (q : ClassId × FieldType), (je_T cA)[k]? = some q → ArrOfT s q.1 q.2 ∧ va_RA s q.1 q.2 := by
    obtain ⟨a0, k0, m0, g01, g02, g03⟩ := Cond.arrayClass_spec (type := .int) (htl (.arrayClass .int) (by decide +kernel))
    obtain ⟨a1, k1, m1, g11, g12, g13⟩ := Cond.arrayClass_spec (type := .boolean) (htl (.arrayClass .boolean) (by decide +kernel))
    obtain ⟨m2, a2, k2, f1, f2, f3, f4, f5⟩ := Cond.arrayOver_spec (n := "RopedHalls$Hall") (hts (.arrayOver (.object "RopedHalls$Hall")) (by decide +kernel))
    refine ⟨fun k => match k with | 0 => a0 | 1 => a1 | _ => a2, fun k q hq => ?_⟩
    match k, hq with
    | 0, hq => cases hq; exact ⟨fun n z => ⟨(fun k h => by cases h), k0, g02, m0, g03⟩, g01⟩
    | 1, hq => cases hq; exact ⟨fun n z => ⟨(fun k h => by cases h), k1, g12, m1, g13⟩, g11⟩
    | 2, hq => cases hq; exact ⟨fun n z => ⟨(fun k h => by cases h), k2, f3, m2, f4⟩, k2, m2, f3, f4, f1, f5⟩
    | k + 3, hq => simp [je_T] at hq
  have hK : va_K (dC, dI) vwCl (je_T cA) s := ⟨hKc, hKa⟩
  have hN : ∀ w ∈ je_nest, va_Nw w s := fun w h => by
    have h9 := hts w (je_nest_in w h)
    obtain ⟨a, i, x, hst, rfl⟩ := je_nest_on h
    exact va_Nw.of rfl h9
  have hN2 : ∀ w ∈ xnest, va_Nw w s := fun w h => by
    have h9 := hts w (xnest_in w h)
    obtain ⟨a, i, x, hst, rfl⟩ := xnest_on h
    exact va_Nw.of rfl h9
  have hAO : va_AO "RopedHalls$Hall" s := va_AO.of (hts (.arrayOver (.object "RopedHalls$Hall")) (by decide +kernel))
  have hS : va_S (la_A s) s.heap s.heap [] := va_S.rf
  have hP : va_P (dC, dI) vwCl [] s.heap := fun k q h => by simp at h
  have hD : va_D (la_A s) [] := ⟨fun i j p q h => by simp at h, fun k q h => by simp at h⟩
  have hl := lv_entry ([.ref b]) (n := 4) (Nat.le_of_ble_eq_true rfl)
  rw [lg_entry_eq]
  generalize (lg_sl ([.ref b]) ++ List.replicate (4 - (lg_sl ([.ref b])).length) Slot.unset).toArray = ls at hl ⊢
  have hl : lv_has ls 4 [(0, .ref b)] := hl
  refine va_new (D := (dC, dI)) (cl := vwCl) (ci := 5) (fs := [.null, .null, .null, .null, .null, .null, .null, .null, .int 0, .int 0]) (C := RX5) (T := TX5) (N := 10) hx hb htl inlX5 tyX5 tyX5_ok hown (htl (.classLink RL 7 RX5) (by decide +kernel)) (hts (.instantiable RX5 10) (by decide +kernel)) (hts (.initialized RX5) (by decide +kernel)) hK hP hD hS hA rfl dfX5 (Nat.le_of_ble_eq_true rfl) (Nat.le_of_ble_eq_true rfl) dL_law_0 (fun q5 H hP hD hS => ?_)
  refine W.widen (k := 1) (n := 10) (by decide) (by decide) ?_
  refine lv_dup hx hb dL_law_3 rfl ?_
  have hPc : va_P (dC, dI) vwCl [(q5, .inr (5, [.null, .null, .null, .null, .null, .null, .null, .null, .int 0, .int 0]))] H := fun k x hx9 => by
    cases k with
    | zero => cases hx9; exact hP _ _ xw_lst
    | succ k => simp at hx9
  have hDc : va_D (fun _ => True) [(q5, .inr (5, [.null, .null, .null, .null, .null, .null, .null, .null, .int 0, .int 0]))] := ⟨fun i j x y hx9 hy9 _ => by
    cases i with
    | zero =>
      cases j with
      | zero => rfl
      | succ j => simp at hy9
    | succ i => simp at hx9, fun _ _ _ => trivial⟩
  refine xw_call (cA := cA) (va_runI (As := []) (rest := [.ref q5]) ⟨hx, hb, hml, hown, htl⟩ (i_X5 l (dC, dI) cA q5 H.size) (cwI 0 htl gL_law_X5_init rfl rfl rfl (hts (.initialized RX5) (by decide +kernel)) (htl (.methodLink RL 9 yX5_init) (by decide +kernel)) (htl (.instanceMethod yX5_init) (by decide +kernel)) rfl (by decide +kernel) ⟨Nat.le_of_ble_eq_true rfl, Nat.le_of_ble_eq_true rfl⟩) ⟨fun a U g mk q => by obtain ⟨q0, q1, qP, qK, qD, qN, qA⟩ := q; exact ⟨q0, q1, qP, va_K.moved (u := U) (U := U.calling g mk a) (Vm.Alike.refl U.vm) qK, qD, xnest_same (s := U) (U := U.calling g mk a) rfl qN, va_AO.moved (u := U) (U := U.calling g mk a) (Vm.Alike.refl U.vm) qA⟩, fun U hU hW => ⟨rfl, by rw [hU], by rw [hU]; exact hPc, va_K.moved hW.alike hK, hDc, xnest_warm hW hN2, va_AO.moved hW.alike hAO⟩⟩ rfl rfl hl.1 rfl (lv_room (Nat.le_of_ble_eq_true rfl)) dL_law_4 ⟨Nat.le_of_ble_eq_true rfl, Nat.le_of_ble_eq_true rfl⟩) hP hD hS hA (fun ad H1 locs1 hq hP1 hD1 hS1 => ?_)
  have hq : ad (5, 0, 0) = q5 := hq
  subst hq
  have hP : va_P (dC, dI) vwCl (ids5.map (xF ad cA)) H1 := hP1
  have hD : va_D (la_A s) (ids5.map (xF ad cA)) := hD1
  have hS := hS1
  clear hPc hDc hP1 hD1 hS1
  refine W.widen (k := 103) (n := 2409) (by decide) (by decide) ?_
  refine lv_astore_n (lv' := [(1, .ref (ad (5, 0, 0))), (0, .ref b)]) hx hb dL_law_7 rfl hl (by decide) rfl (fun ls hl => ?_)
  refine va_new (D := (dC, dI)) (cl := vwCl) (ci := 6) (fs := [.null, .null, .null, .int 0, .null, .null, .null, .int 0, .null, .null, .null, .null, .null, .null, .int 0, .int 0]) (C := RX6) (T := TX6) (N := 16) hx hb htl inlX6 tyX6 tyX6_ok hown (htl (.classLink RL 10 RX6) (by decide +kernel)) (hts (.instantiable RX6 16) (by decide +kernel)) (hts (.initialized RX6) (by decide +kernel)) hK hP hD hS hA rfl dfX6 (Nat.le_of_ble_eq_true rfl) (Nat.le_of_ble_eq_true rfl) dL_law_8 (fun q6 H hP hD hS => ?_)
  refine W.widen (k := 104) (n := 2425) (by decide) (by decide) ?_
  refine lv_dup hx hb dL_law_11 rfl ?_
  have hPc : va_P (dC, dI) vwCl [(q6, .inr (6, [.null, .null, .null, .int 0, .null, .null, .null, .int 0, .null, .null, .null, .null, .null, .null, .int 0, .int 0]))] H := fun k x hx9 => by
    cases k with
    | zero => cases hx9; exact hP _ _ xw_lst
    | succ k => simp at hx9
  have hDc : va_D (fun _ => True) [(q6, .inr (6, [.null, .null, .null, .int 0, .null, .null, .null, .int 0, .null, .null, .null, .null, .null, .null, .int 0, .int 0]))] := ⟨fun i j x y hx9 hy9 _ => by
    cases i with
    | zero =>
      cases j with
      | zero => rfl
      | succ j => simp at hy9
    | succ i => simp at hx9, fun _ _ _ => trivial⟩
  refine xw_call (cA := cA) (va_runI (As := []) (rest := [.ref q6]) ⟨hx, hb, hml, hown, htl⟩ (i_X6 l (dC, dI) cA q6 H.size) (cwI 0 htl gL_law_X6_init rfl rfl rfl (hts (.initialized RX6) (by decide +kernel)) (htl (.methodLink RL 12 yX6_init) (by decide +kernel)) (htl (.instanceMethod yX6_init) (by decide +kernel)) rfl (by decide +kernel) ⟨Nat.le_of_ble_eq_true rfl, Nat.le_of_ble_eq_true rfl⟩) ⟨fun a U g mk q => by obtain ⟨q0, q1, qP, qK, qD⟩ := q; exact ⟨q0, q1, qP, va_K.moved (u := U) (U := U.calling g mk a) (Vm.Alike.refl U.vm) qK, qD⟩, fun U hU hW => ⟨rfl, by rw [hU], by rw [hU]; exact hPc, va_K.moved hW.alike hK, hDc⟩⟩ rfl rfl hl.1 rfl (lv_room (Nat.le_of_ble_eq_true rfl)) dL_law_12 ⟨Nat.le_of_ble_eq_true rfl, Nat.le_of_ble_eq_true rfl⟩) hP hD hS hA (fun f6 H1 locs1 hq hP1 hD1 hS1 => ?_)
  have hq : f6 0 = q6 := hq
  subst hq
  have hP : va_P (dC, dI) vwCl (ids5.map (xF ad cA) ++ xb cA 6 f6) H1 := hP1
  have hD : va_D (la_A s) (ids5.map (xF ad cA) ++ xb cA 6 f6) := hD1
  have hS := hS1
  clear hPc hDc hP1 hD1 hS1
  rw [← ids_W] at hP hD
  refine W.widen (k := 116) (n := 4380) (by decide) (by decide) ?_
  refine lv_astore_n (lv' := [(2, .ref (f6 0)), (1, .ref (ad (5, 0, 0))), (0, .ref b)]) hx hb dL_law_15 rfl hl (by decide) rfl (fun ls hl => ?_)
  refine lv_iconst (v := nI 0) hx hb dL_law_16 (by decide) ?_
  refine lv_istore_n (lv' := la_L b (adW ad f6) 0) hx hb dL_law_17 rfl hl (by decide) rfl (fun ls hl => ?_)
  exact la_loop C0 ⟨⟨hx, hb, hown, hml, htl, hX, hbl⟩, hK, wd_inj hD, hN, wd_A hD, ⟨Nat.le_of_ble_eq_true rfl, Nat.le_of_ble_eq_true rfl⟩, hL⟩ (L + 1) 0 (Nat.zero_le _) (by omega) S0 H1 locs1 ls hl ⟨je_Gi, CR_0, MR_0, Inv_0, wd_W hP, hS⟩
