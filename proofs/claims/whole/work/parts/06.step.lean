/-! ONE STEP IS SOUND, instruction by instruction (laid by wip/whole/gen/gen_sound.py) -/
section JE
variable {p : Program} {l : Launch} {e : Env} {R : Room} {s : State} {m : MethodId} {args : Array Value} {below : List Frame} {meth : Method} {c : Code} {cells slots : Nat} {Q : State → Prop} {D : va_G} {ad : je_C → Nat} {cA : Nat → ClassId} {nL : Nat} {H0 : Heap} {cc : ByteArray} {own : String} {Ts : List Jvm.Cond}
theorem je_s_get (hx : p.tables.exec = Jvm.exec) (hb : c.code = cc) (hown : s.vm.findClass own = some m.cls) (hts : ∀ w ∈ Ts, w.before args s = true) (hK : va_K D vwCl (je_T cA) s) {pc a b k : Nat} {r : vw_C} (hr : vwCl[a]? = some r) (hbr : b < r.2.2) (hlink : Jvm.Cond.fieldLink own k (r.2.1 b).1 (r.2.1 b).2.1 (r.2.1 b).2.2.1 ∈ Ts) (hin : ∀ w ∈ u_ws r.1 r.2.1 r.2.2, w ∈ Ts) (hd : decode cc pc = .ok (.getfield k, 3)) {n : Nat} (hok : je_ok (a, n, 0)) {f : (Nat × Nat) ⊕ je_C} (hf : je_nth (je_F a n) b = some f)
    {G : je_G} {H : Heap} {locs : List Loc} {ls : Array Slot} {rest : List Value} (hW : je_W D ad cA G H) (kk : W p l e R s m args below meth c H locs cells slots Q (F0 m (pc + 3) ls (je_fv ad G a n f :: rest))) : W p l e R s m args below meth c H locs cells slots Q (F0 m pc ls (.ref (ad (a, n, 0)) :: rest)) := by
  obtain ⟨C, T, N⟩ := r
  exact va_get (own := own) (ref := (T b).1) (C := C) (T := T) (N := N) (ci := a) hx hb hts hin hown hK (je_P1 (hW _ hok)) 0 (fs := (je_F a n).map (je_fv ad G a n)) rfl hr b hbr (hts _ hlink) (fun _ h => h) (je_nth_map _ _ _ hf) hd kk
theorem je_s_put (hx : p.tables.exec = Jvm.exec) (hb : c.code = cc) (hown : s.vm.findClass own = some m.cls) (hts : ∀ w ∈ Ts, w.before args s = true) (hK : va_K D vwCl (je_T cA) s) (hJ : je_inj ad) {pc a b k : Nat} {r : vw_C} (hr : vwCl[a]? = some r) (hbr : b < r.2.2) (hlink : Jvm.Cond.fieldLink own k (r.2.1 b).1 (r.2.1 b).2.1 (r.2.1 b).2.2.1 ∈ Ts) (hin : ∀ w ∈ u_ws r.1 r.2.1 r.2.2, w ∈ Ts) (hfin : (r.2.1 b).2.2.2 = false) {ty : FieldType} (hty : parseFieldDescriptor (r.2.1 b).2.2.1 = some ty) {x : Int32} (hn : narrow ty (.int x) = .int x) (hfit : fits ty (.int x) = true) (hd : decode cc pc = .ok (.putfield k, 3)) {n : Nat} (hok : je_ok (a, n, 0)) {q : Nat × Nat} (hf : je_nth (je_F a n) b = some (.inl q))
    {G : je_G} {H : Heap} {locs : List Loc} {ls : Array Slot} {rest : List Value} (hW : je_W D ad cA G H) (hS : va_S (je_A ad) H0 H locs) (kk : ∀ (H1 : Heap) (locs1 : List Loc), je_W D ad cA (je_up G a n q.1 q.2 x) H1 → va_S (je_A ad) H0 H1 locs1 → W p l e R s m args below meth c H1 locs1 cells slots Q (F0 m (pc + 3) ls rest)) : W p l e R s m args below meth c H locs cells slots Q (F0 m pc ls (.int x :: .ref (ad (a, n, 0)) :: rest)) := by
  obtain ⟨C, T, N⟩ := r
  obtain ⟨⟨ty0, hty0⟩, hnm⟩ := je_tys hr
  have hap := va_apart (own := own) hts hin ty0 hty0 hnm hK hr
  have hcell := hW _ hok
  obtain ⟨r, h1, cell, q1, q2, q3, q4⟩ := hcell
  have hr' : r = (C, T, N) := Option.some.inj (h1.symm.trans hr)
  subst hr'
  obtain ⟨hSl, hfc, kC, hkC, hkind⟩ := hK.1 a _ hr
  obtain ⟨cf, kf, fi, f, hi, hsl⟩ := hSl b hbr
  have hlay := hts _ (hin _ (u_in_lay hbr))
  unfold u_lay at hlay
  rw [if_neg (by rw [hfin]; decide)] at hlay
  have hst := (u_facts hfc hkC (u_lays hts hin hbr) hi).1
  have h6 := u_store hfc hkC hkind hlay hi hty hn hfit
  refine W.putK hx hb (f := f) ⟨hown, hts _ hlink, ⟨_, _, _, hi⟩, hst⟩ (by rw [q2]; exact h6) q1 q3 (by rw [hsl]; exact k2_hasslot (q4 b hbr)) rfl rfl hd fun H' e1 e2 e3 => ?_
  rw [hsl] at e1 ⊢
  have hlen : b < ((je_F a n).map (je_fv ad G a n)).length := (List.getElem?_eq_some_iff.mp (je_nth_map (je_fv ad G a n) _ _ hf)).1
  refine kk H' _ (je_W_set hJ hW hok ?_ e3 (fun q' _ hne => je_upF_E hf q' hne)) (hS.put e2 e3 ⟨_, hok, rfl⟩)
  show va_at D vwCl (ad (a, n, 0), .inr (a, (je_F a n).map (je_fv ad (je_up G a n q.1 q.2 x) a n))) H'
  rw [je_upF_fs hf]
  exact ⟨_, hr, t_OB.to (V := updV (vp_V ((je_F a n).map (je_fv ad G a n))) b (.int x)) ⟨_, e1, q2, q3, t_set q4 hap hbr (.int x)⟩ (fun j _ => vp_updV_set hlen (.int x) j)⟩
theorem je_arr_set {G : je_G} {c n r b len i : Nat} {x : Int32} (hi : i < len) : updV (fun j => .int (je_arr G c n len r b j)) i (.int x) = fun j => .int (je_arr (je_up G c n r (b + i) x) c n len r b j) := by
  funext j
  unfold updV
  by_cases hj : j = i
  · subst hj
    unfold je_arr
    rw [if_pos rfl, if_pos hi, je_up_eq]
  · rw [if_neg hj]
    show Value.int (je_arr G c n len r b j) = Value.int (je_arr _ c n len r b j)
    unfold je_arr
    by_cases hl : j < len
    · rw [if_pos hl, if_pos hl, je_up_ne (by omega)]
    · rw [if_neg hl, if_neg hl]
theorem je_arr_at {G : je_G} {c n r b len : Nat} {i : Int32} (h : vp_in i len) : je_arr G c n len r b i.toNatClampNeg = G c n r (b + i.toNatClampNeg) := by
  unfold je_arr
  rw [if_pos (Nat.not_le.mp fun q => h (Or.inr q))]
theorem je_s_iald (hx : p.tables.exec = Jvm.exec) (hb : c.code = cc) (hK : va_K D vwCl (je_T cA) s) {pc c' n j len r b : Nat} (hA : je_Ar c' j = some (0, len, r, b)) {i : Int32} (hi : vp_in i len) (hd : decode cc pc = .ok (.iaload, 1)) (hok : je_ok (c', n, j + 1))
    {G : je_G} {H : Heap} {locs : List Loc} {ls : Array Slot} {rest : List Value} (hW : je_W D ad cA G H) (kk : W p l e R s m args below meth c H locs cells slots Q (F0 m (pc + 1) ls (.int (G c' n r (b + i.toNatClampNeg)) :: rest))) : W p l e R s m args below meth c H locs cells slots Q (F0 m pc ls (.int i :: .ref (ad (c', n, j + 1)) :: rest)) := by
  have h1 := hW _ hok
  dsimp only at h1
  rw [je_Ar_E hA] at h1
  refine va_iald (D := D) (cl := vwCl) (tys := je_T cA) (f := je_arr G c' n len r b) (n := len) (cA := cA 0) hx hb hK (je_P1 h1) 0 0 rfl rfl hi hd ?_
  rw [je_arr_at hi]
  exact kk
theorem je_s_zald (hx : p.tables.exec = Jvm.exec) (hb : c.code = cc) (hK : va_K D vwCl (je_T cA) s) {pc c' n j len r b : Nat} (hA : je_Ar c' j = some (1, len, r, b)) {i : Int32} (hi : vp_in i len) (hd : decode cc pc = .ok (.baload, 1)) (hok : je_ok (c', n, j + 1))
    {G : je_G} {H : Heap} {locs : List Loc} {ls : Array Slot} {rest : List Value} (hW : je_W D ad cA G H) (kk : W p l e R s m args below meth c H locs cells slots Q (F0 m (pc + 1) ls (.int (G c' n r (b + i.toNatClampNeg)) :: rest))) : W p l e R s m args below meth c H locs cells slots Q (F0 m pc ls (.int i :: .ref (ad (c', n, j + 1)) :: rest)) := by
  have h1 := hW _ hok
  dsimp only at h1
  rw [je_Ar_E hA] at h1
  refine va_zald (D := D) (cl := vwCl) (tys := je_T cA) (f := je_arr G c' n len r b) (n := len) (cA := cA 1) hx hb hK (je_P1 h1) 0 1 rfl rfl hi hd ?_
  rw [je_arr_at hi]
  exact kk
theorem je_s_aald (hx : p.tables.exec = Jvm.exec) (hb : c.code = cc) (hK : va_K D vwCl (je_T cA) s) {pc c' n j : Nat} {q : Nat × Nat} (hA : je_Ra c' j = some q) {i : Int32} (hi : vp_in i q.1) (hd : decode cc pc = .ok (.aaload, 1)) (hok : je_ok (c', n, j + 1))
    {G : je_G} {H : Heap} {locs : List Loc} {ls : Array Slot} {rest : List Value} (hW : je_W D ad cA G H) (kk : W p l e R s m args below meth c H locs cells slots Q (F0 m (pc + 1) ls (.ref (ad (1, q.2 + i.toNatClampNeg, 0)) :: rest))) : W p l e R s m args below meth c H locs cells slots Q (F0 m pc ls (.int i :: .ref (ad (c', n, j + 1)) :: rest)) := by
  have h1 := hW _ hok
  dsimp only at h1
  rw [je_Ra_E hA] at h1
  exact va_aldq (D := D) (cl := vwCl) (tys := je_T cA) (n := q.1) (cA := cA 2) (C := "RopedHalls$Hall") (f := fun i => some (ad (1, q.2 + i, 0))) hx hb hK (je_P1 h1) 0 2 rfl rfl hi hd kk
theorem je_s_iast (hx : p.tables.exec = Jvm.exec) (hb : c.code = cc) (hK : va_K D vwCl (je_T cA) s) (hJ : je_inj ad) {pc c' n j len r b : Nat} (hA : je_Ar c' j = some (0, len, r, b)) {i x : Int32} (hi : vp_in i len) (hd : decode cc pc = .ok (.iastore, 1)) (hok : je_ok (c', n, j + 1))
    {G : je_G} {H : Heap} {locs : List Loc} {ls : Array Slot} {rest : List Value} (hW : je_W D ad cA G H) (hS : va_S (je_A ad) H0 H locs) (kk : ∀ (H1 : Heap) (locs1 : List Loc), je_W D ad cA (je_up G c' n r (b + i.toNatClampNeg) x) H1 → va_S (je_A ad) H0 H1 locs1 → W p l e R s m args below meth c H1 locs1 cells slots Q (F0 m (pc + 1) ls rest)) : W p l e R s m args below meth c H locs cells slots Q (F0 m pc ls (.int x :: .int i :: .ref (ad (c', n, j + 1)) :: rest)) := by
  have hlt : i.toNatClampNeg < len := Nat.not_le.mp fun q => hi (Or.inr q)
  have h1 := hW _ hok
  dsimp only at h1
  rw [je_Ar_E hA] at h1
  refine W.iast hx hb h1 ((hK.2 0 _ rfl).1 len (fun q => .int (je_arr G c' n len r b q))) (fun q => by cases q) (by show ¬ (i < 0 ∨ (arrV _ _ _).slots.size ≤ _); rw [arrV_size]; exact hi) rfl rfl hd fun H1 e1 z oq => ?_
  refine kk H1 _ (je_W_set hJ hW hok ?_ oq (fun q' _ hne => je_upA_E hA hlt q' hne)) (hS.put z oq ⟨_, hok, rfl⟩)
  dsimp only
  rw [je_Ar_E hA]
  show H1[ad (c', n, j + 1)]? = some (vp_cell _ _)
  rw [e1, vp_cell_i, vp_cell_i, arrV_store, je_arr_set hlt]
theorem je_s_zast (hx : p.tables.exec = Jvm.exec) (hb : c.code = cc) (hK : va_K D vwCl (je_T cA) s) (hJ : je_inj ad) {pc c' n j len r b : Nat} (hA : je_Ar c' j = some (1, len, r, b)) {i x : Int32} (hi : vp_in i len) (h01 : x = 0 ∨ x = 1) (hd : decode cc pc = .ok (.bastore, 1)) (hok : je_ok (c', n, j + 1))
    {G : je_G} {H : Heap} {locs : List Loc} {ls : Array Slot} {rest : List Value} (hW : je_W D ad cA G H) (hS : va_S (je_A ad) H0 H locs) (kk : ∀ (H1 : Heap) (locs1 : List Loc), je_W D ad cA (je_up G c' n r (b + i.toNatClampNeg) x) H1 → va_S (je_A ad) H0 H1 locs1 → W p l e R s m args below meth c H1 locs1 cells slots Q (F0 m (pc + 1) ls rest)) : W p l e R s m args below meth c H locs cells slots Q (F0 m pc ls (.int x :: .int i :: .ref (ad (c', n, j + 1)) :: rest)) := by
  have hlt : i.toNatClampNeg < len := Nat.not_le.mp fun q => hi (Or.inr q)
  have h1 := hW _ hok
  dsimp only at h1
  rw [je_Ar_E hA] at h1
  have hn : narrow .boolean (.int x) = .int x := by rcases h01 with rfl | rfl <;> rfl
  refine W.zast hx hb h1 ((hK.2 1 _ rfl).1 len (fun q => .int (je_arr G c' n len r b q))) (fun q => by cases q) (by show ¬ (i < 0 ∨ (arrV _ _ _).slots.size ≤ _); rw [arrV_size]; exact hi) rfl rfl hd fun H1 e1 z oq => ?_
  refine kk H1 _ (je_W_set hJ hW hok ?_ oq (fun q' _ hne => je_upA_E hA hlt q' hne)) (hS.put z oq ⟨_, hok, rfl⟩)
  dsimp only
  rw [je_Ar_E hA]
  show H1[ad (c', n, j + 1)]? = some (vp_cell _ _)
  rw [e1, hn, vp_cell_i, vp_cell_i, arrV_store, je_arr_set hlt]

theorem va_tsInt {lo hi : Int} {k : Nat} (h1 : -1000 < lo) (h2 : hi < 1000) (h3 : lo + (k : Int) ≤ hi) : (Int32.ofInt (lo + (k : Int))).toInt = lo + (k : Int) := by
  rw [Int32.toInt_ofInt]
  exact Int.bmod_eq_of_le (by simp [Int32.size]; omega) (by simp [Int32.size]; omega)
theorem je_cond_ok {A B : Prop} {op : ClassFile.Cond} {x y : Int32} (h : je_cond op x y A B) : je_cond op x y A B := h
set_option maxHeartbeats 4000000 in
theorem je_sound (hx : p.tables.exec = Jvm.exec) (hb : c.code = cc) (hown : s.vm.findClass own = some m.cls) (hml : c.maxLocals = nL) (hts : ∀ w ∈ Ts, w.before args s = true) (hK : va_K D vwCl (je_T cA) s) (hJ : je_inj ad) (hroom : 1 ≤ R.frames ∧ 21 ≤ R.locals ∧ cells ≤ R.cells ∧ slots ≤ R.slots) {rt : Nat} {Rt : je_G → Option je_V → Prop}
    (hRi : ∀ G pc x H locs ls, decode cc pc = .ok (.ireturn, 1) → (rt = 1 ∨ (rt = 2 ∧ (x = 0 ∨ x = 1))) → Rt G (some (jI x)) → je_W D ad cA G H → va_S (je_A ad) H0 H locs → W p l e R s m args below meth c H locs cells slots Q (F0 m pc ls [.int x]))
    (hRa : ∀ G pc (r : Option je_C) H locs ls, decode cc pc = .ok (.areturn, 1) → rt = 3 → Rt G (some (.inr (.inr r))) → (∀ q, r = some q → je_ok q) → je_W D ad cA G H → va_S (je_A ad) H0 H locs → W p l e R s m args below meth c H locs cells slots Q (F0 m pc ls [je_e ad (.inr (.inr r))]))
    (hRv : ∀ G pc H locs ls, decode cc pc = .ok (.return_, 1) → rt = 0 → Rt G none → je_W D ad cA G H → va_S (je_A ad) H0 H locs → W p l e R s m args below meth c H locs cells slots Q (F0 m pc ls []))
    {pc : Nat} {t : je_I} {G : je_G} {L : List (Option je_V)} {S : List je_V} (hok : je_okI own cc Ts pc t) {K : je_K} (hKJ : ∀ G pc L S, K G pc L S → je_J p l e R s m args below meth c cells slots Q D ad cA nL H0 G pc L S) (h : je_step t rt K Rt G L S) : je_J p l e R s m args below meth c cells slots Q D ad cA nL H0 G pc L S := by
  obtain ⟨i, nx, a, b, tg, v⟩ := t
  intro h0 hL hS H locs ls hW hV hl
  have hls : c.maxLocals = ls.size := hml.trans hl.1.symm
  cases i with
  | iconst n =>
    obtain ⟨hd, e1, e2⟩ := hok
    subst e1
    rw [Nat.add_sub_cancel_left] at hd
    exact lv_iconst hx hb hd e2 (hKJ _ _ _ _ h h0 hL (je_oks_i hS) H locs ls hW hV hl)
  | bipush n =>
    obtain ⟨hd, e1, e2⟩ := hok
    subst e1
    rw [Nat.add_sub_cancel_left] at hd
    exact lv_bipush hx hb hd e2 (hKJ _ _ _ _ h h0 hL (je_oks_i hS) H locs ls hW hV hl)
  | sipush n =>
    obtain ⟨hd, e1, e2⟩ := hok
    subst e1
    rw [Nat.add_sub_cancel_left] at hd
    exact lv_sipush hx hb hd e2 (hKJ _ _ _ _ h h0 hL (je_oks_i hS) H locs ls hW hV hl)
  | ldc_w k =>
    obtain ⟨hd, e1, e2⟩ := hok
    subst e1
    rw [Nat.add_sub_cancel_left] at hd
    exact lv_ldcw hx hb hown (hts _ e2) hd (hKJ _ _ _ _ h h0 hL (je_oks_i hS) H locs ls hW hV hl)
  | lconst n =>
    obtain ⟨hd, e1, e2⟩ := hok
    subst e1
    rw [Nat.add_sub_cancel_left] at hd
    subst e2
    exact lv_lconst hx hb hd rfl (hKJ _ _ _ _ h h0 hL (je_oks_l hS) H locs ls hW hV hl)
  | ldc2_w k =>
    obtain ⟨hd, e1, e2⟩ := hok
    subst e1
    rw [Nat.add_sub_cancel_left] at hd
    exact lv_ldc2 hx hb hown (hts _ e2) hd (hKJ _ _ _ _ h h0 hL (je_oks_l hS) H locs ls hW hV hl)
  | aconst_null =>
    obtain ⟨hd, e1⟩ := hok
    subst e1
    rw [Nat.add_sub_cancel_left] at hd
    exact lv_null hx hb hd (hKJ _ _ _ _ h h0 hL (je_oks_n hS) H locs ls hW hV hl)
  | iload_n k =>
    obtain ⟨hd, e1, e3⟩ := hok
    subst e1
    rw [Nat.add_sub_cancel_left] at hd
    obtain ⟨x, e2, hh⟩ := je_gi_inv h
    clear h
    have h := hh
    clear hh
    have hg := hl.2.2 _ (je_get_mem (ad := ad) L a 0 e2)
    rw [Nat.zero_add] at hg
    exact lv_iload_n hx hb hd e3 hg (hKJ _ _ _ _ h h0 hL (je_oks_i hS) H locs ls hW hV hl)
  | iload k =>
    obtain ⟨hd, e1, e3⟩ := hok
    subst e1
    rw [Nat.add_sub_cancel_left] at hd
    obtain ⟨x, e2, hh⟩ := je_gi_inv h
    clear h
    have h := hh
    clear hh
    have hg := hl.2.2 _ (je_get_mem (ad := ad) L a 0 e2)
    rw [Nat.zero_add] at hg
    subst e3
    exact lv_iload hx hb hd hg (hKJ _ _ _ _ h h0 hL (je_oks_i hS) H locs ls hW hV hl)
  | lload_n k =>
    obtain ⟨hd, e1, e3⟩ := hok
    subst e1
    rw [Nat.add_sub_cancel_left] at hd
    obtain ⟨x, e2, hh⟩ := je_gl_inv h
    clear h
    have h := hh
    clear hh
    have hg := hl.2.2 _ (je_get_mem (ad := ad) L a 0 e2)
    rw [Nat.zero_add] at hg
    exact lv_lload_n hx hb hd e3 hg (hKJ _ _ _ _ h h0 hL (je_oks_l hS) H locs ls hW hV hl)
  | aload_n k =>
    obtain ⟨hd, e1, e3⟩ := hok
    subst e1
    rw [Nat.add_sub_cancel_left] at hd
    obtain ⟨x, e2, hh⟩ := je_gr_inv h
    clear h
    have h := hh
    clear hh
    have hg := hl.2.2 _ (je_get_mem (ad := ad) L a 0 e2)
    rw [Nat.zero_add] at hg
    cases x with
    | none => exact lv_aload_nN hx hb hd e3 hg (hKJ _ _ _ _ h h0 hL (je_oks_n hS) H locs ls hW hV hl)
    | some q => exact lv_aload_n hx hb hd e3 hg (hKJ _ _ _ _ h h0 hL (je_oks_r (hL q (je_get_in L a e2)) hS) H locs ls hW hV hl)
  | istore_n k =>
    obtain ⟨hd, e1, e3⟩ := hok
    subst e1
    rw [Nat.add_sub_cancel_left] at hd
    obtain ⟨hnl, hh⟩ := je_bb_inv h
    clear h
    have h := hh
    clear hh
    obtain ⟨x, S1, e2, hh⟩ := je_i1_inv h
    clear h
    have h := hh
    clear hh
    subst e2
    obtain ⟨L1, hh, hlt, hlen, hg⟩ := je_put_inv L a _ h
    clear h
    have h := hh
    clear hh
    refine lv_istore_n hx hb hd e3 hl (Nat.lt_of_lt_of_le hlt h0) rfl (fun ls1 hl1 => ?_)
    exact hKJ _ _ _ _ h (by rw [hlen]; exact h0) (je_okL_put hL (fun q hq => by cases hq) hg) (je_oks_tl hS) H locs ls1 hW hV (lv_mono hl1 (je_st1 (v := jI x) hnl hg))
  | istore k =>
    obtain ⟨hd, e1, e3⟩ := hok
    subst e1
    rw [Nat.add_sub_cancel_left] at hd
    obtain ⟨hnl, hh⟩ := je_bb_inv h
    clear h
    have h := hh
    clear hh
    obtain ⟨x, S1, e2, hh⟩ := je_i1_inv h
    clear h
    have h := hh
    clear hh
    subst e2
    obtain ⟨L1, hh, hlt, hlen, hg⟩ := je_put_inv L a _ h
    clear h
    have h := hh
    clear hh
    subst e3
    refine lv_istore hx hb hd hl (Nat.lt_of_lt_of_le hlt h0) rfl (fun ls1 hl1 => ?_)
    exact hKJ _ _ _ _ h (by rw [hlen]; exact h0) (je_okL_put hL (fun q hq => by cases hq) hg) (je_oks_tl hS) H locs ls1 hW hV (lv_mono hl1 (je_st1 (v := jI x) hnl hg))
  | lstore_n k =>
    obtain ⟨hd, e1, e3⟩ := hok
    subst e1
    rw [Nat.add_sub_cancel_left] at hd
    obtain ⟨hnl, hh⟩ := je_bb_inv h
    clear h
    have h := hh
    clear hh
    obtain ⟨x, S1, e2, hh⟩ := je_l1_inv h
    clear h
    have h := hh
    clear hh
    subst e2
    obtain ⟨L1, hh, hlt, hlen, hg⟩ := je_put_inv L a _ h
    clear h
    have h := hh
    clear hh
    obtain ⟨L2, hh, hlt2, hlen2, hg2⟩ := je_put_inv L1 (a + 1) _ h
    clear h
    have h := hh
    clear hh
    refine lv_lstore_n hx hb hd e3 hl (Nat.lt_of_lt_of_le (by rw [hlen] at hlt2; exact hlt2) h0) rfl (fun ls1 hl1 => ?_)
    exact hKJ _ _ _ _ h (by rw [hlen2, hlen]; exact h0) (je_okL_put (je_okL_put hL (fun q hq => by cases hq) hg) (fun q hq => by cases hq) hg2) (je_oks_tl hS) H locs ls1 hW hV (lv_mono hl1 (je_st2 (v := jL x) hnl hg hg2))
  | iinc k n =>
    obtain ⟨hd, e1, e3, e4⟩ := hok
    subst e1
    rw [Nat.add_sub_cancel_left] at hd
    obtain ⟨hnl, hh⟩ := je_bb_inv h
    clear h
    have h := hh
    clear hh
    obtain ⟨x, e2, hh⟩ := je_gi_inv h
    clear h
    have h := hh
    clear hh
    obtain ⟨L1, hh, hlt, hlen, hg⟩ := je_put_inv L a _ h
    clear h
    have h := hh
    clear hh
    subst e3
    have hm := je_get_mem (ad := ad) L _ 0 e2
    rw [Nat.zero_add] at hm
    obtain ⟨z, hz⟩ := List.getElem?_of_mem hm
    refine lv_iinc hx hb hd hl (k := z) hz (by rw [e4]) (Nat.lt_of_lt_of_le hlt h0) rfl (fun ls1 hl1 => ?_)
    exact hKJ _ _ _ _ h (by rw [hlen]; exact h0) (je_okL_put hL (fun q hq => by cases hq) hg) hS H locs ls1 hW hV (lv_mono hl1 (je_st1 (v := jI (x + v)) hnl hg))
  | iadd =>
    obtain ⟨hd, e1⟩ := hok
    subst e1
    rw [Nat.add_sub_cancel_left] at hd
    obtain ⟨y, x, S1, e2, hh⟩ := je_i2_inv h
    clear h
    have h := hh
    clear hh
    subst e2
    exact lv_iadd hx hb hd (hKJ _ _ _ _ h h0 hL (je_oks_i (je_oks_tl (je_oks_tl hS))) H locs ls hW hV hl)
  | isub =>
    obtain ⟨hd, e1⟩ := hok
    subst e1
    rw [Nat.add_sub_cancel_left] at hd
    obtain ⟨y, x, S1, e2, hh⟩ := je_i2_inv h
    clear h
    have h := hh
    clear hh
    subst e2
    exact lv_isub hx hb hd (hKJ _ _ _ _ h h0 hL (je_oks_i (je_oks_tl (je_oks_tl hS))) H locs ls hW hV hl)
  | imul =>
    obtain ⟨hd, e1⟩ := hok
    subst e1
    rw [Nat.add_sub_cancel_left] at hd
    obtain ⟨y, x, S1, e2, hh⟩ := je_i2_inv h
    clear h
    have h := hh
    clear hh
    subst e2
    exact lv_imul hx hb hd (hKJ _ _ _ _ h h0 hL (je_oks_i (je_oks_tl (je_oks_tl hS))) H locs ls hW hV hl)
  | iand =>
    obtain ⟨hd, e1⟩ := hok
    subst e1
    rw [Nat.add_sub_cancel_left] at hd
    obtain ⟨y, x, S1, e2, hh⟩ := je_i2_inv h
    clear h
    have h := hh
    clear hh
    subst e2
    exact lv_iand hx hb hd (hKJ _ _ _ _ h h0 hL (je_oks_i (je_oks_tl (je_oks_tl hS))) H locs ls hW hV hl)
  | ior =>
    obtain ⟨hd, e1⟩ := hok
    subst e1
    rw [Nat.add_sub_cancel_left] at hd
    obtain ⟨y, x, S1, e2, hh⟩ := je_i2_inv h
    clear h
    have h := hh
    clear hh
    subst e2
    exact lv_ior hx hb hd (hKJ _ _ _ _ h h0 hL (je_oks_i (je_oks_tl (je_oks_tl hS))) H locs ls hW hV hl)
  | ixor =>
    obtain ⟨hd, e1⟩ := hok
    subst e1
    rw [Nat.add_sub_cancel_left] at hd
    obtain ⟨y, x, S1, e2, hh⟩ := je_i2_inv h
    clear h
    have h := hh
    clear hh
    subst e2
    exact lv_ixor hx hb hd (hKJ _ _ _ _ h h0 hL (je_oks_i (je_oks_tl (je_oks_tl hS))) H locs ls hW hV hl)
  | ishl =>
    obtain ⟨hd, e1⟩ := hok
    subst e1
    rw [Nat.add_sub_cancel_left] at hd
    obtain ⟨y, x, S1, e2, hh⟩ := je_i2_inv h
    clear h
    have h := hh
    clear hh
    subst e2
    exact lv_ishl hx hb hd (hKJ _ _ _ _ h h0 hL (je_oks_i (je_oks_tl (je_oks_tl hS))) H locs ls hW hV hl)
  | iushr =>
    obtain ⟨hd, e1⟩ := hok
    subst e1
    rw [Nat.add_sub_cancel_left] at hd
    obtain ⟨y, x, S1, e2, hh⟩ := je_i2_inv h
    clear h
    have h := hh
    clear hh
    subst e2
    exact lv_iushr hx hb hd rfl (hKJ _ _ _ _ h h0 hL (je_oks_i (je_oks_tl (je_oks_tl hS))) H locs ls hW hV hl)
  | idiv =>
    obtain ⟨hd, e1⟩ := hok
    subst e1
    rw [Nat.add_sub_cancel_left] at hd
    obtain ⟨y, x, S1, e2, hne, hh⟩ := je_i2_inv h
    clear h
    have h := hh
    clear hh
    subst e2
    exact lv_idiv hx hb hd hne (hKJ _ _ _ _ h h0 hL (je_oks_i (je_oks_tl (je_oks_tl hS))) H locs ls hW hV hl)
  | irem =>
    obtain ⟨hd, e1⟩ := hok
    subst e1
    rw [Nat.add_sub_cancel_left] at hd
    obtain ⟨y, x, S1, e2, hne, hh⟩ := je_i2_inv h
    clear h
    have h := hh
    clear hh
    subst e2
    exact lv_irem hx hb hd hne (hKJ _ _ _ _ h h0 hL (je_oks_i (je_oks_tl (je_oks_tl hS))) H locs ls hW hV hl)
  | land =>
    obtain ⟨hd, e1⟩ := hok
    subst e1
    rw [Nat.add_sub_cancel_left] at hd
    obtain ⟨y, x, S1, e2, hh⟩ := je_l2_inv h
    clear h
    have h := hh
    clear hh
    subst e2
    exact lv_land hx hb hd (hKJ _ _ _ _ h h0 hL (je_oks_l (je_oks_tl (je_oks_tl hS))) H locs ls hW hV hl)
  | lor =>
    obtain ⟨hd, e1⟩ := hok
    subst e1
    rw [Nat.add_sub_cancel_left] at hd
    obtain ⟨y, x, S1, e2, hh⟩ := je_l2_inv h
    clear h
    have h := hh
    clear hh
    subst e2
    exact lv_lor hx hb hd (hKJ _ _ _ _ h h0 hL (je_oks_l (je_oks_tl (je_oks_tl hS))) H locs ls hW hV hl)
  | lcmp =>
    obtain ⟨hd, e1⟩ := hok
    subst e1
    rw [Nat.add_sub_cancel_left] at hd
    obtain ⟨y, x, S1, e2, hh⟩ := je_l2_inv h
    clear h
    have h := hh
    clear hh
    subst e2
    exact W.lcmp hx hb hd (hKJ _ _ _ _ h h0 hL (je_oks_i (je_oks_tl (je_oks_tl hS))) H locs ls hW hV hl)
  | lushr =>
    obtain ⟨hd, e1⟩ := hok
    subst e1
    rw [Nat.add_sub_cancel_left] at hd
    obtain ⟨y, S1, e2, hh⟩ := je_i1_inv h
    clear h
    have h := hh
    clear hh
    obtain ⟨x, S2, e3, hh⟩ := je_l1_inv h
    clear h
    have h := hh
    clear hh
    subst e2
    subst e3
    exact lv_lushr hx hb hd rfl (hKJ _ _ _ _ h h0 hL (je_oks_l (je_oks_tl (je_oks_tl hS))) H locs ls hW hV hl)
  | lshl =>
    obtain ⟨hd, e1⟩ := hok
    subst e1
    rw [Nat.add_sub_cancel_left] at hd
    obtain ⟨y, S1, e2, hh⟩ := je_i1_inv h
    clear h
    have h := hh
    clear hh
    obtain ⟨x, S2, e3, hh⟩ := je_l1_inv h
    clear h
    have h := hh
    clear hh
    subst e2
    subst e3
    exact lv_lshl hx hb hd rfl (hKJ _ _ _ _ h h0 hL (je_oks_l (je_oks_tl (je_oks_tl hS))) H locs ls hW hV hl)
  | i2l =>
    obtain ⟨hd, e1⟩ := hok
    subst e1
    rw [Nat.add_sub_cancel_left] at hd
    obtain ⟨x, S1, e2, hh⟩ := je_i1_inv h
    clear h
    have h := hh
    clear hh
    subst e2
    exact lv_i2l hx hb hd rfl (hKJ _ _ _ _ h h0 hL (je_oks_l (je_oks_tl hS)) H locs ls hW hV hl)
  | l2i =>
    obtain ⟨hd, e1⟩ := hok
    subst e1
    rw [Nat.add_sub_cancel_left] at hd
    obtain ⟨x, S1, e2, hh⟩ := je_l1_inv h
    clear h
    have h := hh
    clear hh
    subst e2
    exact lv_l2i hx hb hd rfl (hKJ _ _ _ _ h h0 hL (je_oks_i (je_oks_tl hS)) H locs ls hW hV hl)
  | dup =>
    obtain ⟨hd, e1⟩ := hok
    subst e1
    rw [Nat.add_sub_cancel_left] at hd
    dsimp only [je_step] at h
    obtain ⟨x, S1, e2, hh, hc⟩ := je_v1_inv h
    clear h
    have h := hh
    clear hh
    subst e2
    refine lv_dup hx hb hd (hc ad) (hKJ _ _ _ _ h h0 hL (fun q hq => ?_) H locs ls hW hV hl)
    rcases List.mem_cons.mp hq with h1 | h1
    · exact hS q (List.mem_cons.mpr (Or.inl h1))
    · exact hS q h1
  | dup2 =>
    obtain ⟨hd, e1⟩ := hok
    subst e1
    rw [Nat.add_sub_cancel_left] at hd
    dsimp only [je_step] at h
    obtain ⟨x, S1, e2, hh, hc⟩ := je_v1_inv h
    clear h
    have h := hh
    clear hh
    obtain ⟨y, S2, e3, hh, hc2⟩ := je_v1_inv h
    clear h
    have h := hh
    clear hh
    subst e2
    subst e3
    refine lv_dup2_11 hx hb hd (hc ad) (hc2 ad) (hKJ _ _ _ _ h h0 hL (fun q hq => ?_) H locs ls hW hV hl)
    rcases List.mem_cons.mp hq with h1 | h1
    · exact hS q (List.mem_cons.mpr (Or.inl h1))
    rcases List.mem_cons.mp h1 with h1 | h1
    · exact hS q (List.mem_cons.mpr (Or.inr (List.mem_cons.mpr (Or.inl h1))))
    · exact hS q h1
  | pop =>
    obtain ⟨hd, e1⟩ := hok
    subst e1
    rw [Nat.add_sub_cancel_left] at hd
    dsimp only [je_step] at h
    obtain ⟨x, S1, e2, hh, hc⟩ := je_v1_inv h
    clear h
    have h := hh
    clear hh
    subst e2
    exact lv_pop hx hb hd (hc ad) (hKJ _ _ _ _ h h0 hL (je_oks_tl hS) H locs ls hW hV hl)
  | ifCond op off =>
    obtain ⟨hd, e1, e3⟩ := hok
    subst e1
    rw [Nat.add_sub_cancel_left] at hd
    obtain ⟨x, S1, e2, hh⟩ := je_i1_inv h
    clear h
    have h := hh
    clear hh
    subst e2
    cases op with
    | eq => exact lv_if_eq hx hb hd e3 (fun q => hKJ _ _ _ _ (h.1 q) h0 hL (je_oks_tl hS) H locs ls hW hV hl) (fun q => hKJ _ _ _ _ (h.2 q) h0 hL (je_oks_tl hS) H locs ls hW hV hl)
    | ne => exact lv_if_ne hx hb hd e3 (fun q => hKJ _ _ _ _ (h.1 q) h0 hL (je_oks_tl hS) H locs ls hW hV hl) (fun q => hKJ _ _ _ _ (h.2 q) h0 hL (je_oks_tl hS) H locs ls hW hV hl)
    | lt => exact lv_if_lt hx hb hd e3 (fun q => hKJ _ _ _ _ (h.1 q) h0 hL (je_oks_tl hS) H locs ls hW hV hl) (fun q => hKJ _ _ _ _ (h.2 q) h0 hL (je_oks_tl hS) H locs ls hW hV hl)
    | ge => exact lv_if_ge hx hb hd e3 (fun q => hKJ _ _ _ _ (h.1 q) h0 hL (je_oks_tl hS) H locs ls hW hV hl) (fun q => hKJ _ _ _ _ (h.2 q) h0 hL (je_oks_tl hS) H locs ls hW hV hl)
    | gt => exact lv_if_gt hx hb hd e3 (fun q => hKJ _ _ _ _ (h.1 q) h0 hL (je_oks_tl hS) H locs ls hW hV hl) (fun q => hKJ _ _ _ _ (h.2 q) h0 hL (je_oks_tl hS) H locs ls hW hV hl)
    | le => exact lv_if_le hx hb hd e3 (fun q => hKJ _ _ _ _ (h.1 q) h0 hL (je_oks_tl hS) H locs ls hW hV hl) (fun q => hKJ _ _ _ _ (h.2 q) h0 hL (je_oks_tl hS) H locs ls hW hV hl)
  | if_icmp op off =>
    obtain ⟨hd, e1, e3⟩ := hok
    subst e1
    rw [Nat.add_sub_cancel_left] at hd
    obtain ⟨y, x, S1, e2, hh⟩ := je_i2_inv h
    clear h
    have h := hh
    clear hh
    subst e2
    cases op with
    | eq => exact lv_icmp_eq hx hb hd e3 (fun q => hKJ _ _ _ _ (h.1 q) h0 hL (je_oks_tl (je_oks_tl hS)) H locs ls hW hV hl) (fun q => hKJ _ _ _ _ (h.2 q) h0 hL (je_oks_tl (je_oks_tl hS)) H locs ls hW hV hl)
    | ne => exact lv_icmp_ne hx hb hd e3 (fun q => hKJ _ _ _ _ (h.1 q) h0 hL (je_oks_tl (je_oks_tl hS)) H locs ls hW hV hl) (fun q => hKJ _ _ _ _ (h.2 q) h0 hL (je_oks_tl (je_oks_tl hS)) H locs ls hW hV hl)
    | lt => exact lv_icmp_lt hx hb hd e3 (fun q => hKJ _ _ _ _ (h.1 q) h0 hL (je_oks_tl (je_oks_tl hS)) H locs ls hW hV hl) (fun q => hKJ _ _ _ _ (h.2 q) h0 hL (je_oks_tl (je_oks_tl hS)) H locs ls hW hV hl)
    | ge => exact lv_icmp_ge hx hb hd e3 (fun q => hKJ _ _ _ _ (h.1 q) h0 hL (je_oks_tl (je_oks_tl hS)) H locs ls hW hV hl) (fun q => hKJ _ _ _ _ (h.2 q) h0 hL (je_oks_tl (je_oks_tl hS)) H locs ls hW hV hl)
    | gt => exact lv_icmp_gt hx hb hd e3 (fun q => hKJ _ _ _ _ (h.1 q) h0 hL (je_oks_tl (je_oks_tl hS)) H locs ls hW hV hl) (fun q => hKJ _ _ _ _ (h.2 q) h0 hL (je_oks_tl (je_oks_tl hS)) H locs ls hW hV hl)
    | le => exact lv_icmp_le hx hb hd e3 (fun q => hKJ _ _ _ _ (h.1 q) h0 hL (je_oks_tl (je_oks_tl hS)) H locs ls hW hV hl) (fun q => hKJ _ _ _ _ (h.2 q) h0 hL (je_oks_tl (je_oks_tl hS)) H locs ls hW hV hl)
  | goto off =>
    obtain ⟨hd, e1, e3⟩ := hok
    subst e1
    rw [Nat.add_sub_cancel_left] at hd
    exact lv_goto hx hb hd e3 (hKJ _ _ _ _ h h0 hL hS H locs ls hW hV hl)
  | ifnull off =>
    obtain ⟨hd, e1, e3⟩ := hok
    subst e1
    rw [Nat.add_sub_cancel_left] at hd
    obtain ⟨x, S1, e2, hh⟩ := je_r1_inv h
    clear h
    have h := hh
    clear hh
    subst e2
    cases x with
    | none => exact lv_ifnullN hx hb hd e3 (hKJ _ _ _ _ h h0 hL (je_oks_tl hS) H locs ls hW hV hl)
    | some q => exact lv_ifnull hx hb hd (hKJ _ _ _ _ h h0 hL (je_oks_tl hS) H locs ls hW hV hl)
  | tableswitch d lo hi offs =>
    obtain ⟨hd, e1, e3, e4, elo, ehi, e5⟩ := hok
    obtain ⟨x, S1, e2, hh⟩ := je_i1_inv h
    clear h
    have h := hh
    clear hh
    subst e2
    have key : ∀ (ts : List (Nat × Int32)) (k : Nat), tg = tg.take k ++ ts → (tg.take k).length = k → je_sw x ts (fun t => K G t L S1) (K G a L S1) → (∀ j : Nat, j < k → x ≠ Int32.ofInt (lo + (j : Int))) → W p l e R s m args below meth c H locs cells slots Q (F0 m pc ls ((jI x :: S1).map (je_e ad))) := by
      intro ts
      induction ts with
      | nil =>
        intro k ek elk h hne
        have hk : k = tg.length := by rw [← elk]; rw [List.append_nil] at ek; rw [← ek]
        refine lv_tableOut hx hb hd ?_ e3 (hKJ _ _ _ _ h h0 hL (je_oks_tl hS) H locs ls hW hV hl)
        by_cases q1 : x.toInt < lo
        · exact Or.inl q1
        by_cases q2 : hi < x.toInt
        · exact Or.inr q2
        exact absurd (by rw [show lo + (((x.toInt - lo).toNat : Nat) : Int) = x.toInt by omega, Int32.ofInt_toInt]) (hne (x.toInt - lo).toNat (by omega))
      | cons z ts ih =>
        intro k ek elk h hne
        obtain ⟨t, v⟩ := z
        have hkl : k < tg.length := by
          have := congrArg List.length ek
          rw [List.length_append, elk, List.length_cons] at this
          omega
        have hz : tg[k]? = some (t, v) := by
          rw [ek, List.getElem?_append_right (by rw [elk]; exact Nat.le_refl _), elk, Nat.sub_self]
          rfl
        have hz2 : tg[k] = (t, v) := by
          have := List.getElem?_eq_getElem hkl
          rw [hz] at this
          exact (Option.some.inj this).symm
        obtain ⟨f1, off, f2, f3⟩ := e5 ⟨k, hkl⟩
        dsimp only at f1 f2 f3
        rw [hz2] at f1 f3
        dsimp only at f1 f3
        by_cases hv : x = v
        · have hxi : x.toInt = lo + (k : Int) := by
            rw [hv, f1]
            exact va_tsInt elo ehi (by omega)
          exact lv_tableIn hx hb hd (by omega) (by omega) (off := off) (by rw [hxi, show (lo + (k : Int) - lo).toNat = k by omega]; exact f2) f3 (hKJ _ _ _ _ (h.1 hv) h0 hL (je_oks_tl hS) H locs ls hW hV hl)
        · refine ih (k + 1) ?_ ?_ (h.2 hv) ?_
          · rw [List.take_add_one, hz, Option.toList_some, List.append_assoc]
            exact ek
          · rw [List.length_take]; omega
          · intro j hj
            by_cases e9 : j = k
            · subst e9; rw [← f1]; exact hv
            · exact hne j (by omega)
    exact key tg 0 (by simp) (by simp) h (fun j hj => absurd hj (Nat.not_lt_zero j))
  | getfield k =>
    obtain ⟨hd, e1, e3⟩ := hok
    subst e1
    rw [Nat.add_sub_cancel_left] at hd
    dsimp only [je_step] at h
    obtain ⟨c1, n1, k1, S1, e2, hh⟩ := je_c1_inv h
    clear h
    have h := hh
    clear hh
    try dsimp only at h
    obtain ⟨hbb, hh⟩ := je_bb_inv h
    clear h
    have h := hh
    clear hh
    rw [Bool.and_eq_true] at hbb
    have ec := Nat.eq_of_beq_eq_true hbb.1
    have ek := Nat.eq_of_beq_eq_true hbb.2
    subst ec; subst ek; subst e2
    cases hr : vwCl[c1]? with
    | none => rw [hr] at e3; exact e3.elim
    | some r =>
      rw [hr] at e3
      dsimp only at e3
      cases hf : je_nth (je_F c1 n1) b with
      | none => rw [hf] at h; exact h.elim
      | some f =>
        rw [hf] at h
        refine je_s_get hx hb hown hts hK hr e3.1 e3.2.1 e3.2.2 hd (je_oks_hd hS) hf hW ?_
        cases f with
        | inl q => exact hKJ _ _ _ _ h h0 hL (je_oks_i (je_oks_tl hS)) H locs ls hW hV hl
        | inr q => exact hKJ _ _ _ _ h h0 hL (je_oks_r (je_F_ok (je_oks_hd hS).1 hf) (je_oks_tl hS)) H locs ls hW hV hl
  | putfield k =>
    obtain ⟨hd, e1, e3⟩ := hok
    subst e1
    rw [Nat.add_sub_cancel_left] at hd
    obtain ⟨x, S0, e4, hh⟩ := je_i1_inv h
    clear h
    have h := hh
    clear hh
    obtain ⟨c1, n1, k1, S1, e2, hh⟩ := je_c1_inv h
    clear h
    have h := hh
    clear hh
    try dsimp only at h
    obtain ⟨hbb, hh⟩ := je_bb_inv h
    clear h
    have h := hh
    clear hh
    rw [Bool.and_eq_true] at hbb
    have ec := Nat.eq_of_beq_eq_true hbb.1
    have ek := Nat.eq_of_beq_eq_true hbb.2
    subst ec; subst ek; subst e4; subst e2
    cases hr : vwCl[c1]? with
    | none => rw [hr] at e3; exact e3.elim
    | some r =>
      rw [hr] at e3
      dsimp only at e3
      cases hf : je_nth (je_F c1 n1) b with
      | none => rw [hf] at h; exact h.elim
      | some f =>
        rw [hf] at h
        cases f with
        | inr q => exact h.elim
        | inl q =>
          obtain ⟨hz, hh⟩ := je_zz_inv h
          clear h
          have h := hh
          clear hh
          have hnf : narrow (match je_isZ c1 b with | true => FieldType.boolean | false => FieldType.int) (.int x) = .int x ∧ fits (match je_isZ c1 b with | true => FieldType.boolean | false => FieldType.int) (.int x) = true := by
            cases hzb : je_isZ c1 b with
            | true => rcases hz hzb with rfl | rfl <;> exact ⟨rfl, rfl⟩
            | false => exact ⟨rfl, rfl⟩
          exact je_s_put hx hb hown hts hK hJ hr e3.1 e3.2.1 e3.2.2.1 e3.2.2.2.1 e3.2.2.2.2 hnf.1 hnf.2 hd (je_oks_hd (je_oks_tl hS)) hf hW hV (fun H1 locs1 hW1 hV1 => hKJ _ _ _ _ h h0 hL (je_oks_tl (je_oks_tl hS)) H1 locs1 ls hW1 hV1 hl)
  | iaload =>
    obtain ⟨hd, e1⟩ := hok
    subst e1
    rw [Nat.add_sub_cancel_left] at hd
    dsimp only [je_step] at h
    obtain ⟨i, c1, n1, j, len, r, b1, S1, e2, hA, hi, hh⟩ := je_ald_inv h
    clear h
    have h := hh
    clear hh
    subst e2
    exact je_s_iald hx hb hK hA hi hd (je_oks_hd (je_oks_tl hS)) hW (hKJ _ _ _ _ h h0 hL (je_oks_i (je_oks_tl (je_oks_tl hS))) H locs ls hW hV hl)
  | baload =>
    obtain ⟨hd, e1⟩ := hok
    subst e1
    rw [Nat.add_sub_cancel_left] at hd
    dsimp only [je_step] at h
    obtain ⟨i, c1, n1, j, len, r, b1, S1, e2, hA, hi, hh⟩ := je_ald_inv h
    clear h
    have h := hh
    clear hh
    subst e2
    exact je_s_zald hx hb hK hA hi hd (je_oks_hd (je_oks_tl hS)) hW (hKJ _ _ _ _ h h0 hL (je_oks_i (je_oks_tl (je_oks_tl hS))) H locs ls hW hV hl)
  | iastore =>
    obtain ⟨hd, e1⟩ := hok
    subst e1
    rw [Nat.add_sub_cancel_left] at hd
    obtain ⟨x, S0, e4, hh⟩ := je_i1_inv h
    clear h
    have h := hh
    clear hh
    obtain ⟨i, c1, n1, j, len, r, b1, S1, e2, hA, hi, hh⟩ := je_ald_inv h
    clear h
    have h := hh
    clear hh
    subst e4; subst e2
    exact je_s_iast hx hb hK hJ hA hi hd (je_oks_hd (je_oks_tl (je_oks_tl hS))) hW hV (fun H1 locs1 hW1 hV1 => hKJ _ _ _ _ h h0 hL (je_oks_tl (je_oks_tl (je_oks_tl hS))) H1 locs1 ls hW1 hV1 hl)
  | bastore =>
    obtain ⟨hd, e1⟩ := hok
    subst e1
    rw [Nat.add_sub_cancel_left] at hd
    obtain ⟨x, S0, e4, hh⟩ := je_i1_inv h
    clear h
    have h := hh
    clear hh
    obtain ⟨i, c1, n1, j, len, r, b1, S1, e2, hA, hi, h01, hh⟩ := je_ald_inv h
    clear h
    have h := hh
    clear hh
    subst e4; subst e2
    exact je_s_zast hx hb hK hJ hA hi h01 hd (je_oks_hd (je_oks_tl (je_oks_tl hS))) hW hV (fun H1 locs1 hW1 hV1 => hKJ _ _ _ _ h h0 hL (je_oks_tl (je_oks_tl (je_oks_tl hS))) H1 locs1 ls hW1 hV1 hl)
  | aaload =>
    obtain ⟨hd, e1⟩ := hok
    subst e1
    rw [Nat.add_sub_cancel_left] at hd
    obtain ⟨i, S0, e4, hh⟩ := je_i1_inv h
    clear h
    have h := hh
    clear hh
    obtain ⟨c1, n1, k1, S1, e2, hh⟩ := je_c1_inv h
    clear h
    have h := hh
    clear hh
    try dsimp only at h
    cases k1 with
    | zero => exact h.elim
    | succ j =>
      dsimp only at h
      cases hA : je_Ra c1 j with
      | none => rw [hA] at h; exact h.elim
      | some q =>
        rw [hA] at h
        subst e4; subst e2
        obtain ⟨hi, h⟩ := h
        exact je_s_aald hx hb hK hA hi hd (je_oks_hd (je_oks_tl hS)) hW (hKJ _ _ _ _ h h0 hL (je_oks_r (je_Ra_ok hA (Nat.not_le.mp fun q => hi (Or.inr q))) (je_oks_tl (je_oks_tl hS))) H locs ls hW hV hl)
  | invokestatic k =>
    obtain ⟨hd, e1, e3⟩ := hok
    subst e1
    rw [Nat.add_sub_cancel_left] at hd
    match b, e3, h with
    | 0, e3, h3 => exact h3.elim
    | 1, e3, h3 =>
      obtain ⟨y, x, S1, e2, h4⟩ := je_i2_inv h3
      obtain ⟨hsm, h5⟩ := je_bb_inv h4
      subst e2
      exact va_mmax hx hb hls hown (hts _ e3.2.1) (hts _ e3.2.2.1) (hts _ e3.1) (hts _ e3.2.2.2) hroom.1 (by have := je_sm_e ad S1; have h8 := Nat.le_of_ble_eq_true hsm; omega) hroom.2.2.1 hroom.2.2.2 hd (hKJ _ _ _ _ h5 h0 hL (je_oks_i (je_oks_tl (je_oks_tl hS))) H locs ls hW hV hl)
    | 2, e3, h3 =>
      obtain ⟨y, x, S1, e2, h4⟩ := je_i2_inv h3
      obtain ⟨hsm, h5⟩ := je_bb_inv h4
      subst e2
      exact va_mmin hx hb hls hown (hts _ e3.2.1) (hts _ e3.2.2.1) (hts _ e3.1) (hts _ e3.2.2.2) hroom.1 (by have := je_sm_e ad S1; have h8 := Nat.le_of_ble_eq_true hsm; omega) hroom.2.2.1 hroom.2.2.2 hd (hKJ _ _ _ _ h5 h0 hL (je_oks_i (je_oks_tl (je_oks_tl hS))) H locs ls hW hV hl)
    | b + 3, e3, h3 => exact h3.elim
  | ireturn =>
    obtain ⟨hd, e1⟩ := hok
    subst e1
    rw [Nat.add_sub_cancel_left] at hd
    obtain ⟨x, S1, e2, hh⟩ := je_i1_inv h
    clear h
    have h := hh
    clear hh
    cases S1 with
    | cons z S2 => exact h.elim
    | nil =>
      dsimp only at h
      obtain ⟨hz, hh⟩ := je_zz_inv h
      clear h
      have h := hh
      clear hh
      obtain ⟨hrt, hh⟩ := je_bb_inv h
      clear h
      have h := hh
      clear hh
      subst e2
      rw [Bool.and_eq_true] at hrt
      have h1 : 0 < rt := Nat.le_of_ble_eq_true hrt.1
      have h2 : rt < 3 := Nat.le_of_ble_eq_true hrt.2
      refine hRi G pc x H locs ls hd ?_ h hW hV
      rcases (show rt = 1 ∨ rt = 2 by omega) with e | e
      · exact Or.inl e
      · exact Or.inr ⟨e, hz (by rw [e]; rfl)⟩
  | areturn =>
    obtain ⟨hd, e1⟩ := hok
    subst e1
    rw [Nat.add_sub_cancel_left] at hd
    obtain ⟨x, S1, e2, hh⟩ := je_r1_inv h
    clear h
    have h := hh
    clear hh
    cases S1 with
    | cons z S2 => exact h.elim
    | nil =>
      dsimp only at h
      obtain ⟨hrt, hh⟩ := je_bb_inv h
      clear h
      have h := hh
      clear hh
      subst e2
      exact hRa G pc x H locs ls hd (Nat.eq_of_beq_eq_true hrt) h (fun q hq => by subst hq; exact je_oks_hd hS) hW hV
  | return_ =>
    obtain ⟨hd, e1⟩ := hok
    subst e1
    rw [Nat.add_sub_cancel_left] at hd
    cases S with
    | cons z S2 => exact h.elim
    | nil =>
      obtain ⟨hrt, hh⟩ := je_bb_inv h
      clear h
      have h := hh
      clear hh
      exact hRv G pc H locs ls hd (Nat.eq_of_beq_eq_true hrt) h hW hV
  | _ => exact h.elim
end JE
