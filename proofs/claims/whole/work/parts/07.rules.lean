/-! CONTRACTS over the world, and the rules that a method's walk goes by -/
def je_nest : List Jvm.Cond := [.methodLinkNest RX0 39 yX5_isEdge RX5, .methodLinkNest RX1 50 yX5_isCell RX5, .methodLinkNest RX1 63 yX5_edgeTowards RX5, .methodLinkNest RX1 66 yX5_isEdge RX5, .methodLinkNest RX1 69 yX5_beside RX5, .methodLinkNest RX2 49 yX5_isCell RX5, .methodLinkNest RX4 41 yX5_isDoor RX5, .methodLinkNest RX4 45 yX5_isCell RX5]
def je_Pc (D : va_G) (ad : je_C → Nat) (cA : Nat → ClassId) (As : List je_V) (G : je_G) : Array Value → State → Prop := fun v U => v = (As.map (je_e ad)).toArray ∧ je_W D ad cA G U.heap ∧ va_K D vwCl (je_T cA) U ∧ ∀ w ∈ je_nest, va_Nw w U
def je_Qc (D : va_G) (ad : je_C → Nat) (cA : Nat → ClassId) (Post : Option je_V → je_G → Prop) : Array Value → State → Outcome → State → Prop := fun _ st oc t => (∃ (r : Option je_V) (G' : je_G), oc = .returned (r.map (je_e ad)) ∧ Post r G' ∧ (∀ q, r = some (jR q) → je_ok q) ∧ je_W D ad cA G' t.heap) ∧ va_F (je_A ad) st t
/-- a method's contract over the world: arguments and rows before; answer and rows behind -/
def je_M (l : Launch) (y : MethodName) (ws : List Jvm.Cond) (rm : Room) (Pre : List je_V → je_G → Prop) (Post : List je_V → je_G → Option je_V → je_G → Prop) : Prop := ∀ (D : va_G) (ad : je_C → Nat) (cA : Nat → ClassId), je_inj ad → ∀ (As : List je_V) (G : je_G), je_oks As → Pre As G → Met l y ws rm (je_Pc D ad cA As G) (je_Qc D ad cA (Post As G)) 0 0 (je_A ad)
/-- a call of a method of an object: what the words say of it -/
def je_LkV (own : String) (cc : ByteArray) (Ts : List Jvm.Cond) (rm : Room) (pc : Nat) (y : MethodName) (ws : List Jvm.Cond) (rm' : Room) (ci n : Nat) : Prop := ∃ (idx : Nat) (C : String) (bytes : ByteArray) (maxL : Nat) (ret : Option FieldType) (ws' : List Jvm.Cond) (T : u_T) (N : Nat), decode cc pc = .ok (.invokevirtual idx, 3) ∧ GoodIn Ts (wsV own idx C y ws) ∧ ws = .code y bytes maxL ret :: ws' ∧ (y.cls = C ∧ y.cls ≠ "java/lang/invoke/MethodHandle" ∧ y.cls ≠ "java/lang/invoke/VarHandle" ∧ (parseMethodDescriptor y.desc).map (fun d => d.parameters.length) = some n) ∧ (rm'.cells = 0 ∧ rm'.slots = 0) ∧ (rm'.frames + 1 ≤ rm.frames ∧ 8 + (maxL + 11) + rm'.locals ≤ rm.locals) ∧ vwCl[ci]? = some (C, T, N)
/-- a call of a static method: of any class whose it is openly, or of a nest mate -/
def je_LkS (own : String) (cc : ByteArray) (Ts : List Jvm.Cond) (rm : Room) (pc : Nat) (y : MethodName) (ws : List Jvm.Cond) (rm' : Room) (n : Nat) : Prop := ∃ (idx : Nat) (bytes : ByteArray) (maxL : Nat) (ret : Option FieldType) (ws' : List Jvm.Cond), decode cc pc = .ok (.invokestatic idx, 3) ∧ (GoodIn Ts (va_wsS own idx y ws) ∨ (∃ host : String, GoodIn Ts ws ∧ Jvm.Cond.static y ∈ Ts ∧ Jvm.Cond.initialized y.cls ∈ Ts ∧ Jvm.Cond.methodLinkNest own idx y host ∈ je_nest)) ∧ ws = .code y bytes maxL ret :: ws' ∧ (y.cls ≠ "java/lang/invoke/MethodHandle" ∧ y.cls ≠ "java/lang/invoke/VarHandle" ∧ (parseMethodDescriptor y.desc).map (fun d => d.parameters.length) = some n) ∧ (rm'.cells = 0 ∧ rm'.slots = 0) ∧ (rm'.frames + 1 ≤ rm.frames ∧ 8 + (maxL + 11) + rm'.locals ≤ rm.locals)
theorem je_nest_on {w : Jvm.Cond} (h : w ∈ je_nest) : ∃ a i x hst, w = .methodLinkNest a i x hst := by
  simp only [je_nest, List.mem_cons, List.not_mem_nil, or_false] at h
  rcases h with h | h | h | h | h | h | h | h <;> exact ⟨_, _, _, _, h⟩
theorem je_nest_warm {s U : State} (hW : s.WarmedH U.vm) (h : ∀ w ∈ je_nest, va_Nw w s) : ∀ w ∈ je_nest, va_Nw w U := by
  intro w hw
  obtain ⟨a, i, x, hst, rfl⟩ := je_nest_on hw
  exact va_Nw.warmM hW (h _ hw)
theorem je_nest_same {s U : State} (e : s.vm = U.vm) (h : ∀ w ∈ je_nest, va_Nw w s) : ∀ w ∈ je_nest, va_Nw w U := by
  intro w hw
  obtain ⟨a, i, x, hst, rfl⟩ := je_nest_on hw
  exact va_Nw.same rfl e (h _ hw)
theorem je_blind {D : va_G} {ad : je_C → Nat} {cA : Nat → ClassId} {As : List je_V} {G : je_G} : FrameBlind (je_Pc D ad cA As G) := by
  intro a U g mk q
  obtain ⟨h1, h2, h3, h4⟩ := q
  exact ⟨h1, h2, va_K.moved (u := U) (U := U.calling g mk a) (Vm.Alike.refl U.vm) h3, je_nest_same (s := U) (U := U.calling g mk a) rfl h4⟩
section JR
variable {p : Program} {l : Launch} {e : Env} {R : Room} {s : State} {m : MethodId} {args : Array Value} {below : List Frame} {meth : Method} {c : Code} {cells slots : Nat} {Q : State → Prop} {D : va_G} {ad : je_C → Nat} {cA : Nat → ClassId} {nL : Nat} {H0 : Heap} {cc : ByteArray} {own : String} {Ts : List Jvm.Cond}
theorem je_after {H : Heap} {locs : List Loc} {pc : Nat} {ls : Array Slot} {st0 rest : List Value} {Post : Option je_V → je_G → Prop} {a : Array Value} (hr : va_Run p l e R s m args below meth c H locs cells slots 0 0 (F0 m pc ls st0) rest (je_Qc D ad cA Post a) (je_A ad)) (hS : va_S (je_A ad) H0 H locs)
    (kk : ∀ (r : Option je_V) (G' : je_G) (H1 : Heap) (locs1 : List Loc), Post r G' → (∀ q, r = some (jR q) → je_ok q) → je_W D ad cA G' H1 → va_S (je_A ad) H0 H1 locs1 → W p l e R s m args below meth c H1 locs1 cells slots Q (F0 m (pc + 3) ls ((r.map (je_e ad)).toList ++ rest))) : W p l e R s m args below meth c H locs cells slots Q (F0 m pc ls st0) := by
  intro T hT X
  obtain ⟨v, st₀, t, T', L, h0, X', hL, e1, e2, ⟨⟨r, G', hv, hp, hok, hw⟩, hz, hk⟩, st⟩ := hr T hT X
  cases hv
  rw [h0] at hz hk
  obtain ⟨t2, a1, b1⟩ := kk r G' T'.heap (locs ++ L) hp hok (by rw [e1]; exact hw)
    ⟨Nat.le_trans hS.1 (by rw [e1]; exact hz), fun q h1 h2 => by rw [e1, hk q (Nat.lt_of_lt_of_le h1 hS.1) h2]; exact hS.2.1 q h1 h2, fun q hq => by
      rcases List.mem_append.mp hq with h | h
      · exact hS.2.2 q h
      · exact hL q h⟩ T' rfl X'
  exact ⟨t2, st t2 a1, b1⟩
theorem je_rest {ad : je_C → Nat} {pc : Nat} {m : MethodId} {ls : Array Slot} {st : List Value} {S : List je_V} (h : Nat.ble (je_sm S) 8 = true) : 2 * (F0 m pc ls st).monitorRoom + ((S.map (je_e ad)).map fun v => v.category).sum ≤ 8 := by
  have h1 := je_sm_e ad S
  have h2 := Nat.le_of_ble_eq_true h
  show 2 * 0 + _ ≤ 8
  omega
theorem je_callV (hx : p.tables.exec = Jvm.exec) (hb : c.code = cc) (hown : s.vm.findClass own = some m.cls) (hml : c.maxLocals = nL) (hts : ∀ w ∈ Ts, w.before args s = true) (hK : va_K D vwCl (je_T cA) s) (hJ : je_inj ad) (hN : ∀ w ∈ je_nest, va_Nw w s) (hroom : cells ≤ R.cells ∧ slots ≤ R.slots) {pc : Nat} {y : MethodName} {ws : List Jvm.Cond} {rm' : Room} {ci n : Nat} (hk : je_LkV own cc Ts R pc y ws rm' ci n) {Pre : List je_V → je_G → Prop} {Post : List je_V → je_G → Option je_V → je_G → Prop} (hM : je_M l y ws rm' Pre Post)
    {G : je_G} {L : List (Option je_V)} {S : List je_V} {As : List je_V} {i : Nat} (hn : As.length = n) (hP : Pre (jR (ci, i, 0) :: As) G) (hsm : Nat.ble (je_sm S) 8 = true) (kk : ∀ r G', Post (jR (ci, i, 0) :: As) G r G' → je_J p l e R s m args below meth c cells slots Q D ad cA nL H0 G' (pc + 3) L (r.toList ++ S)) : je_J p l e R s m args below meth c cells slots Q D ad cA nL H0 G pc L (As.reverse ++ jR (ci, i, 0) :: S) := by
  obtain ⟨idx, C, bytes, maxL, ret, ws', T, N, hd, hG, hw, hd2, hc0, hR, hcl⟩ := hk
  intro h0 hL hS H locs ls hW hV hl
  have hokA : je_oks (jR (ci, i, 0) :: As) := fun q hq => hS q (by
    rcases List.mem_cons.mp hq with h | h
    · exact List.mem_append_right _ (List.mem_cons.mpr (Or.inl h))
    · exact List.mem_append_left _ (List.mem_reverse.mpr h))
  have hcell := hW _ (hokA (ci, i, 0) List.mem_cons_self)
  refine je_after (va_runV (As := As.map (je_e ad)) (rest := S.map (je_e ad)) ⟨hx, hb, hml, hown, hts⟩ (hM D ad cA hJ (jR (ci, i, 0) :: As) G hokA hP) (cwV n hts hG hw hc0.1 hc0.2 hd2 hR)
    ⟨je_blind, va_recv hK (je_P1 hcell) (ci := ci) (q0 := 0) hcl rfl, fun U hU hWm => ⟨rfl, by rw [hU]; exact hW, va_K.moved hWm.alike hK, je_nest_warm hWm hN⟩⟩ rfl (by rw [List.length_map]; exact hn) hl.1 (by show List.map _ _ = _; rw [List.map_append, List.map_reverse]; rfl) (je_rest hsm) hd hroom) hV (fun r G' H1 locs1 hp hok hW1 hV1 => ?_)
  have := kk r G' hp h0 hL (fun q hq => by
    rcases List.mem_append.mp hq with h | h
    · exact hok q (by cases r with | none => cases h | some v => cases List.mem_singleton.mp h; rfl)
    · exact hS q (List.mem_append_right _ (List.mem_cons_of_mem _ h))) H1 locs1 ls hW1 hV1 hl
  rw [List.map_append] at this
  cases r <;> exact this
theorem je_callS (hx : p.tables.exec = Jvm.exec) (hb : c.code = cc) (hown : s.vm.findClass own = some m.cls) (hml : c.maxLocals = nL) (hts : ∀ w ∈ Ts, w.before args s = true) (hK : va_K D vwCl (je_T cA) s) (hJ : je_inj ad) (hN : ∀ w ∈ je_nest, va_Nw w s) (hroom : cells ≤ R.cells ∧ slots ≤ R.slots) {pc : Nat} {y : MethodName} {ws : List Jvm.Cond} {rm' : Room} {n : Nat} (hk : je_LkS own cc Ts R pc y ws rm' n) {Pre : List je_V → je_G → Prop} {Post : List je_V → je_G → Option je_V → je_G → Prop} (hM : je_M l y ws rm' Pre Post)
    {G : je_G} {L : List (Option je_V)} {S : List je_V} {As : List je_V} (hn : As.length = n) (hP : Pre As G) (hsm : Nat.ble (je_sm S) 8 = true) (kk : ∀ r G', Post As G r G' → je_J p l e R s m args below meth c cells slots Q D ad cA nL H0 G' (pc + 3) L (r.toList ++ S)) : je_J p l e R s m args below meth c cells slots Q D ad cA nL H0 G pc L (As.reverse ++ S) := by
  obtain ⟨idx, bytes, maxL, ret, ws', hd, hG, hw, hd2, hc0, hR⟩ := hk
  intro h0 hL hS H locs ls hW hV hl
  have hokA : je_oks As := fun q hq => hS q (List.mem_append_left _ (List.mem_reverse.mpr hq))
  have hend : ∀ (r : Option je_V) (G' : je_G) (H1 : Heap) (locs1 : List Loc), Post As G r G' → (∀ q, r = some (jR q) → je_ok q) → je_W D ad cA G' H1 → va_S (je_A ad) H0 H1 locs1 → W p l e R s m args below meth c H1 locs1 cells slots Q (F0 m (pc + 3) ls ((r.map (je_e ad)).toList ++ S.map (je_e ad))) := by
    intro r G' H1 locs1 hp hok hW1 hV1
    have := kk r G' hp h0 hL (fun q hq => by
      rcases List.mem_append.mp hq with h | h
      · exact hok q (by cases r with | none => cases h | some v => cases List.mem_singleton.mp h; rfl)
      · exact hS q (List.mem_append_right _ h)) H1 locs1 ls hW1 hV1 hl
    rw [List.map_append] at this
    cases r <;> exact this
  have hpre : PreS s H (je_Pc D ad cA As G) (As.map (je_e ad)) := ⟨je_blind, fun U hU hWm => ⟨rfl, by rw [hU]; exact hW, va_K.moved hWm.alike hK, je_nest_warm hWm hN⟩⟩
  rcases hG with hG | ⟨host, hG, hst, hini, hnw⟩
  · exact je_after (va_runS (As := As.map (je_e ad)) (rest := S.map (je_e ad)) ⟨hx, hb, hml, hown, hts⟩ (hM D ad cA hJ As G hokA hP) (va_cwS n hts hG hw hc0.1 hc0.2 hd2 hR) hpre rfl (by rw [List.length_map]; exact hn) hl.1 (by show List.map _ _ = _; rw [List.map_append, List.map_reverse]) (je_rest hsm) hd hroom) hV hend
  · exact je_after (va_runSN (As := As.map (je_e ad)) (rest := S.map (je_e ad)) ⟨hx, hb, hml, hown, hts⟩ (hM D ad cA hJ As G hokA hP) ⟨va_cnB n hts hG hw hc0.1 hc0.2 (hN _ hnw) (hts _ hini) hd2 hR, hts _ hst, trivial⟩ hpre rfl (by rw [List.length_map]; exact hn) hl.1 (by show List.map _ _ = _; rw [List.map_append, List.map_reverse]) (je_rest hsm) hd hroom) hV hend
end JR
-- ===== the rules, as a method's walk sees them =====
def je_okT (own : String) (cc : ByteArray) (Ts : List Jvm.Cond) : List (Nat × je_I) → Prop
  | [] => True
  | q :: t => je_okI own cc Ts q.1 q.2 ∧ je_okT own cc Ts t
theorem je_okT_mem {own : String} {cc : ByteArray} {Ts : List Jvm.Cond} : ∀ (tbl : List (Nat × je_I)), je_okT own cc Ts tbl → ∀ q ∈ tbl, je_okI own cc Ts q.1 q.2
  | [], _, q, h => by cases h
  | z :: t, ok, q, h => by
    rcases List.mem_cons.mp h with h | h
    · rw [h]; exact ok.1
    · exact je_okT_mem t ok.2 q h
/-- fewer locals known -/
def je_le : List (Option je_V) → List (Option je_V) → Prop
  | [], [] => True
  | none :: t, _ :: t' => je_le t t'
  | some v :: t, w :: t' => w = some v ∧ je_le t t'
  | _, _ => False
theorem je_le_len : ∀ (L' L : List (Option je_V)), je_le L' L → L'.length = L.length
  | [], [], _ => rfl
  | none :: t, w :: t', h => by simp [je_le_len t t' h]
  | some v :: t, w :: t', h => by simp [je_le_len t t' h.2]
  | [], w :: t', h => h.elim
  | none :: t, [], h => h.elim
  | some v :: t, [], h => h.elim
theorem je_le_get : ∀ (L' L : List (Option je_V)), je_le L' L → ∀ a v, je_get L' a = some v → je_get L a = some v
  | [], [], _, a, v, h => h
  | none :: t, w :: t', hl, a, v, h => by
    cases a with
    | zero => cases h
    | succ a => exact je_le_get t t' hl a v h
  | some z :: t, w :: t', hl, a, v, h => by
    cases a with
    | zero => rw [hl.1]; exact h
    | succ a => exact je_le_get t t' hl.2 a v h
  | [], w :: t', hl, a, v, h => hl.elim
  | none :: t, [], hl, a, v, h => hl.elim
  | some z :: t, [], hl, a, v, h => hl.elim
/-- the rows agree wherever the world holds something -/
def je_eqv (G G' : je_G) : Prop := (∀ c n j q, n < je_cnt c → je_nth (je_F c n) j = some (.inl q) → G c n q.1 q.2 = G' c n q.1 q.2) ∧ ∀ c n j r i, n < je_cnt c → je_inA c j r i → G c n r i = G' c n r i
/-- what a walk may use: n steps of the table; calls; worlds that agree; fewer locals -/
def je_R (l : Launch) (own : String) (cc : ByteArray) (Ts : List Jvm.Cond) (rm : Room) (tbl : List (Nat × je_I)) (rt : Nat) (Rt : je_G → Option je_V → Prop) (J : je_K) : Prop :=
  (∀ n G pc L S, je_run tbl rt J Rt n G pc L S → J G pc L S) ∧
  (∀ {pc : Nat} {y : MethodName} {ws : List Jvm.Cond} {rm' : Room} {ci n : Nat}, je_LkV own cc Ts rm pc y ws rm' ci n → ∀ {Pre : List je_V → je_G → Prop} {Post : List je_V → je_G → Option je_V → je_G → Prop}, je_M l y ws rm' Pre Post → ∀ {G : je_G} {L : List (Option je_V)} {S : List je_V} {As : List je_V} {i : Nat}, As.length = n → Pre (jR (ci, i, 0) :: As) G → Nat.ble (je_sm S) 8 = true → (∀ r G', Post (jR (ci, i, 0) :: As) G r G' → J G' (pc + 3) L (r.toList ++ S)) → J G pc L (As.reverse ++ jR (ci, i, 0) :: S)) ∧
  (∀ {pc : Nat} {y : MethodName} {ws : List Jvm.Cond} {rm' : Room} {n : Nat}, je_LkS own cc Ts rm pc y ws rm' n → ∀ {Pre : List je_V → je_G → Prop} {Post : List je_V → je_G → Option je_V → je_G → Prop}, je_M l y ws rm' Pre Post → ∀ {G : je_G} {L : List (Option je_V)} {S : List je_V} {As : List je_V}, As.length = n → Pre As G → Nat.ble (je_sm S) 8 = true → (∀ r G', Post As G r G' → J G' (pc + 3) L (r.toList ++ S)) → J G pc L (As.reverse ++ S)) ∧
  (∀ {G G' : je_G} {pc : Nat} {L : List (Option je_V)} {S : List je_V}, je_eqv G G' → J G' pc L S → J G pc L S) ∧
  (∀ {G : je_G} {pc : Nat} {L L' : List (Option je_V)} {S : List je_V}, je_le L' L → J G pc L' S → J G pc L S)
theorem je_run_ok {own : String} {cc : ByteArray} {Ts : List Jvm.Cond} {tbl : List (Nat × je_I)} {rt : Nat} {Rt : je_G → Option je_V → Prop} {J : je_K} (hT : je_okT own cc Ts tbl) (hs : ∀ (K : je_K), (∀ G pc L S, K G pc L S → J G pc L S) → ∀ {pc t G L S}, je_okI own cc Ts pc t → je_step t rt K Rt G L S → J G pc L S) : ∀ n G pc L S, je_run tbl rt J Rt n G pc L S → J G pc L S
  | 0, G, pc, L, S, h => h
  | n + 1, G, pc, L, S, h => by
    unfold je_run at h
    cases hl : je_look tbl pc with
    | none => rw [hl] at h; exact h
    | some t =>
      rw [hl] at h
      exact hs _ (fun G pc L S => je_run_ok hT hs n G pc L S) (je_okT_mem tbl hT (pc, t) (je_look_mem tbl pc hl)) h
/-- the arguments in the locals -/
def je_L0 : List je_V → List (Option je_V)
  | [] => []
  | .inr (.inl x) :: t => some (.inr (.inl x)) :: none :: je_L0 t
  | .inl x :: t => some (.inl x) :: je_L0 t
  | .inr (.inr x) :: t => some (.inr (.inr x)) :: je_L0 t
def je_fill : Nat → List (Option je_V) → List (Option je_V)
  | 0, _ => []
  | n + 1, [] => none :: je_fill n []
  | n + 1, v :: t => v :: je_fill n t
theorem je_fill_len : ∀ (n : Nat) (L : List (Option je_V)), (je_fill n L).length = n
  | 0, _ => rfl
  | n + 1, [] => by show (none :: je_fill n []).length = _; rw [List.length_cons, je_fill_len n]
  | n + 1, v :: t => by show (v :: je_fill n t).length = _; rw [List.length_cons, je_fill_len n]
theorem je_fill_get : ∀ (n : Nat) (L : List (Option je_V)) (a : Nat) (v : je_V), je_get (je_fill n L) a = some v → je_get L a = some v
  | 0, L, a, v, h => by cases h
  | n + 1, [], a, v, h => by
    cases a with
    | zero => cases h
    | succ a => exact (by have := je_fill_get n [] a v h; cases this)
  | n + 1, w :: t, a, v, h => by
    cases a with
    | zero => exact h
    | succ a => exact je_fill_get n t a v h
theorem je_L0_args (ad : je_C → Nat) : ∀ (As : List je_V) (i : Nat), ∀ q ∈ je_eL ad i (je_L0 As), q ∈ lv_args i (As.map (je_e ad))
  | [], i, q, h => by cases h
  | .inr (.inl x) :: t, i, q, h => by
    rcases List.mem_cons.mp h with h | h
    · rw [h]; exact List.mem_cons_self
    · exact List.mem_cons_of_mem _ (je_L0_args ad t (i + 2) q h)
  | .inl x :: t, i, q, h => by
    rcases List.mem_cons.mp h with h | h
    · rw [h]; exact List.mem_cons_self
    · exact List.mem_cons_of_mem _ (je_L0_args ad t (i + 1) q h)
  | .inr (.inr x) :: t, i, q, h => by
    rcases List.mem_cons.mp h with h | h
    · rw [h]; exact List.mem_cons_self
    · refine List.mem_cons_of_mem _ ?_
      have h9 := je_L0_args ad t (i + 1) q h
      cases x <;> exact h9
theorem je_L0_in : ∀ (As : List je_V) (v : je_V), some v ∈ je_L0 As → v ∈ As
  | [], v, h => by cases h
  | .inr (.inl x) :: t, v, h => by
    rcases List.mem_cons.mp h with h | h
    · cases h; exact List.mem_cons_self
    · rcases List.mem_cons.mp h with h | h
      · cases h
      · exact List.mem_cons_of_mem _ (je_L0_in t v h)
  | .inl x :: t, v, h => by
    rcases List.mem_cons.mp h with h | h
    · cases h; exact List.mem_cons_self
    · exact List.mem_cons_of_mem _ (je_L0_in t v h)
  | .inr (.inr x) :: t, v, h => by
    rcases List.mem_cons.mp h with h | h
    · cases h; exact List.mem_cons_self
    · exact List.mem_cons_of_mem _ (je_L0_in t v h)
theorem je_sl_len (ad : je_C → Nat) (As : List je_V) : (lg_sl (As.map (je_e ad))).length = je_sm As := by
  induction As with
  | nil => rfl
  | cons v t ih =>
    have h1 : lg_sl ((v :: t).map (je_e ad)) = (if (je_e ad v).category = 2 then [Slot.val (je_e ad v), .second] else [.val (je_e ad v)]) ++ lg_sl (t.map (je_e ad)) := rfl
    rw [h1, List.length_append, ih, je_cat_e]
    rcases v with x | x | x <;> rfl
/-- what a return may answer -/
def je_ret (rt : Nat) (ret : Option FieldType) : Prop := (rt = 0 ∧ ret = none) ∨ (rt = 1 ∧ ret = some .int) ∨ (rt = 2 ∧ ret = some .boolean) ∨ (rt = 3 ∧ ∃ n, ret = some (.object n))
theorem je_met {l : Launch} {own : String} {y : MethodName} {ws ws' : List Jvm.Cond} {cc : ByteArray} {maxL : Nat} {ret : Option FieldType} {rm : Room} {Pre : List je_V → je_G → Prop} {Post : List je_V → je_G → Option je_V → je_G → Prop} (tbl : List (Nat × je_I)) (rt : Nat) (hT : je_okT own cc ws tbl) (hw : ws = .code y cc maxL ret :: ws') (hy : plainName y.cls = true) (hown : y.cls = own) (hrt : je_ret rt ret) (hroom : 1 ≤ rm.frames ∧ 21 ≤ rm.locals) (hlen : ∀ As G, Pre As G → je_sm As ≤ maxL)
    (body : ∀ (As : List je_V) (G : je_G) (J : je_K), Pre As G → je_oks As → je_R l own cc ws rm tbl rt (fun G' r => Post As G r G') J → J G 0 (je_fill maxL (je_L0 As)) []) : je_M l y ws rm Pre Post := by
  intro D ad cA hJ As G hoA hP
  refine Met.ofW (cc := cc) (maxL := maxL) (ret := ret) hy hw ?_
  intro p e s m args below meth c s₁ B hml hv
  obtain ⟨rfl, hW, hK, hN⟩ := hv
  have hx := B.exec
  have hb := B.bytes
  have hr := B.returns
  have hts := atoms_spec (ws := ws) B.pre
  have ho : s.vm.findClass own = some m.cls := by rw [← hown]; exact findClass_of_methodNamed B.named
  have hlocks := B.notSynchronized
  rw [lg_entry_eq]
  have hl := lv_entry (As.map (je_e ad)) (n := maxL) (by rw [je_sl_len]; exact hlen As G hP)
  generalize (lg_sl (As.map (je_e ad)) ++ List.replicate (maxL - (lg_sl (As.map (je_e ad))).length) Slot.unset).toArray = ls at hl ⊢
  have hroom' : 1 ≤ rm.frames ∧ 21 ≤ rm.locals ∧ 0 ≤ rm.cells ∧ 0 ≤ rm.slots := ⟨hroom.1, hroom.2, Nat.zero_le _, Nat.zero_le _⟩
  have hQ : ∀ (G' : je_G) (r : Option je_V) (H : Heap) (locs : List Loc), Post As G r G' → (∀ q, r = some (jR q) → je_ok q) → je_W D ad cA G' H → va_S (je_A ad) s.heap H locs → ∀ t : State, t.heap = H → s.WarmedH t.vm → je_Qc D ad cA (Post As G) (As.map (je_e ad)).toArray s (.returned (r.map (je_e ad))) t := fun G' r H locs hp hok hW' hS t ht hWm => ⟨⟨r, G', rfl, hp, hok, by rw [ht]; exact hW'⟩, hS.F ht⟩
  have hrules := body As G (je_J p l e rm s m (As.map (je_e ad)).toArray below meth c 0 0 (MQ below (je_Qc D ad cA (Post As G)) (As.map (je_e ad)).toArray s 0 0 (je_A ad)) D ad cA maxL s.heap) hP hoA ⟨?_, ?_, ?_, ?_, ?_⟩
  · refine hrules (by rw [je_fill_len]; exact Nat.le_refl _) (fun q hq => ?_) (fun q hq => by cases hq) s.heap [] ls hW va_S.rf (lv_mono hl (fun q hq => ?_))
    · obtain ⟨a, ha⟩ := je_in_get _ hq
      exact hoA q (je_L0_in As _ (je_get_in _ a (je_fill_get _ _ a _ ha)))
    · obtain ⟨a, v, h1, h2⟩ := je_mem_get _ 0 hq
      rw [h2]
      exact je_L0_args ad As 0 _ (je_get_mem _ a 0 (je_fill_get _ _ a v h1))
  · refine je_run_ok hT (fun K hKJ {pc t G' L S} hok h => je_sound (rt := rt) (Rt := fun G' r => Post As G r G') hx hb ho hml hts hK hJ hroom' ?_ ?_ ?_ hok hKJ h)
    · intro G' pc x H locs ls' hd hz hp hW' hS
      rcases hz with hz | ⟨hz, h01⟩
      · have hre : meth.sig.returnType = some .int := by
          rw [hr]
          rcases hrt with h | h | h | h
          · omega
          · exact h.2
          · omega
          · omega
        exact W.iret hx hb hre (hQ G' (some (jI x)) H locs hp (fun q hq => by cases hq) hW' hS) hS.2.2 hd hlocks
      · have hre : meth.sig.returnType = some .boolean := by
          rw [hr]
          rcases hrt with h | h | h | h
          · omega
          · omega
          · exact h.2
          · omega
        exact W.zret hx hb hre (by rcases h01 with rfl | rfl <;> rfl) (hQ G' (some (jI x)) H locs hp (fun q hq => by cases hq) hW' hS) hS.2.2 hd hlocks
    · intro G' pc r H locs ls' hd hz hp hok2 hW' hS
      obtain ⟨n, hre⟩ : ∃ n, meth.sig.returnType = some (.object n) := by
        rw [hr]
        rcases hrt with h | h | h | h
        · omega
        · omega
        · omega
        · exact h.2
      exact W.aret hx hb hre (Or.inl ⟨n, rfl⟩) (by cases r with | none => exact Or.inl rfl | some q => exact Or.inr ⟨_, rfl⟩) (hQ G' (some (.inr (.inr r))) H locs hp (fun q hq => hok2 q (by cases hq; rfl)) hW' hS) hS.2.2 hd hlocks
    · intro G' pc H locs ls' hd hz hp hW' hS
      have hre : meth.sig.returnType = none := by
        rw [hr]
        rcases hrt with h | h | h | h
        · exact h.2
        · omega
        · omega
        · omega
      exact W.vret hx hb hre (hQ G' none H locs hp (fun q hq => by cases hq) hW' hS) hS.2.2 hd hlocks
  · intro pc y' ws2 rm' ci n hk Pre' Post' hM G' L S As' i hn hP' hsm kk
    exact je_callV hx hb ho hml hts hK hJ hN ⟨Nat.zero_le _, Nat.zero_le _⟩ hk hM hn hP' hsm kk
  · intro pc y' ws2 rm' n hk Pre' Post' hM G' L S As' hn hP' hsm kk
    exact je_callS hx hb ho hml hts hK hJ hN ⟨Nat.zero_le _, Nat.zero_le _⟩ hk hM hn hP' hsm kk
  · intro G1 G2 pc L S he h h0 hL hS H locs ls' hW' hV hl'
    exact h h0 hL hS H locs ls' (je_W_ext hW' he.1 he.2) hV hl'
  · intro G1 pc L L' S he h h0 hL hS H locs ls' hW' hV hl'
    refine h (by rw [je_le_len _ _ he]; exact h0) (fun q hq => ?_) hS H locs ls' hW' hV (lv_mono hl' (fun q hq => ?_))
    · obtain ⟨a, ha⟩ := je_in_get _ hq
      exact hL q (je_get_in _ a (je_le_get _ _ he a _ ha))
    · obtain ⟨a, v, h1, h2⟩ := je_mem_get _ 0 hq
      rw [h2]
      exact je_get_mem _ a 0 (je_le_get _ _ he a v h1)
