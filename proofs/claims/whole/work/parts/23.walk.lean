/-! WALKS: many steps up to the places named; contracts at fixed arguments; calls by the number of their arguments -/
def je_go (tbl : List (Nat × je_I)) (rt : Nat) (J : je_K) (Rt : je_G → Option je_V → Prop) (st : List Nat) : Nat → je_K
  | 0, G, pc, L, S => J G pc L S
  | n + 1, G, pc, L, S => match st.elem pc with
    | true => J G pc L S
    | false => match je_look tbl pc with
      | none => J G pc L S
      | some t => je_step t rt (je_go tbl rt J Rt st n) Rt G L S
def je_run1 (tbl : List (Nat × je_I)) (rt : Nat) (J : je_K) (Rt : je_G → Option je_V → Prop) (st : List Nat) (n : Nat) : je_K := fun G pc L S => match je_look tbl pc with
  | none => J G pc L S
  | some t => je_step t rt (je_go tbl rt J Rt st n) Rt G L S
/-- the rules again, with the step itself -/
def je_RR (l : Launch) (own : String) (cc : ByteArray) (Ts : List Jvm.Cond) (rm : Room) (tbl : List (Nat × je_I)) (rt : Nat) (Rt : je_G → Option je_V → Prop) (J : je_K) : Prop := je_R l own cc Ts rm tbl rt Rt J ∧ ∀ st n G pc L S, je_run1 tbl rt J Rt st n G pc L S → J G pc L S
theorem je_go_run {tbl : List (Nat × je_I)} {rt : Nat} {J : je_K} {Rt : je_G → Option je_V → Prop} {st : List Nat} (hs : ∀ (K : je_K), (∀ G pc L S, K G pc L S → J G pc L S) → ∀ {pc t G L S}, je_look tbl pc = some t → je_step t rt K Rt G L S → J G pc L S) : ∀ n G pc L S, je_go tbl rt J Rt st n G pc L S → J G pc L S
  | 0, G, pc, L, S, h => h
  | n + 1, G, pc, L, S, h => by
    unfold je_go at h
    cases he : st.elem pc with
    | true => rw [he] at h; exact h
    | false =>
      rw [he] at h
      cases hl : je_look tbl pc with
      | none => rw [hl] at h; exact h
      | some t =>
        rw [hl] at h
        exact hs _ (fun G pc L S => je_go_run hs n G pc L S) hl h
theorem je_met2 {l : Launch} {own : String} {y : MethodName} {ws ws' : List Jvm.Cond} {cc : ByteArray} {maxL : Nat} {ret : Option FieldType} {rm : Room} {Pre : List je_V → je_G → Prop} {Post : List je_V → je_G → Option je_V → je_G → Prop} (tbl : List (Nat × je_I)) (rt : Nat) (hT : je_okT own cc ws tbl) (hw : ws = .code y cc maxL ret :: ws') (hy : plainName y.cls = true) (hown : y.cls = own) (hrt : je_ret rt ret) (hroom : 1 ≤ rm.frames ∧ 21 ≤ rm.locals) (hlen : ∀ As G, Pre As G → je_sm As ≤ maxL)
    (body : ∀ (As : List je_V) (G : je_G) (J : je_K), Pre As G → je_oks As → je_RR l own cc ws rm tbl rt (fun G' r => Post As G r G') J → J G 0 (je_fill maxL (je_L0 As)) []) : je_M l y ws rm Pre Post := by
  intro D ad cA hJ As G hoA hP
  refine Met.ofW (cc := cc) (maxL := maxL) (ret := ret) hy hw ?_
  intro p e s m args below meth c s₁ B hml hv
  obtain ⟨rfl, hW, hK, hN⟩ := hv
  have hx := B.exec
  have hb := B.bytes
  have hr := B.returns
  have hts := atoms_spec (ws := ws) B.pre
  have ho : s.vm.findClass own = some m.cls := by rw [← hown]; exact findClass_of_methodNamed B.named
  have hlocks := B.notSynchronized
  rw [lg_entry_eq]
  have hl := lv_entry (As.map (je_e ad)) (n := maxL) (by rw [je_sl_len]; exact hlen As G hP)
  generalize (lg_sl (As.map (je_e ad)) ++ List.replicate (maxL - (lg_sl (As.map (je_e ad))).length) Slot.unset).toArray = ls at hl ⊢
  have hroom' : 1 ≤ rm.frames ∧ 21 ≤ rm.locals ∧ 0 ≤ rm.cells ∧ 0 ≤ rm.slots := ⟨hroom.1, hroom.2, Nat.zero_le _, Nat.zero_le _⟩
  have hQ : ∀ (G' : je_G) (r : Option je_V) (H : Heap) (locs : List Loc), Post As G r G' → (∀ q, r = some (jR q) → je_ok q) → je_W D ad cA G' H → va_S (je_A ad) s.heap H locs → ∀ t : State, t.heap = H → s.WarmedH t.vm → je_Qc D ad cA (Post As G) (As.map (je_e ad)).toArray s (.returned (r.map (je_e ad))) t := fun G' r H locs hp hok hW' hS t ht hWm => ⟨⟨r, G', rfl, hp, hok, by rw [ht]; exact hW'⟩, hS.F ht⟩
  have hstep : ∀ (K : je_K), (∀ G1 pc L S, K G1 pc L S → je_J p l e rm s m (As.map (je_e ad)).toArray below meth c 0 0 (MQ below (je_Qc D ad cA (Post As G)) (As.map (je_e ad)).toArray s 0 0 (je_A ad)) D ad cA maxL s.heap G1 pc L S) → ∀ {pc t G' L S}, je_okI own cc ws pc t → je_step t rt K (fun G' r => Post As G r G') G' L S → je_J p l e rm s m (As.map (je_e ad)).toArray below meth c 0 0 (MQ below (je_Qc D ad cA (Post As G)) (As.map (je_e ad)).toArray s 0 0 (je_A ad)) D ad cA maxL s.heap G' pc L S := by
    intro K hKJ pc t G' L S hok h
    refine je_sound (rt := rt) (Rt := fun G' r => Post As G r G') hx hb ho hml hts hK hJ hroom' ?_ ?_ ?_ hok hKJ h
    · intro G' pc x H locs ls' hd hz hp hW' hS
      rcases hz with hz | ⟨hz, h01⟩
      · have hre : meth.sig.returnType = some .int := by
          rw [hr]
          rcases hrt with h | h | h | h
          · omega
          · exact h.2
          · omega
          · omega
        exact W.iret hx hb hre (hQ G' (some (jI x)) H locs hp (fun q hq => by cases hq) hW' hS) hS.2.2 hd hlocks
      · have hre : meth.sig.returnType = some .boolean := by
          rw [hr]
          rcases hrt with h | h | h | h
          · omega
          · omega
          · exact h.2
          · omega
        exact W.zret hx hb hre (by rcases h01 with rfl | rfl <;> rfl) (hQ G' (some (jI x)) H locs hp (fun q hq => by cases hq) hW' hS) hS.2.2 hd hlocks
    · intro G' pc r H locs ls' hd hz hp hok2 hW' hS
      obtain ⟨n, hre⟩ : ∃ n, meth.sig.returnType = some (.object n) := by
        rw [hr]
        rcases hrt with h | h | h | h
        · omega
        · omega
        · omega
        · exact h.2
      exact W.aret hx hb hre (Or.inl ⟨n, rfl⟩) (by cases r with | none => exact Or.inl rfl | some q => exact Or.inr ⟨_, rfl⟩) (hQ G' (some (.inr (.inr r))) H locs hp (fun q hq => hok2 q (by cases hq; rfl)) hW' hS) hS.2.2 hd hlocks
    · intro G' pc H locs ls' hd hz hp hW' hS
      have hre : meth.sig.returnType = none := by
        rw [hr]
        rcases hrt with h | h | h | h
        · exact h.2
        · omega
        · omega
        · omega
      exact W.vret hx hb hre (hQ G' none H locs hp (fun q hq => by cases hq) hW' hS) hS.2.2 hd hlocks
  have hrules := body As G (je_J p l e rm s m (As.map (je_e ad)).toArray below meth c 0 0 (MQ below (je_Qc D ad cA (Post As G)) (As.map (je_e ad)).toArray s 0 0 (je_A ad)) D ad cA maxL s.heap) hP hoA ⟨⟨je_run_ok hT (fun K hKJ {pc t G' L S} hok h => hstep K hKJ hok h), ?_, ?_, ?_, ?_⟩, ?_⟩
  · refine hrules (by rw [je_fill_len]; exact Nat.le_refl _) (fun q hq => ?_) (fun q hq => by cases hq) s.heap [] ls hW va_S.rf (lv_mono hl (fun q hq => ?_))
    · obtain ⟨a, ha⟩ := je_in_get _ hq
      exact hoA q (je_L0_in As _ (je_get_in _ a (je_fill_get _ _ a _ ha)))
    · obtain ⟨a, v, h1, h2⟩ := je_mem_get _ 0 hq
      rw [h2]
      exact je_L0_args ad As 0 _ (je_get_mem _ a 0 (je_fill_get _ _ a v h1))
  · intro pc y' ws2 rm' ci n hk Pre' Post' hM G' L S As' i hn hP' hsm kk
    exact je_callV hx hb ho hml hts hK hJ hN ⟨Nat.zero_le _, Nat.zero_le _⟩ hk hM hn hP' hsm kk
  · intro pc y' ws2 rm' n hk Pre' Post' hM G' L S As' hn hP' hsm kk
    exact je_callS hx hb ho hml hts hK hJ hN ⟨Nat.zero_le _, Nat.zero_le _⟩ hk hM hn hP' hsm kk
  · intro G1 G2 pc L S he h h0 hL hS H locs ls' hW' hV hl'
    exact h h0 hL hS H locs ls' (je_W_ext hW' he.1 he.2) hV hl'
  · intro G1 pc L L' S he h h0 hL hS H locs ls' hW' hV hl'
    refine h (by rw [je_le_len _ _ he]; exact h0) (fun q hq => ?_) hS H locs ls' hW' hV (lv_mono hl' (fun q hq => ?_))
    · obtain ⟨a, ha⟩ := je_in_get _ hq
      exact hL q (je_get_in _ a (je_le_get _ _ he a _ ha))
    · obtain ⟨a, v, h1, h2⟩ := je_mem_get _ 0 hq
      rw [h2]
      exact je_get_mem _ a 0 (je_le_get _ _ he a v h1)
  · intro st n G1 pc L S h
    unfold je_run1 at h
    cases hl2 : je_look tbl pc with
    | none => rw [hl2] at h; exact h
    | some t =>
      rw [hl2] at h
      have hs : ∀ (K : je_K), (∀ G1 pc L S, K G1 pc L S → je_J p l e rm s m (As.map (je_e ad)).toArray below meth c 0 0 (MQ below (je_Qc D ad cA (Post As G)) (As.map (je_e ad)).toArray s 0 0 (je_A ad)) D ad cA maxL s.heap G1 pc L S) → ∀ {pc t G' L S}, je_look tbl pc = some t → je_step t rt K (fun G' r => Post As G r G') G' L S → je_J p l e rm s m (As.map (je_e ad)).toArray below meth c 0 0 (MQ below (je_Qc D ad cA (Post As G)) (As.map (je_e ad)).toArray s 0 0 (je_A ad)) D ad cA maxL s.heap G' pc L S := fun K hKJ {pc t G' L S} hlk h => hstep K hKJ (je_okT_mem tbl hT (pc, t) (je_look_mem tbl pc hlk)) h
      exact hs _ (fun G1 pc L S => je_go_run hs n G1 pc L S) hl2 h
/-- a contract at given arguments and rows -/
def je_C1 (l : Launch) (y : MethodName) (ws : List Jvm.Cond) (rm : Room) (A0 : List je_V) (G0 : je_G) (Post : Option je_V → je_G → Prop) : Prop := je_M l y ws rm (fun As G => As = A0 ∧ G = G0) (fun _ _ r G' => Post r G')
abbrev je_Ci (l : Launch) (y : MethodName) (ws : List Jvm.Cond) (rm : Room) (A0 : List je_V) (G0 : je_G) (Q : Int32 → je_G → Prop) : Prop := je_C1 l y ws rm A0 G0 (fun r G' => ∃ x, r = some (jI x) ∧ Q x G')
abbrev je_Cv (l : Launch) (y : MethodName) (ws : List Jvm.Cond) (rm : Room) (A0 : List je_V) (G0 : je_G) (Q : je_G → Prop) : Prop := je_C1 l y ws rm A0 G0 (fun r G' => r = none ∧ Q G')
abbrev je_Cr (l : Launch) (y : MethodName) (ws : List Jvm.Cond) (rm : Room) (A0 : List je_V) (G0 : je_G) (Q : Option je_C → je_G → Prop) : Prop := je_C1 l y ws rm A0 G0 (fun r G' => ∃ x, r = some (.inr (.inr x)) ∧ Q x G')
theorem je_met1 {l : Launch} {own : String} {y : MethodName} {ws ws' : List Jvm.Cond} {cc : ByteArray} {maxL : Nat} {ret : Option FieldType} {rm : Room} {A0 : List je_V} {G0 : je_G} {Post : Option je_V → je_G → Prop} (tbl : List (Nat × je_I)) (rt : Nat) (hT : je_okT own cc ws tbl) (hw : ws = .code y cc maxL ret :: ws') (hy : plainName y.cls = true) (hown : y.cls = own) (hrt : je_ret rt ret) (hroom : 1 ≤ rm.frames ∧ 21 ≤ rm.locals) (hlen : je_sm A0 ≤ maxL)
    (body : ∀ (J : je_K), je_oks A0 → je_RR l own cc ws rm tbl rt (fun G' r => Post r G') J → J G0 0 (je_fill maxL (je_L0 A0)) []) : je_C1 l y ws rm A0 G0 Post := by
  refine je_met2 tbl rt hT hw hy hown hrt hroom (fun As G h => by rw [h.1]; exact hlen) ?_
  intro As G J hP ho hR
  obtain ⟨rfl, rfl⟩ := hP
  exact body J ho hR
section JW
variable {l : Launch} {own : String} {cc : ByteArray} {Ts : List Jvm.Cond} {rm : Room} {tbl : List (Nat × je_I)} {rt : Nat} {Rt : je_G → Option je_V → Prop} {J : je_K} {y : MethodName} {ws : List Jvm.Cond} {rm' : Room} {ci i pc pc' : Nat} {G : je_G} {L : List (Option je_V)} {S : List je_V} {Q : Int32 → je_G → Prop} {Qv : je_G → Prop} {Qr : Option je_C → je_G → Prop} {a1 a2 a3 : je_V}
theorem je_v0i (hR : je_RR l own cc Ts rm tbl rt Rt J) (hk : je_LkV own cc Ts rm pc y ws rm' ci 0) (hpc : pc + 3 = pc') (hM : je_Ci l y ws rm' [jR (ci, i, 0)] G Q) (hsm : Nat.ble (je_sm S) 8 = true) (kk : ∀ x G', Q x G' → J G' pc' L (jI x :: S)) : J G pc L (jR (ci, i, 0) :: S) := by
  subst hpc
  refine hR.1.2.1 hk hM (As := []) rfl ⟨rfl, rfl⟩ hsm (fun r G' hp => ?_)
  obtain ⟨x, e, hq⟩ := hp; subst e; exact kk x G' hq
theorem je_v0v (hR : je_RR l own cc Ts rm tbl rt Rt J) (hk : je_LkV own cc Ts rm pc y ws rm' ci 0) (hpc : pc + 3 = pc') (hM : je_Cv l y ws rm' [jR (ci, i, 0)] G Qv) (hsm : Nat.ble (je_sm S) 8 = true) (kk : ∀ G', Qv G' → J G' pc' L S) : J G pc L (jR (ci, i, 0) :: S) := by
  subst hpc
  refine hR.1.2.1 hk hM (As := []) rfl ⟨rfl, rfl⟩ hsm (fun r G' hp => ?_)
  obtain ⟨e, hq⟩ := hp; subst e; exact kk G' hq
theorem je_v0r (hR : je_RR l own cc Ts rm tbl rt Rt J) (hk : je_LkV own cc Ts rm pc y ws rm' ci 0) (hpc : pc + 3 = pc') (hM : je_Cr l y ws rm' [jR (ci, i, 0)] G Qr) (hsm : Nat.ble (je_sm S) 8 = true) (kk : ∀ x G', Qr x G' → J G' pc' L (.inr (.inr x) :: S)) : J G pc L (jR (ci, i, 0) :: S) := by
  subst hpc
  refine hR.1.2.1 hk hM (As := []) rfl ⟨rfl, rfl⟩ hsm (fun r G' hp => ?_)
  obtain ⟨x, e, hq⟩ := hp; subst e; exact kk x G' hq
theorem je_v1i (hR : je_RR l own cc Ts rm tbl rt Rt J) (hk : je_LkV own cc Ts rm pc y ws rm' ci 1) (hpc : pc + 3 = pc') (hM : je_Ci l y ws rm' [jR (ci, i, 0), a1] G Q) (hsm : Nat.ble (je_sm S) 8 = true) (kk : ∀ x G', Q x G' → J G' pc' L (jI x :: S)) : J G pc L (a1 :: jR (ci, i, 0) :: S) := by
  subst hpc
  refine hR.1.2.1 hk hM (As := [a1]) rfl ⟨rfl, rfl⟩ hsm (fun r G' hp => ?_)
  obtain ⟨x, e, hq⟩ := hp; subst e; exact kk x G' hq
theorem je_v1v (hR : je_RR l own cc Ts rm tbl rt Rt J) (hk : je_LkV own cc Ts rm pc y ws rm' ci 1) (hpc : pc + 3 = pc') (hM : je_Cv l y ws rm' [jR (ci, i, 0), a1] G Qv) (hsm : Nat.ble (je_sm S) 8 = true) (kk : ∀ G', Qv G' → J G' pc' L S) : J G pc L (a1 :: jR (ci, i, 0) :: S) := by
  subst hpc
  refine hR.1.2.1 hk hM (As := [a1]) rfl ⟨rfl, rfl⟩ hsm (fun r G' hp => ?_)
  obtain ⟨e, hq⟩ := hp; subst e; exact kk G' hq
theorem je_v1r (hR : je_RR l own cc Ts rm tbl rt Rt J) (hk : je_LkV own cc Ts rm pc y ws rm' ci 1) (hpc : pc + 3 = pc') (hM : je_Cr l y ws rm' [jR (ci, i, 0), a1] G Qr) (hsm : Nat.ble (je_sm S) 8 = true) (kk : ∀ x G', Qr x G' → J G' pc' L (.inr (.inr x) :: S)) : J G pc L (a1 :: jR (ci, i, 0) :: S) := by
  subst hpc
  refine hR.1.2.1 hk hM (As := [a1]) rfl ⟨rfl, rfl⟩ hsm (fun r G' hp => ?_)
  obtain ⟨x, e, hq⟩ := hp; subst e; exact kk x G' hq
theorem je_v2i (hR : je_RR l own cc Ts rm tbl rt Rt J) (hk : je_LkV own cc Ts rm pc y ws rm' ci 2) (hpc : pc + 3 = pc') (hM : je_Ci l y ws rm' [jR (ci, i, 0), a1, a2] G Q) (hsm : Nat.ble (je_sm S) 8 = true) (kk : ∀ x G', Q x G' → J G' pc' L (jI x :: S)) : J G pc L (a2 :: a1 :: jR (ci, i, 0) :: S) := by
  subst hpc
  refine hR.1.2.1 hk hM (As := [a1, a2]) rfl ⟨rfl, rfl⟩ hsm (fun r G' hp => ?_)
  obtain ⟨x, e, hq⟩ := hp; subst e; exact kk x G' hq
theorem je_v2v (hR : je_RR l own cc Ts rm tbl rt Rt J) (hk : je_LkV own cc Ts rm pc y ws rm' ci 2) (hpc : pc + 3 = pc') (hM : je_Cv l y ws rm' [jR (ci, i, 0), a1, a2] G Qv) (hsm : Nat.ble (je_sm S) 8 = true) (kk : ∀ G', Qv G' → J G' pc' L S) : J G pc L (a2 :: a1 :: jR (ci, i, 0) :: S) := by
  subst hpc
  refine hR.1.2.1 hk hM (As := [a1, a2]) rfl ⟨rfl, rfl⟩ hsm (fun r G' hp => ?_)
  obtain ⟨e, hq⟩ := hp; subst e; exact kk G' hq
theorem je_v2r (hR : je_RR l own cc Ts rm tbl rt Rt J) (hk : je_LkV own cc Ts rm pc y ws rm' ci 2) (hpc : pc + 3 = pc') (hM : je_Cr l y ws rm' [jR (ci, i, 0), a1, a2] G Qr) (hsm : Nat.ble (je_sm S) 8 = true) (kk : ∀ x G', Qr x G' → J G' pc' L (.inr (.inr x) :: S)) : J G pc L (a2 :: a1 :: jR (ci, i, 0) :: S) := by
  subst hpc
  refine hR.1.2.1 hk hM (As := [a1, a2]) rfl ⟨rfl, rfl⟩ hsm (fun r G' hp => ?_)
  obtain ⟨x, e, hq⟩ := hp; subst e; exact kk x G' hq
theorem je_v3i (hR : je_RR l own cc Ts rm tbl rt Rt J) (hk : je_LkV own cc Ts rm pc y ws rm' ci 3) (hpc : pc + 3 = pc') (hM : je_Ci l y ws rm' [jR (ci, i, 0), a1, a2, a3] G Q) (hsm : Nat.ble (je_sm S) 8 = true) (kk : ∀ x G', Q x G' → J G' pc' L (jI x :: S)) : J G pc L (a3 :: a2 :: a1 :: jR (ci, i, 0) :: S) := by
  subst hpc
  refine hR.1.2.1 hk hM (As := [a1, a2, a3]) rfl ⟨rfl, rfl⟩ hsm (fun r G' hp => ?_)
  obtain ⟨x, e, hq⟩ := hp; subst e; exact kk x G' hq
theorem je_v3v (hR : je_RR l own cc Ts rm tbl rt Rt J) (hk : je_LkV own cc Ts rm pc y ws rm' ci 3) (hpc : pc + 3 = pc') (hM : je_Cv l y ws rm' [jR (ci, i, 0), a1, a2, a3] G Qv) (hsm : Nat.ble (je_sm S) 8 = true) (kk : ∀ G', Qv G' → J G' pc' L S) : J G pc L (a3 :: a2 :: a1 :: jR (ci, i, 0) :: S) := by
  subst hpc
  refine hR.1.2.1 hk hM (As := [a1, a2, a3]) rfl ⟨rfl, rfl⟩ hsm (fun r G' hp => ?_)
  obtain ⟨e, hq⟩ := hp; subst e; exact kk G' hq
theorem je_v3r (hR : je_RR l own cc Ts rm tbl rt Rt J) (hk : je_LkV own cc Ts rm pc y ws rm' ci 3) (hpc : pc + 3 = pc') (hM : je_Cr l y ws rm' [jR (ci, i, 0), a1, a2, a3] G Qr) (hsm : Nat.ble (je_sm S) 8 = true) (kk : ∀ x G', Qr x G' → J G' pc' L (.inr (.inr x) :: S)) : J G pc L (a3 :: a2 :: a1 :: jR (ci, i, 0) :: S) := by
  subst hpc
  refine hR.1.2.1 hk hM (As := [a1, a2, a3]) rfl ⟨rfl, rfl⟩ hsm (fun r G' hp => ?_)
  obtain ⟨x, e, hq⟩ := hp; subst e; exact kk x G' hq
theorem je_s1i (hR : je_RR l own cc Ts rm tbl rt Rt J) (hk : je_LkS own cc Ts rm pc y ws rm' 1) (hpc : pc + 3 = pc') (hM : je_Ci l y ws rm' [a1] G Q) (hsm : Nat.ble (je_sm S) 8 = true) (kk : ∀ x G', Q x G' → J G' pc' L (jI x :: S)) : J G pc L (a1 :: S) := by
  subst hpc
  refine hR.1.2.2.1 hk hM (As := [a1]) rfl ⟨rfl, rfl⟩ hsm (fun r G' hp => ?_)
  obtain ⟨x, e, hq⟩ := hp; subst e; exact kk x G' hq
theorem je_s1v (hR : je_RR l own cc Ts rm tbl rt Rt J) (hk : je_LkS own cc Ts rm pc y ws rm' 1) (hpc : pc + 3 = pc') (hM : je_Cv l y ws rm' [a1] G Qv) (hsm : Nat.ble (je_sm S) 8 = true) (kk : ∀ G', Qv G' → J G' pc' L S) : J G pc L (a1 :: S) := by
  subst hpc
  refine hR.1.2.2.1 hk hM (As := [a1]) rfl ⟨rfl, rfl⟩ hsm (fun r G' hp => ?_)
  obtain ⟨e, hq⟩ := hp; subst e; exact kk G' hq
theorem je_s1r (hR : je_RR l own cc Ts rm tbl rt Rt J) (hk : je_LkS own cc Ts rm pc y ws rm' 1) (hpc : pc + 3 = pc') (hM : je_Cr l y ws rm' [a1] G Qr) (hsm : Nat.ble (je_sm S) 8 = true) (kk : ∀ x G', Qr x G' → J G' pc' L (.inr (.inr x) :: S)) : J G pc L (a1 :: S) := by
  subst hpc
  refine hR.1.2.2.1 hk hM (As := [a1]) rfl ⟨rfl, rfl⟩ hsm (fun r G' hp => ?_)
  obtain ⟨x, e, hq⟩ := hp; subst e; exact kk x G' hq
theorem je_s2i (hR : je_RR l own cc Ts rm tbl rt Rt J) (hk : je_LkS own cc Ts rm pc y ws rm' 2) (hpc : pc + 3 = pc') (hM : je_Ci l y ws rm' [a1, a2] G Q) (hsm : Nat.ble (je_sm S) 8 = true) (kk : ∀ x G', Q x G' → J G' pc' L (jI x :: S)) : J G pc L (a2 :: a1 :: S) := by
  subst hpc
  refine hR.1.2.2.1 hk hM (As := [a1, a2]) rfl ⟨rfl, rfl⟩ hsm (fun r G' hp => ?_)
  obtain ⟨x, e, hq⟩ := hp; subst e; exact kk x G' hq
theorem je_s2v (hR : je_RR l own cc Ts rm tbl rt Rt J) (hk : je_LkS own cc Ts rm pc y ws rm' 2) (hpc : pc + 3 = pc') (hM : je_Cv l y ws rm' [a1, a2] G Qv) (hsm : Nat.ble (je_sm S) 8 = true) (kk : ∀ G', Qv G' → J G' pc' L S) : J G pc L (a2 :: a1 :: S) := by
  subst hpc
  refine hR.1.2.2.1 hk hM (As := [a1, a2]) rfl ⟨rfl, rfl⟩ hsm (fun r G' hp => ?_)
  obtain ⟨e, hq⟩ := hp; subst e; exact kk G' hq
theorem je_s2r (hR : je_RR l own cc Ts rm tbl rt Rt J) (hk : je_LkS own cc Ts rm pc y ws rm' 2) (hpc : pc + 3 = pc') (hM : je_Cr l y ws rm' [a1, a2] G Qr) (hsm : Nat.ble (je_sm S) 8 = true) (kk : ∀ x G', Qr x G' → J G' pc' L (.inr (.inr x) :: S)) : J G pc L (a2 :: a1 :: S) := by
  subst hpc
  refine hR.1.2.2.1 hk hM (As := [a1, a2]) rfl ⟨rfl, rfl⟩ hsm (fun r G' hp => ?_)
  obtain ⟨x, e, hq⟩ := hp; subst e; exact kk x G' hq
theorem je_s3i (hR : je_RR l own cc Ts rm tbl rt Rt J) (hk : je_LkS own cc Ts rm pc y ws rm' 3) (hpc : pc + 3 = pc') (hM : je_Ci l y ws rm' [a1, a2, a3] G Q) (hsm : Nat.ble (je_sm S) 8 = true) (kk : ∀ x G', Q x G' → J G' pc' L (jI x :: S)) : J G pc L (a3 :: a2 :: a1 :: S) := by
  subst hpc
  refine hR.1.2.2.1 hk hM (As := [a1, a2, a3]) rfl ⟨rfl, rfl⟩ hsm (fun r G' hp => ?_)
  obtain ⟨x, e, hq⟩ := hp; subst e; exact kk x G' hq
theorem je_s3v (hR : je_RR l own cc Ts rm tbl rt Rt J) (hk : je_LkS own cc Ts rm pc y ws rm' 3) (hpc : pc + 3 = pc') (hM : je_Cv l y ws rm' [a1, a2, a3] G Qv) (hsm : Nat.ble (je_sm S) 8 = true) (kk : ∀ G', Qv G' → J G' pc' L S) : J G pc L (a3 :: a2 :: a1 :: S) := by
  subst hpc
  refine hR.1.2.2.1 hk hM (As := [a1, a2, a3]) rfl ⟨rfl, rfl⟩ hsm (fun r G' hp => ?_)
  obtain ⟨e, hq⟩ := hp; subst e; exact kk G' hq
theorem je_s3r (hR : je_RR l own cc Ts rm tbl rt Rt J) (hk : je_LkS own cc Ts rm pc y ws rm' 3) (hpc : pc + 3 = pc') (hM : je_Cr l y ws rm' [a1, a2, a3] G Qr) (hsm : Nat.ble (je_sm S) 8 = true) (kk : ∀ x G', Qr x G' → J G' pc' L (.inr (.inr x) :: S)) : J G pc L (a3 :: a2 :: a1 :: S) := by
  subst hpc
  refine hR.1.2.2.1 hk hM (As := [a1, a2, a3]) rfl ⟨rfl, rfl⟩ hsm (fun r G' hp => ?_)
  obtain ⟨x, e, hq⟩ := hp; subst e; exact kk x G' hq
theorem je_loc (hR : je_RR l own cc Ts rm tbl rt Rt J) {L' : List (Option je_V)} (h : je_le L' L) (k : J G pc L' S) : J G pc L S := hR.1.2.2.2.2 h k
theorem je_ext (hR : je_RR l own cc Ts rm tbl rt Rt J) {G' : je_G} (h : je_eqv G G') (k : J G' pc L S) : J G pc L S := hR.1.2.2.2.1 h k
end JW
