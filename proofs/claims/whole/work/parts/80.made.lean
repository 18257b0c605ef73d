/-! CONSTRUCTORS that make objects: what a call brings (laid by wip/whole/gen/gen_cons2.py) -/
theorem arrV_ext {cI : ClassId} {N : Nat} {f g : Nat → Value} (h : ∀ i, i < N → f i = g i) : arrV cI N f = arrV cI N g := by
  unfold arrV
  congr 2
  funext j
  exact h j.val j.isLt
theorem xw_join {D : va_G} {A : Nat → Prop} {ws w1 : va_W} {q : Nat} {e0 : va_E} {H H1 : Heap} (hP : va_P D vwCl (ws ++ [(q, e0)]) H) (hD : va_D A (ws ++ [(q, e0)])) (hk : ∀ x : Nat, x < H.size → ¬ va_A [(q, e0)] H.size x → H1[x]? = H[x]?) (hF : ∀ x, va_A [(q, e0)] H.size x → A x) (hP1 : va_P D vwCl w1 H1) (hD1 : va_D (va_A [(q, e0)] H.size) w1) : va_P D vwCl (ws ++ w1) H1 ∧ va_D A (ws ++ w1) := by
  have hl : (ws ++ [(q, e0)])[ws.length]? = some (q, e0) := by
    rw [List.getElem?_append_right (Nat.le_refl _), Nat.sub_self]
    rfl
  have hw : ∀ (k : Nat) (x : Nat × va_E), ws[k]? = some x → (ws ++ [(q, e0)])[k]? = some x ∧ k < ws.length := fun k x hx => by
    have h := (List.getElem?_eq_some_iff.mp hx).1
    exact ⟨by rw [List.getElem?_append_left h]; exact hx, h⟩
  have apart : ∀ (k : Nat) (x : Nat × va_E), ws[k]? = some x → x.1 < H.size ∧ ¬ va_A [(q, e0)] H.size x.1 := by
    intro k x hx
    obtain ⟨h1, h2⟩ := hw k x hx
    have h3 := (hP k x h1).lt
    refine ⟨h3, fun h => ?_⟩
    rcases h with ⟨k2, e, h⟩ | h
    · have h4 : x.1 = q := by
        cases k2 with
        | zero => exact (congrArg Prod.fst (Option.some.inj h)).symm
        | succ k2 => simp at h
      have := hD.1 k ws.length x (q, e0) h1 hl h4
      omega
    · omega
  refine ⟨va_P.app (fun k x hx => ?_) hP1, va_D.app ⟨fun i j x y hx hy hxy => hD.1 i j x y (hw i x hx).1 (hw j y hy).1 hxy, fun k x hx => hD.2 k x (hw k x hx).1⟩ (hD1.weaken (fun k x _ h => hF x.1 h)) (fun i j x y hx hy hxy => (apart i x hx).2 (by rw [hxy]; exact hD1.2 j y hy))⟩
  obtain ⟨g1, g2⟩ := apart k x hx
  exact (hP k x (hw k x hx).1).kept (hk x.1 g1 g2)
section XW
variable {p : Program} {l : Launch} {e : Env} {R : Room} {s : State} {m : MethodId} {args : Array Value} {below : List Frame} {meth : Method} {c : Code} {cells slots : Nat} {Q : State → Prop} {D : va_G} {cA : Nat → ClassId} {A : Nat → Prop} {H0 : Heap}
theorem xw_call {S : Type} {post : S → Prop} {L : S → va_W} {ws : va_W} {q mc ms pc : Nat} {e0 : va_E} {H : Heap} {locs : List Loc} {ls : Array Slot} {st0 rest : List Value} {a : Array Value}
    (hr : va_Run p l e R s m args below meth c H locs cells slots mc ms (F0 m pc ls st0) rest (va_Qv post (fun u t => va_P D vwCl (L u) t.heap ∧ va_K D vwCl (je_T cA) t ∧ va_D (va_A [(q, e0)] H.size) (L u)) (va_A [(q, e0)] H.size) a) (va_A [(q, e0)] H.size))
    (hP : va_P D vwCl (ws ++ [(q, e0)]) H) (hD : va_D A (ws ++ [(q, e0)])) (hS : va_S A H0 H locs) (hA : ∀ x, H0.size ≤ x → A x)
    (kk : ∀ (u : S) (H1 : Heap) (locs1 : List Loc), post u → va_P D vwCl (ws ++ L u) H1 → va_D A (ws ++ L u) → va_S A H0 H1 locs1 → W p l e R s m args below meth c H1 locs1 (cells + mc) (slots + ms) Q (F0 m (pc + 3) ls rest)) : W p l e R s m args below meth c H locs cells slots Q (F0 m pc ls st0) := by
  have hl : (ws ++ [(q, e0)])[ws.length]? = some (q, e0) := by
    rw [List.getElem?_append_right (Nat.le_refl _), Nat.sub_self]
    rfl
  have hFc : ∀ x, va_A [(q, e0)] H.size x → A x := by
    intro x h
    rcases h with ⟨k2, e, h⟩ | h
    · cases k2 with
      | zero =>
        have h4 : q = x := congrArg Prod.fst (Option.some.inj h)
        rw [← h4]
        exact hD.2 _ _ hl
      | succ k2 => simp at h
    · exact hA x (Nat.le_trans hS.1 h)
  refine va_callv hr hS (fun x _ h => hFc x h) hFc (fun u t H1 locs1 ht hvm hp hB hz1 hk1 hS1 => ?_)
  obtain ⟨hP1, hK1, hD1⟩ := hB
  rw [ht] at hP1
  obtain ⟨hP2, hD2⟩ := xw_join hP hD hk1 hFc hP1 hD1
  exact kk u H1 locs1 hp hP2 hD2 hS1
end XW
theorem xw_at {cA : Nat → ClassId} {f : Nat → Nat} {X : va_W} : (X ++ xb cA 1 f)[X.length]? = some (f 0, je_E (fun q => f q.2.2) cA je_Gi 1 0 0) := by
  rw [List.getElem?_append_right (Nat.le_refl _), Nat.sub_self]
  rfl
def xnest : List Jvm.Cond := [.methodLinkNest RX0 20 yX4_init RX5, .methodLinkNest RX0 27 yX2_init RX5, .methodLinkNest RX5 18 yX4_init RX5, .methodLinkNest RX5 25 yX2_init RX5, .methodLinkNest RX5 32 yX0_init RX5, .methodLinkNest RX5 39 yX3_init RX5]
theorem xnest_on {w : Jvm.Cond} (h : w ∈ xnest) : ∃ a i x hst, w = .methodLinkNest a i x hst := by
  simp only [xnest, List.mem_cons, List.not_mem_nil, or_false] at h
  rcases h with h | h | h | h | h | h <;> exact ⟨_, _, _, _, h⟩
theorem xnest_warm {s U : State} (hW : s.WarmedH U.vm) (h : ∀ w ∈ xnest, va_Nw w s) : ∀ w ∈ xnest, va_Nw w U := by
  intro w hw
  obtain ⟨a, i, x, hst, rfl⟩ := xnest_on hw
  exact va_Nw.warmM hW (h _ hw)
theorem xnest_same {s U : State} (e : s.vm = U.vm) (h : ∀ w ∈ xnest, va_Nw w s) : ∀ w ∈ xnest, va_Nw w U := by
  intro w hw
  obtain ⟨a, i, x, hst, rfl⟩ := xnest_on hw
  exact va_Nw.same rfl e (h _ hw)
theorem dfX0 : ∀ j, j < 3 → defaultValue (tyX0 j) = vp_V [.null, .null, .null] j := by
  intro j hj
  rcases j with _ | _ | _ | j <;> first | rfl | omega
theorem dfX1 : ∀ j, j < 12 → defaultValue (tyX1 j) = vp_V [.int 0, .int 0, .int 0, .int 0, .int 0, .null, .null, .null, .null, .null, .null, .null] j := by
  intro j hj
  rcases j with _ | _ | _ | _ | _ | _ | _ | _ | _ | _ | _ | _ | j <;> first | rfl | omega
theorem dfX2 : ∀ j, j < 1 → defaultValue (tyX2 j) = vp_V [.null] j := by
  intro j hj
  rcases j with _ | j <;> first | rfl | omega
theorem dfX3 : ∀ j, j < 2 → defaultValue (tyX3 j) = vp_V [.int 0, .null] j := by
  intro j hj
  rcases j with _ | _ | j <;> first | rfl | omega
theorem dfX4 : ∀ j, j < 6 → defaultValue (tyX4 j) = vp_V [.null, .null, .null, .null, .null, .int 0] j := by
  intro j hj
  rcases j with _ | _ | _ | _ | _ | _ | j <;> first | rfl | omega
theorem dfX5 : ∀ j, j < 10 → defaultValue (tyX5 j) = vp_V [.null, .null, .null, .null, .null, .null, .null, .null, .int 0, .int 0] j := by
  intro j hj
  rcases j with _ | _ | _ | _ | _ | _ | _ | _ | _ | _ | j <;> first | rfl | omega
theorem inX0_X1 : ∀ w ∈ wsX10, w ∈ wsX0_init := fun _ h => List.mem_cons_of_mem _ (List.mem_append_left _ (List.mem_append_left _ (List.mem_append_left _ (List.mem_append_right _ h))))
theorem inX0_X0 : ∀ w ∈ wsX00, w ∈ wsX0_init := fun _ h => List.mem_cons_of_mem _ (List.mem_append_left _ (List.mem_append_left _ (List.mem_append_right _ h)))
theorem inX0_X4 : ∀ w ∈ wsX40, w ∈ wsX0_init := fun _ h => List.mem_cons_of_mem _ (List.mem_append_left _ (List.mem_append_right _ h))
theorem inX0_X2 : ∀ w ∈ wsX20, w ∈ wsX0_init := fun _ h => List.mem_cons_of_mem _ (List.mem_append_right _ h)
theorem inX5_X1 : ∀ w ∈ wsX10, w ∈ wsX5_init := fun _ h => List.mem_cons_of_mem _ (List.mem_append_left _ (List.mem_append_left _ (List.mem_append_left _ (List.mem_append_left _ (List.mem_append_left _ (List.mem_append_right _ h))))))
theorem inX5_X5 : ∀ w ∈ wsX50, w ∈ wsX5_init := fun _ h => List.mem_cons_of_mem _ (List.mem_append_left _ (List.mem_append_left _ (List.mem_append_left _ (List.mem_append_left _ (List.mem_append_right _ h)))))
theorem inX5_X4 : ∀ w ∈ wsX40, w ∈ wsX5_init := fun _ h => List.mem_cons_of_mem _ (List.mem_append_left _ (List.mem_append_left _ (List.mem_append_left _ (List.mem_append_right _ h))))
theorem inX5_X2 : ∀ w ∈ wsX20, w ∈ wsX5_init := fun _ h => List.mem_cons_of_mem _ (List.mem_append_left _ (List.mem_append_left _ (List.mem_append_right _ h)))
theorem inX5_X0 : ∀ w ∈ wsX00, w ∈ wsX5_init := fun _ h => List.mem_cons_of_mem _ (List.mem_append_left _ (List.mem_append_right _ h))
theorem inX5_X3 : ∀ w ∈ wsX30, w ∈ wsX5_init := fun _ h => List.mem_cons_of_mem _ (List.mem_append_right _ h)
/-- a forecast's cells -/
def xf0 (cA : Nat → ClassId) (h0 : Nat) (u : (Nat → Nat) × (Nat → Nat) × (Nat → Nat)) : va_W := (h0, .inr (0, [.ref (u.1 0), .ref (u.2.1 0), .ref (u.2.2 0)])) :: ((xb cA 1 u.1 ++ xb cA 4 u.2.1) ++ xb cA 2 u.2.2)
