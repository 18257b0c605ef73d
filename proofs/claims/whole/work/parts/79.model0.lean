/-! CONSTRUCTOR of the reference (laid by wip/whole/gen/gen_cons.py) -/
section LP6
variable {p : Program} {l : Launch} {e : Env} {R : Room} {s : State} {m : MethodId} {args : Array Value} {below : List Frame} {meth : Method} {c : Code} {cells slots : Nat} {Q : State → Prop} {D : va_G} {cA : Nat → ClassId} {A : Nat → Prop} {H0 : Heap}
set_option maxHeartbeats 4000000 in
set_option maxRecDepth 100000 in
theorem lp_X6 (hx : p.tables.exec = Jvm.exec) (hb : c.code = cX6_init) (hts : ∀ w ∈ wsX6_init, w.before args s = true) (hown : s.vm.findClass RX6 = some m.cls) (hK : va_K D vwCl (je_T cA) s) {h0 q1 : Nat} {rest : va_W} {fs : List Value} (hfs : fs[0]? = some (.ref q1)) {g : Nat → Int32}
    (fin : ∀ (H : Heap) (locs : List Loc) (ls : Array Slot), va_P D vwCl ((h0, .inr (6, fs)) :: (q1, .inl (cA 0, 161, .inl (gdX g 56 35))) :: rest) H → va_D A ((h0, .inr (6, fs)) :: (q1, .inl (cA 0, 161, .inl (gdX g 56 35))) :: rest) → va_S A H0 H locs → W p l e R s m args below meth c H locs cells slots Q (F0 m 208 ls [])) :
    ∀ (d i : Nat), i + d = 35 → ∀ (H : Heap) (locs : List Loc) (ls : Array Slot), lv_has ls 2 [(1, .int (nI i)), (0, .ref h0)] → va_P D vwCl ((h0, .inr (6, fs)) :: (q1, .inl (cA 0, 161, .inl (gdX g 56 i))) :: rest) H → va_D A ((h0, .inr (6, fs)) :: (q1, .inl (cA 0, 161, .inl (gdX g 56 i))) :: rest) → va_S A H0 H locs → W p l e R s m args below meth c H locs cells slots Q (F0 m 186 ls []) := by
  intro d
  induction d with
  | zero =>
    intro i hi H locs ls hl hP hD hS
    have hi : i = 35 := by omega
    subst hi
    refine lv_iload_n hx hb dX6_init_186 rfl (lv_at hl 0 rfl) ?_
    refine lv_bipush (v := nI 35) hx hb dX6_init_187 (by decide +kernel) ?_
    exact lv_icmp_ge hx hb dX6_init_189 (tgt := 208) (by decide) (fun _ => fin H locs ls hP hD hS) (fun h => absurd ((nI_leI (by omega) (by omega)).mpr (Nat.le_refl 35)) h)
  | succ d ih =>
    intro i hi H locs ls hl hP hD hS
    refine lv_iload_n hx hb dX6_init_186 rfl (lv_at hl 0 rfl) ?_
    refine lv_bipush (v := nI 35) hx hb dX6_init_187 (by decide +kernel) ?_
    refine lv_icmp_ge hx hb dX6_init_189 (tgt := 208) (by decide) (fun h => absurd ((nI_leI (by omega) (by omega)).mp h) (by omega)) (fun _ => ?_)
    refine lv_aload_n hx hb dX6_init_192 rfl (lv_at hl 1 rfl) ?_
    refine va_get (D := D) (cl := vwCl) (ci := 6) (v := .ref q1) (C := RX6) (T := TX6) (N := 16) hx hb hts (by decide +kernel) hown hK hP 0 rfl rfl 0 (by decide) (hts (.fieldLink RX6 7 "RopedHallsModel" "s" "[I") (by decide +kernel)) (fun _ h9 => h9) hfs dX6_init_193 ?_
    refine lv_bipush (v := nI 56) hx hb dX6_init_196 (by decide +kernel) ?_
    refine lv_iload_n hx hb dX6_init_198 rfl (lv_at hl 0 rfl) ?_
    refine lv_iadd hx hb dX6_init_199 ?_
    rw [nI_add]
    refine lv_iconst (v := -1) hx hb dX6_init_200 (by decide +kernel) ?_
    refine va_iast (D := D) (cl := vwCl) hx hb hK hP hD hS 1 0 rfl rfl (vp_in_nI (by omega) (by omega)) dX6_init_201 (fun H locs hP hD hS => ?_)
    have e9 : upd (gdX g 56 i) (nI (56 + i)).toNatClampNeg (-1) = gdX g 56 (i + 1) := by
      rw [nI_clamp (by omega), ← gdX_upd]
    rw [e9] at hP hD
    refine lv_iinc (v := nI (i + 1)) (lv' := [(1, .int (nI (i + 1))), (0, .ref h0)]) (k := 0) hx hb dX6_init_202 hl rfl (nI_add i 1) (by decide) rfl (fun ls hl => ?_)
    exact lv_goto hx hb dX6_init_205 (tgt := 186) (by decide) (ih (i + 1) (by omega) H locs ls hl hP hD hS)
def gx6 : Nat → Int32 := gdX (upd (upd (upd (upd (upd (upd (upd (upd (upd (upd (upd (upd (fun _ => 0) 0 (nI 6)) 6 (nI 6)) 7 (nI 28)) 8 (nI 34)) 9 (nI 1)) 13 (nI 1)) 10 (nI 1)) 14 (nI 0)) 11 (nI 1)) 15 (nI 0)) 12 (nI 1)) 16 (nI 1)) 56 35
set_option maxHeartbeats 4000000 in
set_option maxRecDepth 100000 in
theorem st_X6 (hx : p.tables.exec = Jvm.exec) (hb : c.code = cX6_init) (hts : ∀ w ∈ wsX6_init, w.before args s = true) (hown : s.vm.findClass RX6 = some m.cls) (hK : va_K D vwCl (je_T cA) s) {h0 q1 : Nat} {rest : va_W} {fs : List Value} (hfs : fs[0]? = some (.ref q1))
    (fin : ∀ (H : Heap) (locs : List Loc) (ls : Array Slot), va_P D vwCl ((h0, .inr (6, fs)) :: (q1, .inl (cA 0, 161, .inl (gx6))) :: rest) H → va_D A ((h0, .inr (6, fs)) :: (q1, .inl (cA 0, 161, .inl (gx6))) :: rest) → va_S A H0 H locs → W p l e R s m args below meth c H locs cells slots Q (F0 m 208 ls []))
    {H : Heap} {locs : List Loc} {ls : Array Slot} (hl : lv_has ls 2 [(0, .ref h0)]) (hP : va_P D vwCl ((h0, .inr (6, fs)) :: (q1, .inl (cA 0, 161, .inl (fun _ => 0))) :: rest) H) (hD : va_D A ((h0, .inr (6, fs)) :: (q1, .inl (cA 0, 161, .inl (fun _ => 0))) :: rest)) (hS : va_S A H0 H locs) : W p l e R s m args below meth c H locs cells slots Q (F0 m 103 ls []) := by
  refine lv_aload_n hx hb dX6_init_103 rfl (lv_at hl 0 rfl) ?_
  refine va_get (D := D) (cl := vwCl) (ci := 6) (v := .ref q1) (C := RX6) (T := TX6) (N := 16) hx hb hts (by decide +kernel) hown hK hP 0 rfl rfl 0 (by decide) (hts (.fieldLink RX6 7 "RopedHallsModel" "s" "[I") (by decide +kernel)) (fun _ h9 => h9) hfs dX6_init_104 ?_
  refine lv_iconst (v := nI 0) hx hb dX6_init_107 (by decide +kernel) ?_
  refine lv_bipush (v := nI 6) hx hb dX6_init_108 (by decide +kernel) ?_
  refine va_iast (D := D) (cl := vwCl) hx hb hK hP hD hS 1 0 rfl rfl (vp_in_nI (by omega) (by omega)) dX6_init_110 (fun H locs hP hD hS => ?_)
  rw [nI_clamp (by omega)] at hP hD
  have hP : va_P D vwCl ((h0, .inr (6, fs)) :: (q1, .inl (cA 0, 161, .inl (upd (fun _ => 0) 0 (nI 6)))) :: rest) H := hP
  have hD : va_D A ((h0, .inr (6, fs)) :: (q1, .inl (cA 0, 161, .inl (upd (fun _ => 0) 0 (nI 6)))) :: rest) := hD
  refine lv_aload_n hx hb dX6_init_111 rfl (lv_at hl 0 rfl) ?_
  refine va_get (D := D) (cl := vwCl) (ci := 6) (v := .ref q1) (C := RX6) (T := TX6) (N := 16) hx hb hts (by decide +kernel) hown hK hP 0 rfl rfl 0 (by decide) (hts (.fieldLink RX6 7 "RopedHallsModel" "s" "[I") (by decide +kernel)) (fun _ h9 => h9) hfs dX6_init_112 ?_
  refine lv_bipush (v := nI 6) hx hb dX6_init_115 (by decide +kernel) ?_
  refine lv_bipush (v := nI 6) hx hb dX6_init_117 (by decide +kernel) ?_
  refine va_iast (D := D) (cl := vwCl) hx hb hK hP hD hS 1 0 rfl rfl (vp_in_nI (by omega) (by omega)) dX6_init_119 (fun H locs hP hD hS => ?_)
  rw [nI_clamp (by omega)] at hP hD
  have hP : va_P D vwCl ((h0, .inr (6, fs)) :: (q1, .inl (cA 0, 161, .inl (upd (upd (fun _ => 0) 0 (nI 6)) 6 (nI 6)))) :: rest) H := hP
  have hD : va_D A ((h0, .inr (6, fs)) :: (q1, .inl (cA 0, 161, .inl (upd (upd (fun _ => 0) 0 (nI 6)) 6 (nI 6)))) :: rest) := hD
  refine lv_aload_n hx hb dX6_init_120 rfl (lv_at hl 0 rfl) ?_
  refine va_get (D := D) (cl := vwCl) (ci := 6) (v := .ref q1) (C := RX6) (T := TX6) (N := 16) hx hb hts (by decide +kernel) hown hK hP 0 rfl rfl 0 (by decide) (hts (.fieldLink RX6 7 "RopedHallsModel" "s" "[I") (by decide +kernel)) (fun _ h9 => h9) hfs dX6_init_121 ?_
  refine lv_bipush (v := nI 7) hx hb dX6_init_124 (by decide +kernel) ?_
  refine lv_bipush (v := nI 28) hx hb dX6_init_126 (by decide +kernel) ?_
  refine va_iast (D := D) (cl := vwCl) hx hb hK hP hD hS 1 0 rfl rfl (vp_in_nI (by omega) (by omega)) dX6_init_128 (fun H locs hP hD hS => ?_)
  rw [nI_clamp (by omega)] at hP hD
  have hP : va_P D vwCl ((h0, .inr (6, fs)) :: (q1, .inl (cA 0, 161, .inl (upd (upd (upd (fun _ => 0) 0 (nI 6)) 6 (nI 6)) 7 (nI 28)))) :: rest) H := hP
  have hD : va_D A ((h0, .inr (6, fs)) :: (q1, .inl (cA 0, 161, .inl (upd (upd (upd (fun _ => 0) 0 (nI 6)) 6 (nI 6)) 7 (nI 28)))) :: rest) := hD
  refine lv_aload_n hx hb dX6_init_129 rfl (lv_at hl 0 rfl) ?_
  refine va_get (D := D) (cl := vwCl) (ci := 6) (v := .ref q1) (C := RX6) (T := TX6) (N := 16) hx hb hts (by decide +kernel) hown hK hP 0 rfl rfl 0 (by decide) (hts (.fieldLink RX6 7 "RopedHallsModel" "s" "[I") (by decide +kernel)) (fun _ h9 => h9) hfs dX6_init_130 ?_
  refine lv_bipush (v := nI 8) hx hb dX6_init_133 (by decide +kernel) ?_
  refine lv_bipush (v := nI 34) hx hb dX6_init_135 (by decide +kernel) ?_
  refine va_iast (D := D) (cl := vwCl) hx hb hK hP hD hS 1 0 rfl rfl (vp_in_nI (by omega) (by omega)) dX6_init_137 (fun H locs hP hD hS => ?_)
  rw [nI_clamp (by omega)] at hP hD
  have hP : va_P D vwCl ((h0, .inr (6, fs)) :: (q1, .inl (cA 0, 161, .inl (upd (upd (upd (upd (fun _ => 0) 0 (nI 6)) 6 (nI 6)) 7 (nI 28)) 8 (nI 34)))) :: rest) H := hP
  have hD : va_D A ((h0, .inr (6, fs)) :: (q1, .inl (cA 0, 161, .inl (upd (upd (upd (upd (fun _ => 0) 0 (nI 6)) 6 (nI 6)) 7 (nI 28)) 8 (nI 34)))) :: rest) := hD
  refine lv_iconst (v := nI 0) hx hb dX6_init_138 (by decide +kernel) ?_
  refine lv_istore_n (lv' := [(1, .int (nI 0)), (0, .ref h0)]) hx hb dX6_init_139 rfl hl (by decide) rfl (fun ls hl => ?_)
  refine lv_iload_n hx hb dX6_init_140 rfl (lv_at hl 0 rfl) ?_
  refine lv_iconst (v := nI 4) hx hb dX6_init_141 (by decide +kernel) ?_
  refine lv_icmp_ge hx hb dX6_init_142 (tgt := 184) (by decide) (fun h => absurd h (by decide)) (fun _ => ?_)
  refine lv_aload_n hx hb dX6_init_145 rfl (lv_at hl 1 rfl) ?_
  refine va_get (D := D) (cl := vwCl) (ci := 6) (v := .ref q1) (C := RX6) (T := TX6) (N := 16) hx hb hts (by decide +kernel) hown hK hP 0 rfl rfl 0 (by decide) (hts (.fieldLink RX6 7 "RopedHallsModel" "s" "[I") (by decide +kernel)) (fun _ h9 => h9) hfs dX6_init_146 ?_
  refine lv_bipush (v := nI 9) hx hb dX6_init_149 (by decide +kernel) ?_
  refine lv_iload_n hx hb dX6_init_151 rfl (lv_at hl 0 rfl) ?_
  refine lv_iadd hx hb dX6_init_152 ?_
  rw [nI_add]
  refine lv_iconst (v := nI 1) hx hb dX6_init_153 (by decide +kernel) ?_
  refine va_iast (D := D) (cl := vwCl) hx hb hK hP hD hS 1 0 rfl rfl (vp_in_nI (by omega) (by omega)) dX6_init_154 (fun H locs hP hD hS => ?_)
  rw [nI_clamp (by omega)] at hP hD
  have hP : va_P D vwCl ((h0, .inr (6, fs)) :: (q1, .inl (cA 0, 161, .inl (upd (upd (upd (upd (upd (fun _ => 0) 0 (nI 6)) 6 (nI 6)) 7 (nI 28)) 8 (nI 34)) 9 (nI 1)))) :: rest) H := hP
  have hD : va_D A ((h0, .inr (6, fs)) :: (q1, .inl (cA 0, 161, .inl (upd (upd (upd (upd (upd (fun _ => 0) 0 (nI 6)) 6 (nI 6)) 7 (nI 28)) 8 (nI 34)) 9 (nI 1)))) :: rest) := hD
  refine lv_aload_n hx hb dX6_init_155 rfl (lv_at hl 1 rfl) ?_
  refine va_get (D := D) (cl := vwCl) (ci := 6) (v := .ref q1) (C := RX6) (T := TX6) (N := 16) hx hb hts (by decide +kernel) hown hK hP 0 rfl rfl 0 (by decide) (hts (.fieldLink RX6 7 "RopedHallsModel" "s" "[I") (by decide +kernel)) (fun _ h9 => h9) hfs dX6_init_156 ?_
  refine lv_bipush (v := nI 13) hx hb dX6_init_159 (by decide +kernel) ?_
  refine lv_iload_n hx hb dX6_init_161 rfl (lv_at hl 0 rfl) ?_
  refine lv_iadd hx hb dX6_init_162 ?_
  rw [nI_add]
  refine lv_iload_n hx hb dX6_init_163 rfl (lv_at hl 0 rfl) ?_
  refine lv_if_eq hx hb dX6_init_164 (tgt := 172) (by decide) (fun _ => ?_) (fun h => absurd (by decide) h)
  refine lv_iconst (v := nI 1) hx hb dX6_init_172 (by decide +kernel) ?_
  refine lv_goto hx hb dX6_init_173 (tgt := 177) (by decide) ?_
  refine va_iast (D := D) (cl := vwCl) hx hb hK hP hD hS 1 0 rfl rfl (vp_in_nI (by omega) (by omega)) dX6_init_177 (fun H locs hP hD hS => ?_)
  rw [nI_clamp (by omega)] at hP hD
  have hP : va_P D vwCl ((h0, .inr (6, fs)) :: (q1, .inl (cA 0, 161, .inl (upd (upd (upd (upd (upd (upd (fun _ => 0) 0 (nI 6)) 6 (nI 6)) 7 (nI 28)) 8 (nI 34)) 9 (nI 1)) 13 (nI 1)))) :: rest) H := hP
  have hD : va_D A ((h0, .inr (6, fs)) :: (q1, .inl (cA 0, 161, .inl (upd (upd (upd (upd (upd (upd (fun _ => 0) 0 (nI 6)) 6 (nI 6)) 7 (nI 28)) 8 (nI 34)) 9 (nI 1)) 13 (nI 1)))) :: rest) := hD
  refine lv_iinc (v := nI 1) (lv' := [(1, .int (nI 1)), (0, .ref h0)]) (k := 0) hx hb dX6_init_178 hl rfl (by decide) (by decide) rfl (fun ls hl => ?_)
  refine lv_goto hx hb dX6_init_181 (tgt := 140) (by decide) ?_
  refine lv_iload_n hx hb dX6_init_140 rfl (lv_at hl 0 rfl) ?_
  refine lv_iconst (v := nI 4) hx hb dX6_init_141 (by decide +kernel) ?_
  refine lv_icmp_ge hx hb dX6_init_142 (tgt := 184) (by decide) (fun h => absurd h (by decide)) (fun _ => ?_)
  refine lv_aload_n hx hb dX6_init_145 rfl (lv_at hl 1 rfl) ?_
  refine va_get (D := D) (cl := vwCl) (ci := 6) (v := .ref q1) (C := RX6) (T := TX6) (N := 16) hx hb hts (by decide +kernel) hown hK hP 0 rfl rfl 0 (by decide) (hts (.fieldLink RX6 7 "RopedHallsModel" "s" "[I") (by decide +kernel)) (fun _ h9 => h9) hfs dX6_init_146 ?_
  refine lv_bipush (v := nI 9) hx hb dX6_init_149 (by decide +kernel) ?_
  refine lv_iload_n hx hb dX6_init_151 rfl (lv_at hl 0 rfl) ?_
  refine lv_iadd hx hb dX6_init_152 ?_
  rw [nI_add]
  refine lv_iconst (v := nI 1) hx hb dX6_init_153 (by decide +kernel) ?_
  refine va_iast (D := D) (cl := vwCl) hx hb hK hP hD hS 1 0 rfl rfl (vp_in_nI (by omega) (by omega)) dX6_init_154 (fun H locs hP hD hS => ?_)
  rw [nI_clamp (by omega)] at hP hD
  have hP : va_P D vwCl ((h0, .inr (6, fs)) :: (q1, .inl (cA 0, 161, .inl (upd (upd (upd (upd (upd (upd (upd (fun _ => 0) 0 (nI 6)) 6 (nI 6)) 7 (nI 28)) 8 (nI 34)) 9 (nI 1)) 13 (nI 1)) 10 (nI 1)))) :: rest) H := hP
  have hD : va_D A ((h0, .inr (6, fs)) :: (q1, .inl (cA 0, 161, .inl (upd (upd (upd (upd (upd (upd (upd (fun _ => 0) 0 (nI 6)) 6 (nI 6)) 7 (nI 28)) 8 (nI 34)) 9 (nI 1)) 13 (nI 1)) 10 (nI 1)))) :: rest) := hD
  refine lv_aload_n hx hb dX6_init_155 rfl (lv_at hl 1 rfl) ?_
  refine va_get (D := D) (cl := vwCl) (ci := 6) (v := .ref q1) (C := RX6) (T := TX6) (N := 16) hx hb hts (by decide +kernel) hown hK hP 0 rfl rfl 0 (by decide) (hts (.fieldLink RX6 7 "RopedHallsModel" "s" "[I") (by decide +kernel)) (fun _ h9 => h9) hfs dX6_init_156 ?_
  refine lv_bipush (v := nI 13) hx hb dX6_init_159 (by decide +kernel) ?_
  refine lv_iload_n hx hb dX6_init_161 rfl (lv_at hl 0 rfl) ?_
  refine lv_iadd hx hb dX6_init_162 ?_
  rw [nI_add]
  refine lv_iload_n hx hb dX6_init_163 rfl (lv_at hl 0 rfl) ?_
  refine lv_if_eq hx hb dX6_init_164 (tgt := 172) (by decide) (fun h => absurd h (by decide)) (fun _ => ?_)
  refine lv_iload_n hx hb dX6_init_167 rfl (lv_at hl 0 rfl) ?_
  refine lv_iconst (v := nI 3) hx hb dX6_init_168 (by decide +kernel) ?_
  refine lv_icmp_ne hx hb dX6_init_169 (tgt := 176) (by decide) (fun _ => ?_) (fun h => absurd h (by decide))
  refine lv_iconst (v := nI 0) hx hb dX6_init_176 (by decide +kernel) ?_
  refine va_iast (D := D) (cl := vwCl) hx hb hK hP hD hS 1 0 rfl rfl (vp_in_nI (by omega) (by omega)) dX6_init_177 (fun H locs hP hD hS => ?_)
  rw [nI_clamp (by omega)] at hP hD
  have hP : va_P D vwCl ((h0, .inr (6, fs)) :: (q1, .inl (cA 0, 161, .inl (upd (upd (upd (upd (upd (upd (upd (upd (fun _ => 0) 0 (nI 6)) 6 (nI 6)) 7 (nI 28)) 8 (nI 34)) 9 (nI 1)) 13 (nI 1)) 10 (nI 1)) 14 (nI 0)))) :: rest) H := hP
  have hD : va_D A ((h0, .inr (6, fs)) :: (q1, .inl (cA 0, 161, .inl (upd (upd (upd (upd (upd (upd (upd (upd (fun _ => 0) 0 (nI 6)) 6 (nI 6)) 7 (nI 28)) 8 (nI 34)) 9 (nI 1)) 13 (nI 1)) 10 (nI 1)) 14 (nI 0)))) :: rest) := hD
  refine lv_iinc (v := nI 2) (lv' := [(1, .int (nI 2)), (0, .ref h0)]) (k := 0) hx hb dX6_init_178 hl rfl (by decide) (by decide) rfl (fun ls hl => ?_)
  refine lv_goto hx hb dX6_init_181 (tgt := 140) (by decide) ?_
  refine lv_iload_n hx hb dX6_init_140 rfl (lv_at hl 0 rfl) ?_
  refine lv_iconst (v := nI 4) hx hb dX6_init_141 (by decide +kernel) ?_
  refine lv_icmp_ge hx hb dX6_init_142 (tgt := 184) (by decide) (fun h => absurd h (by decide)) (fun _ => ?_)
  refine lv_aload_n hx hb dX6_init_145 rfl (lv_at hl 1 rfl) ?_
  refine va_get (D := D) (cl := vwCl) (ci := 6) (v := .ref q1) (C := RX6) (T := TX6) (N := 16) hx hb hts (by decide +kernel) hown hK hP 0 rfl rfl 0 (by decide) (hts (.fieldLink RX6 7 "RopedHallsModel" "s" "[I") (by decide +kernel)) (fun _ h9 => h9) hfs dX6_init_146 ?_
  refine lv_bipush (v := nI 9) hx hb dX6_init_149 (by decide +kernel) ?_
  refine lv_iload_n hx hb dX6_init_151 rfl (lv_at hl 0 rfl) ?_
  refine lv_iadd hx hb dX6_init_152 ?_
  rw [nI_add]
  refine lv_iconst (v := nI 1) hx hb dX6_init_153 (by decide +kernel) ?_
  refine va_iast (D := D) (cl := vwCl) hx hb hK hP hD hS 1 0 rfl rfl (vp_in_nI (by omega) (by omega)) dX6_init_154 (fun H locs hP hD hS => ?_)
  rw [nI_clamp (by omega)] at hP hD
  have hP : va_P D vwCl ((h0, .inr (6, fs)) :: (q1, .inl (cA 0, 161, .inl (upd (upd (upd (upd (upd (upd (upd (upd (upd (fun _ => 0) 0 (nI 6)) 6 (nI 6)) 7 (nI 28)) 8 (nI 34)) 9 (nI 1)) 13 (nI 1)) 10 (nI 1)) 14 (nI 0)) 11 (nI 1)))) :: rest) H := hP
  have hD : va_D A ((h0, .inr (6, fs)) :: (q1, .inl (cA 0, 161, .inl (upd (upd (upd (upd (upd (upd (upd (upd (upd (fun _ => 0) 0 (nI 6)) 6 (nI 6)) 7 (nI 28)) 8 (nI 34)) 9 (nI 1)) 13 (nI 1)) 10 (nI 1)) 14 (nI 0)) 11 (nI 1)))) :: rest) := hD
  refine lv_aload_n hx hb dX6_init_155 rfl (lv_at hl 1 rfl) ?_
  refine va_get (D := D) (cl := vwCl) (ci := 6) (v := .ref q1) (C := RX6) (T := TX6) (N := 16) hx hb hts (by decide +kernel) hown hK hP 0 rfl rfl 0 (by decide) (hts (.fieldLink RX6 7 "RopedHallsModel" "s" "[I") (by decide +kernel)) (fun _ h9 => h9) hfs dX6_init_156 ?_
  refine lv_bipush (v := nI 13) hx hb dX6_init_159 (by decide +kernel) ?_
  refine lv_iload_n hx hb dX6_init_161 rfl (lv_at hl 0 rfl) ?_
  refine lv_iadd hx hb dX6_init_162 ?_
  rw [nI_add]
  refine lv_iload_n hx hb dX6_init_163 rfl (lv_at hl 0 rfl) ?_
  refine lv_if_eq hx hb dX6_init_164 (tgt := 172) (by decide) (fun h => absurd h (by decide)) (fun _ => ?_)
  refine lv_iload_n hx hb dX6_init_167 rfl (lv_at hl 0 rfl) ?_
  refine lv_iconst (v := nI 3) hx hb dX6_init_168 (by decide +kernel) ?_
  refine lv_icmp_ne hx hb dX6_init_169 (tgt := 176) (by decide) (fun _ => ?_) (fun h => absurd h (by decide))
  refine lv_iconst (v := nI 0) hx hb dX6_init_176 (by decide +kernel) ?_
  refine va_iast (D := D) (cl := vwCl) hx hb hK hP hD hS 1 0 rfl rfl (vp_in_nI (by omega) (by omega)) dX6_init_177 (fun H locs hP hD hS => ?_)
  rw [nI_clamp (by omega)] at hP hD
  have hP : va_P D vwCl ((h0, .inr (6, fs)) :: (q1, .inl (cA 0, 161, .inl (upd (upd (upd (upd (upd (upd (upd (upd (upd (upd (fun _ => 0) 0 (nI 6)) 6 (nI 6)) 7 (nI 28)) 8 (nI 34)) 9 (nI 1)) 13 (nI 1)) 10 (nI 1)) 14 (nI 0)) 11 (nI 1)) 15 (nI 0)))) :: rest) H := hP
  have hD : va_D A ((h0, .inr (6, fs)) :: (q1, .inl (cA 0, 161, .inl (upd (upd (upd (upd (upd (upd (upd (upd (upd (upd (fun _ => 0) 0 (nI 6)) 6 (nI 6)) 7 (nI 28)) 8 (nI 34)) 9 (nI 1)) 13 (nI 1)) 10 (nI 1)) 14 (nI 0)) 11 (nI 1)) 15 (nI 0)))) :: rest) := hD
  refine lv_iinc (v := nI 3) (lv' := [(1, .int (nI 3)), (0, .ref h0)]) (k := 0) hx hb dX6_init_178 hl rfl (by decide) (by decide) rfl (fun ls hl => ?_)
  refine lv_goto hx hb dX6_init_181 (tgt := 140) (by decide) ?_
  refine lv_iload_n hx hb dX6_init_140 rfl (lv_at hl 0 rfl) ?_
  refine lv_iconst (v := nI 4) hx hb dX6_init_141 (by decide +kernel) ?_
  refine lv_icmp_ge hx hb dX6_init_142 (tgt := 184) (by decide) (fun h => absurd h (by decide)) (fun _ => ?_)
  refine lv_aload_n hx hb dX6_init_145 rfl (lv_at hl 1 rfl) ?_
  refine va_get (D := D) (cl := vwCl) (ci := 6) (v := .ref q1) (C := RX6) (T := TX6) (N := 16) hx hb hts (by decide +kernel) hown hK hP 0 rfl rfl 0 (by decide) (hts (.fieldLink RX6 7 "RopedHallsModel" "s" "[I") (by decide +kernel)) (fun _ h9 => h9) hfs dX6_init_146 ?_
  refine lv_bipush (v := nI 9) hx hb dX6_init_149 (by decide +kernel) ?_
  refine lv_iload_n hx hb dX6_init_151 rfl (lv_at hl 0 rfl) ?_
  refine lv_iadd hx hb dX6_init_152 ?_
  rw [nI_add]
  refine lv_iconst (v := nI 1) hx hb dX6_init_153 (by decide +kernel) ?_
  refine va_iast (D := D) (cl := vwCl) hx hb hK hP hD hS 1 0 rfl rfl (vp_in_nI (by omega) (by omega)) dX6_init_154 (fun H locs hP hD hS => ?_)
  rw [nI_clamp (by omega)] at hP hD
  have hP : va_P D vwCl ((h0, .inr (6, fs)) :: (q1, .inl (cA 0, 161, .inl (upd (upd (upd (upd (upd (upd (upd (upd (upd (upd (upd (fun _ => 0) 0 (nI 6)) 6 (nI 6)) 7 (nI 28)) 8 (nI 34)) 9 (nI 1)) 13 (nI 1)) 10 (nI 1)) 14 (nI 0)) 11 (nI 1)) 15 (nI 0)) 12 (nI 1)))) :: rest) H := hP
  have hD : va_D A ((h0, .inr (6, fs)) :: (q1, .inl (cA 0, 161, .inl (upd (upd (upd (upd (upd (upd (upd (upd (upd (upd (upd (fun _ => 0) 0 (nI 6)) 6 (nI 6)) 7 (nI 28)) 8 (nI 34)) 9 (nI 1)) 13 (nI 1)) 10 (nI 1)) 14 (nI 0)) 11 (nI 1)) 15 (nI 0)) 12 (nI 1)))) :: rest) := hD
  refine lv_aload_n hx hb dX6_init_155 rfl (lv_at hl 1 rfl) ?_
  refine va_get (D := D) (cl := vwCl) (ci := 6) (v := .ref q1) (C := RX6) (T := TX6) (N := 16) hx hb hts (by decide +kernel) hown hK hP 0 rfl rfl 0 (by decide) (hts (.fieldLink RX6 7 "RopedHallsModel" "s" "[I") (by decide +kernel)) (fun _ h9 => h9) hfs dX6_init_156 ?_
  refine lv_bipush (v := nI 13) hx hb dX6_init_159 (by decide +kernel) ?_
  refine lv_iload_n hx hb dX6_init_161 rfl (lv_at hl 0 rfl) ?_
  refine lv_iadd hx hb dX6_init_162 ?_
  rw [nI_add]
  refine lv_iload_n hx hb dX6_init_163 rfl (lv_at hl 0 rfl) ?_
  refine lv_if_eq hx hb dX6_init_164 (tgt := 172) (by decide) (fun h => absurd h (by decide)) (fun _ => ?_)
  refine lv_iload_n hx hb dX6_init_167 rfl (lv_at hl 0 rfl) ?_
  refine lv_iconst (v := nI 3) hx hb dX6_init_168 (by decide +kernel) ?_
  refine lv_icmp_ne hx hb dX6_init_169 (tgt := 176) (by decide) (fun h => absurd (by decide) h) (fun _ => ?_)
  refine lv_iconst (v := nI 1) hx hb dX6_init_172 (by decide +kernel) ?_
  refine lv_goto hx hb dX6_init_173 (tgt := 177) (by decide) ?_
  refine va_iast (D := D) (cl := vwCl) hx hb hK hP hD hS 1 0 rfl rfl (vp_in_nI (by omega) (by omega)) dX6_init_177 (fun H locs hP hD hS => ?_)
  rw [nI_clamp (by omega)] at hP hD
  have hP : va_P D vwCl ((h0, .inr (6, fs)) :: (q1, .inl (cA 0, 161, .inl (upd (upd (upd (upd (upd (upd (upd (upd (upd (upd (upd (upd (fun _ => 0) 0 (nI 6)) 6 (nI 6)) 7 (nI 28)) 8 (nI 34)) 9 (nI 1)) 13 (nI 1)) 10 (nI 1)) 14 (nI 0)) 11 (nI 1)) 15 (nI 0)) 12 (nI 1)) 16 (nI 1)))) :: rest) H := hP
  have hD : va_D A ((h0, .inr (6, fs)) :: (q1, .inl (cA 0, 161, .inl (upd (upd (upd (upd (upd (upd (upd (upd (upd (upd (upd (upd (fun _ => 0) 0 (nI 6)) 6 (nI 6)) 7 (nI 28)) 8 (nI 34)) 9 (nI 1)) 13 (nI 1)) 10 (nI 1)) 14 (nI 0)) 11 (nI 1)) 15 (nI 0)) 12 (nI 1)) 16 (nI 1)))) :: rest) := hD
  refine lv_iinc (v := nI 4) (lv' := [(1, .int (nI 4)), (0, .ref h0)]) (k := 0) hx hb dX6_init_178 hl rfl (by decide) (by decide) rfl (fun ls hl => ?_)
  refine lv_goto hx hb dX6_init_181 (tgt := 140) (by decide) ?_
  refine lv_iload_n hx hb dX6_init_140 rfl (lv_at hl 0 rfl) ?_
  refine lv_iconst (v := nI 4) hx hb dX6_init_141 (by decide +kernel) ?_
  refine lv_icmp_ge hx hb dX6_init_142 (tgt := 184) (by decide) (fun _ => ?_) (fun h => absurd (by decide) h)
  refine lv_iconst (v := nI 0) hx hb dX6_init_184 (by decide +kernel) ?_
  refine lv_istore_n (lv' := [(1, .int (nI 0)), (0, .ref h0)]) hx hb dX6_init_185 rfl hl (by decide) rfl (fun ls hl => ?_)
  have h00 : (upd (upd (upd (upd (upd (upd (upd (upd (upd (upd (upd (upd (fun _ => 0) 0 (nI 6)) 6 (nI 6)) 7 (nI 28)) 8 (nI 34)) 9 (nI 1)) 13 (nI 1)) 10 (nI 1)) 14 (nI 0)) 11 (nI 1)) 15 (nI 0)) 12 (nI 1)) 16 (nI 1) : Nat → Int32) = gdX (upd (upd (upd (upd (upd (upd (upd (upd (upd (upd (upd (upd (fun _ => 0) 0 (nI 6)) 6 (nI 6)) 7 (nI 28)) 8 (nI 34)) 9 (nI 1)) 13 (nI 1)) 10 (nI 1)) 14 (nI 0)) 11 (nI 1)) 15 (nI 0)) 12 (nI 1)) 16 (nI 1)) 56 0 := gdX_0.symm
  rw [h00] at hP hD
  exact lp_X6 hx hb hts hown hK hfs fin 35 0 rfl H locs ls hl hP hD hS
end LP6
set_option maxHeartbeats 4000000 in
set_option maxRecDepth 100000 in
theorem i_X6 (l : Launch) (D : va_G) (cA : Nat → ClassId) (h0 sz : Nat) : Met l yX6_init wsX6_init ({ frames := 1, cells := 12, slots := 1955, locals := 12 }) (va_Pc [.ref h0] (fun U => U.heap.size = sz ∧ va_P D vwCl [(h0, .inr (6, [.null, .null, .null, .int 0, .null, .null, .null, .int 0, .null, .null, .null, .null, .null, .null, .int 0, .int 0]))] U.heap ∧ va_K D vwCl (je_T cA) U ∧ va_D (fun _ => True) [(h0, .inr (6, [.null, .null, .null, .int 0, .null, .null, .null, .int 0, .null, .null, .null, .null, .null, .null, .int 0, .int 0]))])) (va_Qv (fun f : Nat → Nat => f 0 = h0) (fun f t => va_P D vwCl (xb cA 6 f) t.heap ∧ va_K D vwCl (je_T cA) t ∧ va_D (va_A [(h0, .inr (6, [.null, .null, .null, .int 0, .null, .null, .null, .int 0, .null, .null, .null, .null, .null, .null, .int 0, .int 0]))] sz) (xb cA 6 f)) (va_A [(h0, .inr (6, [.null, .null, .null, .int 0, .null, .null, .null, .int 0, .null, .null, .null, .null, .null, .null, .int 0, .int 0]))] sz)) 12 1955 (va_A [(h0, .inr (6, [.null, .null, .null, .int 0, .null, .null, .null, .int 0, .null, .null, .null, .null, .null, .null, .int 0, .int 0]))] sz) := by
  refine Met.ofW (cc := cX6_init) (maxL := 2) (ret := none) (by decide) rfl ?_
  intro p e s m args below meth c s₁ B hml hv
  obtain ⟨rfl, hsz, hP, hK, hD0⟩ := hv
  have hx := B.exec
  have hb := B.bytes
  have hr := B.returns
  have hts := atoms_spec (ws := wsX6_init) B.pre
  have hown : s.vm.findClass RX6 = some m.cls := findClass_of_methodNamed B.named
  have hin : meth.name = "<init>" := (name_of_methodNamed B.named B.method).1
  subst hsz
  have hD := hD0.self (sz := s.heap.size)
  generalize hAe : va_A [(h0, .inr (6, [.null, .null, .null, .int 0, .null, .null, .null, .int 0, .null, .null, .null, .null, .null, .null, .int 0, .int 0]))] s.heap.size = A at hD ⊢
  have hA : ∀ q : Nat, s.heap.size ≤ q → A q := fun q h => by rw [← hAe]; exact Or.inr h
  have hS : va_S A s.heap s.heap [] := va_S.rf
  have hl := lv_entry ([.ref h0]) (n := 2) (Nat.le_of_ble_eq_true rfl)
  rw [lg_entry_eq]
  generalize (lg_sl ([.ref h0]) ++ List.replicate (2 - (lg_sl ([.ref h0])).length) Slot.unset).toArray = ls at hl ⊢
  have hl : lv_has ls 2 [(0, .ref h0)] := hl
  refine lv_aload_n hx hb dX6_init_0 rfl (lv_at hl 0 rfl) ?_
  refine W.objInit hx hb hown (hts (.methodLink RX6 1 objectInit) (by decide +kernel)) (hts (.instanceMethod objectInit) (by decide +kernel)) (hts _ (List.mem_of_getElem? (i := 3) rfl)) rfl (by rw [hml]; exact hl.1) rfl dX6_init_1 (Nat.le_of_ble_eq_true rfl) (Nat.le_of_ble_eq_true rfl) ?_
  refine W.eq (g2 := F0 m 4 ls []) rfl ?_
  refine lv_aload_n hx hb dX6_init_4 rfl (lv_at hl 0 rfl) ?_
  refine lv_sipush (v := nI 161) hx hb dX6_init_5 (by decide +kernel) ?_
  have hc_1 : 0 + 1 ≤ 12 := by decide
  have hs_1 : 0 + 161 ≤ 1955 := by decide
  have hy_1 : 161 * componentBytes .int ≤ 536870912 := by decide
  refine va_newa (D := D) (cl := vwCl) (atype := .int) (ty := .int) (pc := 8) (a0 := (161, .inl (fun _ => 0))) (N' := 161) hx hb (hts (.arrayClass .int) (by decide +kernel)) rfl hK hP hD hS hA (fun cA => rfl) (nI_pos (by omega)) (nI_clamp (by omega)) hy_1 hc_1 hs_1 dX6_init_8 (fun q1 c1 H hK1 hP hD hS => ?_)
  have hc := va_c0 hK1 hK
  subst hc
  have hP : va_P D vwCl [(h0, .inr (6, [.null, .null, .null, .int 0, .null, .null, .null, .int 0, .null, .null, .null, .null, .null, .null, .int 0, .int 0])), (q1, .inl (cA 0, 161, .inl (fun _ => 0)))] H := hP
  have hD : va_D A [(h0, .inr (6, [.null, .null, .null, .int 0, .null, .null, .null, .int 0, .null, .null, .null, .null, .null, .null, .int 0, .int 0])), (q1, .inl (cA 0, 161, .inl (fun _ => 0)))] := hD
  refine va_putF (D := D) (cl := vwCl) (ci := 6) (v := .ref q1) (ty := .array .int) (C := RX6) (T := TX6) (N := 16) hx hb hts (by decide +kernel) tyX6 tyX6_ok nmX6 hown hK hP hD hS 0 rfl rfl 0 (by decide) (hts (.fieldLink RX6 7 "RopedHallsModel" "s" "[I") (by decide +kernel)) (fun _ h9 => h9) rfl hin rfl (by decide +kernel) rfl rfl (Nat.le_of_ble_eq_true rfl) dX6_init_10 (fun H locs hP hD hS => ?_)
  have hP : va_P D vwCl [(h0, .inr (6, [.ref q1, .null, .null, .int 0, .null, .null, .null, .int 0, .null, .null, .null, .null, .null, .null, .int 0, .int 0])), (q1, .inl (cA 0, 161, .inl (fun _ => 0)))] H := hP
  have hD : va_D A [(h0, .inr (6, [.ref q1, .null, .null, .int 0, .null, .null, .null, .int 0, .null, .null, .null, .null, .null, .null, .int 0, .int 0])), (q1, .inl (cA 0, 161, .inl (fun _ => 0)))] := hD
  refine lv_aload_n hx hb dX6_init_13 rfl (lv_at hl 0 rfl) ?_
  refine lv_sipush (v := nI 161) hx hb dX6_init_14 (by decide +kernel) ?_
  have hc_2 : 1 + 1 ≤ 12 := by decide
  have hs_2 : 161 + 161 ≤ 1955 := by decide
  have hy_2 : 161 * componentBytes .int ≤ 536870912 := by decide
  refine va_newa (D := D) (cl := vwCl) (atype := .int) (ty := .int) (pc := 17) (a0 := (161, .inl (fun _ => 0))) (N' := 161) hx hb (hts (.arrayClass .int) (by decide +kernel)) rfl hK hP hD hS hA (fun cA => rfl) (nI_pos (by omega)) (nI_clamp (by omega)) hy_2 hc_2 hs_2 dX6_init_17 (fun q2 c1 H hK1 hP hD hS => ?_)
  have hc := va_c0 hK1 hK
  subst hc
  have hP : va_P D vwCl [(h0, .inr (6, [.ref q1, .null, .null, .int 0, .null, .null, .null, .int 0, .null, .null, .null, .null, .null, .null, .int 0, .int 0])), (q1, .inl (cA 0, 161, .inl (fun _ => 0))), (q2, .inl (cA 0, 161, .inl (fun _ => 0)))] H := hP
  have hD : va_D A [(h0, .inr (6, [.ref q1, .null, .null, .int 0, .null, .null, .null, .int 0, .null, .null, .null, .null, .null, .null, .int 0, .int 0])), (q1, .inl (cA 0, 161, .inl (fun _ => 0))), (q2, .inl (cA 0, 161, .inl (fun _ => 0)))] := hD
  refine va_putF (D := D) (cl := vwCl) (ci := 6) (v := .ref q2) (ty := .array .int) (C := RX6) (T := TX6) (N := 16) hx hb hts (by decide +kernel) tyX6 tyX6_ok nmX6 hown hK hP hD hS 0 rfl rfl 1 (by decide) (hts (.fieldLink RX6 13 "RopedHallsModel" "aside" "[I") (by decide +kernel)) (fun _ h9 => h9) rfl hin rfl (by decide +kernel) rfl rfl (Nat.le_of_ble_eq_true rfl) dX6_init_19 (fun H locs hP hD hS => ?_)
  have hP : va_P D vwCl [(h0, .inr (6, [.ref q1, .ref q2, .null, .int 0, .null, .null, .null, .int 0, .null, .null, .null, .null, .null, .null, .int 0, .int 0])), (q1, .inl (cA 0, 161, .inl (fun _ => 0))), (q2, .inl (cA 0, 161, .inl (fun _ => 0)))] H := hP
  have hD : va_D A [(h0, .inr (6, [.ref q1, .ref q2, .null, .int 0, .null, .null, .null, .int 0, .null, .null, .null, .null, .null, .null, .int 0, .int 0])), (q1, .inl (cA 0, 161, .inl (fun _ => 0))), (q2, .inl (cA 0, 161, .inl (fun _ => 0)))] := hD
  refine lv_aload_n hx hb dX6_init_22 rfl (lv_at hl 0 rfl) ?_
  refine lv_sipush (v := nI 966) hx hb dX6_init_23 (by decide +kernel) ?_
  have hc_3 : 2 + 1 ≤ 12 := by decide
  have hs_3 : 322 + 966 ≤ 1955 := by decide
  have hy_3 : 966 * componentBytes .int ≤ 536870912 := by decide
  refine va_newa (D := D) (cl := vwCl) (atype := .int) (ty := .int) (pc := 26) (a0 := (966, .inl (fun _ => 0))) (N' := 966) hx hb (hts (.arrayClass .int) (by decide +kernel)) rfl hK hP hD hS hA (fun cA => rfl) (nI_pos (by omega)) (nI_clamp (by omega)) hy_3 hc_3 hs_3 dX6_init_26 (fun q3 c1 H hK1 hP hD hS => ?_)
  have hc := va_c0 hK1 hK
  subst hc
  have hP : va_P D vwCl [(h0, .inr (6, [.ref q1, .ref q2, .null, .int 0, .null, .null, .null, .int 0, .null, .null, .null, .null, .null, .null, .int 0, .int 0])), (q1, .inl (cA 0, 161, .inl (fun _ => 0))), (q2, .inl (cA 0, 161, .inl (fun _ => 0))), (q3, .inl (cA 0, 966, .inl (fun _ => 0)))] H := hP
  have hD : va_D A [(h0, .inr (6, [.ref q1, .ref q2, .null, .int 0, .null, .null, .null, .int 0, .null, .null, .null, .null, .null, .null, .int 0, .int 0])), (q1, .inl (cA 0, 161, .inl (fun _ => 0))), (q2, .inl (cA 0, 161, .inl (fun _ => 0))), (q3, .inl (cA 0, 966, .inl (fun _ => 0)))] := hD
  refine va_putF (D := D) (cl := vwCl) (ci := 6) (v := .ref q3) (ty := .array .int) (C := RX6) (T := TX6) (N := 16) hx hb hts (by decide +kernel) tyX6 tyX6_ok nmX6 hown hK hP hD hS 0 rfl rfl 2 (by decide) (hts (.fieldLink RX6 16 "RopedHallsModel" "history" "[I") (by decide +kernel)) (fun _ h9 => h9) rfl hin rfl (by decide +kernel) rfl rfl (Nat.le_of_ble_eq_true rfl) dX6_init_28 (fun H locs hP hD hS => ?_)
  have hP : va_P D vwCl [(h0, .inr (6, [.ref q1, .ref q2, .ref q3, .int 0, .null, .null, .null, .int 0, .null, .null, .null, .null, .null, .null, .int 0, .int 0])), (q1, .inl (cA 0, 161, .inl (fun _ => 0))), (q2, .inl (cA 0, 161, .inl (fun _ => 0))), (q3, .inl (cA 0, 966, .inl (fun _ => 0)))] H := hP
  have hD : va_D A [(h0, .inr (6, [.ref q1, .ref q2, .ref q3, .int 0, .null, .null, .null, .int 0, .null, .null, .null, .null, .null, .null, .int 0, .int 0])), (q1, .inl (cA 0, 161, .inl (fun _ => 0))), (q2, .inl (cA 0, 161, .inl (fun _ => 0))), (q3, .inl (cA 0, 966, .inl (fun _ => 0)))] := hD
  refine lv_aload_n hx hb dX6_init_31 rfl (lv_at hl 0 rfl) ?_
  refine lv_sipush (v := nI 322) hx hb dX6_init_32 (by decide +kernel) ?_
  have hc_4 : 3 + 1 ≤ 12 := by decide
  have hs_4 : 1288 + 322 ≤ 1955 := by decide
  have hy_4 : 322 * componentBytes .int ≤ 536870912 := by decide
  refine va_newa (D := D) (cl := vwCl) (atype := .int) (ty := .int) (pc := 35) (a0 := (322, .inl (fun _ => 0))) (N' := 322) hx hb (hts (.arrayClass .int) (by decide +kernel)) rfl hK hP hD hS hA (fun cA => rfl) (nI_pos (by omega)) (nI_clamp (by omega)) hy_4 hc_4 hs_4 dX6_init_35 (fun q4 c1 H hK1 hP hD hS => ?_)
  have hc := va_c0 hK1 hK
  subst hc
  have hP : va_P D vwCl [(h0, .inr (6, [.ref q1, .ref q2, .ref q3, .int 0, .null, .null, .null, .int 0, .null, .null, .null, .null, .null, .null, .int 0, .int 0])), (q1, .inl (cA 0, 161, .inl (fun _ => 0))), (q2, .inl (cA 0, 161, .inl (fun _ => 0))), (q3, .inl (cA 0, 966, .inl (fun _ => 0))), (q4, .inl (cA 0, 322, .inl (fun _ => 0)))] H := hP
  have hD : va_D A [(h0, .inr (6, [.ref q1, .ref q2, .ref q3, .int 0, .null, .null, .null, .int 0, .null, .null, .null, .null, .null, .null, .int 0, .int 0])), (q1, .inl (cA 0, 161, .inl (fun _ => 0))), (q2, .inl (cA 0, 161, .inl (fun _ => 0))), (q3, .inl (cA 0, 966, .inl (fun _ => 0))), (q4, .inl (cA 0, 322, .inl (fun _ => 0)))] := hD
  refine va_putF (D := D) (cl := vwCl) (ci := 6) (v := .ref q4) (ty := .array .int) (C := RX6) (T := TX6) (N := 16) hx hb hts (by decide +kernel) tyX6 tyX6_ok nmX6 hown hK hP hD hS 0 rfl rfl 4 (by decide) (hts (.fieldLink RX6 19 "RopedHallsModel" "slots" "[I") (by decide +kernel)) (fun _ h9 => h9) rfl hin rfl (by decide +kernel) rfl rfl (Nat.le_of_ble_eq_true rfl) dX6_init_37 (fun H locs hP hD hS => ?_)
  have hP : va_P D vwCl [(h0, .inr (6, [.ref q1, .ref q2, .ref q3, .int 0, .ref q4, .null, .null, .int 0, .null, .null, .null, .null, .null, .null, .int 0, .int 0])), (q1, .inl (cA 0, 161, .inl (fun _ => 0))), (q2, .inl (cA 0, 161, .inl (fun _ => 0))), (q3, .inl (cA 0, 966, .inl (fun _ => 0))), (q4, .inl (cA 0, 322, .inl (fun _ => 0)))] H := hP
  have hD : va_D A [(h0, .inr (6, [.ref q1, .ref q2, .ref q3, .int 0, .ref q4, .null, .null, .int 0, .null, .null, .null, .null, .null, .null, .int 0, .int 0])), (q1, .inl (cA 0, 161, .inl (fun _ => 0))), (q2, .inl (cA 0, 161, .inl (fun _ => 0))), (q3, .inl (cA 0, 966, .inl (fun _ => 0))), (q4, .inl (cA 0, 322, .inl (fun _ => 0)))] := hD
  refine lv_aload_n hx hb dX6_init_40 rfl (lv_at hl 0 rfl) ?_
  refine lv_iconst (v := nI 2) hx hb dX6_init_41 (by decide +kernel) ?_
  have hc_5 : 4 + 1 ≤ 12 := by decide
  have hs_5 : 1610 + 2 ≤ 1955 := by decide
  have hy_5 : 2 * componentBytes .boolean ≤ 536870912 := by decide
  refine va_newa (D := D) (cl := vwCl) (atype := .boolean) (ty := .boolean) (pc := 42) (a0 := (2, .inl (fun _ => 0))) (N' := 2) hx hb (hts (.arrayClass .boolean) (by decide +kernel)) rfl hK hP hD hS hA (fun cA => rfl) (nI_pos (by omega)) (nI_clamp (by omega)) hy_5 hc_5 hs_5 dX6_init_42 (fun q5 c1 H hK1 hP hD hS => ?_)
  have hc := va_c1 hK1 hK
  subst hc
  have hP : va_P D vwCl [(h0, .inr (6, [.ref q1, .ref q2, .ref q3, .int 0, .ref q4, .null, .null, .int 0, .null, .null, .null, .null, .null, .null, .int 0, .int 0])), (q1, .inl (cA 0, 161, .inl (fun _ => 0))), (q2, .inl (cA 0, 161, .inl (fun _ => 0))), (q3, .inl (cA 0, 966, .inl (fun _ => 0))), (q4, .inl (cA 0, 322, .inl (fun _ => 0))), (q5, .inl (cA 1, 2, .inl (fun _ => 0)))] H := hP
  have hD : va_D A [(h0, .inr (6, [.ref q1, .ref q2, .ref q3, .int 0, .ref q4, .null, .null, .int 0, .null, .null, .null, .null, .null, .null, .int 0, .int 0])), (q1, .inl (cA 0, 161, .inl (fun _ => 0))), (q2, .inl (cA 0, 161, .inl (fun _ => 0))), (q3, .inl (cA 0, 966, .inl (fun _ => 0))), (q4, .inl (cA 0, 322, .inl (fun _ => 0))), (q5, .inl (cA 1, 2, .inl (fun _ => 0)))] := hD
  refine va_putF (D := D) (cl := vwCl) (ci := 6) (v := .ref q5) (ty := .array .boolean) (C := RX6) (T := TX6) (N := 16) hx hb hts (by decide +kernel) tyX6 tyX6_ok nmX6 hown hK hP hD hS 0 rfl rfl 5 (by decide) (hts (.fieldLink RX6 22 "RopedHallsModel" "isSaved" "[Z") (by decide +kernel)) (fun _ h9 => h9) rfl hin rfl (by decide +kernel) rfl rfl (Nat.le_of_ble_eq_true rfl) dX6_init_44 (fun H locs hP hD hS => ?_)
  have hP : va_P D vwCl [(h0, .inr (6, [.ref q1, .ref q2, .ref q3, .int 0, .ref q4, .ref q5, .null, .int 0, .null, .null, .null, .null, .null, .null, .int 0, .int 0])), (q1, .inl (cA 0, 161, .inl (fun _ => 0))), (q2, .inl (cA 0, 161, .inl (fun _ => 0))), (q3, .inl (cA 0, 966, .inl (fun _ => 0))), (q4, .inl (cA 0, 322, .inl (fun _ => 0))), (q5, .inl (cA 1, 2, .inl (fun _ => 0)))] H := hP
  have hD : va_D A [(h0, .inr (6, [.ref q1, .ref q2, .ref q3, .int 0, .ref q4, .ref q5, .null, .int 0, .null, .null, .null, .null, .null, .null, .int 0, .int 0])), (q1, .inl (cA 0, 161, .inl (fun _ => 0))), (q2, .inl (cA 0, 161, .inl (fun _ => 0))), (q3, .inl (cA 0, 966, .inl (fun _ => 0))), (q4, .inl (cA 0, 322, .inl (fun _ => 0))), (q5, .inl (cA 1, 2, .inl (fun _ => 0)))] := hD
  refine lv_aload_n hx hb dX6_init_47 rfl (lv_at hl 0 rfl) ?_
  refine lv_bipush (v := nI 60) hx hb dX6_init_48 (by decide +kernel) ?_
  have hc_6 : 5 + 1 ≤ 12 := by decide
  have hs_6 : 1612 + 60 ≤ 1955 := by decide
  have hy_6 : 60 * componentBytes .int ≤ 536870912 := by decide
  refine va_newa (D := D) (cl := vwCl) (atype := .int) (ty := .int) (pc := 50) (a0 := (60, .inl (fun _ => 0))) (N' := 60) hx hb (hts (.arrayClass .int) (by decide +kernel)) rfl hK hP hD hS hA (fun cA => rfl) (nI_pos (by omega)) (nI_clamp (by omega)) hy_6 hc_6 hs_6 dX6_init_50 (fun q6 c1 H hK1 hP hD hS => ?_)
  have hc := va_c0 hK1 hK
  subst hc
  have hP : va_P D vwCl [(h0, .inr (6, [.ref q1, .ref q2, .ref q3, .int 0, .ref q4, .ref q5, .null, .int 0, .null, .null, .null, .null, .null, .null, .int 0, .int 0])), (q1, .inl (cA 0, 161, .inl (fun _ => 0))), (q2, .inl (cA 0, 161, .inl (fun _ => 0))), (q3, .inl (cA 0, 966, .inl (fun _ => 0))), (q4, .inl (cA 0, 322, .inl (fun _ => 0))), (q5, .inl (cA 1, 2, .inl (fun _ => 0))), (q6, .inl (cA 0, 60, .inl (fun _ => 0)))] H := hP
  have hD : va_D A [(h0, .inr (6, [.ref q1, .ref q2, .ref q3, .int 0, .ref q4, .ref q5, .null, .int 0, .null, .null, .null, .null, .null, .null, .int 0, .int 0])), (q1, .inl (cA 0, 161, .inl (fun _ => 0))), (q2, .inl (cA 0, 161, .inl (fun _ => 0))), (q3, .inl (cA 0, 966, .inl (fun _ => 0))), (q4, .inl (cA 0, 322, .inl (fun _ => 0))), (q5, .inl (cA 1, 2, .inl (fun _ => 0))), (q6, .inl (cA 0, 60, .inl (fun _ => 0)))] := hD
  refine va_putF (D := D) (cl := vwCl) (ci := 6) (v := .ref q6) (ty := .array .int) (C := RX6) (T := TX6) (N := 16) hx hb hts (by decide +kernel) tyX6 tyX6_ok nmX6 hown hK hP hD hS 0 rfl rfl 6 (by decide) (hts (.fieldLink RX6 26 "RopedHallsModel" "pad" "[I") (by decide +kernel)) (fun _ h9 => h9) rfl hin rfl (by decide +kernel) rfl rfl (Nat.le_of_ble_eq_true rfl) dX6_init_52 (fun H locs hP hD hS => ?_)
  have hP : va_P D vwCl [(h0, .inr (6, [.ref q1, .ref q2, .ref q3, .int 0, .ref q4, .ref q5, .ref q6, .int 0, .null, .null, .null, .null, .null, .null, .int 0, .int 0])), (q1, .inl (cA 0, 161, .inl (fun _ => 0))), (q2, .inl (cA 0, 161, .inl (fun _ => 0))), (q3, .inl (cA 0, 966, .inl (fun _ => 0))), (q4, .inl (cA 0, 322, .inl (fun _ => 0))), (q5, .inl (cA 1, 2, .inl (fun _ => 0))), (q6, .inl (cA 0, 60, .inl (fun _ => 0)))] H := hP
  have hD : va_D A [(h0, .inr (6, [.ref q1, .ref q2, .ref q3, .int 0, .ref q4, .ref q5, .ref q6, .int 0, .null, .null, .null, .null, .null, .null, .int 0, .int 0])), (q1, .inl (cA 0, 161, .inl (fun _ => 0))), (q2, .inl (cA 0, 161, .inl (fun _ => 0))), (q3, .inl (cA 0, 966, .inl (fun _ => 0))), (q4, .inl (cA 0, 322, .inl (fun _ => 0))), (q5, .inl (cA 1, 2, .inl (fun _ => 0))), (q6, .inl (cA 0, 60, .inl (fun _ => 0)))] := hD
  refine lv_aload_n hx hb dX6_init_55 rfl (lv_at hl 0 rfl) ?_
  refine lv_sipush (v := nI 140) hx hb dX6_init_56 (by decide +kernel) ?_
  have hc_7 : 6 + 1 ≤ 12 := by decide
  have hs_7 : 1672 + 140 ≤ 1955 := by decide
  have hy_7 : 140 * componentBytes .int ≤ 536870912 := by decide
  refine va_newa (D := D) (cl := vwCl) (atype := .int) (ty := .int) (pc := 59) (a0 := (140, .inl (fun _ => 0))) (N' := 140) hx hb (hts (.arrayClass .int) (by decide +kernel)) rfl hK hP hD hS hA (fun cA => rfl) (nI_pos (by omega)) (nI_clamp (by omega)) hy_7 hc_7 hs_7 dX6_init_59 (fun q7 c1 H hK1 hP hD hS => ?_)
  have hc := va_c0 hK1 hK
  subst hc
  have hP : va_P D vwCl [(h0, .inr (6, [.ref q1, .ref q2, .ref q3, .int 0, .ref q4, .ref q5, .ref q6, .int 0, .null, .null, .null, .null, .null, .null, .int 0, .int 0])), (q1, .inl (cA 0, 161, .inl (fun _ => 0))), (q2, .inl (cA 0, 161, .inl (fun _ => 0))), (q3, .inl (cA 0, 966, .inl (fun _ => 0))), (q4, .inl (cA 0, 322, .inl (fun _ => 0))), (q5, .inl (cA 1, 2, .inl (fun _ => 0))), (q6, .inl (cA 0, 60, .inl (fun _ => 0))), (q7, .inl (cA 0, 140, .inl (fun _ => 0)))] H := hP
  have hD : va_D A [(h0, .inr (6, [.ref q1, .ref q2, .ref q3, .int 0, .ref q4, .ref q5, .ref q6, .int 0, .null, .null, .null, .null, .null, .null, .int 0, .int 0])), (q1, .inl (cA 0, 161, .inl (fun _ => 0))), (q2, .inl (cA 0, 161, .inl (fun _ => 0))), (q3, .inl (cA 0, 966, .inl (fun _ => 0))), (q4, .inl (cA 0, 322, .inl (fun _ => 0))), (q5, .inl (cA 1, 2, .inl (fun _ => 0))), (q6, .inl (cA 0, 60, .inl (fun _ => 0))), (q7, .inl (cA 0, 140, .inl (fun _ => 0)))] := hD
  refine va_putF (D := D) (cl := vwCl) (ci := 6) (v := .ref q7) (ty := .array .int) (C := RX6) (T := TX6) (N := 16) hx hb hts (by decide +kernel) tyX6 tyX6_ok nmX6 hown hK hP hD hS 0 rfl rfl 8 (by decide) (hts (.fieldLink RX6 29 "RopedHallsModel" "far" "[I") (by decide +kernel)) (fun _ h9 => h9) rfl hin rfl (by decide +kernel) rfl rfl (Nat.le_of_ble_eq_true rfl) dX6_init_61 (fun H locs hP hD hS => ?_)
  have hP : va_P D vwCl [(h0, .inr (6, [.ref q1, .ref q2, .ref q3, .int 0, .ref q4, .ref q5, .ref q6, .int 0, .ref q7, .null, .null, .null, .null, .null, .int 0, .int 0])), (q1, .inl (cA 0, 161, .inl (fun _ => 0))), (q2, .inl (cA 0, 161, .inl (fun _ => 0))), (q3, .inl (cA 0, 966, .inl (fun _ => 0))), (q4, .inl (cA 0, 322, .inl (fun _ => 0))), (q5, .inl (cA 1, 2, .inl (fun _ => 0))), (q6, .inl (cA 0, 60, .inl (fun _ => 0))), (q7, .inl (cA 0, 140, .inl (fun _ => 0)))] H := hP
  have hD : va_D A [(h0, .inr (6, [.ref q1, .ref q2, .ref q3, .int 0, .ref q4, .ref q5, .ref q6, .int 0, .ref q7, .null, .null, .null, .null, .null, .int 0, .int 0])), (q1, .inl (cA 0, 161, .inl (fun _ => 0))), (q2, .inl (cA 0, 161, .inl (fun _ => 0))), (q3, .inl (cA 0, 966, .inl (fun _ => 0))), (q4, .inl (cA 0, 322, .inl (fun _ => 0))), (q5, .inl (cA 1, 2, .inl (fun _ => 0))), (q6, .inl (cA 0, 60, .inl (fun _ => 0))), (q7, .inl (cA 0, 140, .inl (fun _ => 0)))] := hD
  refine lv_aload_n hx hb dX6_init_64 rfl (lv_at hl 0 rfl) ?_
  refine lv_bipush (v := nI 35) hx hb dX6_init_65 (by decide +kernel) ?_
  have hc_8 : 7 + 1 ≤ 12 := by decide
  have hs_8 : 1812 + 35 ≤ 1955 := by decide
  have hy_8 : 35 * componentBytes .int ≤ 536870912 := by decide
  refine va_newa (D := D) (cl := vwCl) (atype := .int) (ty := .int) (pc := 67) (a0 := (35, .inl (fun _ => 0))) (N' := 35) hx hb (hts (.arrayClass .int) (by decide +kernel)) rfl hK hP hD hS hA (fun cA => rfl) (nI_pos (by omega)) (nI_clamp (by omega)) hy_8 hc_8 hs_8 dX6_init_67 (fun q8 c1 H hK1 hP hD hS => ?_)
  have hc := va_c0 hK1 hK
  subst hc
  have hP : va_P D vwCl [(h0, .inr (6, [.ref q1, .ref q2, .ref q3, .int 0, .ref q4, .ref q5, .ref q6, .int 0, .ref q7, .null, .null, .null, .null, .null, .int 0, .int 0])), (q1, .inl (cA 0, 161, .inl (fun _ => 0))), (q2, .inl (cA 0, 161, .inl (fun _ => 0))), (q3, .inl (cA 0, 966, .inl (fun _ => 0))), (q4, .inl (cA 0, 322, .inl (fun _ => 0))), (q5, .inl (cA 1, 2, .inl (fun _ => 0))), (q6, .inl (cA 0, 60, .inl (fun _ => 0))), (q7, .inl (cA 0, 140, .inl (fun _ => 0))), (q8, .inl (cA 0, 35, .inl (fun _ => 0)))] H := hP
  have hD : va_D A [(h0, .inr (6, [.ref q1, .ref q2, .ref q3, .int 0, .ref q4, .ref q5, .ref q6, .int 0, .ref q7, .null, .null, .null, .null, .null, .int 0, .int 0])), (q1, .inl (cA 0, 161, .inl (fun _ => 0))), (q2, .inl (cA 0, 161, .inl (fun _ => 0))), (q3, .inl (cA 0, 966, .inl (fun _ => 0))), (q4, .inl (cA 0, 322, .inl (fun _ => 0))), (q5, .inl (cA 1, 2, .inl (fun _ => 0))), (q6, .inl (cA 0, 60, .inl (fun _ => 0))), (q7, .inl (cA 0, 140, .inl (fun _ => 0))), (q8, .inl (cA 0, 35, .inl (fun _ => 0)))] := hD
  refine va_putF (D := D) (cl := vwCl) (ci := 6) (v := .ref q8) (ty := .array .int) (C := RX6) (T := TX6) (N := 16) hx hb hts (by decide +kernel) tyX6 tyX6_ok nmX6 hown hK hP hD hS 0 rfl rfl 9 (by decide) (hts (.fieldLink RX6 32 "RopedHallsModel" "goals" "[I") (by decide +kernel)) (fun _ h9 => h9) rfl hin rfl (by decide +kernel) rfl rfl (Nat.le_of_ble_eq_true rfl) dX6_init_69 (fun H locs hP hD hS => ?_)
  have hP : va_P D vwCl [(h0, .inr (6, [.ref q1, .ref q2, .ref q3, .int 0, .ref q4, .ref q5, .ref q6, .int 0, .ref q7, .ref q8, .null, .null, .null, .null, .int 0, .int 0])), (q1, .inl (cA 0, 161, .inl (fun _ => 0))), (q2, .inl (cA 0, 161, .inl (fun _ => 0))), (q3, .inl (cA 0, 966, .inl (fun _ => 0))), (q4, .inl (cA 0, 322, .inl (fun _ => 0))), (q5, .inl (cA 1, 2, .inl (fun _ => 0))), (q6, .inl (cA 0, 60, .inl (fun _ => 0))), (q7, .inl (cA 0, 140, .inl (fun _ => 0))), (q8, .inl (cA 0, 35, .inl (fun _ => 0)))] H := hP
  have hD : va_D A [(h0, .inr (6, [.ref q1, .ref q2, .ref q3, .int 0, .ref q4, .ref q5, .ref q6, .int 0, .ref q7, .ref q8, .null, .null, .null, .null, .int 0, .int 0])), (q1, .inl (cA 0, 161, .inl (fun _ => 0))), (q2, .inl (cA 0, 161, .inl (fun _ => 0))), (q3, .inl (cA 0, 966, .inl (fun _ => 0))), (q4, .inl (cA 0, 322, .inl (fun _ => 0))), (q5, .inl (cA 1, 2, .inl (fun _ => 0))), (q6, .inl (cA 0, 60, .inl (fun _ => 0))), (q7, .inl (cA 0, 140, .inl (fun _ => 0))), (q8, .inl (cA 0, 35, .inl (fun _ => 0)))] := hD
  refine lv_aload_n hx hb dX6_init_72 rfl (lv_at hl 0 rfl) ?_
  refine lv_bipush (v := nI 35) hx hb dX6_init_73 (by decide +kernel) ?_
  have hc_9 : 8 + 1 ≤ 12 := by decide
  have hs_9 : 1847 + 35 ≤ 1955 := by decide
  have hy_9 : 35 * componentBytes .int ≤ 536870912 := by decide
  refine va_newa (D := D) (cl := vwCl) (atype := .int) (ty := .int) (pc := 75) (a0 := (35, .inl (fun _ => 0))) (N' := 35) hx hb (hts (.arrayClass .int) (by decide +kernel)) rfl hK hP hD hS hA (fun cA => rfl) (nI_pos (by omega)) (nI_clamp (by omega)) hy_9 hc_9 hs_9 dX6_init_75 (fun q9 c1 H hK1 hP hD hS => ?_)
  have hc := va_c0 hK1 hK
  subst hc
  have hP : va_P D vwCl [(h0, .inr (6, [.ref q1, .ref q2, .ref q3, .int 0, .ref q4, .ref q5, .ref q6, .int 0, .ref q7, .ref q8, .null, .null, .null, .null, .int 0, .int 0])), (q1, .inl (cA 0, 161, .inl (fun _ => 0))), (q2, .inl (cA 0, 161, .inl (fun _ => 0))), (q3, .inl (cA 0, 966, .inl (fun _ => 0))), (q4, .inl (cA 0, 322, .inl (fun _ => 0))), (q5, .inl (cA 1, 2, .inl (fun _ => 0))), (q6, .inl (cA 0, 60, .inl (fun _ => 0))), (q7, .inl (cA 0, 140, .inl (fun _ => 0))), (q8, .inl (cA 0, 35, .inl (fun _ => 0))), (q9, .inl (cA 0, 35, .inl (fun _ => 0)))] H := hP
  have hD : va_D A [(h0, .inr (6, [.ref q1, .ref q2, .ref q3, .int 0, .ref q4, .ref q5, .ref q6, .int 0, .ref q7, .ref q8, .null, .null, .null, .null, .int 0, .int 0])), (q1, .inl (cA 0, 161, .inl (fun _ => 0))), (q2, .inl (cA 0, 161, .inl (fun _ => 0))), (q3, .inl (cA 0, 966, .inl (fun _ => 0))), (q4, .inl (cA 0, 322, .inl (fun _ => 0))), (q5, .inl (cA 1, 2, .inl (fun _ => 0))), (q6, .inl (cA 0, 60, .inl (fun _ => 0))), (q7, .inl (cA 0, 140, .inl (fun _ => 0))), (q8, .inl (cA 0, 35, .inl (fun _ => 0))), (q9, .inl (cA 0, 35, .inl (fun _ => 0)))] := hD
  refine va_putF (D := D) (cl := vwCl) (ci := 6) (v := .ref q9) (ty := .array .int) (C := RX6) (T := TX6) (N := 16) hx hb hts (by decide +kernel) tyX6 tyX6_ok nmX6 hown hK hP hD hS 0 rfl rfl 10 (by decide) (hts (.fieldLink RX6 35 "RopedHallsModel" "steps" "[I") (by decide +kernel)) (fun _ h9 => h9) rfl hin rfl (by decide +kernel) rfl rfl (Nat.le_of_ble_eq_true rfl) dX6_init_77 (fun H locs hP hD hS => ?_)
  have hP : va_P D vwCl [(h0, .inr (6, [.ref q1, .ref q2, .ref q3, .int 0, .ref q4, .ref q5, .ref q6, .int 0, .ref q7, .ref q8, .ref q9, .null, .null, .null, .int 0, .int 0])), (q1, .inl (cA 0, 161, .inl (fun _ => 0))), (q2, .inl (cA 0, 161, .inl (fun _ => 0))), (q3, .inl (cA 0, 966, .inl (fun _ => 0))), (q4, .inl (cA 0, 322, .inl (fun _ => 0))), (q5, .inl (cA 1, 2, .inl (fun _ => 0))), (q6, .inl (cA 0, 60, .inl (fun _ => 0))), (q7, .inl (cA 0, 140, .inl (fun _ => 0))), (q8, .inl (cA 0, 35, .inl (fun _ => 0))), (q9, .inl (cA 0, 35, .inl (fun _ => 0)))] H := hP
  have hD : va_D A [(h0, .inr (6, [.ref q1, .ref q2, .ref q3, .int 0, .ref q4, .ref q5, .ref q6, .int 0, .ref q7, .ref q8, .ref q9, .null, .null, .null, .int 0, .int 0])), (q1, .inl (cA 0, 161, .inl (fun _ => 0))), (q2, .inl (cA 0, 161, .inl (fun _ => 0))), (q3, .inl (cA 0, 966, .inl (fun _ => 0))), (q4, .inl (cA 0, 322, .inl (fun _ => 0))), (q5, .inl (cA 1, 2, .inl (fun _ => 0))), (q6, .inl (cA 0, 60, .inl (fun _ => 0))), (q7, .inl (cA 0, 140, .inl (fun _ => 0))), (q8, .inl (cA 0, 35, .inl (fun _ => 0))), (q9, .inl (cA 0, 35, .inl (fun _ => 0)))] := hD
  refine lv_aload_n hx hb dX6_init_80 rfl (lv_at hl 0 rfl) ?_
  refine lv_bipush (v := nI 35) hx hb dX6_init_81 (by decide +kernel) ?_
  have hc_10 : 9 + 1 ≤ 12 := by decide
  have hs_10 : 1882 + 35 ≤ 1955 := by decide
  have hy_10 : 35 * componentBytes .int ≤ 536870912 := by decide
  refine va_newa (D := D) (cl := vwCl) (atype := .int) (ty := .int) (pc := 83) (a0 := (35, .inl (fun _ => 0))) (N' := 35) hx hb (hts (.arrayClass .int) (by decide +kernel)) rfl hK hP hD hS hA (fun cA => rfl) (nI_pos (by omega)) (nI_clamp (by omega)) hy_10 hc_10 hs_10 dX6_init_83 (fun q10 c1 H hK1 hP hD hS => ?_)
  have hc := va_c0 hK1 hK
  subst hc
  have hP : va_P D vwCl [(h0, .inr (6, [.ref q1, .ref q2, .ref q3, .int 0, .ref q4, .ref q5, .ref q6, .int 0, .ref q7, .ref q8, .ref q9, .null, .null, .null, .int 0, .int 0])), (q1, .inl (cA 0, 161, .inl (fun _ => 0))), (q2, .inl (cA 0, 161, .inl (fun _ => 0))), (q3, .inl (cA 0, 966, .inl (fun _ => 0))), (q4, .inl (cA 0, 322, .inl (fun _ => 0))), (q5, .inl (cA 1, 2, .inl (fun _ => 0))), (q6, .inl (cA 0, 60, .inl (fun _ => 0))), (q7, .inl (cA 0, 140, .inl (fun _ => 0))), (q8, .inl (cA 0, 35, .inl (fun _ => 0))), (q9, .inl (cA 0, 35, .inl (fun _ => 0))), (q10, .inl (cA 0, 35, .inl (fun _ => 0)))] H := hP
  have hD : va_D A [(h0, .inr (6, [.ref q1, .ref q2, .ref q3, .int 0, .ref q4, .ref q5, .ref q6, .int 0, .ref q7, .ref q8, .ref q9, .null, .null, .null, .int 0, .int 0])), (q1, .inl (cA 0, 161, .inl (fun _ => 0))), (q2, .inl (cA 0, 161, .inl (fun _ => 0))), (q3, .inl (cA 0, 966, .inl (fun _ => 0))), (q4, .inl (cA 0, 322, .inl (fun _ => 0))), (q5, .inl (cA 1, 2, .inl (fun _ => 0))), (q6, .inl (cA 0, 60, .inl (fun _ => 0))), (q7, .inl (cA 0, 140, .inl (fun _ => 0))), (q8, .inl (cA 0, 35, .inl (fun _ => 0))), (q9, .inl (cA 0, 35, .inl (fun _ => 0))), (q10, .inl (cA 0, 35, .inl (fun _ => 0)))] := hD
  refine va_putF (D := D) (cl := vwCl) (ci := 6) (v := .ref q10) (ty := .array .int) (C := RX6) (T := TX6) (N := 16) hx hb hts (by decide +kernel) tyX6 tyX6_ok nmX6 hown hK hP hD hS 0 rfl rfl 11 (by decide) (hts (.fieldLink RX6 38 "RopedHallsModel" "nexts" "[I") (by decide +kernel)) (fun _ h9 => h9) rfl hin rfl (by decide +kernel) rfl rfl (Nat.le_of_ble_eq_true rfl) dX6_init_85 (fun H locs hP hD hS => ?_)
  have hP : va_P D vwCl [(h0, .inr (6, [.ref q1, .ref q2, .ref q3, .int 0, .ref q4, .ref q5, .ref q6, .int 0, .ref q7, .ref q8, .ref q9, .ref q10, .null, .null, .int 0, .int 0])), (q1, .inl (cA 0, 161, .inl (fun _ => 0))), (q2, .inl (cA 0, 161, .inl (fun _ => 0))), (q3, .inl (cA 0, 966, .inl (fun _ => 0))), (q4, .inl (cA 0, 322, .inl (fun _ => 0))), (q5, .inl (cA 1, 2, .inl (fun _ => 0))), (q6, .inl (cA 0, 60, .inl (fun _ => 0))), (q7, .inl (cA 0, 140, .inl (fun _ => 0))), (q8, .inl (cA 0, 35, .inl (fun _ => 0))), (q9, .inl (cA 0, 35, .inl (fun _ => 0))), (q10, .inl (cA 0, 35, .inl (fun _ => 0)))] H := hP
  have hD : va_D A [(h0, .inr (6, [.ref q1, .ref q2, .ref q3, .int 0, .ref q4, .ref q5, .ref q6, .int 0, .ref q7, .ref q8, .ref q9, .ref q10, .null, .null, .int 0, .int 0])), (q1, .inl (cA 0, 161, .inl (fun _ => 0))), (q2, .inl (cA 0, 161, .inl (fun _ => 0))), (q3, .inl (cA 0, 966, .inl (fun _ => 0))), (q4, .inl (cA 0, 322, .inl (fun _ => 0))), (q5, .inl (cA 1, 2, .inl (fun _ => 0))), (q6, .inl (cA 0, 60, .inl (fun _ => 0))), (q7, .inl (cA 0, 140, .inl (fun _ => 0))), (q8, .inl (cA 0, 35, .inl (fun _ => 0))), (q9, .inl (cA 0, 35, .inl (fun _ => 0))), (q10, .inl (cA 0, 35, .inl (fun _ => 0)))] := hD
  refine lv_aload_n hx hb dX6_init_88 rfl (lv_at hl 0 rfl) ?_
  refine lv_bipush (v := nI 35) hx hb dX6_init_89 (by decide +kernel) ?_
  have hc_11 : 10 + 1 ≤ 12 := by decide
  have hs_11 : 1917 + 35 ≤ 1955 := by decide
  have hy_11 : 35 * componentBytes .int ≤ 536870912 := by decide
  refine va_newa (D := D) (cl := vwCl) (atype := .int) (ty := .int) (pc := 91) (a0 := (35, .inl (fun _ => 0))) (N' := 35) hx hb (hts (.arrayClass .int) (by decide +kernel)) rfl hK hP hD hS hA (fun cA => rfl) (nI_pos (by omega)) (nI_clamp (by omega)) hy_11 hc_11 hs_11 dX6_init_91 (fun q11 c1 H hK1 hP hD hS => ?_)
  have hc := va_c0 hK1 hK
  subst hc
  have hP : va_P D vwCl [(h0, .inr (6, [.ref q1, .ref q2, .ref q3, .int 0, .ref q4, .ref q5, .ref q6, .int 0, .ref q7, .ref q8, .ref q9, .ref q10, .null, .null, .int 0, .int 0])), (q1, .inl (cA 0, 161, .inl (fun _ => 0))), (q2, .inl (cA 0, 161, .inl (fun _ => 0))), (q3, .inl (cA 0, 966, .inl (fun _ => 0))), (q4, .inl (cA 0, 322, .inl (fun _ => 0))), (q5, .inl (cA 1, 2, .inl (fun _ => 0))), (q6, .inl (cA 0, 60, .inl (fun _ => 0))), (q7, .inl (cA 0, 140, .inl (fun _ => 0))), (q8, .inl (cA 0, 35, .inl (fun _ => 0))), (q9, .inl (cA 0, 35, .inl (fun _ => 0))), (q10, .inl (cA 0, 35, .inl (fun _ => 0))), (q11, .inl (cA 0, 35, .inl (fun _ => 0)))] H := hP
  have hD : va_D A [(h0, .inr (6, [.ref q1, .ref q2, .ref q3, .int 0, .ref q4, .ref q5, .ref q6, .int 0, .ref q7, .ref q8, .ref q9, .ref q10, .null, .null, .int 0, .int 0])), (q1, .inl (cA 0, 161, .inl (fun _ => 0))), (q2, .inl (cA 0, 161, .inl (fun _ => 0))), (q3, .inl (cA 0, 966, .inl (fun _ => 0))), (q4, .inl (cA 0, 322, .inl (fun _ => 0))), (q5, .inl (cA 1, 2, .inl (fun _ => 0))), (q6, .inl (cA 0, 60, .inl (fun _ => 0))), (q7, .inl (cA 0, 140, .inl (fun _ => 0))), (q8, .inl (cA 0, 35, .inl (fun _ => 0))), (q9, .inl (cA 0, 35, .inl (fun _ => 0))), (q10, .inl (cA 0, 35, .inl (fun _ => 0))), (q11, .inl (cA 0, 35, .inl (fun _ => 0)))] := hD
  refine va_putF (D := D) (cl := vwCl) (ci := 6) (v := .ref q11) (ty := .array .int) (C := RX6) (T := TX6) (N := 16) hx hb hts (by decide +kernel) tyX6 tyX6_ok nmX6 hown hK hP hD hS 0 rfl rfl 12 (by decide) (hts (.fieldLink RX6 41 "RopedHallsModel" "fresh" "[I") (by decide +kernel)) (fun _ h9 => h9) rfl hin rfl (by decide +kernel) rfl rfl (Nat.le_of_ble_eq_true rfl) dX6_init_93 (fun H locs hP hD hS => ?_)
  have hP : va_P D vwCl [(h0, .inr (6, [.ref q1, .ref q2, .ref q3, .int 0, .ref q4, .ref q5, .ref q6, .int 0, .ref q7, .ref q8, .ref q9, .ref q10, .ref q11, .null, .int 0, .int 0])), (q1, .inl (cA 0, 161, .inl (fun _ => 0))), (q2, .inl (cA 0, 161, .inl (fun _ => 0))), (q3, .inl (cA 0, 966, .inl (fun _ => 0))), (q4, .inl (cA 0, 322, .inl (fun _ => 0))), (q5, .inl (cA 1, 2, .inl (fun _ => 0))), (q6, .inl (cA 0, 60, .inl (fun _ => 0))), (q7, .inl (cA 0, 140, .inl (fun _ => 0))), (q8, .inl (cA 0, 35, .inl (fun _ => 0))), (q9, .inl (cA 0, 35, .inl (fun _ => 0))), (q10, .inl (cA 0, 35, .inl (fun _ => 0))), (q11, .inl (cA 0, 35, .inl (fun _ => 0)))] H := hP
  have hD : va_D A [(h0, .inr (6, [.ref q1, .ref q2, .ref q3, .int 0, .ref q4, .ref q5, .ref q6, .int 0, .ref q7, .ref q8, .ref q9, .ref q10, .ref q11, .null, .int 0, .int 0])), (q1, .inl (cA 0, 161, .inl (fun _ => 0))), (q2, .inl (cA 0, 161, .inl (fun _ => 0))), (q3, .inl (cA 0, 966, .inl (fun _ => 0))), (q4, .inl (cA 0, 322, .inl (fun _ => 0))), (q5, .inl (cA 1, 2, .inl (fun _ => 0))), (q6, .inl (cA 0, 60, .inl (fun _ => 0))), (q7, .inl (cA 0, 140, .inl (fun _ => 0))), (q8, .inl (cA 0, 35, .inl (fun _ => 0))), (q9, .inl (cA 0, 35, .inl (fun _ => 0))), (q10, .inl (cA 0, 35, .inl (fun _ => 0))), (q11, .inl (cA 0, 35, .inl (fun _ => 0)))] := hD
  refine lv_aload_n hx hb dX6_init_96 rfl (lv_at hl 0 rfl) ?_
  refine lv_iconst (v := nI 3) hx hb dX6_init_97 (by decide +kernel) ?_
  have hc_12 : 11 + 1 ≤ 12 := by decide
  have hs_12 : 1952 + 3 ≤ 1955 := by decide
  have hy_12 : 3 * componentBytes .int ≤ 536870912 := by decide
  refine va_newa (D := D) (cl := vwCl) (atype := .int) (ty := .int) (pc := 98) (a0 := (3, .inl (fun _ => 0))) (N' := 3) hx hb (hts (.arrayClass .int) (by decide +kernel)) rfl hK hP hD hS hA (fun cA => rfl) (nI_pos (by omega)) (nI_clamp (by omega)) hy_12 hc_12 hs_12 dX6_init_98 (fun q12 c1 H hK1 hP hD hS => ?_)
  have hc := va_c0 hK1 hK
  subst hc
  have hP : va_P D vwCl [(h0, .inr (6, [.ref q1, .ref q2, .ref q3, .int 0, .ref q4, .ref q5, .ref q6, .int 0, .ref q7, .ref q8, .ref q9, .ref q10, .ref q11, .null, .int 0, .int 0])), (q1, .inl (cA 0, 161, .inl (fun _ => 0))), (q2, .inl (cA 0, 161, .inl (fun _ => 0))), (q3, .inl (cA 0, 966, .inl (fun _ => 0))), (q4, .inl (cA 0, 322, .inl (fun _ => 0))), (q5, .inl (cA 1, 2, .inl (fun _ => 0))), (q6, .inl (cA 0, 60, .inl (fun _ => 0))), (q7, .inl (cA 0, 140, .inl (fun _ => 0))), (q8, .inl (cA 0, 35, .inl (fun _ => 0))), (q9, .inl (cA 0, 35, .inl (fun _ => 0))), (q10, .inl (cA 0, 35, .inl (fun _ => 0))), (q11, .inl (cA 0, 35, .inl (fun _ => 0))), (q12, .inl (cA 0, 3, .inl (fun _ => 0)))] H := hP
  have hD : va_D A [(h0, .inr (6, [.ref q1, .ref q2, .ref q3, .int 0, .ref q4, .ref q5, .ref q6, .int 0, .ref q7, .ref q8, .ref q9, .ref q10, .ref q11, .null, .int 0, .int 0])), (q1, .inl (cA 0, 161, .inl (fun _ => 0))), (q2, .inl (cA 0, 161, .inl (fun _ => 0))), (q3, .inl (cA 0, 966, .inl (fun _ => 0))), (q4, .inl (cA 0, 322, .inl (fun _ => 0))), (q5, .inl (cA 1, 2, .inl (fun _ => 0))), (q6, .inl (cA 0, 60, .inl (fun _ => 0))), (q7, .inl (cA 0, 140, .inl (fun _ => 0))), (q8, .inl (cA 0, 35, .inl (fun _ => 0))), (q9, .inl (cA 0, 35, .inl (fun _ => 0))), (q10, .inl (cA 0, 35, .inl (fun _ => 0))), (q11, .inl (cA 0, 35, .inl (fun _ => 0))), (q12, .inl (cA 0, 3, .inl (fun _ => 0)))] := hD
  refine va_putF (D := D) (cl := vwCl) (ci := 6) (v := .ref q12) (ty := .array .int) (C := RX6) (T := TX6) (N := 16) hx hb hts (by decide +kernel) tyX6 tyX6_ok nmX6 hown hK hP hD hS 0 rfl rfl 13 (by decide) (hts (.fieldLink RX6 44 "RopedHallsModel" "tried" "[I") (by decide +kernel)) (fun _ h9 => h9) rfl hin rfl (by decide +kernel) rfl rfl (Nat.le_of_ble_eq_true rfl) dX6_init_100 (fun H locs hP hD hS => ?_)
  have hP : va_P D vwCl [(h0, .inr (6, [.ref q1, .ref q2, .ref q3, .int 0, .ref q4, .ref q5, .ref q6, .int 0, .ref q7, .ref q8, .ref q9, .ref q10, .ref q11, .ref q12, .int 0, .int 0])), (q1, .inl (cA 0, 161, .inl (fun _ => 0))), (q2, .inl (cA 0, 161, .inl (fun _ => 0))), (q3, .inl (cA 0, 966, .inl (fun _ => 0))), (q4, .inl (cA 0, 322, .inl (fun _ => 0))), (q5, .inl (cA 1, 2, .inl (fun _ => 0))), (q6, .inl (cA 0, 60, .inl (fun _ => 0))), (q7, .inl (cA 0, 140, .inl (fun _ => 0))), (q8, .inl (cA 0, 35, .inl (fun _ => 0))), (q9, .inl (cA 0, 35, .inl (fun _ => 0))), (q10, .inl (cA 0, 35, .inl (fun _ => 0))), (q11, .inl (cA 0, 35, .inl (fun _ => 0))), (q12, .inl (cA 0, 3, .inl (fun _ => 0)))] H := hP
  have hD : va_D A [(h0, .inr (6, [.ref q1, .ref q2, .ref q3, .int 0, .ref q4, .ref q5, .ref q6, .int 0, .ref q7, .ref q8, .ref q9, .ref q10, .ref q11, .ref q12, .int 0, .int 0])), (q1, .inl (cA 0, 161, .inl (fun _ => 0))), (q2, .inl (cA 0, 161, .inl (fun _ => 0))), (q3, .inl (cA 0, 966, .inl (fun _ => 0))), (q4, .inl (cA 0, 322, .inl (fun _ => 0))), (q5, .inl (cA 1, 2, .inl (fun _ => 0))), (q6, .inl (cA 0, 60, .inl (fun _ => 0))), (q7, .inl (cA 0, 140, .inl (fun _ => 0))), (q8, .inl (cA 0, 35, .inl (fun _ => 0))), (q9, .inl (cA 0, 35, .inl (fun _ => 0))), (q10, .inl (cA 0, 35, .inl (fun _ => 0))), (q11, .inl (cA 0, 35, .inl (fun _ => 0))), (q12, .inl (cA 0, 3, .inl (fun _ => 0)))] := hD
  refine st_X6 hx hb hts hown hK (h0 := h0) (q1 := q1) (rest := [(q2, .inl (cA 0, 161, .inl (fun _ => 0))), (q3, .inl (cA 0, 966, .inl (fun _ => 0))), (q4, .inl (cA 0, 322, .inl (fun _ => 0))), (q5, .inl (cA 1, 2, .inl (fun _ => 0))), (q6, .inl (cA 0, 60, .inl (fun _ => 0))), (q7, .inl (cA 0, 140, .inl (fun _ => 0))), (q8, .inl (cA 0, 35, .inl (fun _ => 0))), (q9, .inl (cA 0, 35, .inl (fun _ => 0))), (q10, .inl (cA 0, 35, .inl (fun _ => 0))), (q11, .inl (cA 0, 35, .inl (fun _ => 0))), (q12, .inl (cA 0, 3, .inl (fun _ => 0)))]) (fs := [.ref q1, .ref q2, .ref q3, .int 0, .ref q4, .ref q5, .ref q6, .int 0, .ref q7, .ref q8, .ref q9, .ref q10, .ref q11, .ref q12, .int 0, .int 0]) rfl (fun H locs ls hP hD hS => ?_) hl hP hD hS
  rw [xe_X6 (xarr (by decide +kernel) (fun i hi => by unfold gx6 gdX; rw [if_neg (by omega)]; exact xz_upd (n := 161) (by omega) (xz_upd (n := 161) (by omega) (xz_upd (n := 161) (by omega) (xz_upd (n := 161) (by omega) (xz_upd (n := 161) (by omega) (xz_upd (n := 161) (by omega) (xz_upd (n := 161) (by omega) (xz_upd (n := 161) (by omega) (xz_upd (n := 161) (by omega) (xz_upd (n := 161) (by omega) (xz_upd (n := 161) (by omega) (xz_upd (n := 161) (by omega) (fun _ _ => rfl)))))))))))) i hi)) (xarr (by decide +kernel) (fun _ _ => rfl)) (xarr (by decide +kernel) (fun _ _ => rfl)) (xarr (by decide +kernel) (fun _ _ => rfl)) (xarr (by decide +kernel) (fun _ _ => rfl)) (xarr (by decide +kernel) (fun _ _ => rfl)) (xarr (by decide +kernel) (fun _ _ => rfl)) (xarr (by decide +kernel) (fun _ _ => rfl)) (xarr (by decide +kernel) (fun _ _ => rfl)) (xarr (by decide +kernel) (fun _ _ => rfl)) (xarr (by decide +kernel) (fun _ _ => rfl)) (xarr (by decide +kernel) (fun _ _ => rfl))] at hP hD
  exact W.vret hx hb hr (fun t ht hW => ⟨⟨_, rfl, rfl, by rw [ht]; exact hP, va_K.moved hW.alike hK, hD⟩, hS.F ht⟩) hS.2.2 dX6_init_208
